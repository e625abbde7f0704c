section
-- ===== PART A: goes FIRST, ahead of the names: the tables' words, and 'selects' of the private methods out of them =====
/-- a private method of a class that the tables say can be made, by its rows of tables_1 -/
def lw_okq (q : MethodName × Nat) : Prop := (q.1.cls ≠ "java/lang/invoke/MethodHandle" ∧ q.1.cls ≠ "java/lang/invoke/VarHandle") ∧ Cond.instantiable q.1.cls q.2 ∈ tables_1 ∧ Cond.privateMethod q.1 ∈ tables_1 ∧ Cond.instanceMethod q.1 ∈ tables_1
theorem lw_p0 : lw_okq (⟨"FilterReader$Tape", "hasRoom", "()Z"⟩, 2) := ⟨⟨by decide +kernel, by decide +kernel⟩, List.mem_of_getElem? (i := 31) (by decide +kernel), List.mem_of_getElem? (i := 193) (by decide +kernel), List.mem_of_getElem? (i := 194) (by decide +kernel)⟩
theorem lw_p1 : lw_okq (⟨"FilterReader$Tape", "put", "(I)V"⟩, 2) := ⟨⟨by decide +kernel, by decide +kernel⟩, List.mem_of_getElem? (i := 31) (by decide +kernel), List.mem_of_getElem? (i := 197) (by decide +kernel), List.mem_of_getElem? (i := 198) (by decide +kernel)⟩
theorem lw_p2 : lw_okq (⟨"FilterReader", "slotAt", "(I)LFilterReader$Value;"⟩, 5) := ⟨⟨by decide +kernel, by decide +kernel⟩, List.mem_of_getElem? (i := 23) (by decide +kernel), List.mem_of_getElem? (i := 205) (by decide +kernel), List.mem_of_getElem? (i := 206) (by decide +kernel)⟩
theorem lw_p3 : lw_okq (⟨"FilterReader$Tape", "has", "(I)Z"⟩, 2) := ⟨⟨by decide +kernel, by decide +kernel⟩, List.mem_of_getElem? (i := 31) (by decide +kernel), List.mem_of_getElem? (i := 209) (by decide +kernel), List.mem_of_getElem? (i := 210) (by decide +kernel)⟩
theorem lw_p4 : lw_okq (⟨"FilterReader", "takeDocument", "(I)LFilterReader$Value;"⟩, 5) := ⟨⟨by decide +kernel, by decide +kernel⟩, List.mem_of_getElem? (i := 23) (by decide +kernel), List.mem_of_getElem? (i := 213) (by decide +kernel), List.mem_of_getElem? (i := 214) (by decide +kernel)⟩
theorem lw_p5 : lw_okq (⟨"FilterReader$DocumentReader", "readWhole", "(I)LFilterReader$Value;"⟩, 2) := ⟨⟨by decide +kernel, by decide +kernel⟩, List.mem_of_getElem? (i := 217) (by decide +kernel), List.mem_of_getElem? (i := 230) (by decide +kernel), List.mem_of_getElem? (i := 231) (by decide +kernel)⟩
theorem lw_p6 : lw_okq (⟨"FilterReader$DocumentReader", "readParts", "(LFilterReader$Value;II)Z"⟩, 2) := ⟨⟨by decide +kernel, by decide +kernel⟩, List.mem_of_getElem? (i := 217) (by decide +kernel), List.mem_of_getElem? (i := 237) (by decide +kernel), List.mem_of_getElem? (i := 238) (by decide +kernel)⟩
theorem lw_p7 : lw_okq (⟨"FilterReader$DocumentReader", "readNumber", "(I)J"⟩, 2) := ⟨⟨by decide +kernel, by decide +kernel⟩, List.mem_of_getElem? (i := 217) (by decide +kernel), List.mem_of_getElem? (i := 241) (by decide +kernel), List.mem_of_getElem? (i := 242) (by decide +kernel)⟩
theorem lw_p8 : lw_okq (⟨"FilterReader$Tape", "byteAt", "(I)I"⟩, 2) := ⟨⟨by decide +kernel, by decide +kernel⟩, List.mem_of_getElem? (i := 31) (by decide +kernel), List.mem_of_getElem? (i := 245) (by decide +kernel), List.mem_of_getElem? (i := 246) (by decide +kernel)⟩
theorem lw_p9 : lw_okq (⟨"FilterReader$DocumentReader", "readElement", "(II)LFilterReader$Value;"⟩, 2) := ⟨⟨by decide +kernel, by decide +kernel⟩, List.mem_of_getElem? (i := 217) (by decide +kernel), List.mem_of_getElem? (i := 249) (by decide +kernel), List.mem_of_getElem? (i := 250) (by decide +kernel)⟩
theorem lw_p10 : lw_okq (⟨"FilterReader$DocumentReader", "zeroFrom", "(II)I"⟩, 2) := ⟨⟨by decide +kernel, by decide +kernel⟩, List.mem_of_getElem? (i := 217) (by decide +kernel), List.mem_of_getElem? (i := 253) (by decide +kernel), List.mem_of_getElem? (i := 254) (by decide +kernel)⟩
theorem lw_p11 : lw_okq (⟨"FilterReader$DocumentReader", "isRightUtf8", "(II)Z"⟩, 2) := ⟨⟨by decide +kernel, by decide +kernel⟩, List.mem_of_getElem? (i := 217) (by decide +kernel), List.mem_of_getElem? (i := 257) (by decide +kernel), List.mem_of_getElem? (i := 258) (by decide +kernel)⟩
theorem lw_p12 : lw_okq (⟨"FilterReader$DocumentReader", "followers", "(I)I"⟩, 2) := ⟨⟨by decide +kernel, by decide +kernel⟩, List.mem_of_getElem? (i := 217) (by decide +kernel), List.mem_of_getElem? (i := 261) (by decide +kernel), List.mem_of_getElem? (i := 262) (by decide +kernel)⟩
theorem lw_p13 : lw_okq (⟨"FilterReader$DocumentReader", "leadingBits", "(II)I"⟩, 2) := ⟨⟨by decide +kernel, by decide +kernel⟩, List.mem_of_getElem? (i := 217) (by decide +kernel), List.mem_of_getElem? (i := 265) (by decide +kernel), List.mem_of_getElem? (i := 266) (by decide +kernel)⟩
theorem lw_p14 : lw_okq (⟨"FilterReader$DocumentReader", "leastCode", "(I)I"⟩, 2) := ⟨⟨by decide +kernel, by decide +kernel⟩, List.mem_of_getElem? (i := 217) (by decide +kernel), List.mem_of_getElem? (i := 269) (by decide +kernel), List.mem_of_getElem? (i := 270) (by decide +kernel)⟩
theorem lw_p15 : lw_okq (⟨"FilterReader$DocumentReader", "isCharacter", "(II)Z"⟩, 2) := ⟨⟨by decide +kernel, by decide +kernel⟩, List.mem_of_getElem? (i := 217) (by decide +kernel), List.mem_of_getElem? (i := 274) (by decide +kernel), List.mem_of_getElem? (i := 275) (by decide +kernel)⟩
def lw_privs_1 : List (MethodName × Nat) := [(⟨"FilterReader$Tape", "hasRoom", "()Z"⟩, 2), (⟨"FilterReader$Tape", "put", "(I)V"⟩, 2), (⟨"FilterReader", "slotAt", "(I)LFilterReader$Value;"⟩, 5), (⟨"FilterReader$Tape", "has", "(I)Z"⟩, 2), (⟨"FilterReader", "takeDocument", "(I)LFilterReader$Value;"⟩, 5), (⟨"FilterReader$DocumentReader", "readWhole", "(I)LFilterReader$Value;"⟩, 2), (⟨"FilterReader$DocumentReader", "readParts", "(LFilterReader$Value;II)Z"⟩, 2), (⟨"FilterReader$DocumentReader", "readNumber", "(I)J"⟩, 2), (⟨"FilterReader$Tape", "byteAt", "(I)I"⟩, 2), (⟨"FilterReader$DocumentReader", "readElement", "(II)LFilterReader$Value;"⟩, 2), (⟨"FilterReader$DocumentReader", "zeroFrom", "(II)I"⟩, 2), (⟨"FilterReader$DocumentReader", "isRightUtf8", "(II)Z"⟩, 2), (⟨"FilterReader$DocumentReader", "followers", "(I)I"⟩, 2), (⟨"FilterReader$DocumentReader", "leadingBits", "(II)I"⟩, 2), (⟨"FilterReader$DocumentReader", "leastCode", "(I)I"⟩, 2), (⟨"FilterReader$DocumentReader", "isCharacter", "(II)Z"⟩, 2)]
theorem lw_r1 : ∀ q ∈ lw_privs_1, lw_okq q := List.forall_mem_cons.mpr ⟨lw_p0, List.forall_mem_cons.mpr ⟨lw_p1, List.forall_mem_cons.mpr ⟨lw_p2, List.forall_mem_cons.mpr ⟨lw_p3, List.forall_mem_cons.mpr ⟨lw_p4, List.forall_mem_cons.mpr ⟨lw_p5, List.forall_mem_cons.mpr ⟨lw_p6, List.forall_mem_cons.mpr ⟨lw_p7, List.forall_mem_cons.mpr ⟨lw_p8, List.forall_mem_cons.mpr ⟨lw_p9, List.forall_mem_cons.mpr ⟨lw_p10, List.forall_mem_cons.mpr ⟨lw_p11, List.forall_mem_cons.mpr ⟨lw_p12, List.forall_mem_cons.mpr ⟨lw_p13, List.forall_mem_cons.mpr ⟨lw_p14, List.forall_mem_cons.mpr ⟨lw_p15, fun _ h => absurd h List.not_mem_nil⟩⟩⟩⟩⟩⟩⟩⟩⟩⟩⟩⟩⟩⟩⟩⟩
theorem lw_p16 : lw_okq (⟨"FilterReader$DocumentReader", "textOf", "(II)Ljava/lang/String;"⟩, 2) := ⟨⟨by decide +kernel, by decide +kernel⟩, List.mem_of_getElem? (i := 217) (by decide +kernel), List.mem_of_getElem? (i := 281) (by decide +kernel), List.mem_of_getElem? (i := 282) (by decide +kernel)⟩
theorem lw_p17 : lw_okq (⟨"FilterReader$DocumentReader", "readValue", "(LFilterReader$Value;II)Z"⟩, 2) := ⟨⟨by decide +kernel, by decide +kernel⟩, List.mem_of_getElem? (i := 217) (by decide +kernel), List.mem_of_getElem? (i := 358) (by decide +kernel), List.mem_of_getElem? (i := 359) (by decide +kernel)⟩
theorem lw_p18 : lw_okq (⟨"FilterReader$DocumentReader", "readTruth", "(LFilterReader$Value;I)Z"⟩, 2) := ⟨⟨by decide +kernel, by decide +kernel⟩, List.mem_of_getElem? (i := 217) (by decide +kernel), List.mem_of_getElem? (i := 362) (by decide +kernel), List.mem_of_getElem? (i := 363) (by decide +kernel)⟩
theorem lw_p19 : lw_okq (⟨"FilterReader$DocumentReader", "readWholeNumber", "(LFilterReader$Value;II)Z"⟩, 2) := ⟨⟨by decide +kernel, by decide +kernel⟩, List.mem_of_getElem? (i := 217) (by decide +kernel), List.mem_of_getElem? (i := 366) (by decide +kernel), List.mem_of_getElem? (i := 367) (by decide +kernel)⟩
theorem lw_p20 : lw_okq (⟨"FilterReader$DocumentReader", "readText", "(LFilterReader$Value;I)Z"⟩, 2) := ⟨⟨by decide +kernel, by decide +kernel⟩, List.mem_of_getElem? (i := 217) (by decide +kernel), List.mem_of_getElem? (i := 370) (by decide +kernel), List.mem_of_getElem? (i := 371) (by decide +kernel)⟩
theorem lw_p21 : lw_okq (⟨"FilterReader$DocumentReader", "mayFollow", "(LFilterReader$Value;LFilterReader$Value;)Z"⟩, 2) := ⟨⟨by decide +kernel, by decide +kernel⟩, List.mem_of_getElem? (i := 217) (by decide +kernel), List.mem_of_getElem? (i := 374) (by decide +kernel), List.mem_of_getElem? (i := 375) (by decide +kernel)⟩
theorem lw_p22 : lw_okq (⟨"FilterReader$DocumentReader", "isDecimal", "(Ljava/lang/String;I)Z"⟩, 2) := ⟨⟨by decide +kernel, by decide +kernel⟩, List.mem_of_getElem? (i := 217) (by decide +kernel), List.mem_of_getElem? (i := 378) (by decide +kernel), List.mem_of_getElem? (i := 379) (by decide +kernel)⟩
theorem lw_p23 : lw_okq (⟨"FilterReader$Value", "named", "(Ljava/lang/String;)LFilterReader$Value;"⟩, 9) := ⟨⟨by decide +kernel, by decide +kernel⟩, List.mem_of_getElem? (i := 52) (by decide +kernel), List.mem_of_getElem? (i := 414) (by decide +kernel), List.mem_of_getElem? (i := 415) (by decide +kernel)⟩
theorem lw_p24 : lw_okq (⟨"FilterReader$Value", "add", "(LFilterReader$Value;)V"⟩, 9) := ⟨⟨by decide +kernel, by decide +kernel⟩, List.mem_of_getElem? (i := 52) (by decide +kernel), List.mem_of_getElem? (i := 426) (by decide +kernel), List.mem_of_getElem? (i := 427) (by decide +kernel)⟩
theorem lw_p25 : lw_okq (⟨"FilterReader$Tape", "clear", "()V"⟩, 2) := ⟨⟨by decide +kernel, by decide +kernel⟩, List.mem_of_getElem? (i := 31) (by decide +kernel), List.mem_of_getElem? (i := 430) (by decide +kernel), List.mem_of_getElem? (i := 431) (by decide +kernel)⟩
theorem lw_p26 : lw_okq (⟨"FilterReader", "filterAt", "(I)LFilterReader$Filter;"⟩, 5) := ⟨⟨by decide +kernel, by decide +kernel⟩, List.mem_of_getElem? (i := 23) (by decide +kernel), List.mem_of_getElem? (i := 438) (by decide +kernel), List.mem_of_getElem? (i := 439) (by decide +kernel)⟩
theorem lw_p27 : lw_okq (⟨"FilterReader$FilterMaker", "make", "()V"⟩, 3) := ⟨⟨by decide +kernel, by decide +kernel⟩, List.mem_of_getElem? (i := 442) (by decide +kernel), List.mem_of_getElem? (i := 463) (by decide +kernel), List.mem_of_getElem? (i := 464) (by decide +kernel)⟩
theorem lw_p28 : lw_okq (⟨"FilterReader$FilterMaker", "addClauses", "(LFilterReader$Rule;I)V"⟩, 3) := ⟨⟨by decide +kernel, by decide +kernel⟩, List.mem_of_getElem? (i := 442) (by decide +kernel), List.mem_of_getElem? (i := 467) (by decide +kernel), List.mem_of_getElem? (i := 468) (by decide +kernel)⟩
theorem lw_p29 : lw_okq (⟨"FilterReader$FilterMaker", "addJoin", "(LFilterReader$Rule;LFilterReader$Value;I)V"⟩, 3) := ⟨⟨by decide +kernel, by decide +kernel⟩, List.mem_of_getElem? (i := 442) (by decide +kernel), List.mem_of_getElem? (i := 479) (by decide +kernel), List.mem_of_getElem? (i := 480) (by decide +kernel)⟩
theorem lw_p30 : lw_okq (⟨"FilterReader$FilterMaker", "refuse", "(ILFilterReader$Value;)V"⟩, 3) := ⟨⟨by decide +kernel, by decide +kernel⟩, List.mem_of_getElem? (i := 442) (by decide +kernel), List.mem_of_getElem? (i := 490) (by decide +kernel), List.mem_of_getElem? (i := 491) (by decide +kernel)⟩
theorem lw_p31 : lw_okq (⟨"FilterReader$FilterMaker", "mayCount", "(ILFilterReader$Value;)Z"⟩, 3) := ⟨⟨by decide +kernel, by decide +kernel⟩, List.mem_of_getElem? (i := 442) (by decide +kernel), List.mem_of_getElem? (i := 494) (by decide +kernel), List.mem_of_getElem? (i := 495) (by decide +kernel)⟩
def lw_privs_2 : List (MethodName × Nat) := [(⟨"FilterReader$DocumentReader", "textOf", "(II)Ljava/lang/String;"⟩, 2), (⟨"FilterReader$DocumentReader", "readValue", "(LFilterReader$Value;II)Z"⟩, 2), (⟨"FilterReader$DocumentReader", "readTruth", "(LFilterReader$Value;I)Z"⟩, 2), (⟨"FilterReader$DocumentReader", "readWholeNumber", "(LFilterReader$Value;II)Z"⟩, 2), (⟨"FilterReader$DocumentReader", "readText", "(LFilterReader$Value;I)Z"⟩, 2), (⟨"FilterReader$DocumentReader", "mayFollow", "(LFilterReader$Value;LFilterReader$Value;)Z"⟩, 2), (⟨"FilterReader$DocumentReader", "isDecimal", "(Ljava/lang/String;I)Z"⟩, 2), (⟨"FilterReader$Value", "named", "(Ljava/lang/String;)LFilterReader$Value;"⟩, 9), (⟨"FilterReader$Value", "add", "(LFilterReader$Value;)V"⟩, 9), (⟨"FilterReader$Tape", "clear", "()V"⟩, 2), (⟨"FilterReader", "filterAt", "(I)LFilterReader$Filter;"⟩, 5), (⟨"FilterReader$FilterMaker", "make", "()V"⟩, 3), (⟨"FilterReader$FilterMaker", "addClauses", "(LFilterReader$Rule;I)V"⟩, 3), (⟨"FilterReader$FilterMaker", "addJoin", "(LFilterReader$Rule;LFilterReader$Value;I)V"⟩, 3), (⟨"FilterReader$FilterMaker", "refuse", "(ILFilterReader$Value;)V"⟩, 3), (⟨"FilterReader$FilterMaker", "mayCount", "(ILFilterReader$Value;)Z"⟩, 3)]
theorem lw_r2 : ∀ q ∈ lw_privs_2, lw_okq q := List.forall_mem_cons.mpr ⟨lw_p16, List.forall_mem_cons.mpr ⟨lw_p17, List.forall_mem_cons.mpr ⟨lw_p18, List.forall_mem_cons.mpr ⟨lw_p19, List.forall_mem_cons.mpr ⟨lw_p20, List.forall_mem_cons.mpr ⟨lw_p21, List.forall_mem_cons.mpr ⟨lw_p22, List.forall_mem_cons.mpr ⟨lw_p23, List.forall_mem_cons.mpr ⟨lw_p24, List.forall_mem_cons.mpr ⟨lw_p25, List.forall_mem_cons.mpr ⟨lw_p26, List.forall_mem_cons.mpr ⟨lw_p27, List.forall_mem_cons.mpr ⟨lw_p28, List.forall_mem_cons.mpr ⟨lw_p29, List.forall_mem_cons.mpr ⟨lw_p30, List.forall_mem_cons.mpr ⟨lw_p31, fun _ h => absurd h List.not_mem_nil⟩⟩⟩⟩⟩⟩⟩⟩⟩⟩⟩⟩⟩⟩⟩⟩
theorem lw_p32 : lw_okq (⟨"FilterReader$Rule", "add", "(LFilterReader$Rule;)V"⟩, 7) := ⟨⟨by decide +kernel, by decide +kernel⟩, List.mem_of_getElem? (i := 127) (by decide +kernel), List.mem_of_getElem? (i := 500) (by decide +kernel), List.mem_of_getElem? (i := 501) (by decide +kernel)⟩
theorem lw_p33 : lw_okq (⟨"FilterReader$FilterMaker", "addJoined", "(LFilterReader$Rule;I)V"⟩, 3) := ⟨⟨by decide +kernel, by decide +kernel⟩, List.mem_of_getElem? (i := 442) (by decide +kernel), List.mem_of_getElem? (i := 504) (by decide +kernel), List.mem_of_getElem? (i := 505) (by decide +kernel)⟩
theorem lw_p34 : lw_okq (⟨"FilterReader$FilterMaker", "addPath", "(LFilterReader$Rule;LFilterReader$Value;I)V"⟩, 3) := ⟨⟨by decide +kernel, by decide +kernel⟩, List.mem_of_getElem? (i := 442) (by decide +kernel), List.mem_of_getElem? (i := 508) (by decide +kernel), List.mem_of_getElem? (i := 509) (by decide +kernel)⟩
theorem lw_p35 : lw_okq (⟨"FilterReader$Value", "isConditions", "()Z"⟩, 9) := ⟨⟨by decide +kernel, by decide +kernel⟩, List.mem_of_getElem? (i := 52) (by decide +kernel), List.mem_of_getElem? (i := 591) (by decide +kernel), List.mem_of_getElem? (i := 592) (by decide +kernel)⟩
theorem lw_p36 : lw_okq (⟨"FilterReader$FilterMaker", "addConditions", "(LFilterReader$Rule;I)V"⟩, 3) := ⟨⟨by decide +kernel, by decide +kernel⟩, List.mem_of_getElem? (i := 442) (by decide +kernel), List.mem_of_getElem? (i := 596) (by decide +kernel), List.mem_of_getElem? (i := 597) (by decide +kernel)⟩
theorem lw_p37 : lw_okq (⟨"FilterReader$FilterMaker", "addCondition", "(LFilterReader$Rule;LFilterReader$Value;I)V"⟩, 3) := ⟨⟨by decide +kernel, by decide +kernel⟩, List.mem_of_getElem? (i := 442) (by decide +kernel), List.mem_of_getElem? (i := 600) (by decide +kernel), List.mem_of_getElem? (i := 601) (by decide +kernel)⟩
theorem lw_p38 : lw_okq (⟨"FilterReader$Matcher", "firstFailing", "(LFilterReader$Rule;LFilterReader$Value;I)I"⟩, 1) := ⟨⟨by decide +kernel, by decide +kernel⟩, List.mem_of_getElem? (i := 46) (by decide +kernel), List.mem_of_getElem? (i := 646) (by decide +kernel), List.mem_of_getElem? (i := 647) (by decide +kernel)⟩
theorem lw_p39 : lw_okq (⟨"FilterReader$Matcher", "clauseHolds", "(LFilterReader$Rule;LFilterReader$Value;I)Z"⟩, 1) := ⟨⟨by decide +kernel, by decide +kernel⟩, List.mem_of_getElem? (i := 46) (by decide +kernel), List.mem_of_getElem? (i := 650) (by decide +kernel), List.mem_of_getElem? (i := 651) (by decide +kernel)⟩
theorem lw_p40 : lw_okq (⟨"FilterReader$Matcher", "somePartIs", "(ZLFilterReader$Rule;LFilterReader$Value;I)Z"⟩, 1) := ⟨⟨by decide +kernel, by decide +kernel⟩, List.mem_of_getElem? (i := 46) (by decide +kernel), List.mem_of_getElem? (i := 654) (by decide +kernel), List.mem_of_getElem? (i := 655) (by decide +kernel)⟩
theorem lw_p41 : lw_okq (⟨"FilterReader$Matcher", "conditionsHold", "(LFilterReader$Rule;LFilterReader$Step;LFilterReader$Value;I)Z"⟩, 1) := ⟨⟨by decide +kernel, by decide +kernel⟩, List.mem_of_getElem? (i := 46) (by decide +kernel), List.mem_of_getElem? (i := 659) (by decide +kernel), List.mem_of_getElem? (i := 660) (by decide +kernel)⟩
theorem lw_p42 : lw_okq (⟨"FilterReader$Matcher", "conditionHolds", "(LFilterReader$Rule;LFilterReader$Step;LFilterReader$Value;I)Z"⟩, 1) := ⟨⟨by decide +kernel, by decide +kernel⟩, List.mem_of_getElem? (i := 46) (by decide +kernel), List.mem_of_getElem? (i := 663) (by decide +kernel), List.mem_of_getElem? (i := 664) (by decide +kernel)⟩
theorem lw_p43 : lw_okq (⟨"FilterReader$Matcher", "tryLeaves", "(LFilterReader$Rule;LFilterReader$Step;LFilterReader$Value;I)I"⟩, 1) := ⟨⟨by decide +kernel, by decide +kernel⟩, List.mem_of_getElem? (i := 46) (by decide +kernel), List.mem_of_getElem? (i := 667) (by decide +kernel), List.mem_of_getElem? (i := 668) (by decide +kernel)⟩
theorem lw_p44 : lw_okq (⟨"FilterReader$Matcher", "tryLeaf", "(LFilterReader$Rule;LFilterReader$Value;I)I"⟩, 1) := ⟨⟨by decide +kernel, by decide +kernel⟩, List.mem_of_getElem? (i := 46) (by decide +kernel), List.mem_of_getElem? (i := 671) (by decide +kernel), List.mem_of_getElem? (i := 672) (by decide +kernel)⟩
theorem lw_p45 : lw_okq (⟨"FilterReader$Matcher", "passes", "(LFilterReader$Rule;LFilterReader$Value;I)Z"⟩, 1) := ⟨⟨by decide +kernel, by decide +kernel⟩, List.mem_of_getElem? (i := 46) (by decide +kernel), List.mem_of_getElem? (i := 675) (by decide +kernel), List.mem_of_getElem? (i := 676) (by decide +kernel)⟩
theorem lw_p46 : lw_okq (⟨"FilterReader$Matcher", "passesSome", "(LFilterReader$Value;LFilterReader$Value;)Z"⟩, 1) := ⟨⟨by decide +kernel, by decide +kernel⟩, List.mem_of_getElem? (i := 46) (by decide +kernel), List.mem_of_getElem? (i := 679) (by decide +kernel), List.mem_of_getElem? (i := 680) (by decide +kernel)⟩
theorem lw_p47 : lw_okq (⟨"FilterReader$Matcher", "passesWithItems", "(ILFilterReader$Value;LFilterReader$Value;)Z"⟩, 1) := ⟨⟨by decide +kernel, by decide +kernel⟩, List.mem_of_getElem? (i := 46) (by decide +kernel), List.mem_of_getElem? (i := 683) (by decide +kernel), List.mem_of_getElem? (i := 684) (by decide +kernel)⟩
def lw_privs_3 : List (MethodName × Nat) := [(⟨"FilterReader$Rule", "add", "(LFilterReader$Rule;)V"⟩, 7), (⟨"FilterReader$FilterMaker", "addJoined", "(LFilterReader$Rule;I)V"⟩, 3), (⟨"FilterReader$FilterMaker", "addPath", "(LFilterReader$Rule;LFilterReader$Value;I)V"⟩, 3), (⟨"FilterReader$Value", "isConditions", "()Z"⟩, 9), (⟨"FilterReader$FilterMaker", "addConditions", "(LFilterReader$Rule;I)V"⟩, 3), (⟨"FilterReader$FilterMaker", "addCondition", "(LFilterReader$Rule;LFilterReader$Value;I)V"⟩, 3), (⟨"FilterReader$Matcher", "firstFailing", "(LFilterReader$Rule;LFilterReader$Value;I)I"⟩, 1), (⟨"FilterReader$Matcher", "clauseHolds", "(LFilterReader$Rule;LFilterReader$Value;I)Z"⟩, 1), (⟨"FilterReader$Matcher", "somePartIs", "(ZLFilterReader$Rule;LFilterReader$Value;I)Z"⟩, 1), (⟨"FilterReader$Matcher", "conditionsHold", "(LFilterReader$Rule;LFilterReader$Step;LFilterReader$Value;I)Z"⟩, 1), (⟨"FilterReader$Matcher", "conditionHolds", "(LFilterReader$Rule;LFilterReader$Step;LFilterReader$Value;I)Z"⟩, 1), (⟨"FilterReader$Matcher", "tryLeaves", "(LFilterReader$Rule;LFilterReader$Step;LFilterReader$Value;I)I"⟩, 1), (⟨"FilterReader$Matcher", "tryLeaf", "(LFilterReader$Rule;LFilterReader$Value;I)I"⟩, 1), (⟨"FilterReader$Matcher", "passes", "(LFilterReader$Rule;LFilterReader$Value;I)Z"⟩, 1), (⟨"FilterReader$Matcher", "passesSome", "(LFilterReader$Value;LFilterReader$Value;)Z"⟩, 1), (⟨"FilterReader$Matcher", "passesWithItems", "(ILFilterReader$Value;LFilterReader$Value;)Z"⟩, 1)]
theorem lw_r3 : ∀ q ∈ lw_privs_3, lw_okq q := List.forall_mem_cons.mpr ⟨lw_p32, List.forall_mem_cons.mpr ⟨lw_p33, List.forall_mem_cons.mpr ⟨lw_p34, List.forall_mem_cons.mpr ⟨lw_p35, List.forall_mem_cons.mpr ⟨lw_p36, List.forall_mem_cons.mpr ⟨lw_p37, List.forall_mem_cons.mpr ⟨lw_p38, List.forall_mem_cons.mpr ⟨lw_p39, List.forall_mem_cons.mpr ⟨lw_p40, List.forall_mem_cons.mpr ⟨lw_p41, List.forall_mem_cons.mpr ⟨lw_p42, List.forall_mem_cons.mpr ⟨lw_p43, List.forall_mem_cons.mpr ⟨lw_p44, List.forall_mem_cons.mpr ⟨lw_p45, List.forall_mem_cons.mpr ⟨lw_p46, List.forall_mem_cons.mpr ⟨lw_p47, fun _ h => absurd h List.not_mem_nil⟩⟩⟩⟩⟩⟩⟩⟩⟩⟩⟩⟩⟩⟩⟩⟩
theorem lw_p48 : lw_okq (⟨"FilterReader$Matcher", "compares", "(ILFilterReader$Value;LFilterReader$Value;)Z"⟩, 1) := ⟨⟨by decide +kernel, by decide +kernel⟩, List.mem_of_getElem? (i := 46) (by decide +kernel), List.mem_of_getElem? (i := 687) (by decide +kernel), List.mem_of_getElem? (i := 688) (by decide +kernel)⟩
theorem lw_p49 : lw_okq (⟨"FilterReader$Matcher", "hasItemFor", "(LFilterReader$Rule;LFilterReader$Value;I)Z"⟩, 1) := ⟨⟨by decide +kernel, by decide +kernel⟩, List.mem_of_getElem? (i := 46) (by decide +kernel), List.mem_of_getElem? (i := 715) (by decide +kernel), List.mem_of_getElem? (i := 716) (by decide +kernel)⟩
theorem lw_p50 : lw_okq (⟨"FilterReader$Matcher", "tryLeavesOfRow", "(LFilterReader$Rule;LFilterReader$Step;LFilterReader$Value;I)I"⟩, 1) := ⟨⟨by decide +kernel, by decide +kernel⟩, List.mem_of_getElem? (i := 46) (by decide +kernel), List.mem_of_getElem? (i := 719) (by decide +kernel), List.mem_of_getElem? (i := 720) (by decide +kernel)⟩
theorem lw_p51 : lw_okq (⟨"FilterReaderModel", "put", "(I)V"⟩, 23) := ⟨⟨by decide +kernel, by decide +kernel⟩, List.mem_of_getElem? (i := 736) (by decide +kernel), List.mem_of_getElem? (i := 815) (by decide +kernel), List.mem_of_getElem? (i := 816) (by decide +kernel)⟩
theorem lw_p52 : lw_okq (⟨"FilterReaderModel", "isDocument", "(I)Z"⟩, 23) := ⟨⟨by decide +kernel, by decide +kernel⟩, List.mem_of_getElem? (i := 736) (by decide +kernel), List.mem_of_getElem? (i := 826) (by decide +kernel), List.mem_of_getElem? (i := 827) (by decide +kernel)⟩
theorem lw_p53 : lw_okq (⟨"FilterReaderModel", "goOver", "(I)V"⟩, 23) := ⟨⟨by decide +kernel, by decide +kernel⟩, List.mem_of_getElem? (i := 736) (by decide +kernel), List.mem_of_getElem? (i := 830) (by decide +kernel), List.mem_of_getElem? (i := 831) (by decide +kernel)⟩
theorem lw_p54 : lw_okq (⟨"FilterReaderModel", "opens", "(IIIIZ)Z"⟩, 23) := ⟨⟨by decide +kernel, by decide +kernel⟩, List.mem_of_getElem? (i := 736) (by decide +kernel), List.mem_of_getElem? (i := 834) (by decide +kernel), List.mem_of_getElem? (i := 835) (by decide +kernel)⟩
theorem lw_p55 : lw_okq (⟨"FilterReaderModel", "stop", "(II)V"⟩, 23) := ⟨⟨by decide +kernel, by decide +kernel⟩, List.mem_of_getElem? (i := 736) (by decide +kernel), List.mem_of_getElem? (i := 838) (by decide +kernel), List.mem_of_getElem? (i := 839) (by decide +kernel)⟩
theorem lw_p56 : lw_okq (⟨"FilterReaderModel", "low", "(II)J"⟩, 23) := ⟨⟨by decide +kernel, by decide +kernel⟩, List.mem_of_getElem? (i := 736) (by decide +kernel), List.mem_of_getElem? (i := 842) (by decide +kernel), List.mem_of_getElem? (i := 843) (by decide +kernel)⟩
theorem lw_p57 : lw_okq (⟨"FilterReaderModel", "isKind", "(I)Z"⟩, 23) := ⟨⟨by decide +kernel, by decide +kernel⟩, List.mem_of_getElem? (i := 736) (by decide +kernel), List.mem_of_getElem? (i := 847) (by decide +kernel), List.mem_of_getElem? (i := 848) (by decide +kernel)⟩
theorem lw_p58 : lw_okq (⟨"FilterReaderModel", "element", "(III)I"⟩, 23) := ⟨⟨by decide +kernel, by decide +kernel⟩, List.mem_of_getElem? (i := 736) (by decide +kernel), List.mem_of_getElem? (i := 851) (by decide +kernel), List.mem_of_getElem? (i := 852) (by decide +kernel)⟩
theorem lw_p59 : lw_okq (⟨"FilterReaderModel", "isName", "(III)Z"⟩, 23) := ⟨⟨by decide +kernel, by decide +kernel⟩, List.mem_of_getElem? (i := 736) (by decide +kernel), List.mem_of_getElem? (i := 865) (by decide +kernel), List.mem_of_getElem? (i := 866) (by decide +kernel)⟩
theorem lw_p60 : lw_okq (⟨"FilterReaderModel", "value", "(III)I"⟩, 23) := ⟨⟨by decide +kernel, by decide +kernel⟩, List.mem_of_getElem? (i := 736) (by decide +kernel), List.mem_of_getElem? (i := 878) (by decide +kernel), List.mem_of_getElem? (i := 879) (by decide +kernel)⟩
theorem lw_p61 : lw_okq (⟨"FilterReaderModel", "text", "(II)I"⟩, 23) := ⟨⟨by decide +kernel, by decide +kernel⟩, List.mem_of_getElem? (i := 736) (by decide +kernel), List.mem_of_getElem? (i := 882) (by decide +kernel), List.mem_of_getElem? (i := 883) (by decide +kernel)⟩
theorem lw_p62 : lw_okq (⟨"FilterReaderModel", "checkFilter", "(I)V"⟩, 23) := ⟨⟨by decide +kernel, by decide +kernel⟩, List.mem_of_getElem? (i := 736) (by decide +kernel), List.mem_of_getElem? (i := 890) (by decide +kernel), List.mem_of_getElem? (i := 891) (by decide +kernel)⟩
theorem lw_p63 : lw_okq (⟨"FilterReaderModel", "firstOf", "(I)I"⟩, 23) := ⟨⟨by decide +kernel, by decide +kernel⟩, List.mem_of_getElem? (i := 736) (by decide +kernel), List.mem_of_getElem? (i := 894) (by decide +kernel), List.mem_of_getElem? (i := 895) (by decide +kernel)⟩
def lw_privs_4 : List (MethodName × Nat) := [(⟨"FilterReader$Matcher", "compares", "(ILFilterReader$Value;LFilterReader$Value;)Z"⟩, 1), (⟨"FilterReader$Matcher", "hasItemFor", "(LFilterReader$Rule;LFilterReader$Value;I)Z"⟩, 1), (⟨"FilterReader$Matcher", "tryLeavesOfRow", "(LFilterReader$Rule;LFilterReader$Step;LFilterReader$Value;I)I"⟩, 1), (⟨"FilterReaderModel", "put", "(I)V"⟩, 23), (⟨"FilterReaderModel", "isDocument", "(I)Z"⟩, 23), (⟨"FilterReaderModel", "goOver", "(I)V"⟩, 23), (⟨"FilterReaderModel", "opens", "(IIIIZ)Z"⟩, 23), (⟨"FilterReaderModel", "stop", "(II)V"⟩, 23), (⟨"FilterReaderModel", "low", "(II)J"⟩, 23), (⟨"FilterReaderModel", "isKind", "(I)Z"⟩, 23), (⟨"FilterReaderModel", "element", "(III)I"⟩, 23), (⟨"FilterReaderModel", "isName", "(III)Z"⟩, 23), (⟨"FilterReaderModel", "value", "(III)I"⟩, 23), (⟨"FilterReaderModel", "text", "(II)I"⟩, 23), (⟨"FilterReaderModel", "checkFilter", "(I)V"⟩, 23), (⟨"FilterReaderModel", "firstOf", "(I)I"⟩, 23)]
theorem lw_r4 : ∀ q ∈ lw_privs_4, lw_okq q := List.forall_mem_cons.mpr ⟨lw_p48, List.forall_mem_cons.mpr ⟨lw_p49, List.forall_mem_cons.mpr ⟨lw_p50, List.forall_mem_cons.mpr ⟨lw_p51, List.forall_mem_cons.mpr ⟨lw_p52, List.forall_mem_cons.mpr ⟨lw_p53, List.forall_mem_cons.mpr ⟨lw_p54, List.forall_mem_cons.mpr ⟨lw_p55, List.forall_mem_cons.mpr ⟨lw_p56, List.forall_mem_cons.mpr ⟨lw_p57, List.forall_mem_cons.mpr ⟨lw_p58, List.forall_mem_cons.mpr ⟨lw_p59, List.forall_mem_cons.mpr ⟨lw_p60, List.forall_mem_cons.mpr ⟨lw_p61, List.forall_mem_cons.mpr ⟨lw_p62, List.forall_mem_cons.mpr ⟨lw_p63, fun _ h => absurd h List.not_mem_nil⟩⟩⟩⟩⟩⟩⟩⟩⟩⟩⟩⟩⟩⟩⟩⟩
theorem lw_p64 : lw_okq (⟨"FilterReaderModel", "isDollar", "(I)Z"⟩, 23) := ⟨⟨by decide +kernel, by decide +kernel⟩, List.mem_of_getElem? (i := 736) (by decide +kernel), List.mem_of_getElem? (i := 898) (by decide +kernel), List.mem_of_getElem? (i := 899) (by decide +kernel)⟩
theorem lw_p65 : lw_okq (⟨"FilterReaderModel", "checkJoin", "(I)V"⟩, 23) := ⟨⟨by decide +kernel, by decide +kernel⟩, List.mem_of_getElem? (i := 736) (by decide +kernel), List.mem_of_getElem? (i := 902) (by decide +kernel), List.mem_of_getElem? (i := 903) (by decide +kernel)⟩
theorem lw_p66 : lw_okq (⟨"FilterReaderModel", "isJoin", "(I)Z"⟩, 23) := ⟨⟨by decide +kernel, by decide +kernel⟩, List.mem_of_getElem? (i := 736) (by decide +kernel), List.mem_of_getElem? (i := 906) (by decide +kernel), List.mem_of_getElem? (i := 907) (by decide +kernel)⟩
theorem lw_p67 : lw_okq (⟨"FilterReaderModel", "isAnd", "(I)Z"⟩, 23) := ⟨⟨by decide +kernel, by decide +kernel⟩, List.mem_of_getElem? (i := 736) (by decide +kernel), List.mem_of_getElem? (i := 910) (by decide +kernel), List.mem_of_getElem? (i := 911) (by decide +kernel)⟩
theorem lw_p68 : lw_okq (⟨"FilterReaderModel", "isNamed", "(IJ)Z"⟩, 23) := ⟨⟨by decide +kernel, by decide +kernel⟩, List.mem_of_getElem? (i := 736) (by decide +kernel), List.mem_of_getElem? (i := 915) (by decide +kernel), List.mem_of_getElem? (i := 916) (by decide +kernel)⟩
theorem lw_p69 : lw_okq (⟨"FilterReaderModel", "isOr", "(I)Z"⟩, 23) := ⟨⟨by decide +kernel, by decide +kernel⟩, List.mem_of_getElem? (i := 736) (by decide +kernel), List.mem_of_getElem? (i := 920) (by decide +kernel), List.mem_of_getElem? (i := 921) (by decide +kernel)⟩
theorem lw_p70 : lw_okq (⟨"FilterReaderModel", "isNor", "(I)Z"⟩, 23) := ⟨⟨by decide +kernel, by decide +kernel⟩, List.mem_of_getElem? (i := 736) (by decide +kernel), List.mem_of_getElem? (i := 925) (by decide +kernel), List.mem_of_getElem? (i := 926) (by decide +kernel)⟩
theorem lw_p71 : lw_okq (⟨"FilterReaderModel", "say", "(II)V"⟩, 23) := ⟨⟨by decide +kernel, by decide +kernel⟩, List.mem_of_getElem? (i := 736) (by decide +kernel), List.mem_of_getElem? (i := 930) (by decide +kernel), List.mem_of_getElem? (i := 931) (by decide +kernel)⟩
theorem lw_p72 : lw_okq (⟨"FilterReaderModel", "valueOf", "(I)I"⟩, 23) := ⟨⟨by decide +kernel, by decide +kernel⟩, List.mem_of_getElem? (i := 736) (by decide +kernel), List.mem_of_getElem? (i := 934) (by decide +kernel), List.mem_of_getElem? (i := 935) (by decide +kernel)⟩
theorem lw_p73 : lw_okq (⟨"FilterReaderModel", "nameEndOf", "(I)I"⟩, 23) := ⟨⟨by decide +kernel, by decide +kernel⟩, List.mem_of_getElem? (i := 736) (by decide +kernel), List.mem_of_getElem? (i := 938) (by decide +kernel), List.mem_of_getElem? (i := 939) (by decide +kernel)⟩
theorem lw_p74 : lw_okq (⟨"FilterReaderModel", "count", "(II)V"⟩, 23) := ⟨⟨by decide +kernel, by decide +kernel⟩, List.mem_of_getElem? (i := 736) (by decide +kernel), List.mem_of_getElem? (i := 942) (by decide +kernel), List.mem_of_getElem? (i := 943) (by decide +kernel)⟩
theorem lw_p75 : lw_okq (⟨"FilterReaderModel", "nextOf", "(I)I"⟩, 23) := ⟨⟨by decide +kernel, by decide +kernel⟩, List.mem_of_getElem? (i := 736) (by decide +kernel), List.mem_of_getElem? (i := 946) (by decide +kernel), List.mem_of_getElem? (i := 947) (by decide +kernel)⟩
theorem lw_p76 : lw_okq (⟨"FilterReaderModel", "lengthOf", "(II)I"⟩, 23) := ⟨⟨by decide +kernel, by decide +kernel⟩, List.mem_of_getElem? (i := 736) (by decide +kernel), List.mem_of_getElem? (i := 950) (by decide +kernel), List.mem_of_getElem? (i := 951) (by decide +kernel)⟩
theorem lw_p77 : lw_okq (⟨"FilterReaderModel", "whole", "(I)I"⟩, 23) := ⟨⟨by decide +kernel, by decide +kernel⟩, List.mem_of_getElem? (i := 736) (by decide +kernel), List.mem_of_getElem? (i := 954) (by decide +kernel), List.mem_of_getElem? (i := 955) (by decide +kernel)⟩
theorem lw_p78 : lw_okq (⟨"FilterReaderModel", "checkPath", "(I)V"⟩, 23) := ⟨⟨by decide +kernel, by decide +kernel⟩, List.mem_of_getElem? (i := 736) (by decide +kernel), List.mem_of_getElem? (i := 959) (by decide +kernel), List.mem_of_getElem? (i := 960) (by decide +kernel)⟩
theorem lw_p79 : lw_okq (⟨"FilterReaderModel", "stepsOf", "(I)I"⟩, 23) := ⟨⟨by decide +kernel, by decide +kernel⟩, List.mem_of_getElem? (i := 736) (by decide +kernel), List.mem_of_getElem? (i := 963) (by decide +kernel), List.mem_of_getElem? (i := 964) (by decide +kernel)⟩
def lw_privs_5 : List (MethodName × Nat) := [(⟨"FilterReaderModel", "isDollar", "(I)Z"⟩, 23), (⟨"FilterReaderModel", "checkJoin", "(I)V"⟩, 23), (⟨"FilterReaderModel", "isJoin", "(I)Z"⟩, 23), (⟨"FilterReaderModel", "isAnd", "(I)Z"⟩, 23), (⟨"FilterReaderModel", "isNamed", "(IJ)Z"⟩, 23), (⟨"FilterReaderModel", "isOr", "(I)Z"⟩, 23), (⟨"FilterReaderModel", "isNor", "(I)Z"⟩, 23), (⟨"FilterReaderModel", "say", "(II)V"⟩, 23), (⟨"FilterReaderModel", "valueOf", "(I)I"⟩, 23), (⟨"FilterReaderModel", "nameEndOf", "(I)I"⟩, 23), (⟨"FilterReaderModel", "count", "(II)V"⟩, 23), (⟨"FilterReaderModel", "nextOf", "(I)I"⟩, 23), (⟨"FilterReaderModel", "lengthOf", "(II)I"⟩, 23), (⟨"FilterReaderModel", "whole", "(I)I"⟩, 23), (⟨"FilterReaderModel", "checkPath", "(I)V"⟩, 23), (⟨"FilterReaderModel", "stepsOf", "(I)I"⟩, 23)]
theorem lw_r5 : ∀ q ∈ lw_privs_5, lw_okq q := List.forall_mem_cons.mpr ⟨lw_p64, List.forall_mem_cons.mpr ⟨lw_p65, List.forall_mem_cons.mpr ⟨lw_p66, List.forall_mem_cons.mpr ⟨lw_p67, List.forall_mem_cons.mpr ⟨lw_p68, List.forall_mem_cons.mpr ⟨lw_p69, List.forall_mem_cons.mpr ⟨lw_p70, List.forall_mem_cons.mpr ⟨lw_p71, List.forall_mem_cons.mpr ⟨lw_p72, List.forall_mem_cons.mpr ⟨lw_p73, List.forall_mem_cons.mpr ⟨lw_p74, List.forall_mem_cons.mpr ⟨lw_p75, List.forall_mem_cons.mpr ⟨lw_p76, List.forall_mem_cons.mpr ⟨lw_p77, List.forall_mem_cons.mpr ⟨lw_p78, List.forall_mem_cons.mpr ⟨lw_p79, fun _ h => absurd h List.not_mem_nil⟩⟩⟩⟩⟩⟩⟩⟩⟩⟩⟩⟩⟩⟩⟩⟩
theorem lw_p80 : lw_okq (⟨"FilterReaderModel", "isConditions", "(II)Z"⟩, 23) := ⟨⟨by decide +kernel, by decide +kernel⟩, List.mem_of_getElem? (i := 736) (by decide +kernel), List.mem_of_getElem? (i := 967) (by decide +kernel), List.mem_of_getElem? (i := 968) (by decide +kernel)⟩
theorem lw_p81 : lw_okq (⟨"FilterReaderModel", "checkConditions", "(I)V"⟩, 23) := ⟨⟨by decide +kernel, by decide +kernel⟩, List.mem_of_getElem? (i := 736) (by decide +kernel), List.mem_of_getElem? (i := 971) (by decide +kernel), List.mem_of_getElem? (i := 972) (by decide +kernel)⟩
theorem lw_p82 : lw_okq (⟨"FilterReaderModel", "condition", "(I)I"⟩, 23) := ⟨⟨by decide +kernel, by decide +kernel⟩, List.mem_of_getElem? (i := 736) (by decide +kernel), List.mem_of_getElem? (i := 975) (by decide +kernel), List.mem_of_getElem? (i := 976) (by decide +kernel)⟩
theorem lw_p83 : lw_okq (⟨"FilterReaderModel", "isRight", "(III)Z"⟩, 23) := ⟨⟨by decide +kernel, by decide +kernel⟩, List.mem_of_getElem? (i := 736) (by decide +kernel), List.mem_of_getElem? (i := 991) (by decide +kernel), List.mem_of_getElem? (i := 992) (by decide +kernel)⟩
theorem lw_p84 : lw_okq (⟨"FilterReaderModel", "number", "(II)J"⟩, 23) := ⟨⟨by decide +kernel, by decide +kernel⟩, List.mem_of_getElem? (i := 736) (by decide +kernel), List.mem_of_getElem? (i := 995) (by decide +kernel), List.mem_of_getElem? (i := 996) (by decide +kernel)⟩
theorem lw_p85 : lw_okq (⟨"FilterReaderModel", "asConditions", "(I)Z"⟩, 23) := ⟨⟨by decide +kernel, by decide +kernel⟩, List.mem_of_getElem? (i := 736) (by decide +kernel), List.mem_of_getElem? (i := 999) (by decide +kernel), List.mem_of_getElem? (i := 1000) (by decide +kernel)⟩
theorem lw_p86 : lw_okq (⟨"FilterReaderModel", "countOf", "(I)I"⟩, 23) := ⟨⟨by decide +kernel, by decide +kernel⟩, List.mem_of_getElem? (i := 736) (by decide +kernel), List.mem_of_getElem? (i := 1011) (by decide +kernel), List.mem_of_getElem? (i := 1012) (by decide +kernel)⟩
theorem lw_p87 : lw_okq (⟨"FilterReaderModel", "filterHolds", "(II)Z"⟩, 23) := ⟨⟨by decide +kernel, by decide +kernel⟩, List.mem_of_getElem? (i := 736) (by decide +kernel), List.mem_of_getElem? (i := 1019) (by decide +kernel), List.mem_of_getElem? (i := 1020) (by decide +kernel)⟩
theorem lw_p88 : lw_okq (⟨"FilterReaderModel", "elementHolds", "(II)Z"⟩, 23) := ⟨⟨by decide +kernel, by decide +kernel⟩, List.mem_of_getElem? (i := 736) (by decide +kernel), List.mem_of_getElem? (i := 1023) (by decide +kernel), List.mem_of_getElem? (i := 1024) (by decide +kernel)⟩
theorem lw_p89 : lw_okq (⟨"FilterReaderModel", "all", "(IIII)Z"⟩, 23) := ⟨⟨by decide +kernel, by decide +kernel⟩, List.mem_of_getElem? (i := 736) (by decide +kernel), List.mem_of_getElem? (i := 1027) (by decide +kernel), List.mem_of_getElem? (i := 1028) (by decide +kernel)⟩
theorem lw_p90 : lw_okq (⟨"FilterReaderModel", "holdsOne", "(IIII)Z"⟩, 23) := ⟨⟨by decide +kernel, by decide +kernel⟩, List.mem_of_getElem? (i := 736) (by decide +kernel), List.mem_of_getElem? (i := 1031) (by decide +kernel), List.mem_of_getElem? (i := 1032) (by decide +kernel)⟩
theorem lw_p91 : lw_okq (⟨"FilterReaderModel", "any", "(IIIII)Z"⟩, 23) := ⟨⟨by decide +kernel, by decide +kernel⟩, List.mem_of_getElem? (i := 736) (by decide +kernel), List.mem_of_getElem? (i := 1035) (by decide +kernel), List.mem_of_getElem? (i := 1036) (by decide +kernel)⟩
theorem lw_p92 : lw_okq (⟨"FilterReaderModel", "some", "(IIIII)Z"⟩, 23) := ⟨⟨by decide +kernel, by decide +kernel⟩, List.mem_of_getElem? (i := 736) (by decide +kernel), List.mem_of_getElem? (i := 1039) (by decide +kernel), List.mem_of_getElem? (i := 1040) (by decide +kernel)⟩
theorem lw_p93 : lw_okq (⟨"FilterReaderModel", "does", "(III)Z"⟩, 23) := ⟨⟨by decide +kernel, by decide +kernel⟩, List.mem_of_getElem? (i := 736) (by decide +kernel), List.mem_of_getElem? (i := 1043) (by decide +kernel), List.mem_of_getElem? (i := 1044) (by decide +kernel)⟩
theorem lw_p94 : lw_okq (⟨"FilterReaderModel", "isEqual", "(IIII)Z"⟩, 23) := ⟨⟨by decide +kernel, by decide +kernel⟩, List.mem_of_getElem? (i := 736) (by decide +kernel), List.mem_of_getElem? (i := 1047) (by decide +kernel), List.mem_of_getElem? (i := 1048) (by decide +kernel)⟩
theorem lw_p95 : lw_okq (⟨"FilterReaderModel", "order", "(IIII)I"⟩, 23) := ⟨⟨by decide +kernel, by decide +kernel⟩, List.mem_of_getElem? (i := 736) (by decide +kernel), List.mem_of_getElem? (i := 1051) (by decide +kernel), List.mem_of_getElem? (i := 1052) (by decide +kernel)⟩
def lw_privs_6 : List (MethodName × Nat) := [(⟨"FilterReaderModel", "isConditions", "(II)Z"⟩, 23), (⟨"FilterReaderModel", "checkConditions", "(I)V"⟩, 23), (⟨"FilterReaderModel", "condition", "(I)I"⟩, 23), (⟨"FilterReaderModel", "isRight", "(III)Z"⟩, 23), (⟨"FilterReaderModel", "number", "(II)J"⟩, 23), (⟨"FilterReaderModel", "asConditions", "(I)Z"⟩, 23), (⟨"FilterReaderModel", "countOf", "(I)I"⟩, 23), (⟨"FilterReaderModel", "filterHolds", "(II)Z"⟩, 23), (⟨"FilterReaderModel", "elementHolds", "(II)Z"⟩, 23), (⟨"FilterReaderModel", "all", "(IIII)Z"⟩, 23), (⟨"FilterReaderModel", "holdsOne", "(IIII)Z"⟩, 23), (⟨"FilterReaderModel", "any", "(IIIII)Z"⟩, 23), (⟨"FilterReaderModel", "some", "(IIIII)Z"⟩, 23), (⟨"FilterReaderModel", "does", "(III)Z"⟩, 23), (⟨"FilterReaderModel", "isEqual", "(IIII)Z"⟩, 23), (⟨"FilterReaderModel", "order", "(IIII)I"⟩, 23)]
theorem lw_r6 : ∀ q ∈ lw_privs_6, lw_okq q := List.forall_mem_cons.mpr ⟨lw_p80, List.forall_mem_cons.mpr ⟨lw_p81, List.forall_mem_cons.mpr ⟨lw_p82, List.forall_mem_cons.mpr ⟨lw_p83, List.forall_mem_cons.mpr ⟨lw_p84, List.forall_mem_cons.mpr ⟨lw_p85, List.forall_mem_cons.mpr ⟨lw_p86, List.forall_mem_cons.mpr ⟨lw_p87, List.forall_mem_cons.mpr ⟨lw_p88, List.forall_mem_cons.mpr ⟨lw_p89, List.forall_mem_cons.mpr ⟨lw_p90, List.forall_mem_cons.mpr ⟨lw_p91, List.forall_mem_cons.mpr ⟨lw_p92, List.forall_mem_cons.mpr ⟨lw_p93, List.forall_mem_cons.mpr ⟨lw_p94, List.forall_mem_cons.mpr ⟨lw_p95, fun _ h => absurd h List.not_mem_nil⟩⟩⟩⟩⟩⟩⟩⟩⟩⟩⟩⟩⟩⟩⟩⟩
theorem lw_p96 : lw_okq (⟨"FilterReaderModel", "orderBytes", "(IIII)I"⟩, 23) := ⟨⟨by decide +kernel, by decide +kernel⟩, List.mem_of_getElem? (i := 736) (by decide +kernel), List.mem_of_getElem? (i := 1058) (by decide +kernel), List.mem_of_getElem? (i := 1059) (by decide +kernel)⟩
theorem lw_p97 : lw_okq (⟨"FilterReaderModel", "orderBoxes", "(IIZ)I"⟩, 23) := ⟨⟨by decide +kernel, by decide +kernel⟩, List.mem_of_getElem? (i := 736) (by decide +kernel), List.mem_of_getElem? (i := 1062) (by decide +kernel), List.mem_of_getElem? (i := 1063) (by decide +kernel)⟩
theorem lw_p98 : lw_okq (⟨"FilterReaderModel", "isSo", "(IIIII)Z"⟩, 23) := ⟨⟨by decide +kernel, by decide +kernel⟩, List.mem_of_getElem? (i := 736) (by decide +kernel), List.mem_of_getElem? (i := 1066) (by decide +kernel), List.mem_of_getElem? (i := 1067) (by decide +kernel)⟩
theorem lw_p99 : lw_okq (⟨"FilterReaderModel", "stands", "(IIIII)Z"⟩, 23) := ⟨⟨by decide +kernel, by decide +kernel⟩, List.mem_of_getElem? (i := 736) (by decide +kernel), List.mem_of_getElem? (i := 1070) (by decide +kernel), List.mem_of_getElem? (i := 1071) (by decide +kernel)⟩
theorem lw_p100 : lw_okq (⟨"FilterReaderModel", "hasItem", "(II)Z"⟩, 23) := ⟨⟨by decide +kernel, by decide +kernel⟩, List.mem_of_getElem? (i := 736) (by decide +kernel), List.mem_of_getElem? (i := 1074) (by decide +kernel), List.mem_of_getElem? (i := 1075) (by decide +kernel)⟩
theorem lw_p101 : lw_okq (⟨"FilterReaderModel", "isStep", "(II)Z"⟩, 23) := ⟨⟨by decide +kernel, by decide +kernel⟩, List.mem_of_getElem? (i := 736) (by decide +kernel), List.mem_of_getElem? (i := 1078) (by decide +kernel), List.mem_of_getElem? (i := 1079) (by decide +kernel)⟩
theorem lw_p102 : lw_okq (⟨"FilterReaderModel", "nextStep", "(I)I"⟩, 23) := ⟨⟨by decide +kernel, by decide +kernel⟩, List.mem_of_getElem? (i := 736) (by decide +kernel), List.mem_of_getElem? (i := 1082) (by decide +kernel), List.mem_of_getElem? (i := 1083) (by decide +kernel)⟩
def lw_privs_7 : List (MethodName × Nat) := [(⟨"FilterReaderModel", "orderBytes", "(IIII)I"⟩, 23), (⟨"FilterReaderModel", "orderBoxes", "(IIZ)I"⟩, 23), (⟨"FilterReaderModel", "isSo", "(IIIII)Z"⟩, 23), (⟨"FilterReaderModel", "stands", "(IIIII)Z"⟩, 23), (⟨"FilterReaderModel", "hasItem", "(II)Z"⟩, 23), (⟨"FilterReaderModel", "isStep", "(II)Z"⟩, 23), (⟨"FilterReaderModel", "nextStep", "(I)I"⟩, 23)]
theorem lw_r7 : ∀ q ∈ lw_privs_7, lw_okq q := List.forall_mem_cons.mpr ⟨lw_p96, List.forall_mem_cons.mpr ⟨lw_p97, List.forall_mem_cons.mpr ⟨lw_p98, List.forall_mem_cons.mpr ⟨lw_p99, List.forall_mem_cons.mpr ⟨lw_p100, List.forall_mem_cons.mpr ⟨lw_p101, List.forall_mem_cons.mpr ⟨lw_p102, fun _ h => absurd h List.not_mem_nil⟩⟩⟩⟩⟩⟩⟩
def lw_privs : List (MethodName × Nat) := lw_privs_1 ++ (lw_privs_2 ++ (lw_privs_3 ++ (lw_privs_4 ++ (lw_privs_5 ++ (lw_privs_6 ++ (lw_privs_7))))))
def lw_tbl : List Cond := k2_sels lw_privs ++ tables_1
theorem lw_privs_ok : ∀ q ∈ lw_privs, lw_okq q := by
  show ∀ q ∈ lw_privs_1 ++ (lw_privs_2 ++ (lw_privs_3 ++ (lw_privs_4 ++ (lw_privs_5 ++ (lw_privs_6 ++ (lw_privs_7)))))), lw_okq q
  exact List.forall_mem_append.mpr ⟨lw_r1, List.forall_mem_append.mpr ⟨lw_r2, List.forall_mem_append.mpr ⟨lw_r3, List.forall_mem_append.mpr ⟨lw_r4, List.forall_mem_append.mpr ⟨lw_r5, List.forall_mem_append.mpr ⟨lw_r6, lw_r7⟩⟩⟩⟩⟩⟩
end
section
def RX0 : String := "FilterReader$DocumentReader"
def TX0 : u_T := fun k => match k with
  | 0 => ("FilterReader$DocumentReader", "tape", "LFilterReader$Tape;", true)
  | _ => ("FilterReader$DocumentReader", "at", "I", false)
def tyX0 : Nat → FieldType := fun k => match k with
  | 0 => .object "FilterReader$Tape"
  | _ => .int
theorem nmX0 : ∀ a, a < 2 → ∀ b, b < 2 → a ≠ b → (TX0 a).2.1 ≠ (TX0 b).2.1 := by decide +kernel
theorem tyX0_ok : ∀ k, k < 2 → parseFieldDescriptor (TX0 k).2.2.1 = some (tyX0 k) := by decide +kernel
abbrev cX0_init : ByteArray := prog_2_method_1_code
def yX0_init : MethodName := ⟨RX0, "<init>", "(LFilterReader$Tape;)V"⟩
abbrev cX0_readWhole : ByteArray := prog_2_method_2_code
def yX0_readWhole : MethodName := ⟨RX0, "readWhole", "(I)LFilterReader$Value;"⟩
abbrev cX0_readParts : ByteArray := prog_2_method_3_code
def yX0_readParts : MethodName := ⟨RX0, "readParts", "(LFilterReader$Value;II)Z"⟩
abbrev cX0_readElement : ByteArray := prog_2_method_4_code
def yX0_readElement : MethodName := ⟨RX0, "readElement", "(II)LFilterReader$Value;"⟩
abbrev cX0_readValue : ByteArray := prog_2_method_5_code
def yX0_readValue : MethodName := ⟨RX0, "readValue", "(LFilterReader$Value;II)Z"⟩
abbrev cX0_readTruth : ByteArray := prog_2_method_6_code
def yX0_readTruth : MethodName := ⟨RX0, "readTruth", "(LFilterReader$Value;I)Z"⟩
abbrev cX0_readWholeNumber : ByteArray := prog_2_method_7_code
def yX0_readWholeNumber : MethodName := ⟨RX0, "readWholeNumber", "(LFilterReader$Value;II)Z"⟩
abbrev cX0_readText : ByteArray := prog_2_method_8_code
def yX0_readText : MethodName := ⟨RX0, "readText", "(LFilterReader$Value;I)Z"⟩
abbrev cX0_readNumber : ByteArray := prog_2_method_9_code
def yX0_readNumber : MethodName := ⟨RX0, "readNumber", "(I)J"⟩
abbrev cX0_mayFollow : ByteArray := prog_2_method_10_code
def yX0_mayFollow : MethodName := ⟨RX0, "mayFollow", "(LFilterReader$Value;LFilterReader$Value;)Z"⟩
abbrev cX0_isDecimal : ByteArray := prog_2_method_11_code
def yX0_isDecimal : MethodName := ⟨RX0, "isDecimal", "(Ljava/lang/String;I)Z"⟩
abbrev cX0_zeroFrom : ByteArray := prog_2_method_12_code
def yX0_zeroFrom : MethodName := ⟨RX0, "zeroFrom", "(II)I"⟩
abbrev cX0_textOf : ByteArray := prog_2_method_13_code
def yX0_textOf : MethodName := ⟨RX0, "textOf", "(II)Ljava/lang/String;"⟩
abbrev cX0_isRightUtf8 : ByteArray := prog_2_method_14_code
def yX0_isRightUtf8 : MethodName := ⟨RX0, "isRightUtf8", "(II)Z"⟩
abbrev cX0_followers : ByteArray := prog_2_method_15_code
def yX0_followers : MethodName := ⟨RX0, "followers", "(I)I"⟩
abbrev cX0_leadingBits : ByteArray := prog_2_method_16_code
def yX0_leadingBits : MethodName := ⟨RX0, "leadingBits", "(II)I"⟩
abbrev cX0_leastCode : ByteArray := prog_2_method_17_code
def yX0_leastCode : MethodName := ⟨RX0, "leastCode", "(I)I"⟩
abbrev cX0_isCharacter : ByteArray := prog_2_method_18_code
def yX0_isCharacter : MethodName := ⟨RX0, "isCharacter", "(II)Z"⟩
def RX1 : String := "FilterReader$Filter"
def TX1 : u_T := fun k => match k with
  | 0 => ("FilterReader$Filter", "clauses", "LFilterReader$Rule;", true)
  | _ => ("FilterReader$Filter", "counts", "[I", true)
def tyX1 : Nat → FieldType := fun k => match k with
  | 0 => .object "FilterReader$Rule"
  | _ => .array .int
theorem nmX1 : ∀ a, a < 2 → ∀ b, b < 2 → a ≠ b → (TX1 a).2.1 ≠ (TX1 b).2.1 := by decide +kernel
theorem tyX1_ok : ∀ k, k < 2 → parseFieldDescriptor (TX1 k).2.2.1 = some (tyX1 k) := by decide +kernel
abbrev cX1_init : ByteArray := prog_3_method_1_code
def yX1_init : MethodName := ⟨RX1, "<init>", "(LFilterReader$Value;)V"⟩
def RX2 : String := "FilterReader$FilterMaker"
def TX2 : u_T := fun k => match k with
  | 0 => ("FilterReader$FilterMaker", "made", "LFilterReader$Filter;", true)
  | 1 => ("FilterReader$FilterMaker", "fault", "I", false)
  | _ => ("FilterReader$FilterMaker", "faultPlace", "I", false)
def tyX2 : Nat → FieldType := fun k => match k with
  | 0 => .object "FilterReader$Filter"
  | 1 => .int
  | _ => .int
theorem nmX2 : ∀ a, a < 3 → ∀ b, b < 3 → a ≠ b → (TX2 a).2.1 ≠ (TX2 b).2.1 := by decide +kernel
theorem tyX2_ok : ∀ k, k < 3 → parseFieldDescriptor (TX2 k).2.2.1 = some (tyX2 k) := by decide +kernel
abbrev cX2_init : ByteArray := prog_4_method_1_code
def yX2_init : MethodName := ⟨RX2, "<init>", "(LFilterReader$Value;)V"⟩
abbrev cX2_make : ByteArray := prog_4_method_2_code
def yX2_make : MethodName := ⟨RX2, "make", "()V"⟩
abbrev cX2_addClauses : ByteArray := prog_4_method_3_code
def yX2_addClauses : MethodName := ⟨RX2, "addClauses", "(LFilterReader$Rule;I)V"⟩
abbrev cX2_addJoin : ByteArray := prog_4_method_4_code
def yX2_addJoin : MethodName := ⟨RX2, "addJoin", "(LFilterReader$Rule;LFilterReader$Value;I)V"⟩
abbrev cX2_addJoined : ByteArray := prog_4_method_5_code
def yX2_addJoined : MethodName := ⟨RX2, "addJoined", "(LFilterReader$Rule;I)V"⟩
abbrev cX2_addPath : ByteArray := prog_4_method_6_code
def yX2_addPath : MethodName := ⟨RX2, "addPath", "(LFilterReader$Rule;LFilterReader$Value;I)V"⟩
abbrev cX2_addConditions : ByteArray := prog_4_method_7_code
def yX2_addConditions : MethodName := ⟨RX2, "addConditions", "(LFilterReader$Rule;I)V"⟩
abbrev cX2_addCondition : ByteArray := prog_4_method_8_code
def yX2_addCondition : MethodName := ⟨RX2, "addCondition", "(LFilterReader$Rule;LFilterReader$Value;I)V"⟩
abbrev cX2_mayCount : ByteArray := prog_4_method_9_code
def yX2_mayCount : MethodName := ⟨RX2, "mayCount", "(ILFilterReader$Value;)Z"⟩
abbrev cX2_refuse : ByteArray := prog_4_method_10_code
def yX2_refuse : MethodName := ⟨RX2, "refuse", "(ILFilterReader$Value;)V"⟩
abbrev cX2_joinSign : ByteArray := prog_4_method_11_code
def yX2_joinSign : MethodName := ⟨RX2, "joinSign", "(Ljava/lang/String;)I"⟩
abbrev cX2_conditionSign : ByteArray := prog_4_method_12_code
def yX2_conditionSign : MethodName := ⟨RX2, "conditionSign", "(LFilterReader$Value;)I"⟩
abbrev cX2_orderSign : ByteArray := prog_4_method_13_code
def yX2_orderSign : MethodName := ⟨RX2, "orderSign", "(LFilterReader$Value;)I"⟩
abbrev cX2_elemSign : ByteArray := prog_4_method_14_code
def yX2_elemSign : MethodName := ⟨RX2, "elemSign", "(LFilterReader$Value;)I"⟩
abbrev cX2_isNegated : ByteArray := prog_4_method_15_code
def yX2_isNegated : MethodName := ⟨RX2, "isNegated", "(LFilterReader$Value;)Z"⟩
abbrev cX2_isValueFor : ByteArray := prog_4_method_16_code
def yX2_isValueFor : MethodName := ⟨RX2, "isValueFor", "(ILFilterReader$Value;)Z"⟩
def RX3 : String := "FilterReader$Kind"
def TX3 : u_T := fun k => match k with
  | _ => ("", "", "", false)
def tyX3 : Nat → FieldType := fun k => match k with
  | _ => .int
theorem nmX3 : ∀ a, a < 0 → ∀ b, b < 0 → a ≠ b → (TX3 a).2.1 ≠ (TX3 b).2.1 := by decide +kernel
theorem tyX3_ok : ∀ k, k < 0 → parseFieldDescriptor (TX3 k).2.2.1 = some (tyX3 k) := by decide +kernel
abbrev cX3_classOf : ByteArray := prog_5_method_2_code
def yX3_classOf : MethodName := ⟨RX3, "classOf", "(I)I"⟩
def RX4 : String := "FilterReader$Matcher"
def TX4 : u_T := fun k => match k with
  | _ => ("FilterReader$Matcher", "missing", "LFilterReader$Value;", true)
def tyX4 : Nat → FieldType := fun k => match k with
  | _ => .object "FilterReader$Value"
theorem nmX4 : ∀ a, a < 1 → ∀ b, b < 1 → a ≠ b → (TX4 a).2.1 ≠ (TX4 b).2.1 := by decide +kernel
theorem tyX4_ok : ∀ k, k < 1 → parseFieldDescriptor (TX4 k).2.2.1 = some (tyX4 k) := by decide +kernel
abbrev cX4_init : ByteArray := prog_6_method_1_code
def yX4_init : MethodName := ⟨RX4, "<init>", "()V"⟩
abbrev cX4_firstFailing : ByteArray := prog_6_method_2_code
def yX4_firstFailing : MethodName := ⟨RX4, "firstFailing", "(LFilterReader$Rule;LFilterReader$Value;I)I"⟩
abbrev cX4_clauseHolds : ByteArray := prog_6_method_3_code
def yX4_clauseHolds : MethodName := ⟨RX4, "clauseHolds", "(LFilterReader$Rule;LFilterReader$Value;I)Z"⟩
abbrev cX4_somePartIs : ByteArray := prog_6_method_4_code
def yX4_somePartIs : MethodName := ⟨RX4, "somePartIs", "(ZLFilterReader$Rule;LFilterReader$Value;I)Z"⟩
abbrev cX4_conditionsHold : ByteArray := prog_6_method_5_code
def yX4_conditionsHold : MethodName := ⟨RX4, "conditionsHold", "(LFilterReader$Rule;LFilterReader$Step;LFilterReader$Value;I)Z"⟩
abbrev cX4_conditionHolds : ByteArray := prog_6_method_6_code
def yX4_conditionHolds : MethodName := ⟨RX4, "conditionHolds", "(LFilterReader$Rule;LFilterReader$Step;LFilterReader$Value;I)Z"⟩
abbrev cX4_tryLeaves : ByteArray := prog_6_method_7_code
def yX4_tryLeaves : MethodName := ⟨RX4, "tryLeaves", "(LFilterReader$Rule;LFilterReader$Step;LFilterReader$Value;I)I"⟩
abbrev cX4_tryLeavesOfRow : ByteArray := prog_6_method_8_code
def yX4_tryLeavesOfRow : MethodName := ⟨RX4, "tryLeavesOfRow", "(LFilterReader$Rule;LFilterReader$Step;LFilterReader$Value;I)I"⟩
abbrev cX4_tryLeaf : ByteArray := prog_6_method_9_code
def yX4_tryLeaf : MethodName := ⟨RX4, "tryLeaf", "(LFilterReader$Rule;LFilterReader$Value;I)I"⟩
abbrev cX4_passes : ByteArray := prog_6_method_10_code
def yX4_passes : MethodName := ⟨RX4, "passes", "(LFilterReader$Rule;LFilterReader$Value;I)Z"⟩
abbrev cX4_hasItemFor : ByteArray := prog_6_method_11_code
def yX4_hasItemFor : MethodName := ⟨RX4, "hasItemFor", "(LFilterReader$Rule;LFilterReader$Value;I)Z"⟩
abbrev cX4_passesSome : ByteArray := prog_6_method_12_code
def yX4_passesSome : MethodName := ⟨RX4, "passesSome", "(LFilterReader$Value;LFilterReader$Value;)Z"⟩
abbrev cX4_passesWithItems : ByteArray := prog_6_method_13_code
def yX4_passesWithItems : MethodName := ⟨RX4, "passesWithItems", "(ILFilterReader$Value;LFilterReader$Value;)Z"⟩
abbrev cX4_compares : ByteArray := prog_6_method_14_code
def yX4_compares : MethodName := ⟨RX4, "compares", "(ILFilterReader$Value;LFilterReader$Value;)Z"⟩
def RX5 : String := "FilterReader$Order"
def TX5 : u_T := fun k => match k with
  | _ => ("", "", "", false)
def tyX5 : Nat → FieldType := fun k => match k with
  | _ => .int
theorem nmX5 : ∀ a, a < 0 → ∀ b, b < 0 → a ≠ b → (TX5 a).2.1 ≠ (TX5 b).2.1 := by decide +kernel
theorem tyX5_ok : ∀ k, k < 0 → parseFieldDescriptor (TX5 k).2.2.1 = some (tyX5 k) := by decide +kernel
abbrev cX5_compare : ByteArray := prog_7_method_2_code
def yX5_compare : MethodName := ⟨RX5, "compare", "(LFilterReader$Value;LFilterReader$Value;I)I"⟩
abbrev cX5_compareParts : ByteArray := prog_7_method_3_code
def yX5_compareParts : MethodName := ⟨RX5, "compareParts", "(LFilterReader$Value;LFilterReader$Value;I)I"⟩
abbrev cX5_compareElements : ByteArray := prog_7_method_4_code
def yX5_compareElements : MethodName := ⟨RX5, "compareElements", "(LFilterReader$Value;LFilterReader$Value;I)I"⟩
abbrev cX5_compareTexts : ByteArray := prog_7_method_5_code
def yX5_compareTexts : MethodName := ⟨RX5, "compareTexts", "(Ljava/lang/String;Ljava/lang/String;)I"⟩
def RX6 : String := "FilterReader$Rule"
def TX6 : u_T := fun k => match k with
  | 0 => ("FilterReader$Rule", "sign", "I", true)
  | 1 => ("FilterReader$Rule", "negated", "Z", true)
  | 2 => ("FilterReader$Rule", "value", "LFilterReader$Value;", true)
  | 3 => ("FilterReader$Rule", "path", "LFilterReader$Step;", true)
  | 4 => ("FilterReader$Rule", "first", "LFilterReader$Rule;", false)
  | 5 => ("FilterReader$Rule", "last", "LFilterReader$Rule;", false)
  | _ => ("FilterReader$Rule", "next", "LFilterReader$Rule;", false)
def tyX6 : Nat → FieldType := fun k => match k with
  | 0 => .int
  | 1 => .boolean
  | 2 => .object "FilterReader$Value"
  | 3 => .object "FilterReader$Step"
  | 4 => .object "FilterReader$Rule"
  | 5 => .object "FilterReader$Rule"
  | _ => .object "FilterReader$Rule"
theorem nmX6 : ∀ a, a < 7 → ∀ b, b < 7 → a ≠ b → (TX6 a).2.1 ≠ (TX6 b).2.1 := by decide +kernel
theorem tyX6_ok : ∀ k, k < 7 → parseFieldDescriptor (TX6 k).2.2.1 = some (tyX6 k) := by decide +kernel
abbrev cX6_init : ByteArray := prog_8_method_1_code
def yX6_init : MethodName := ⟨RX6, "<init>", "(IZLFilterReader$Value;LFilterReader$Step;)V"⟩
abbrev cX6_add : ByteArray := prog_8_method_2_code
def yX6_add : MethodName := ⟨RX6, "add", "(LFilterReader$Rule;)V"⟩
def RX7 : String := "FilterReader$Step"
def TX7 : u_T := fun k => match k with
  | 0 => ("FilterReader$Step", "name", "Ljava/lang/String;", true)
  | 1 => ("FilterReader$Step", "next", "LFilterReader$Step;", true)
  | _ => ("FilterReader$Step", "count", "I", true)
def tyX7 : Nat → FieldType := fun k => match k with
  | 0 => .object "java/lang/String"
  | 1 => .object "FilterReader$Step"
  | _ => .int
theorem nmX7 : ∀ a, a < 3 → ∀ b, b < 3 → a ≠ b → (TX7 a).2.1 ≠ (TX7 b).2.1 := by decide +kernel
theorem tyX7_ok : ∀ k, k < 3 → parseFieldDescriptor (TX7 k).2.2.1 = some (tyX7 k) := by decide +kernel
abbrev cX7_init : ByteArray := prog_9_method_1_code
def yX7_init : MethodName := ⟨RX7, "<init>", "(Ljava/lang/String;LFilterReader$Step;)V"⟩
abbrev cX7_ofPath : ByteArray := prog_9_method_2_code
def yX7_ofPath : MethodName := ⟨RX7, "ofPath", "(Ljava/lang/String;)LFilterReader$Step;"⟩
def RX8 : String := "FilterReader$Tape"
def TX8 : u_T := fun k => match k with
  | 0 => ("FilterReader$Tape", "bytes", "[I", true)
  | _ => ("FilterReader$Tape", "count", "I", false)
def tyX8 : Nat → FieldType := fun k => match k with
  | 0 => .array .int
  | _ => .int
theorem nmX8 : ∀ a, a < 2 → ∀ b, b < 2 → a ≠ b → (TX8 a).2.1 ≠ (TX8 b).2.1 := by decide +kernel
theorem tyX8_ok : ∀ k, k < 2 → parseFieldDescriptor (TX8 k).2.2.1 = some (tyX8 k) := by decide +kernel
abbrev cX8_init : ByteArray := prog_10_method_1_code
def yX8_init : MethodName := ⟨RX8, "<init>", "()V"⟩
abbrev cX8_hasRoom : ByteArray := prog_10_method_2_code
def yX8_hasRoom : MethodName := ⟨RX8, "hasRoom", "()Z"⟩
abbrev cX8_has : ByteArray := prog_10_method_3_code
def yX8_has : MethodName := ⟨RX8, "has", "(I)Z"⟩
abbrev cX8_clear : ByteArray := prog_10_method_4_code
def yX8_clear : MethodName := ⟨RX8, "clear", "()V"⟩
abbrev cX8_put : ByteArray := prog_10_method_5_code
def yX8_put : MethodName := ⟨RX8, "put", "(I)V"⟩
abbrev cX8_byteAt : ByteArray := prog_10_method_6_code
def yX8_byteAt : MethodName := ⟨RX8, "byteAt", "(I)I"⟩
def RX9 : String := "FilterReader$Value"
def TX9 : u_T := fun k => match k with
  | 0 => ("FilterReader$Value", "kind", "I", true)
  | 1 => ("FilterReader$Value", "place", "I", true)
  | 2 => ("FilterReader$Value", "name", "Ljava/lang/String;", true)
  | 3 => ("FilterReader$Value", "text", "Ljava/lang/String;", false)
  | 4 => ("FilterReader$Value", "number", "J", false)
  | 5 => ("FilterReader$Value", "first", "LFilterReader$Value;", false)
  | 6 => ("FilterReader$Value", "last", "LFilterReader$Value;", false)
  | 7 => ("FilterReader$Value", "next", "LFilterReader$Value;", false)
  | _ => ("FilterReader$Value", "count", "I", false)
def tyX9 : Nat → FieldType := fun k => match k with
  | 0 => .int
  | 1 => .int
  | 2 => .object "java/lang/String"
  | 3 => .object "java/lang/String"
  | 4 => .long
  | 5 => .object "FilterReader$Value"
  | 6 => .object "FilterReader$Value"
  | 7 => .object "FilterReader$Value"
  | _ => .int
theorem nmX9 : ∀ a, a < 9 → ∀ b, b < 9 → a ≠ b → (TX9 a).2.1 ≠ (TX9 b).2.1 := by decide +kernel
theorem tyX9_ok : ∀ k, k < 9 → parseFieldDescriptor (TX9 k).2.2.1 = some (tyX9 k) := by decide +kernel
abbrev cX9_init : ByteArray := prog_11_method_1_code
def yX9_init : MethodName := ⟨RX9, "<init>", "(IILjava/lang/String;)V"⟩
abbrev cX9_add : ByteArray := prog_11_method_2_code
def yX9_add : MethodName := ⟨RX9, "add", "(LFilterReader$Value;)V"⟩
abbrev cX9_named : ByteArray := prog_11_method_3_code
def yX9_named : MethodName := ⟨RX9, "named", "(Ljava/lang/String;)LFilterReader$Value;"⟩
abbrev cX9_isConditions : ByteArray := prog_11_method_4_code
def yX9_isConditions : MethodName := ⟨RX9, "isConditions", "()Z"⟩
def RX10 : String := "FilterReader"
def TX10 : u_T := fun k => match k with
  | 0 => ("FilterReader", "tape", "LFilterReader$Tape;", true)
  | 1 => ("FilterReader", "matcher", "LFilterReader$Matcher;", true)
  | 2 => ("FilterReader", "slots", "[LFilterReader$Value;", true)
  | 3 => ("FilterReader", "filters", "[LFilterReader$Filter;", true)
  | _ => ("FilterReader", "faultPlace", "I", false)
def tyX10 : Nat → FieldType := fun k => match k with
  | 0 => .object "FilterReader$Tape"
  | 1 => .object "FilterReader$Matcher"
  | 2 => .array (.object "FilterReader$Value")
  | 3 => .array (.object "FilterReader$Filter")
  | _ => .int
theorem nmX10 : ∀ a, a < 5 → ∀ b, b < 5 → a ≠ b → (TX10 a).2.1 ≠ (TX10 b).2.1 := by decide +kernel
theorem tyX10_ok : ∀ k, k < 5 → parseFieldDescriptor (TX10 k).2.2.1 = some (tyX10 k) := by decide +kernel
abbrev cX10_init : ByteArray := prog_1_method_1_code
def yX10_init : MethodName := ⟨RX10, "<init>", "()V"⟩
abbrev cX10_feed : ByteArray := prog_1_method_2_code
def yX10_feed : MethodName := ⟨RX10, "feed", "(IIIII)I"⟩
abbrev cX10_read : ByteArray := prog_1_method_3_code
def yX10_read : MethodName := ⟨RX10, "read", "(II)I"⟩
abbrev cX10_filter : ByteArray := prog_1_method_4_code
def yX10_filter : MethodName := ⟨RX10, "filter", "(II)I"⟩
abbrev cX10_place : ByteArray := prog_1_method_5_code
def yX10_place : MethodName := ⟨RX10, "place", "()I"⟩
abbrev cX10_many : ByteArray := prog_1_method_6_code
def yX10_many : MethodName := ⟨RX10, "many", "(II)I"⟩
abbrev cX10_holds : ByteArray := prog_1_method_7_code
def yX10_holds : MethodName := ⟨RX10, "holds", "(II)I"⟩
abbrev cX10_fails : ByteArray := prog_1_method_8_code
def yX10_fails : MethodName := ⟨RX10, "fails", "(II)I"⟩
abbrev cX10_which : ByteArray := prog_1_method_9_code
def yX10_which : MethodName := ⟨RX10, "which", "(I)I"⟩
abbrev cX10_takeDocument : ByteArray := prog_1_method_10_code
def yX10_takeDocument : MethodName := ⟨RX10, "takeDocument", "(I)LFilterReader$Value;"⟩
abbrev cX10_slotAt : ByteArray := prog_1_method_11_code
def yX10_slotAt : MethodName := ⟨RX10, "slotAt", "(I)LFilterReader$Value;"⟩
abbrev cX10_filterAt : ByteArray := prog_1_method_12_code
def yX10_filterAt : MethodName := ⟨RX10, "filterAt", "(I)LFilterReader$Filter;"⟩
abbrev cX10_beginsWithDollar : ByteArray := prog_1_method_13_code
def yX10_beginsWithDollar : MethodName := ⟨RX10, "beginsWithDollar", "(Ljava/lang/String;)Z"⟩
def RX11 : String := "FilterReaderModel"
def TX11 : u_T := fun k => match k with
  | 0 => ("FilterReaderModel", "thrown", "I", false)
  | 1 => ("FilterReaderModel", "store", "[I", true)
  | 2 => ("FilterReaderModel", "taped", "I", false)
  | 3 => ("FilterReaderModel", "place", "I", false)
  | 4 => ("FilterReaderModel", "counted", "[I", true)
  | 5 => ("FilterReaderModel", "paths", "[I", true)
  | 6 => ("FilterReaderModel", "steps", "[I", true)
  | 7 => ("FilterReaderModel", "nowCounted", "I", false)
  | 8 => ("FilterReaderModel", "nowPaths", "I", false)
  | 9 => ("FilterReaderModel", "nowSteps", "I", false)
  | 10 => ("FilterReaderModel", "wrong", "I", false)
  | 11 => ("FilterReaderModel", "wrongAt", "I", false)
  | 12 => ("FilterReaderModel", "work", "[I", true)
  | 13 => ("FilterReaderModel", "fault", "I", false)
  | 14 => ("FilterReaderModel", "nodes", "I", false)
  | 15 => ("FilterReaderModel", "parent", "[I", true)
  | 16 => ("FilterReaderModel", "begin", "[I", true)
  | 17 => ("FilterReaderModel", "nameEnd", "[I", true)
  | 18 => ("FilterReaderModel", "ends", "[I", true)
  | 19 => ("FilterReaderModel", "box", "[I", true)
  | 20 => ("FilterReaderModel", "many", "[I", true)
  | 21 => ("FilterReaderModel", "row", "[I", true)
  | _ => ("FilterReaderModel", "met", "Z", false)
def tyX11 : Nat → FieldType := fun k => match k with
  | 0 => .int
  | 1 => .array .int
  | 2 => .int
  | 3 => .int
  | 4 => .array .int
  | 5 => .array .int
  | 6 => .array .int
  | 7 => .int
  | 8 => .int
  | 9 => .int
  | 10 => .int
  | 11 => .int
  | 12 => .array .int
  | 13 => .int
  | 14 => .int
  | 15 => .array .int
  | 16 => .array .int
  | 17 => .array .int
  | 18 => .array .int
  | 19 => .array .int
  | 20 => .array .int
  | 21 => .array .int
  | _ => .boolean
theorem nmX11 : ∀ a, a < 23 → ∀ b, b < 23 → a ≠ b → (TX11 a).2.1 ≠ (TX11 b).2.1 := by decide +kernel
theorem tyX11_ok : ∀ k, k < 23 → parseFieldDescriptor (TX11 k).2.2.1 = some (tyX11 k) := by decide +kernel
abbrev cX11_init : ByteArray := prog_13_method_1_code
def yX11_init : MethodName := ⟨RX11, "<init>", "()V"⟩
abbrev cX11_feed : ByteArray := prog_13_method_3_code
def yX11_feed : MethodName := ⟨RX11, "feed", "(IIIII)I"⟩
abbrev cX11_put : ByteArray := prog_13_method_4_code
def yX11_put : MethodName := ⟨RX11, "put", "(I)V"⟩
abbrev cX11_character : ByteArray := prog_13_method_5_code
def yX11_character : MethodName := ⟨RX11, "character", "([III)I"⟩
abbrev cX11_badText : ByteArray := prog_13_method_6_code
def yX11_badText : MethodName := ⟨RX11, "badText", "([III)I"⟩
abbrev cX11_stop : ByteArray := prog_13_method_7_code
def yX11_stop : MethodName := ⟨RX11, "stop", "(II)V"⟩
abbrev cX11_low : ByteArray := prog_13_method_8_code
def yX11_low : MethodName := ⟨RX11, "low", "(II)J"⟩
abbrev cX11_opens : ByteArray := prog_13_method_9_code
def yX11_opens : MethodName := ⟨RX11, "opens", "(IIIIZ)Z"⟩
abbrev cX11_isKind : ByteArray := prog_13_method_10_code
def yX11_isKind : MethodName := ⟨RX11, "isKind", "(I)Z"⟩
abbrev cX11_goOver : ByteArray := prog_13_method_11_code
def yX11_goOver : MethodName := ⟨RX11, "goOver", "(I)V"⟩
abbrev cX11_element : ByteArray := prog_13_method_12_code
def yX11_element : MethodName := ⟨RX11, "element", "(III)I"⟩
abbrev cX11_isName : ByteArray := prog_13_method_13_code
def yX11_isName : MethodName := ⟨RX11, "isName", "(III)Z"⟩
abbrev cX11_digits : ByteArray := prog_13_method_14_code
def yX11_digits : MethodName := ⟨RX11, "digits", "(I)I"⟩
abbrev cX11_digit : ByteArray := prog_13_method_15_code
def yX11_digit : MethodName := ⟨RX11, "digit", "(II)I"⟩
abbrev cX11_isNumber : ByteArray := prog_13_method_16_code
def yX11_isNumber : MethodName := ⟨RX11, "isNumber", "([IIII)Z"⟩
abbrev cX11_value : ByteArray := prog_13_method_17_code
def yX11_value : MethodName := ⟨RX11, "value", "(III)I"⟩
abbrev cX11_text : ByteArray := prog_13_method_18_code
def yX11_text : MethodName := ⟨RX11, "text", "(II)I"⟩
abbrev cX11_isDocument : ByteArray := prog_13_method_19_code
def yX11_isDocument : MethodName := ⟨RX11, "isDocument", "(I)Z"⟩
abbrev cX11_whole : ByteArray := prog_13_method_20_code
def yX11_whole : MethodName := ⟨RX11, "whole", "(I)I"⟩
abbrev cX11_nameEndOf : ByteArray := prog_13_method_21_code
def yX11_nameEndOf : MethodName := ⟨RX11, "nameEndOf", "(I)I"⟩
abbrev cX11_valueOf : ByteArray := prog_13_method_22_code
def yX11_valueOf : MethodName := ⟨RX11, "valueOf", "(I)I"⟩
abbrev cX11_lengthOf : ByteArray := prog_13_method_23_code
def yX11_lengthOf : MethodName := ⟨RX11, "lengthOf", "(II)I"⟩
abbrev cX11_firstOf : ByteArray := prog_13_method_24_code
def yX11_firstOf : MethodName := ⟨RX11, "firstOf", "(I)I"⟩
abbrev cX11_nextOf : ByteArray := prog_13_method_25_code
def yX11_nextOf : MethodName := ⟨RX11, "nextOf", "(I)I"⟩
abbrev cX11_countOf : ByteArray := prog_13_method_26_code
def yX11_countOf : MethodName := ⟨RX11, "countOf", "(I)I"⟩
abbrev cX11_isNamed : ByteArray := prog_13_method_27_code
def yX11_isNamed : MethodName := ⟨RX11, "isNamed", "(IJ)Z"⟩
abbrev cX11_isDollar : ByteArray := prog_13_method_28_code
def yX11_isDollar : MethodName := ⟨RX11, "isDollar", "(I)Z"⟩
abbrev cX11_isConditions : ByteArray := prog_13_method_29_code
def yX11_isConditions : MethodName := ⟨RX11, "isConditions", "(II)Z"⟩
abbrev cX11_isAnd : ByteArray := prog_13_method_30_code
def yX11_isAnd : MethodName := ⟨RX11, "isAnd", "(I)Z"⟩
abbrev cX11_isOr : ByteArray := prog_13_method_31_code
def yX11_isOr : MethodName := ⟨RX11, "isOr", "(I)Z"⟩
abbrev cX11_isNor : ByteArray := prog_13_method_32_code
def yX11_isNor : MethodName := ⟨RX11, "isNor", "(I)Z"⟩
abbrev cX11_isJoin : ByteArray := prog_13_method_33_code
def yX11_isJoin : MethodName := ⟨RX11, "isJoin", "(I)Z"⟩
abbrev cX11_condition : ByteArray := prog_13_method_34_code
def yX11_condition : MethodName := ⟨RX11, "condition", "(I)I"⟩
abbrev cX11_say : ByteArray := prog_13_method_35_code
def yX11_say : MethodName := ⟨RX11, "say", "(II)V"⟩
abbrev cX11_count : ByteArray := prog_13_method_36_code
def yX11_count : MethodName := ⟨RX11, "count", "(II)V"⟩
abbrev cX11_stepsOf : ByteArray := prog_13_method_37_code
def yX11_stepsOf : MethodName := ⟨RX11, "stepsOf", "(I)I"⟩
abbrev cX11_checkFilter : ByteArray := prog_13_method_38_code
def yX11_checkFilter : MethodName := ⟨RX11, "checkFilter", "(I)V"⟩
abbrev cX11_checkJoin : ByteArray := prog_13_method_39_code
def yX11_checkJoin : MethodName := ⟨RX11, "checkJoin", "(I)V"⟩
abbrev cX11_checkPath : ByteArray := prog_13_method_40_code
def yX11_checkPath : MethodName := ⟨RX11, "checkPath", "(I)V"⟩
abbrev cX11_checkConditions : ByteArray := prog_13_method_41_code
def yX11_checkConditions : MethodName := ⟨RX11, "checkConditions", "(I)V"⟩
abbrev cX11_isRight : ByteArray := prog_13_method_42_code
def yX11_isRight : MethodName := ⟨RX11, "isRight", "(III)Z"⟩
abbrev cX11_asConditions : ByteArray := prog_13_method_43_code
def yX11_asConditions : MethodName := ⟨RX11, "asConditions", "(I)Z"⟩
abbrev cX11_number : ByteArray := prog_13_method_44_code
def yX11_number : MethodName := ⟨RX11, "number", "(II)J"⟩
abbrev cX11_classOf : ByteArray := prog_13_method_45_code
def yX11_classOf : MethodName := ⟨RX11, "classOf", "(I)I"⟩
abbrev cX11_orderBytes : ByteArray := prog_13_method_46_code
def yX11_orderBytes : MethodName := ⟨RX11, "orderBytes", "(IIII)I"⟩
abbrev cX11_order : ByteArray := prog_13_method_47_code
def yX11_order : MethodName := ⟨RX11, "order", "(IIII)I"⟩
abbrev cX11_orderBoxes : ByteArray := prog_13_method_48_code
def yX11_orderBoxes : MethodName := ⟨RX11, "orderBoxes", "(IIZ)I"⟩
abbrev cX11_isEqual : ByteArray := prog_13_method_49_code
def yX11_isEqual : MethodName := ⟨RX11, "isEqual", "(IIII)Z"⟩
abbrev cX11_stands : ByteArray := prog_13_method_50_code
def yX11_stands : MethodName := ⟨RX11, "stands", "(IIIII)Z"⟩
abbrev cX11_isSo : ByteArray := prog_13_method_51_code
def yX11_isSo : MethodName := ⟨RX11, "isSo", "(IIIII)Z"⟩
abbrev cX11_hasItem : ByteArray := prog_13_method_52_code
def yX11_hasItem : MethodName := ⟨RX11, "hasItem", "(II)Z"⟩
abbrev cX11_does : ByteArray := prog_13_method_53_code
def yX11_does : MethodName := ⟨RX11, "does", "(III)Z"⟩
abbrev cX11_some : ByteArray := prog_13_method_54_code
def yX11_some : MethodName := ⟨RX11, "some", "(IIIII)Z"⟩
abbrev cX11_isStep : ByteArray := prog_13_method_55_code
def yX11_isStep : MethodName := ⟨RX11, "isStep", "(II)Z"⟩
abbrev cX11_nextStep : ByteArray := prog_13_method_56_code
def yX11_nextStep : MethodName := ⟨RX11, "nextStep", "(I)I"⟩
abbrev cX11_any : ByteArray := prog_13_method_57_code
def yX11_any : MethodName := ⟨RX11, "any", "(IIIII)Z"⟩
abbrev cX11_holdsOne : ByteArray := prog_13_method_58_code
def yX11_holdsOne : MethodName := ⟨RX11, "holdsOne", "(IIII)Z"⟩
abbrev cX11_all : ByteArray := prog_13_method_59_code
def yX11_all : MethodName := ⟨RX11, "all", "(IIII)Z"⟩
abbrev cX11_elementHolds : ByteArray := prog_13_method_60_code
def yX11_elementHolds : MethodName := ⟨RX11, "elementHolds", "(II)Z"⟩
abbrev cX11_filterHolds : ByteArray := prog_13_method_61_code
def yX11_filterHolds : MethodName := ⟨RX11, "filterHolds", "(II)Z"⟩
abbrev cX11_isFour : ByteArray := prog_13_method_62_code
def yX11_isFour : MethodName := ⟨RX11, "isFour", "(I)Z"⟩
abbrev cX11_read : ByteArray := prog_13_method_63_code
def yX11_read : MethodName := ⟨RX11, "read", "(II)I"⟩
abbrev cX11_filter : ByteArray := prog_13_method_64_code
def yX11_filter : MethodName := ⟨RX11, "filter", "(II)I"⟩
abbrev cX11_place : ByteArray := prog_13_method_65_code
def yX11_place : MethodName := ⟨RX11, "place", "()I"⟩
abbrev cX11_many : ByteArray := prog_13_method_66_code
def yX11_many : MethodName := ⟨RX11, "many", "(II)I"⟩
abbrev cX11_holds : ByteArray := prog_13_method_67_code
def yX11_holds : MethodName := ⟨RX11, "holds", "(II)I"⟩
abbrev cX11_fails : ByteArray := prog_13_method_68_code
def yX11_fails : MethodName := ⟨RX11, "fails", "(II)I"⟩
abbrev cX11_which : ByteArray := prog_13_method_69_code
def yX11_which : MethodName := ⟨RX11, "which", "(I)I"⟩
def RJx8e188 : String := "java/lang/Cloneable"
def TJx8e188 : u_T := fun k => match k with
  | _ => ("", "", "", false)
def tyJx8e188 : Nat → FieldType := fun k => match k with
  | _ => .int
theorem nmJx8e188 : ∀ a, a < 0 → ∀ b, b < 0 → a ≠ b → (TJx8e188 a).2.1 ≠ (TJx8e188 b).2.1 := by decide +kernel
theorem tyJx8e188_ok : ∀ k, k < 0 → parseFieldDescriptor (TJx8e188 k).2.2.1 = some (tyJx8e188 k) := by decide +kernel
def RJ6 : String := "java/lang/Integer"
def TJ6 : u_T := fun k => match k with
  | _ => ("", "", "", false)
def tyJ6 : Nat → FieldType := fun k => match k with
  | _ => .int
theorem nmJ6 : ∀ a, a < 0 → ∀ b, b < 0 → a ≠ b → (TJ6 a).2.1 ≠ (TJ6 b).2.1 := by decide +kernel
theorem tyJ6_ok : ∀ k, k < 0 → parseFieldDescriptor (TJ6 k).2.2.1 = some (tyJ6 k) := by decide +kernel
abbrev cJ6_compare_7cf53 : ByteArray := prog_15_method_40_code
def yJ6_compare_7cf53 : MethodName := ⟨RJ6, "compare", "(II)I"⟩
def RJ13 : String := "java/lang/Long"
def TJ13 : u_T := fun k => match k with
  | _ => ("", "", "", false)
def tyJ13 : Nat → FieldType := fun k => match k with
  | _ => .int
theorem nmJ13 : ∀ a, a < 0 → ∀ b, b < 0 → a ≠ b → (TJ13 a).2.1 ≠ (TJ13 b).2.1 := by decide +kernel
theorem tyJ13_ok : ∀ k, k < 0 → parseFieldDescriptor (TJ13 k).2.2.1 = some (tyJ13 k) := by decide +kernel
abbrev cJ13_compare_74951 : ByteArray := prog_16_method_42_code
def yJ13_compare_74951 : MethodName := ⟨RJ13, "compare", "(JJ)I"⟩
def RJ9 : String := "java/lang/Math"
def TJ9 : u_T := fun k => match k with
  | _ => ("", "", "", false)
def tyJ9 : Nat → FieldType := fun k => match k with
  | _ => .int
theorem nmJ9 : ∀ a, a < 0 → ∀ b, b < 0 → a ≠ b → (TJ9 a).2.1 ≠ (TJ9 b).2.1 := by decide +kernel
theorem tyJ9_ok : ∀ k, k < 0 → parseFieldDescriptor (TJ9 k).2.2.1 = some (tyJ9 k) := by decide +kernel
abbrev cJ9_max_7cf53 : ByteArray := prog_17_method_65_code
def yJ9_max_7cf53 : MethodName := ⟨RJ9, "max", "(II)I"⟩
abbrev cJ9_min_7cf53 : ByteArray := prog_17_method_69_code
def yJ9_min_7cf53 : MethodName := ⟨RJ9, "min", "(II)I"⟩
def RJ0 : String := "java/lang/String"
def TJ0 : u_T := fun k => match k with
  | 0 => ("java/lang/String", "value", "[B", true)
  | 1 => ("java/lang/String", "coder", "B", true)
  | 2 => ("java/lang/String", "hash", "I", false)
  | _ => ("java/lang/String", "hashIsZero", "Z", false)
def tyJ0 : Nat → FieldType := fun k => match k with
  | 0 => .array .byte
  | 1 => .byte
  | 2 => .int
  | _ => .boolean
theorem nmJ0 : ∀ a, a < 4 → ∀ b, b < 4 → a ≠ b → (TJ0 a).2.1 ≠ (TJ0 b).2.1 := by decide +kernel
theorem tyJ0_ok : ∀ k, k < 4 → parseFieldDescriptor (TJ0 k).2.2.1 = some (tyJ0 k) := by decide +kernel
abbrev cJ0_init_905df : ByteArray := prog_18_method_3_code
def yJ0_init_905df : MethodName := ⟨RJ0, "<init>", "([C)V"⟩
abbrev cJ0_length_8abf5 : ByteArray := prog_18_method_54_code
def yJ0_length_8abf5 : MethodName := ⟨RJ0, "length", "()I"⟩
abbrev cJ0_isEmpty_aae02 : ByteArray := prog_18_method_55_code
def yJ0_isEmpty_aae02 : MethodName := ⟨RJ0, "isEmpty", "()Z"⟩
abbrev cJ0_charAt_5068e : ByteArray := prog_18_method_56_code
def yJ0_charAt_5068e : MethodName := ⟨RJ0, "charAt", "(I)C"⟩
abbrev cJ0_equals_9ea2d : ByteArray := prog_18_method_66_code
def yJ0_equals_9ea2d : MethodName := ⟨RJ0, "equals", "(Ljava/lang/Object;)Z"⟩
abbrev cJ0_substring_37a41 : ByteArray := prog_18_method_92_code
def yJ0_substring_37a41 : MethodName := ⟨RJ0, "substring", "(II)Ljava/lang/String;"⟩
abbrev cJ0_init_bb550 : ByteArray := prog_18_method_149_code
def yJ0_init_bb550 : MethodName := ⟨RJ0, "<init>", "([CIILjava/lang/Void;)V"⟩
abbrev cJ0_init_031fb : ByteArray := prog_18_method_151_code
def yJ0_init_031fb : MethodName := ⟨RJ0, "<init>", "([BB)V"⟩
abbrev cJ0_coder_7d493 : ByteArray := prog_18_method_152_code
def yJ0_coder_7d493 : MethodName := ⟨RJ0, "coder", "()B"⟩
abbrev cJ0_isLatin1_aae02 : ByteArray := prog_18_method_154_code
def yJ0_isLatin1_aae02 : MethodName := ⟨RJ0, "isLatin1", "()Z"⟩
abbrev cJ0_checkIndex_df160 : ByteArray := prog_18_method_155_code
def yJ0_checkIndex_df160 : MethodName := ⟨RJ0, "checkIndex", "(II)V"⟩
abbrev cJ0_checkBoundsOffCount_cabcc : ByteArray := prog_18_method_157_code
def yJ0_checkBoundsOffCount_cabcc : MethodName := ⟨RJ0, "checkBoundsOffCount", "(III)I"⟩
abbrev cJ0_checkBoundsBeginEnd_23922 : ByteArray := prog_18_method_158_code
def yJ0_checkBoundsBeginEnd_23922 : MethodName := ⟨RJ0, "checkBoundsBeginEnd", "(III)V"⟩
def RJ1 : String := "java/lang/StringLatin1"
def TJ1 : u_T := fun k => match k with
  | _ => ("", "", "", false)
def tyJ1 : Nat → FieldType := fun k => match k with
  | _ => .int
theorem nmJ1 : ∀ a, a < 0 → ∀ b, b < 0 → a ≠ b → (TJ1 a).2.1 ≠ (TJ1 b).2.1 := by decide +kernel
theorem tyJ1_ok : ∀ k, k < 0 → parseFieldDescriptor (TJ1 k).2.2.1 = some (tyJ1 k) := by decide +kernel
abbrev cJ1_charAt_3b067 : ByteArray := prog_19_method_2_code
def yJ1_charAt_3b067 : MethodName := ⟨RJ1, "charAt", "([BI)C"⟩
abbrev cJ1_equals_b5fdf : ByteArray := prog_19_method_13_code
def yJ1_equals_b5fdf : MethodName := ⟨RJ1, "equals", "([B[B)Z"⟩
abbrev cJ1_newString_b4f7a : ByteArray := prog_19_method_47_code
def yJ1_newString_b4f7a : MethodName := ⟨RJ1, "newString", "([BII)Ljava/lang/String;"⟩
def RJ2 : String := "java/lang/StringUTF16"
def TJ2 : u_T := fun k => match k with
  | _ => ("", "", "", false)
def tyJ2 : Nat → FieldType := fun k => match k with
  | _ => .int
theorem nmJ2 : ∀ a, a < 0 → ∀ b, b < 0 → a ≠ b → (TJ2 a).2.1 ≠ (TJ2 b).2.1 := by decide +kernel
theorem tyJ2_ok : ∀ k, k < 0 → parseFieldDescriptor (TJ2 k).2.2.1 = some (tyJ2 k) := by decide +kernel
abbrev cJ2_newBytesFor_77867 : ByteArray := prog_20_method_2_code
def yJ2_newBytesFor_77867 : MethodName := ⟨RJ2, "newBytesFor", "(I)[B"⟩
abbrev cJ2_newBytesLength_0f7a4 : ByteArray := prog_20_method_3_code
def yJ2_newBytesLength_0f7a4 : MethodName := ⟨RJ2, "newBytesLength", "(I)I"⟩
abbrev cJ2_putChar_b72d1 : ByteArray := prog_20_method_4_code
def yJ2_putChar_b72d1 : MethodName := ⟨RJ2, "putChar", "([BII)V"⟩
abbrev cJ2_getChar_3b067 : ByteArray := prog_20_method_5_code
def yJ2_getChar_3b067 : MethodName := ⟨RJ2, "getChar", "([BI)C"⟩
abbrev cJ2_length_9d52b : ByteArray := prog_20_method_6_code
def yJ2_length_9d52b : MethodName := ⟨RJ2, "length", "([B)I"⟩
abbrev cJ2_toBytes_dfd3c : ByteArray := prog_20_method_14_code
def yJ2_toBytes_dfd3c : MethodName := ⟨RJ2, "toBytes", "([CII)[B"⟩
abbrev cJ2_coderFromArrayLen_85cad : ByteArray := prog_20_method_15_code
def yJ2_coderFromArrayLen_85cad : MethodName := ⟨RJ2, "coderFromArrayLen", "([BI)B"⟩
abbrev cJ2_compress_dfd3c : ByteArray := prog_20_method_16_code
def yJ2_compress_dfd3c : MethodName := ⟨RJ2, "compress", "([CII)[B"⟩
abbrev cJ2_compress_39247 : ByteArray := prog_20_method_17_code
def yJ2_compress_39247 : MethodName := ⟨RJ2, "compress", "([BII)[B"⟩
abbrev cJ2_compress_fe38e : ByteArray := prog_20_method_21_code
def yJ2_compress_fe38e : MethodName := ⟨RJ2, "compress", "([CI[BII)I"⟩
abbrev cJ2_compress_5af95 : ByteArray := prog_20_method_22_code
def yJ2_compress_5af95 : MethodName := ⟨RJ2, "compress", "([BI[BII)I"⟩
abbrev cJ2_newString_b4f7a : ByteArray := prog_20_method_69_code
def yJ2_newString_b4f7a : MethodName := ⟨RJ2, "newString", "([BII)Ljava/lang/String;"⟩
abbrev cJ2_charAt_3b067 : ByteArray := prog_20_method_83_code
def yJ2_charAt_3b067 : MethodName := ⟨RJ2, "charAt", "([BI)C"⟩
abbrev cJ2_checkIndex_2214a : ByteArray := prog_20_method_91_code
def yJ2_checkIndex_2214a : MethodName := ⟨RJ2, "checkIndex", "(I[B)V"⟩
abbrev cJ2_checkBoundsOffCount_d044e : ByteArray := prog_20_method_94_code
def yJ2_checkBoundsOffCount_d044e : MethodName := ⟨RJ2, "checkBoundsOffCount", "(II[B)V"⟩
def RJ10 : String := "java/lang/System"
def TJ10 : u_T := fun k => match k with
  | _ => ("", "", "", false)
def tyJ10 : Nat → FieldType := fun k => match k with
  | _ => .int
theorem nmJ10 : ∀ a, a < 0 → ∀ b, b < 0 → a ≠ b → (TJ10 a).2.1 ≠ (TJ10 b).2.1 := by decide +kernel
theorem tyJ10_ok : ∀ k, k < 0 → parseFieldDescriptor (TJ10 k).2.2.1 = some (tyJ10 k) := by decide +kernel
def RJ7 : String := "java/util/Arrays"
def TJ7 : u_T := fun k => match k with
  | _ => ("", "", "", false)
def tyJ7 : Nat → FieldType := fun k => match k with
  | _ => .int
theorem nmJ7 : ∀ a, a < 0 → ∀ b, b < 0 → a ≠ b → (TJ7 a).2.1 ≠ (TJ7 b).2.1 := by decide +kernel
theorem tyJ7_ok : ∀ k, k < 0 → parseFieldDescriptor (TJ7 k).2.2.1 = some (tyJ7 k) := by decide +kernel
abbrev cJ7_checkLength_df160 : ByteArray := prog_22_method_131_code
def yJ7_checkLength_df160 : MethodName := ⟨RJ7, "checkLength", "(II)V"⟩
abbrev cJ7_copyOfRange_39247 : ByteArray := prog_22_method_132_code
def yJ7_copyOfRange_39247 : MethodName := ⟨RJ7, "copyOfRange", "([BII)[B"⟩
abbrev cJ7_copyOfRangeByte_39247 : ByteArray := prog_22_method_133_code
def yJ7_copyOfRangeByte_39247 : MethodName := ⟨RJ7, "copyOfRangeByte", "([BII)[B"⟩
def RJ3 : String := "jdk/internal/util/Preconditions"
def TJ3 : u_T := fun k => match k with
  | _ => ("", "", "", false)
def tyJ3 : Nat → FieldType := fun k => match k with
  | _ => .int
theorem nmJ3 : ∀ a, a < 0 → ∀ b, b < 0 → a ≠ b → (TJ3 a).2.1 ≠ (TJ3 b).2.1 := by decide +kernel
theorem tyJ3_ok : ∀ k, k < 0 → parseFieldDescriptor (TJ3 k).2.2.1 = some (tyJ3 k) := by decide +kernel
abbrev cJ3_checkIndex_8e157 : ByteArray := prog_23_method_11_code
def yJ3_checkIndex_8e157 : MethodName := ⟨RJ3, "checkIndex", "(IILjava/util/function/BiFunction;)I"⟩
abbrev cJ3_checkFromToIndex_8c36e : ByteArray := prog_23_method_12_code
def yJ3_checkFromToIndex_8c36e : MethodName := ⟨RJ3, "checkFromToIndex", "(IIILjava/util/function/BiFunction;)I"⟩
abbrev cJ3_checkFromIndexSize_8c36e : ByteArray := prog_23_method_13_code
def yJ3_checkFromIndexSize_8c36e : MethodName := ⟨RJ3, "checkFromIndexSize", "(IIILjava/util/function/BiFunction;)I"⟩
def RL : String := "FilterReaderLaw"
abbrev cL_law : ByteArray := code
def yL_law : MethodName := ⟨RL, "law", "([I)Z"⟩
abbrev vwCl : List vw_C := [(RJ0, TJ0, 4), (RX0, TX0, 2), (RX1, TX1, 2), (RX2, TX2, 3), (RX4, TX4, 1), (RX6, TX6, 7), (RX7, TX7, 3), (RX8, TX8, 2), (RX9, TX9, 9), (RX10, TX10, 5), (RX11, TX11, 23)]
end
section
theorem dX0_init_0 : decode cX0_init 0 = .ok (.aload_n 0, 1) := by decide +kernel
theorem dX0_init_1 : decode cX0_init 1 = .ok (.invokespecial 3, 3) := by decide +kernel
theorem dX0_init_4 : decode cX0_init 4 = .ok (.aload_n 0, 1) := by decide +kernel
theorem dX0_init_5 : decode cX0_init 5 = .ok (.aload_n 1, 1) := by decide +kernel
theorem dX0_init_6 : decode cX0_init 6 = .ok (.putfield 9, 3) := by decide +kernel
theorem dX0_init_9 : decode cX0_init 9 = .ok (.return_, 1) := by decide +kernel
theorem dX0_readWhole_0 : decode cX0_readWhole 0 = .ok (.aload_n 0, 1) := by decide +kernel
theorem dX0_readWhole_1 : decode cX0_readWhole 1 = .ok (.iconst 0, 1) := by decide +kernel
theorem dX0_readWhole_2 : decode cX0_readWhole 2 = .ok (.putfield 15, 3) := by decide +kernel
theorem dX0_readWhole_5 : decode cX0_readWhole 5 = .ok (.new 19, 3) := by decide +kernel
theorem dX0_readWhole_8 : decode cX0_readWhole 8 = .ok (.dup, 1) := by decide +kernel
theorem dX0_readWhole_9 : decode cX0_readWhole 9 = .ok (.iconst 3, 1) := by decide +kernel
theorem dX0_readWhole_10 : decode cX0_readWhole 10 = .ok (.iconst (-1), 1) := by decide +kernel
theorem dX0_readWhole_11 : decode cX0_readWhole 11 = .ok (.ldc 23, 2) := by decide +kernel
theorem dX0_readWhole_13 : decode cX0_readWhole 13 = .ok (.invokespecial 25, 3) := by decide +kernel
theorem dX0_readWhole_16 : decode cX0_readWhole 16 = .ok (.astore_n 2, 1) := by decide +kernel
theorem dX0_readWhole_17 : decode cX0_readWhole 17 = .ok (.aload_n 0, 1) := by decide +kernel
theorem dX0_readWhole_18 : decode cX0_readWhole 18 = .ok (.aload_n 2, 1) := by decide +kernel
theorem dX0_readWhole_19 : decode cX0_readWhole 19 = .ok (.iload_n 1, 1) := by decide +kernel
theorem dX0_readWhole_20 : decode cX0_readWhole 20 = .ok (.iconst 1, 1) := by decide +kernel
theorem dX0_readWhole_21 : decode cX0_readWhole 21 = .ok (.invokevirtual 28, 3) := by decide +kernel
theorem dX0_readWhole_24 : decode cX0_readWhole 24 = .ok (.ifCond .eq 15, 3) := by decide +kernel
theorem dX0_readWhole_27 : decode cX0_readWhole 27 = .ok (.aload_n 0, 1) := by decide +kernel
theorem dX0_readWhole_28 : decode cX0_readWhole 28 = .ok (.getfield 15, 3) := by decide +kernel
theorem dX0_readWhole_31 : decode cX0_readWhole 31 = .ok (.iload_n 1, 1) := by decide +kernel
theorem dX0_readWhole_32 : decode cX0_readWhole 32 = .ok (.if_icmp .ne 7, 3) := by decide +kernel
theorem dX0_readWhole_35 : decode cX0_readWhole 35 = .ok (.aload_n 2, 1) := by decide +kernel
theorem dX0_readWhole_36 : decode cX0_readWhole 36 = .ok (.goto 4, 3) := by decide +kernel
theorem dX0_readWhole_39 : decode cX0_readWhole 39 = .ok (.aconst_null, 1) := by decide +kernel
theorem dX0_readWhole_40 : decode cX0_readWhole 40 = .ok (.areturn, 1) := by decide +kernel
theorem dX0_readParts_0 : decode cX0_readParts 0 = .ok (.iload_n 3, 1) := by decide +kernel
theorem dX0_readParts_1 : decode cX0_readParts 1 = .ok (.bipush 16, 2) := by decide +kernel
theorem dX0_readParts_3 : decode cX0_readParts 3 = .ok (.if_icmp .gt 13, 3) := by decide +kernel
theorem dX0_readParts_6 : decode cX0_readParts 6 = .ok (.iload_n 2, 1) := by decide +kernel
theorem dX0_readParts_7 : decode cX0_readParts 7 = .ok (.aload_n 0, 1) := by decide +kernel
theorem dX0_readParts_8 : decode cX0_readParts 8 = .ok (.getfield 15, 3) := by decide +kernel
theorem dX0_readParts_11 : decode cX0_readParts 11 = .ok (.isub, 1) := by decide +kernel
theorem dX0_readParts_12 : decode cX0_readParts 12 = .ok (.iconst 5, 1) := by decide +kernel
theorem dX0_readParts_13 : decode cX0_readParts 13 = .ok (.if_icmp .ge 5, 3) := by decide +kernel
theorem dX0_readParts_16 : decode cX0_readParts 16 = .ok (.iconst 0, 1) := by decide +kernel
theorem dX0_readParts_17 : decode cX0_readParts 17 = .ok (.ireturn, 1) := by decide +kernel
theorem dX0_readParts_18 : decode cX0_readParts 18 = .ok (.aload_n 0, 1) := by decide +kernel
theorem dX0_readParts_19 : decode cX0_readParts 19 = .ok (.getfield 15, 3) := by decide +kernel
theorem dX0_readParts_22 : decode cX0_readParts 22 = .ok (.istore 4, 2) := by decide +kernel
theorem dX0_readParts_24 : decode cX0_readParts 24 = .ok (.aload_n 0, 1) := by decide +kernel
theorem dX0_readParts_25 : decode cX0_readParts 25 = .ok (.iconst 4, 1) := by decide +kernel
theorem dX0_readParts_26 : decode cX0_readParts 26 = .ok (.invokevirtual 32, 3) := by decide +kernel
theorem dX0_readParts_29 : decode cX0_readParts 29 = .ok (.l2i, 1) := by decide +kernel
theorem dX0_readParts_30 : decode cX0_readParts 30 = .ok (.istore 5, 2) := by decide +kernel
theorem dX0_readParts_32 : decode cX0_readParts 32 = .ok (.iload 5, 2) := by decide +kernel
theorem dX0_readParts_34 : decode cX0_readParts 34 = .ok (.iconst 5, 1) := by decide +kernel
theorem dX0_readParts_35 : decode cX0_readParts 35 = .ok (.if_icmp .lt 12, 3) := by decide +kernel
theorem dX0_readParts_38 : decode cX0_readParts 38 = .ok (.iload 5, 2) := by decide +kernel
theorem dX0_readParts_40 : decode cX0_readParts 40 = .ok (.iload_n 2, 1) := by decide +kernel
theorem dX0_readParts_41 : decode cX0_readParts 41 = .ok (.iload 4, 2) := by decide +kernel
theorem dX0_readParts_43 : decode cX0_readParts 43 = .ok (.isub, 1) := by decide +kernel
theorem dX0_readParts_44 : decode cX0_readParts 44 = .ok (.if_icmp .le 5, 3) := by decide +kernel
theorem dX0_readParts_47 : decode cX0_readParts 47 = .ok (.iconst 0, 1) := by decide +kernel
theorem dX0_readParts_48 : decode cX0_readParts 48 = .ok (.ireturn, 1) := by decide +kernel
theorem dX0_readParts_49 : decode cX0_readParts 49 = .ok (.iload 4, 2) := by decide +kernel
theorem dX0_readParts_51 : decode cX0_readParts 51 = .ok (.iload 5, 2) := by decide +kernel
theorem dX0_readParts_53 : decode cX0_readParts 53 = .ok (.iadd, 1) := by decide +kernel
theorem dX0_readParts_54 : decode cX0_readParts 54 = .ok (.iconst 1, 1) := by decide +kernel
theorem dX0_readParts_55 : decode cX0_readParts 55 = .ok (.isub, 1) := by decide +kernel
theorem dX0_readParts_56 : decode cX0_readParts 56 = .ok (.istore 6, 2) := by decide +kernel
theorem dX0_readParts_58 : decode cX0_readParts 58 = .ok (.iconst 0, 1) := by decide +kernel
theorem dX0_readParts_59 : decode cX0_readParts 59 = .ok (.istore 7, 2) := by decide +kernel
theorem dX0_readParts_61 : decode cX0_readParts 61 = .ok (.iload 7, 2) := by decide +kernel
theorem dX0_readParts_63 : decode cX0_readParts 63 = .ok (.sipush 2000, 3) := by decide +kernel
theorem dX0_readParts_66 : decode cX0_readParts 66 = .ok (.if_icmp .ge 50, 3) := by decide +kernel
theorem dX0_readParts_69 : decode cX0_readParts 69 = .ok (.aload_n 0, 1) := by decide +kernel
theorem dX0_readParts_70 : decode cX0_readParts 70 = .ok (.getfield 15, 3) := by decide +kernel
theorem dX0_readParts_73 : decode cX0_readParts 73 = .ok (.iload 6, 2) := by decide +kernel
theorem dX0_readParts_75 : decode cX0_readParts 75 = .ok (.if_icmp .ge 41, 3) := by decide +kernel
theorem dX0_readParts_78 : decode cX0_readParts 78 = .ok (.aload_n 0, 1) := by decide +kernel
theorem dX0_readParts_79 : decode cX0_readParts 79 = .ok (.iload 6, 2) := by decide +kernel
theorem dX0_readParts_81 : decode cX0_readParts 81 = .ok (.iload_n 3, 1) := by decide +kernel
theorem dX0_readParts_82 : decode cX0_readParts 82 = .ok (.invokevirtual 36, 3) := by decide +kernel
theorem dX0_readParts_85 : decode cX0_readParts 85 = .ok (.astore 8, 2) := by decide +kernel
theorem dX0_readParts_87 : decode cX0_readParts 87 = .ok (.aload 8, 2) := by decide +kernel
theorem dX0_readParts_89 : decode cX0_readParts 89 = .ok (.ifnull 13, 3) := by decide +kernel
theorem dX0_readParts_92 : decode cX0_readParts 92 = .ok (.aload_n 0, 1) := by decide +kernel
theorem dX0_readParts_93 : decode cX0_readParts 93 = .ok (.aload_n 1, 1) := by decide +kernel
theorem dX0_readParts_94 : decode cX0_readParts 94 = .ok (.aload 8, 2) := by decide +kernel
theorem dX0_readParts_96 : decode cX0_readParts 96 = .ok (.invokevirtual 40, 3) := by decide +kernel
theorem dX0_readParts_99 : decode cX0_readParts 99 = .ok (.ifCond .ne 5, 3) := by decide +kernel
theorem dX0_readParts_102 : decode cX0_readParts 102 = .ok (.iconst 0, 1) := by decide +kernel
theorem dX0_readParts_103 : decode cX0_readParts 103 = .ok (.ireturn, 1) := by decide +kernel
theorem dX0_readParts_104 : decode cX0_readParts 104 = .ok (.aload_n 1, 1) := by decide +kernel
theorem dX0_readParts_105 : decode cX0_readParts 105 = .ok (.aload 8, 2) := by decide +kernel
theorem dX0_readParts_107 : decode cX0_readParts 107 = .ok (.invokevirtual 44, 3) := by decide +kernel
theorem dX0_readParts_110 : decode cX0_readParts 110 = .ok (.iinc 7 1, 3) := by decide +kernel
theorem dX0_readParts_113 : decode cX0_readParts 113 = .ok (.goto (-52), 3) := by decide +kernel
theorem dX0_readParts_116 : decode cX0_readParts 116 = .ok (.aload_n 0, 1) := by decide +kernel
theorem dX0_readParts_117 : decode cX0_readParts 117 = .ok (.getfield 15, 3) := by decide +kernel
theorem dX0_readParts_120 : decode cX0_readParts 120 = .ok (.iload 6, 2) := by decide +kernel
theorem dX0_readParts_122 : decode cX0_readParts 122 = .ok (.if_icmp .ne 15, 3) := by decide +kernel
theorem dX0_readParts_125 : decode cX0_readParts 125 = .ok (.aload_n 0, 1) := by decide +kernel
theorem dX0_readParts_126 : decode cX0_readParts 126 = .ok (.getfield 9, 3) := by decide +kernel
theorem dX0_readParts_129 : decode cX0_readParts 129 = .ok (.iload 6, 2) := by decide +kernel
theorem dX0_readParts_131 : decode cX0_readParts 131 = .ok (.invokevirtual 48, 3) := by decide +kernel
theorem dX0_readParts_134 : decode cX0_readParts 134 = .ok (.ifCond .eq 5, 3) := by decide +kernel
theorem dX0_readParts_137 : decode cX0_readParts 137 = .ok (.iconst 0, 1) := by decide +kernel
theorem dX0_readParts_138 : decode cX0_readParts 138 = .ok (.ireturn, 1) := by decide +kernel
theorem dX0_readParts_139 : decode cX0_readParts 139 = .ok (.aload_n 0, 1) := by decide +kernel
theorem dX0_readParts_140 : decode cX0_readParts 140 = .ok (.iload 6, 2) := by decide +kernel
theorem dX0_readParts_142 : decode cX0_readParts 142 = .ok (.iconst 1, 1) := by decide +kernel
theorem dX0_readParts_143 : decode cX0_readParts 143 = .ok (.iadd, 1) := by decide +kernel
theorem dX0_readParts_144 : decode cX0_readParts 144 = .ok (.putfield 15, 3) := by decide +kernel
theorem dX0_readParts_147 : decode cX0_readParts 147 = .ok (.iconst 1, 1) := by decide +kernel
theorem dX0_readParts_148 : decode cX0_readParts 148 = .ok (.ireturn, 1) := by decide +kernel
theorem dX0_readElement_0 : decode cX0_readElement 0 = .ok (.aload_n 0, 1) := by decide +kernel
theorem dX0_readElement_1 : decode cX0_readElement 1 = .ok (.getfield 15, 3) := by decide +kernel
theorem dX0_readElement_4 : decode cX0_readElement 4 = .ok (.istore_n 3, 1) := by decide +kernel
theorem dX0_readElement_5 : decode cX0_readElement 5 = .ok (.aload_n 0, 1) := by decide +kernel
theorem dX0_readElement_6 : decode cX0_readElement 6 = .ok (.iload_n 3, 1) := by decide +kernel
theorem dX0_readElement_7 : decode cX0_readElement 7 = .ok (.iconst 1, 1) := by decide +kernel
theorem dX0_readElement_8 : decode cX0_readElement 8 = .ok (.iadd, 1) := by decide +kernel
theorem dX0_readElement_9 : decode cX0_readElement 9 = .ok (.iload_n 1, 1) := by decide +kernel
theorem dX0_readElement_10 : decode cX0_readElement 10 = .ok (.invokevirtual 54, 3) := by decide +kernel
theorem dX0_readElement_13 : decode cX0_readElement 13 = .ok (.istore 4, 2) := by decide +kernel
theorem dX0_readElement_15 : decode cX0_readElement 15 = .ok (.iload 4, 2) := by decide +kernel
theorem dX0_readElement_17 : decode cX0_readElement 17 = .ok (.ifCond .lt 15, 3) := by decide +kernel
theorem dX0_readElement_20 : decode cX0_readElement 20 = .ok (.aload_n 0, 1) := by decide +kernel
theorem dX0_readElement_21 : decode cX0_readElement 21 = .ok (.iload_n 3, 1) := by decide +kernel
theorem dX0_readElement_22 : decode cX0_readElement 22 = .ok (.iconst 1, 1) := by decide +kernel
theorem dX0_readElement_23 : decode cX0_readElement 23 = .ok (.iadd, 1) := by decide +kernel
theorem dX0_readElement_24 : decode cX0_readElement 24 = .ok (.iload 4, 2) := by decide +kernel
theorem dX0_readElement_26 : decode cX0_readElement 26 = .ok (.invokevirtual 58, 3) := by decide +kernel
theorem dX0_readElement_29 : decode cX0_readElement 29 = .ok (.ifCond .ne 5, 3) := by decide +kernel
theorem dX0_readElement_32 : decode cX0_readElement 32 = .ok (.aconst_null, 1) := by decide +kernel
theorem dX0_readElement_33 : decode cX0_readElement 33 = .ok (.areturn, 1) := by decide +kernel
theorem dX0_readElement_34 : decode cX0_readElement 34 = .ok (.new 19, 3) := by decide +kernel
theorem dX0_readElement_37 : decode cX0_readElement 37 = .ok (.dup, 1) := by decide +kernel
theorem dX0_readElement_38 : decode cX0_readElement 38 = .ok (.aload_n 0, 1) := by decide +kernel
theorem dX0_readElement_39 : decode cX0_readElement 39 = .ok (.getfield 9, 3) := by decide +kernel
theorem dX0_readElement_42 : decode cX0_readElement 42 = .ok (.iload_n 3, 1) := by decide +kernel
theorem dX0_readElement_43 : decode cX0_readElement 43 = .ok (.invokevirtual 48, 3) := by decide +kernel
theorem dX0_readElement_46 : decode cX0_readElement 46 = .ok (.iload_n 3, 1) := by decide +kernel
theorem dX0_readElement_47 : decode cX0_readElement 47 = .ok (.aload_n 0, 1) := by decide +kernel
theorem dX0_readElement_48 : decode cX0_readElement 48 = .ok (.iload_n 3, 1) := by decide +kernel
theorem dX0_readElement_49 : decode cX0_readElement 49 = .ok (.iconst 1, 1) := by decide +kernel
theorem dX0_readElement_50 : decode cX0_readElement 50 = .ok (.iadd, 1) := by decide +kernel
theorem dX0_readElement_51 : decode cX0_readElement 51 = .ok (.iload 4, 2) := by decide +kernel
theorem dX0_readElement_53 : decode cX0_readElement 53 = .ok (.invokevirtual 62, 3) := by decide +kernel
theorem dX0_readElement_56 : decode cX0_readElement 56 = .ok (.invokespecial 25, 3) := by decide +kernel
theorem dX0_readElement_59 : decode cX0_readElement 59 = .ok (.astore 5, 2) := by decide +kernel
theorem dX0_readElement_61 : decode cX0_readElement 61 = .ok (.aload_n 0, 1) := by decide +kernel
theorem dX0_readElement_62 : decode cX0_readElement 62 = .ok (.iload 4, 2) := by decide +kernel
theorem dX0_readElement_64 : decode cX0_readElement 64 = .ok (.iconst 1, 1) := by decide +kernel
theorem dX0_readElement_65 : decode cX0_readElement 65 = .ok (.iadd, 1) := by decide +kernel
theorem dX0_readElement_66 : decode cX0_readElement 66 = .ok (.putfield 15, 3) := by decide +kernel
theorem dX0_readElement_69 : decode cX0_readElement 69 = .ok (.aload_n 0, 1) := by decide +kernel
theorem dX0_readElement_70 : decode cX0_readElement 70 = .ok (.aload 5, 2) := by decide +kernel
theorem dX0_readElement_72 : decode cX0_readElement 72 = .ok (.iload_n 1, 1) := by decide +kernel
theorem dX0_readElement_73 : decode cX0_readElement 73 = .ok (.iload_n 2, 1) := by decide +kernel
theorem dX0_readElement_74 : decode cX0_readElement 74 = .ok (.invokevirtual 66, 3) := by decide +kernel
theorem dX0_readElement_77 : decode cX0_readElement 77 = .ok (.ifCond .eq 8, 3) := by decide +kernel
theorem dX0_readElement_80 : decode cX0_readElement 80 = .ok (.aload 5, 2) := by decide +kernel
theorem dX0_readElement_82 : decode cX0_readElement 82 = .ok (.goto 4, 3) := by decide +kernel
theorem dX0_readElement_85 : decode cX0_readElement 85 = .ok (.aconst_null, 1) := by decide +kernel
theorem dX0_readElement_86 : decode cX0_readElement 86 = .ok (.areturn, 1) := by decide +kernel
theorem dX0_readValue_0 : decode cX0_readValue 0 = .ok (.aload_n 1, 1) := by decide +kernel
theorem dX0_readValue_1 : decode cX0_readValue 1 = .ok (.getfield 69, 3) := by decide +kernel
theorem dX0_readValue_4 : decode cX0_readValue 4 = .ok (.tableswitch 127 2 18 #[110, 117, 117, 127, 127, 127, 86, 127, 84, 127, 127, 127, 127, 127, 93, 127, 101], 84) := by decide +kernel
theorem dX0_readValue_88 : decode cX0_readValue 88 = .ok (.iconst 1, 1) := by decide +kernel
theorem dX0_readValue_89 : decode cX0_readValue 89 = .ok (.ireturn, 1) := by decide +kernel
theorem dX0_readValue_90 : decode cX0_readValue 90 = .ok (.aload_n 0, 1) := by decide +kernel
theorem dX0_readValue_91 : decode cX0_readValue 91 = .ok (.aload_n 1, 1) := by decide +kernel
theorem dX0_readValue_92 : decode cX0_readValue 92 = .ok (.iload_n 2, 1) := by decide +kernel
theorem dX0_readValue_93 : decode cX0_readValue 93 = .ok (.invokevirtual 72, 3) := by decide +kernel
theorem dX0_readValue_96 : decode cX0_readValue 96 = .ok (.ireturn, 1) := by decide +kernel
theorem dX0_readValue_97 : decode cX0_readValue 97 = .ok (.aload_n 0, 1) := by decide +kernel
theorem dX0_readValue_98 : decode cX0_readValue 98 = .ok (.aload_n 1, 1) := by decide +kernel
theorem dX0_readValue_99 : decode cX0_readValue 99 = .ok (.iconst 4, 1) := by decide +kernel
theorem dX0_readValue_100 : decode cX0_readValue 100 = .ok (.iload_n 2, 1) := by decide +kernel
theorem dX0_readValue_101 : decode cX0_readValue 101 = .ok (.invokevirtual 76, 3) := by decide +kernel
theorem dX0_readValue_104 : decode cX0_readValue 104 = .ok (.ireturn, 1) := by decide +kernel
theorem dX0_readValue_105 : decode cX0_readValue 105 = .ok (.aload_n 0, 1) := by decide +kernel
theorem dX0_readValue_106 : decode cX0_readValue 106 = .ok (.aload_n 1, 1) := by decide +kernel
theorem dX0_readValue_107 : decode cX0_readValue 107 = .ok (.bipush 8, 2) := by decide +kernel
theorem dX0_readValue_109 : decode cX0_readValue 109 = .ok (.iload_n 2, 1) := by decide +kernel
theorem dX0_readValue_110 : decode cX0_readValue 110 = .ok (.invokevirtual 76, 3) := by decide +kernel
theorem dX0_readValue_113 : decode cX0_readValue 113 = .ok (.ireturn, 1) := by decide +kernel
theorem dX0_readValue_114 : decode cX0_readValue 114 = .ok (.aload_n 0, 1) := by decide +kernel
theorem dX0_readValue_115 : decode cX0_readValue 115 = .ok (.aload_n 1, 1) := by decide +kernel
theorem dX0_readValue_116 : decode cX0_readValue 116 = .ok (.iload_n 2, 1) := by decide +kernel
theorem dX0_readValue_117 : decode cX0_readValue 117 = .ok (.invokevirtual 79, 3) := by decide +kernel
theorem dX0_readValue_120 : decode cX0_readValue 120 = .ok (.ireturn, 1) := by decide +kernel
theorem dX0_readValue_121 : decode cX0_readValue 121 = .ok (.aload_n 0, 1) := by decide +kernel
theorem dX0_readValue_122 : decode cX0_readValue 122 = .ok (.aload_n 1, 1) := by decide +kernel
theorem dX0_readValue_123 : decode cX0_readValue 123 = .ok (.iload_n 2, 1) := by decide +kernel
theorem dX0_readValue_124 : decode cX0_readValue 124 = .ok (.iload_n 3, 1) := by decide +kernel
theorem dX0_readValue_125 : decode cX0_readValue 125 = .ok (.iconst 1, 1) := by decide +kernel
theorem dX0_readValue_126 : decode cX0_readValue 126 = .ok (.iadd, 1) := by decide +kernel
theorem dX0_readValue_127 : decode cX0_readValue 127 = .ok (.invokevirtual 28, 3) := by decide +kernel
theorem dX0_readValue_130 : decode cX0_readValue 130 = .ok (.ireturn, 1) := by decide +kernel
theorem dX0_readValue_131 : decode cX0_readValue 131 = .ok (.iconst 0, 1) := by decide +kernel
theorem dX0_readValue_132 : decode cX0_readValue 132 = .ok (.ireturn, 1) := by decide +kernel
theorem dX0_readTruth_0 : decode cX0_readTruth 0 = .ok (.iload_n 2, 1) := by decide +kernel
theorem dX0_readTruth_1 : decode cX0_readTruth 1 = .ok (.aload_n 0, 1) := by decide +kernel
theorem dX0_readTruth_2 : decode cX0_readTruth 2 = .ok (.getfield 15, 3) := by decide +kernel
theorem dX0_readTruth_5 : decode cX0_readTruth 5 = .ok (.isub, 1) := by decide +kernel
theorem dX0_readTruth_6 : decode cX0_readTruth 6 = .ok (.iconst 1, 1) := by decide +kernel
theorem dX0_readTruth_7 : decode cX0_readTruth 7 = .ok (.if_icmp .lt 18, 3) := by decide +kernel
theorem dX0_readTruth_10 : decode cX0_readTruth 10 = .ok (.aload_n 0, 1) := by decide +kernel
theorem dX0_readTruth_11 : decode cX0_readTruth 11 = .ok (.getfield 9, 3) := by decide +kernel
theorem dX0_readTruth_14 : decode cX0_readTruth 14 = .ok (.aload_n 0, 1) := by decide +kernel
theorem dX0_readTruth_15 : decode cX0_readTruth 15 = .ok (.getfield 15, 3) := by decide +kernel
theorem dX0_readTruth_18 : decode cX0_readTruth 18 = .ok (.invokevirtual 48, 3) := by decide +kernel
theorem dX0_readTruth_21 : decode cX0_readTruth 21 = .ok (.iconst 1, 1) := by decide +kernel
theorem dX0_readTruth_22 : decode cX0_readTruth 22 = .ok (.if_icmp .le 5, 3) := by decide +kernel
theorem dX0_readTruth_25 : decode cX0_readTruth 25 = .ok (.iconst 0, 1) := by decide +kernel
theorem dX0_readTruth_26 : decode cX0_readTruth 26 = .ok (.ireturn, 1) := by decide +kernel
theorem dX0_readTruth_27 : decode cX0_readTruth 27 = .ok (.aload_n 1, 1) := by decide +kernel
theorem dX0_readTruth_28 : decode cX0_readTruth 28 = .ok (.aload_n 0, 1) := by decide +kernel
theorem dX0_readTruth_29 : decode cX0_readTruth 29 = .ok (.iconst 1, 1) := by decide +kernel
theorem dX0_readTruth_30 : decode cX0_readTruth 30 = .ok (.invokevirtual 32, 3) := by decide +kernel
theorem dX0_readTruth_33 : decode cX0_readTruth 33 = .ok (.putfield 82, 3) := by decide +kernel
theorem dX0_readTruth_36 : decode cX0_readTruth 36 = .ok (.iconst 1, 1) := by decide +kernel
theorem dX0_readTruth_37 : decode cX0_readTruth 37 = .ok (.ireturn, 1) := by decide +kernel
theorem dX0_readWholeNumber_0 : decode cX0_readWholeNumber 0 = .ok (.iload_n 3, 1) := by decide +kernel
theorem dX0_readWholeNumber_1 : decode cX0_readWholeNumber 1 = .ok (.aload_n 0, 1) := by decide +kernel
theorem dX0_readWholeNumber_2 : decode cX0_readWholeNumber 2 = .ok (.getfield 15, 3) := by decide +kernel
theorem dX0_readWholeNumber_5 : decode cX0_readWholeNumber 5 = .ok (.isub, 1) := by decide +kernel
theorem dX0_readWholeNumber_6 : decode cX0_readWholeNumber 6 = .ok (.iload_n 2, 1) := by decide +kernel
theorem dX0_readWholeNumber_7 : decode cX0_readWholeNumber 7 = .ok (.if_icmp .ge 5, 3) := by decide +kernel
theorem dX0_readWholeNumber_10 : decode cX0_readWholeNumber 10 = .ok (.iconst 0, 1) := by decide +kernel
theorem dX0_readWholeNumber_11 : decode cX0_readWholeNumber 11 = .ok (.ireturn, 1) := by decide +kernel
theorem dX0_readWholeNumber_12 : decode cX0_readWholeNumber 12 = .ok (.aload_n 0, 1) := by decide +kernel
theorem dX0_readWholeNumber_13 : decode cX0_readWholeNumber 13 = .ok (.iload_n 2, 1) := by decide +kernel
theorem dX0_readWholeNumber_14 : decode cX0_readWholeNumber 14 = .ok (.invokevirtual 32, 3) := by decide +kernel
theorem dX0_readWholeNumber_17 : decode cX0_readWholeNumber 17 = .ok (.lstore 4, 2) := by decide +kernel
theorem dX0_readWholeNumber_19 : decode cX0_readWholeNumber 19 = .ok (.aload_n 1, 1) := by decide +kernel
theorem dX0_readWholeNumber_20 : decode cX0_readWholeNumber 20 = .ok (.iload_n 2, 1) := by decide +kernel
theorem dX0_readWholeNumber_21 : decode cX0_readWholeNumber 21 = .ok (.iconst 4, 1) := by decide +kernel
theorem dX0_readWholeNumber_22 : decode cX0_readWholeNumber 22 = .ok (.if_icmp .ne 10, 3) := by decide +kernel
theorem dX0_readWholeNumber_25 : decode cX0_readWholeNumber 25 = .ok (.lload 4, 2) := by decide +kernel
theorem dX0_readWholeNumber_27 : decode cX0_readWholeNumber 27 = .ok (.l2i, 1) := by decide +kernel
theorem dX0_readWholeNumber_28 : decode cX0_readWholeNumber 28 = .ok (.i2l, 1) := by decide +kernel
theorem dX0_readWholeNumber_29 : decode cX0_readWholeNumber 29 = .ok (.goto 5, 3) := by decide +kernel
theorem dX0_readWholeNumber_32 : decode cX0_readWholeNumber 32 = .ok (.lload 4, 2) := by decide +kernel
theorem dX0_readWholeNumber_34 : decode cX0_readWholeNumber 34 = .ok (.putfield 82, 3) := by decide +kernel
theorem dX0_readWholeNumber_37 : decode cX0_readWholeNumber 37 = .ok (.iconst 1, 1) := by decide +kernel
theorem dX0_readWholeNumber_38 : decode cX0_readWholeNumber 38 = .ok (.ireturn, 1) := by decide +kernel
theorem dX0_readText_0 : decode cX0_readText 0 = .ok (.iload_n 2, 1) := by decide +kernel
theorem dX0_readText_1 : decode cX0_readText 1 = .ok (.aload_n 0, 1) := by decide +kernel
theorem dX0_readText_2 : decode cX0_readText 2 = .ok (.getfield 15, 3) := by decide +kernel
theorem dX0_readText_5 : decode cX0_readText 5 = .ok (.isub, 1) := by decide +kernel
theorem dX0_readText_6 : decode cX0_readText 6 = .ok (.iconst 4, 1) := by decide +kernel
theorem dX0_readText_7 : decode cX0_readText 7 = .ok (.if_icmp .ge 5, 3) := by decide +kernel
theorem dX0_readText_10 : decode cX0_readText 10 = .ok (.iconst 0, 1) := by decide +kernel
theorem dX0_readText_11 : decode cX0_readText 11 = .ok (.ireturn, 1) := by decide +kernel
theorem dX0_readText_12 : decode cX0_readText 12 = .ok (.aload_n 0, 1) := by decide +kernel
theorem dX0_readText_13 : decode cX0_readText 13 = .ok (.iconst 4, 1) := by decide +kernel
theorem dX0_readText_14 : decode cX0_readText 14 = .ok (.invokevirtual 32, 3) := by decide +kernel
theorem dX0_readText_17 : decode cX0_readText 17 = .ok (.l2i, 1) := by decide +kernel
theorem dX0_readText_18 : decode cX0_readText 18 = .ok (.istore_n 3, 1) := by decide +kernel
theorem dX0_readText_19 : decode cX0_readText 19 = .ok (.iload_n 3, 1) := by decide +kernel
theorem dX0_readText_20 : decode cX0_readText 20 = .ok (.iconst 1, 1) := by decide +kernel
theorem dX0_readText_21 : decode cX0_readText 21 = .ok (.if_icmp .lt 13, 3) := by decide +kernel
theorem dX0_readText_24 : decode cX0_readText 24 = .ok (.iload_n 3, 1) := by decide +kernel
theorem dX0_readText_25 : decode cX0_readText 25 = .ok (.iload_n 2, 1) := by decide +kernel
theorem dX0_readText_26 : decode cX0_readText 26 = .ok (.aload_n 0, 1) := by decide +kernel
theorem dX0_readText_27 : decode cX0_readText 27 = .ok (.getfield 15, 3) := by decide +kernel
theorem dX0_readText_30 : decode cX0_readText 30 = .ok (.isub, 1) := by decide +kernel
theorem dX0_readText_31 : decode cX0_readText 31 = .ok (.if_icmp .le 5, 3) := by decide +kernel
theorem dX0_readText_34 : decode cX0_readText 34 = .ok (.iconst 0, 1) := by decide +kernel
theorem dX0_readText_35 : decode cX0_readText 35 = .ok (.ireturn, 1) := by decide +kernel
theorem dX0_readText_36 : decode cX0_readText 36 = .ok (.aload_n 0, 1) := by decide +kernel
theorem dX0_readText_37 : decode cX0_readText 37 = .ok (.getfield 15, 3) := by decide +kernel
theorem dX0_readText_40 : decode cX0_readText 40 = .ok (.iload_n 3, 1) := by decide +kernel
theorem dX0_readText_41 : decode cX0_readText 41 = .ok (.iadd, 1) := by decide +kernel
theorem dX0_readText_42 : decode cX0_readText 42 = .ok (.iconst 1, 1) := by decide +kernel
theorem dX0_readText_43 : decode cX0_readText 43 = .ok (.isub, 1) := by decide +kernel
theorem dX0_readText_44 : decode cX0_readText 44 = .ok (.istore 4, 2) := by decide +kernel
theorem dX0_readText_46 : decode cX0_readText 46 = .ok (.aload_n 0, 1) := by decide +kernel
theorem dX0_readText_47 : decode cX0_readText 47 = .ok (.getfield 9, 3) := by decide +kernel
theorem dX0_readText_50 : decode cX0_readText 50 = .ok (.iload 4, 2) := by decide +kernel
theorem dX0_readText_52 : decode cX0_readText 52 = .ok (.invokevirtual 48, 3) := by decide +kernel
theorem dX0_readText_55 : decode cX0_readText 55 = .ok (.ifCond .ne 16, 3) := by decide +kernel
theorem dX0_readText_58 : decode cX0_readText 58 = .ok (.aload_n 0, 1) := by decide +kernel
theorem dX0_readText_59 : decode cX0_readText 59 = .ok (.aload_n 0, 1) := by decide +kernel
theorem dX0_readText_60 : decode cX0_readText 60 = .ok (.getfield 15, 3) := by decide +kernel
theorem dX0_readText_63 : decode cX0_readText 63 = .ok (.iload 4, 2) := by decide +kernel
theorem dX0_readText_65 : decode cX0_readText 65 = .ok (.invokevirtual 58, 3) := by decide +kernel
theorem dX0_readText_68 : decode cX0_readText 68 = .ok (.ifCond .ne 5, 3) := by decide +kernel
theorem dX0_readText_71 : decode cX0_readText 71 = .ok (.iconst 0, 1) := by decide +kernel
theorem dX0_readText_72 : decode cX0_readText 72 = .ok (.ireturn, 1) := by decide +kernel
theorem dX0_readText_73 : decode cX0_readText 73 = .ok (.aload_n 1, 1) := by decide +kernel
theorem dX0_readText_74 : decode cX0_readText 74 = .ok (.aload_n 0, 1) := by decide +kernel
theorem dX0_readText_75 : decode cX0_readText 75 = .ok (.aload_n 0, 1) := by decide +kernel
theorem dX0_readText_76 : decode cX0_readText 76 = .ok (.getfield 15, 3) := by decide +kernel
theorem dX0_readText_79 : decode cX0_readText 79 = .ok (.iload 4, 2) := by decide +kernel
theorem dX0_readText_81 : decode cX0_readText 81 = .ok (.invokevirtual 62, 3) := by decide +kernel
theorem dX0_readText_84 : decode cX0_readText 84 = .ok (.putfield 86, 3) := by decide +kernel
theorem dX0_readText_87 : decode cX0_readText 87 = .ok (.aload_n 0, 1) := by decide +kernel
theorem dX0_readText_88 : decode cX0_readText 88 = .ok (.iload 4, 2) := by decide +kernel
theorem dX0_readText_90 : decode cX0_readText 90 = .ok (.iconst 1, 1) := by decide +kernel
theorem dX0_readText_91 : decode cX0_readText 91 = .ok (.iadd, 1) := by decide +kernel
theorem dX0_readText_92 : decode cX0_readText 92 = .ok (.putfield 15, 3) := by decide +kernel
theorem dX0_readText_95 : decode cX0_readText 95 = .ok (.iconst 1, 1) := by decide +kernel
theorem dX0_readText_96 : decode cX0_readText 96 = .ok (.ireturn, 1) := by decide +kernel
theorem dX0_readNumber_0 : decode cX0_readNumber 0 = .ok (.lconst 0, 1) := by decide +kernel
theorem dX0_readNumber_1 : decode cX0_readNumber 1 = .ok (.lstore_n 2, 1) := by decide +kernel
theorem dX0_readNumber_2 : decode cX0_readNumber 2 = .ok (.iconst 0, 1) := by decide +kernel
theorem dX0_readNumber_3 : decode cX0_readNumber 3 = .ok (.istore 4, 2) := by decide +kernel
theorem dX0_readNumber_5 : decode cX0_readNumber 5 = .ok (.iload 4, 2) := by decide +kernel
theorem dX0_readNumber_7 : decode cX0_readNumber 7 = .ok (.iload_n 1, 1) := by decide +kernel
theorem dX0_readNumber_8 : decode cX0_readNumber 8 = .ok (.if_icmp .ge 40, 3) := by decide +kernel
theorem dX0_readNumber_11 : decode cX0_readNumber 11 = .ok (.lload_n 2, 1) := by decide +kernel
theorem dX0_readNumber_12 : decode cX0_readNumber 12 = .ok (.aload_n 0, 1) := by decide +kernel
theorem dX0_readNumber_13 : decode cX0_readNumber 13 = .ok (.getfield 9, 3) := by decide +kernel
theorem dX0_readNumber_16 : decode cX0_readNumber 16 = .ok (.aload_n 0, 1) := by decide +kernel
theorem dX0_readNumber_17 : decode cX0_readNumber 17 = .ok (.getfield 15, 3) := by decide +kernel
theorem dX0_readNumber_20 : decode cX0_readNumber 20 = .ok (.invokevirtual 48, 3) := by decide +kernel
theorem dX0_readNumber_23 : decode cX0_readNumber 23 = .ok (.i2l, 1) := by decide +kernel
theorem dX0_readNumber_24 : decode cX0_readNumber 24 = .ok (.bipush 8, 2) := by decide +kernel
theorem dX0_readNumber_26 : decode cX0_readNumber 26 = .ok (.iload 4, 2) := by decide +kernel
theorem dX0_readNumber_28 : decode cX0_readNumber 28 = .ok (.imul, 1) := by decide +kernel
theorem dX0_readNumber_29 : decode cX0_readNumber 29 = .ok (.lshl, 1) := by decide +kernel
theorem dX0_readNumber_30 : decode cX0_readNumber 30 = .ok (.lor, 1) := by decide +kernel
theorem dX0_readNumber_31 : decode cX0_readNumber 31 = .ok (.lstore_n 2, 1) := by decide +kernel
theorem dX0_readNumber_32 : decode cX0_readNumber 32 = .ok (.aload_n 0, 1) := by decide +kernel
theorem dX0_readNumber_33 : decode cX0_readNumber 33 = .ok (.dup, 1) := by decide +kernel
theorem dX0_readNumber_34 : decode cX0_readNumber 34 = .ok (.getfield 15, 3) := by decide +kernel
theorem dX0_readNumber_37 : decode cX0_readNumber 37 = .ok (.iconst 1, 1) := by decide +kernel
theorem dX0_readNumber_38 : decode cX0_readNumber 38 = .ok (.iadd, 1) := by decide +kernel
theorem dX0_readNumber_39 : decode cX0_readNumber 39 = .ok (.putfield 15, 3) := by decide +kernel
theorem dX0_readNumber_42 : decode cX0_readNumber 42 = .ok (.iinc 4 1, 3) := by decide +kernel
theorem dX0_readNumber_45 : decode cX0_readNumber 45 = .ok (.goto (-40), 3) := by decide +kernel
theorem dX0_readNumber_48 : decode cX0_readNumber 48 = .ok (.lload_n 2, 1) := by decide +kernel
theorem dX0_readNumber_49 : decode cX0_readNumber 49 = .ok (.lreturn, 1) := by decide +kernel
theorem dX0_mayFollow_0 : decode cX0_mayFollow 0 = .ok (.aload_n 1, 1) := by decide +kernel
theorem dX0_mayFollow_1 : decode cX0_mayFollow 1 = .ok (.getfield 69, 3) := by decide +kernel
theorem dX0_mayFollow_4 : decode cX0_mayFollow 4 = .ok (.iconst 4, 1) := by decide +kernel
theorem dX0_mayFollow_5 : decode cX0_mayFollow 5 = .ok (.if_icmp .ne 16, 3) := by decide +kernel
theorem dX0_mayFollow_8 : decode cX0_mayFollow 8 = .ok (.aload_n 0, 1) := by decide +kernel
theorem dX0_mayFollow_9 : decode cX0_mayFollow 9 = .ok (.aload_n 2, 1) := by decide +kernel
theorem dX0_mayFollow_10 : decode cX0_mayFollow 10 = .ok (.getfield 90, 3) := by decide +kernel
theorem dX0_mayFollow_13 : decode cX0_mayFollow 13 = .ok (.aload_n 1, 1) := by decide +kernel
theorem dX0_mayFollow_14 : decode cX0_mayFollow 14 = .ok (.getfield 93, 3) := by decide +kernel
theorem dX0_mayFollow_17 : decode cX0_mayFollow 17 = .ok (.invokevirtual 96, 3) := by decide +kernel
theorem dX0_mayFollow_20 : decode cX0_mayFollow 20 = .ok (.ireturn, 1) := by decide +kernel
theorem dX0_mayFollow_21 : decode cX0_mayFollow 21 = .ok (.aload_n 1, 1) := by decide +kernel
theorem dX0_mayFollow_22 : decode cX0_mayFollow 22 = .ok (.aload_n 2, 1) := by decide +kernel
theorem dX0_mayFollow_23 : decode cX0_mayFollow 23 = .ok (.getfield 90, 3) := by decide +kernel
theorem dX0_mayFollow_26 : decode cX0_mayFollow 26 = .ok (.invokevirtual 100, 3) := by decide +kernel
theorem dX0_mayFollow_29 : decode cX0_mayFollow 29 = .ok (.ifnonnull 7, 3) := by decide +kernel
theorem dX0_mayFollow_32 : decode cX0_mayFollow 32 = .ok (.iconst 1, 1) := by decide +kernel
theorem dX0_mayFollow_33 : decode cX0_mayFollow 33 = .ok (.goto 4, 3) := by decide +kernel
theorem dX0_mayFollow_36 : decode cX0_mayFollow 36 = .ok (.iconst 0, 1) := by decide +kernel
theorem dX0_mayFollow_37 : decode cX0_mayFollow 37 = .ok (.ireturn, 1) := by decide +kernel
theorem dX0_isDecimal_0 : decode cX0_isDecimal 0 = .ok (.iload_n 2, 1) := by decide +kernel
theorem dX0_isDecimal_1 : decode cX0_isDecimal 1 = .ok (.istore_n 3, 1) := by decide +kernel
theorem dX0_isDecimal_2 : decode cX0_isDecimal 2 = .ok (.aload_n 1, 1) := by decide +kernel
theorem dX0_isDecimal_3 : decode cX0_isDecimal 3 = .ok (.invokevirtual 104, 3) := by decide +kernel
theorem dX0_isDecimal_6 : decode cX0_isDecimal 6 = .ok (.iconst 1, 1) := by decide +kernel
theorem dX0_isDecimal_7 : decode cX0_isDecimal 7 = .ok (.isub, 1) := by decide +kernel
theorem dX0_isDecimal_8 : decode cX0_isDecimal 8 = .ok (.istore 4, 2) := by decide +kernel
theorem dX0_isDecimal_10 : decode cX0_isDecimal 10 = .ok (.iload 4, 2) := by decide +kernel
theorem dX0_isDecimal_12 : decode cX0_isDecimal 12 = .ok (.ifCond .lt 49, 3) := by decide +kernel
theorem dX0_isDecimal_15 : decode cX0_isDecimal 15 = .ok (.aload_n 1, 1) := by decide +kernel
theorem dX0_isDecimal_16 : decode cX0_isDecimal 16 = .ok (.iload 4, 2) := by decide +kernel
theorem dX0_isDecimal_18 : decode cX0_isDecimal 18 = .ok (.invokevirtual 110, 3) := by decide +kernel
theorem dX0_isDecimal_21 : decode cX0_isDecimal 21 = .ok (.bipush 48, 2) := by decide +kernel
theorem dX0_isDecimal_23 : decode cX0_isDecimal 23 = .ok (.iload_n 3, 1) := by decide +kernel
theorem dX0_isDecimal_24 : decode cX0_isDecimal 24 = .ok (.bipush 10, 2) := by decide +kernel
theorem dX0_isDecimal_26 : decode cX0_isDecimal 26 = .ok (.irem, 1) := by decide +kernel
theorem dX0_isDecimal_27 : decode cX0_isDecimal 27 = .ok (.iadd, 1) := by decide +kernel
theorem dX0_isDecimal_28 : decode cX0_isDecimal 28 = .ok (.if_icmp .eq 5, 3) := by decide +kernel
theorem dX0_isDecimal_31 : decode cX0_isDecimal 31 = .ok (.iconst 0, 1) := by decide +kernel
theorem dX0_isDecimal_32 : decode cX0_isDecimal 32 = .ok (.ireturn, 1) := by decide +kernel
theorem dX0_isDecimal_33 : decode cX0_isDecimal 33 = .ok (.iload_n 3, 1) := by decide +kernel
theorem dX0_isDecimal_34 : decode cX0_isDecimal 34 = .ok (.bipush 10, 2) := by decide +kernel
theorem dX0_isDecimal_36 : decode cX0_isDecimal 36 = .ok (.if_icmp .ge 14, 3) := by decide +kernel
theorem dX0_isDecimal_39 : decode cX0_isDecimal 39 = .ok (.iload 4, 2) := by decide +kernel
theorem dX0_isDecimal_41 : decode cX0_isDecimal 41 = .ok (.ifCond .ne 7, 3) := by decide +kernel
theorem dX0_isDecimal_44 : decode cX0_isDecimal 44 = .ok (.iconst 1, 1) := by decide +kernel
theorem dX0_isDecimal_45 : decode cX0_isDecimal 45 = .ok (.goto 4, 3) := by decide +kernel
theorem dX0_isDecimal_48 : decode cX0_isDecimal 48 = .ok (.iconst 0, 1) := by decide +kernel
theorem dX0_isDecimal_49 : decode cX0_isDecimal 49 = .ok (.ireturn, 1) := by decide +kernel
theorem dX0_isDecimal_50 : decode cX0_isDecimal 50 = .ok (.iload_n 3, 1) := by decide +kernel
theorem dX0_isDecimal_51 : decode cX0_isDecimal 51 = .ok (.bipush 10, 2) := by decide +kernel
theorem dX0_isDecimal_53 : decode cX0_isDecimal 53 = .ok (.idiv, 1) := by decide +kernel
theorem dX0_isDecimal_54 : decode cX0_isDecimal 54 = .ok (.istore_n 3, 1) := by decide +kernel
theorem dX0_isDecimal_55 : decode cX0_isDecimal 55 = .ok (.iinc 4 (-1), 3) := by decide +kernel
theorem dX0_isDecimal_58 : decode cX0_isDecimal 58 = .ok (.goto (-48), 3) := by decide +kernel
theorem dX0_isDecimal_61 : decode cX0_isDecimal 61 = .ok (.iconst 0, 1) := by decide +kernel
theorem dX0_isDecimal_62 : decode cX0_isDecimal 62 = .ok (.ireturn, 1) := by decide +kernel
theorem dX0_zeroFrom_0 : decode cX0_zeroFrom 0 = .ok (.iload_n 1, 1) := by decide +kernel
theorem dX0_zeroFrom_1 : decode cX0_zeroFrom 1 = .ok (.istore_n 3, 1) := by decide +kernel
theorem dX0_zeroFrom_2 : decode cX0_zeroFrom 2 = .ok (.iload_n 3, 1) := by decide +kernel
theorem dX0_zeroFrom_3 : decode cX0_zeroFrom 3 = .ok (.iload_n 2, 1) := by decide +kernel
theorem dX0_zeroFrom_4 : decode cX0_zeroFrom 4 = .ok (.if_icmp .ge 22, 3) := by decide +kernel
theorem dX0_zeroFrom_7 : decode cX0_zeroFrom 7 = .ok (.aload_n 0, 1) := by decide +kernel
theorem dX0_zeroFrom_8 : decode cX0_zeroFrom 8 = .ok (.getfield 9, 3) := by decide +kernel
theorem dX0_zeroFrom_11 : decode cX0_zeroFrom 11 = .ok (.iload_n 3, 1) := by decide +kernel
theorem dX0_zeroFrom_12 : decode cX0_zeroFrom 12 = .ok (.invokevirtual 48, 3) := by decide +kernel
theorem dX0_zeroFrom_15 : decode cX0_zeroFrom 15 = .ok (.ifCond .ne 5, 3) := by decide +kernel
theorem dX0_zeroFrom_18 : decode cX0_zeroFrom 18 = .ok (.iload_n 3, 1) := by decide +kernel
theorem dX0_zeroFrom_19 : decode cX0_zeroFrom 19 = .ok (.ireturn, 1) := by decide +kernel
theorem dX0_zeroFrom_20 : decode cX0_zeroFrom 20 = .ok (.iinc 3 1, 3) := by decide +kernel
theorem dX0_zeroFrom_23 : decode cX0_zeroFrom 23 = .ok (.goto (-21), 3) := by decide +kernel
theorem dX0_zeroFrom_26 : decode cX0_zeroFrom 26 = .ok (.iconst (-1), 1) := by decide +kernel
theorem dX0_zeroFrom_27 : decode cX0_zeroFrom 27 = .ok (.ireturn, 1) := by decide +kernel
theorem dX0_textOf_0 : decode cX0_textOf 0 = .ok (.iload_n 1, 1) := by decide +kernel
theorem dX0_textOf_1 : decode cX0_textOf 1 = .ok (.iload_n 2, 1) := by decide +kernel
theorem dX0_textOf_2 : decode cX0_textOf 2 = .ok (.if_icmp .lt 6, 3) := by decide +kernel
theorem dX0_textOf_5 : decode cX0_textOf 5 = .ok (.ldc 23, 2) := by decide +kernel
theorem dX0_textOf_7 : decode cX0_textOf 7 = .ok (.areturn, 1) := by decide +kernel
theorem dX0_textOf_8 : decode cX0_textOf 8 = .ok (.iload_n 2, 1) := by decide +kernel
theorem dX0_textOf_9 : decode cX0_textOf 9 = .ok (.iload_n 1, 1) := by decide +kernel
theorem dX0_textOf_10 : decode cX0_textOf 10 = .ok (.isub, 1) := by decide +kernel
theorem dX0_textOf_11 : decode cX0_textOf 11 = .ok (.newarray .char, 2) := by decide +kernel
theorem dX0_textOf_13 : decode cX0_textOf 13 = .ok (.astore_n 3, 1) := by decide +kernel
theorem dX0_textOf_14 : decode cX0_textOf 14 = .ok (.iconst 0, 1) := by decide +kernel
theorem dX0_textOf_15 : decode cX0_textOf 15 = .ok (.istore 4, 2) := by decide +kernel
theorem dX0_textOf_17 : decode cX0_textOf 17 = .ok (.iload 4, 2) := by decide +kernel
theorem dX0_textOf_19 : decode cX0_textOf 19 = .ok (.aload_n 3, 1) := by decide +kernel
theorem dX0_textOf_20 : decode cX0_textOf 20 = .ok (.arraylength, 1) := by decide +kernel
theorem dX0_textOf_21 : decode cX0_textOf 21 = .ok (.if_icmp .ge 25, 3) := by decide +kernel
theorem dX0_textOf_24 : decode cX0_textOf 24 = .ok (.aload_n 3, 1) := by decide +kernel
theorem dX0_textOf_25 : decode cX0_textOf 25 = .ok (.iload 4, 2) := by decide +kernel
theorem dX0_textOf_27 : decode cX0_textOf 27 = .ok (.aload_n 0, 1) := by decide +kernel
theorem dX0_textOf_28 : decode cX0_textOf 28 = .ok (.getfield 9, 3) := by decide +kernel
theorem dX0_textOf_31 : decode cX0_textOf 31 = .ok (.iload_n 1, 1) := by decide +kernel
theorem dX0_textOf_32 : decode cX0_textOf 32 = .ok (.iload 4, 2) := by decide +kernel
theorem dX0_textOf_34 : decode cX0_textOf 34 = .ok (.iadd, 1) := by decide +kernel
theorem dX0_textOf_35 : decode cX0_textOf 35 = .ok (.invokevirtual 48, 3) := by decide +kernel
theorem dX0_textOf_38 : decode cX0_textOf 38 = .ok (.i2c, 1) := by decide +kernel
theorem dX0_textOf_39 : decode cX0_textOf 39 = .ok (.castore, 1) := by decide +kernel
theorem dX0_textOf_40 : decode cX0_textOf 40 = .ok (.iinc 4 1, 3) := by decide +kernel
theorem dX0_textOf_43 : decode cX0_textOf 43 = .ok (.goto (-26), 3) := by decide +kernel
theorem dX0_textOf_46 : decode cX0_textOf 46 = .ok (.new 105, 3) := by decide +kernel
theorem dX0_textOf_49 : decode cX0_textOf 49 = .ok (.dup, 1) := by decide +kernel
theorem dX0_textOf_50 : decode cX0_textOf 50 = .ok (.aload_n 3, 1) := by decide +kernel
theorem dX0_textOf_51 : decode cX0_textOf 51 = .ok (.invokespecial 114, 3) := by decide +kernel
theorem dX0_textOf_54 : decode cX0_textOf 54 = .ok (.areturn, 1) := by decide +kernel
theorem dX0_isRightUtf8_0 : decode cX0_isRightUtf8 0 = .ok (.iconst 0, 1) := by decide +kernel
theorem dX0_isRightUtf8_1 : decode cX0_isRightUtf8 1 = .ok (.istore_n 3, 1) := by decide +kernel
theorem dX0_isRightUtf8_2 : decode cX0_isRightUtf8 2 = .ok (.iconst 0, 1) := by decide +kernel
theorem dX0_isRightUtf8_3 : decode cX0_isRightUtf8 3 = .ok (.istore 4, 2) := by decide +kernel
theorem dX0_isRightUtf8_5 : decode cX0_isRightUtf8 5 = .ok (.iconst 0, 1) := by decide +kernel
theorem dX0_isRightUtf8_6 : decode cX0_isRightUtf8 6 = .ok (.istore 5, 2) := by decide +kernel
theorem dX0_isRightUtf8_8 : decode cX0_isRightUtf8 8 = .ok (.iload_n 1, 1) := by decide +kernel
theorem dX0_isRightUtf8_9 : decode cX0_isRightUtf8 9 = .ok (.istore 6, 2) := by decide +kernel
theorem dX0_isRightUtf8_11 : decode cX0_isRightUtf8 11 = .ok (.iload 6, 2) := by decide +kernel
theorem dX0_isRightUtf8_13 : decode cX0_isRightUtf8 13 = .ok (.iload_n 2, 1) := by decide +kernel
theorem dX0_isRightUtf8_14 : decode cX0_isRightUtf8 14 = .ok (.if_icmp .ge 108, 3) := by decide +kernel
theorem dX0_isRightUtf8_17 : decode cX0_isRightUtf8 17 = .ok (.aload_n 0, 1) := by decide +kernel
theorem dX0_isRightUtf8_18 : decode cX0_isRightUtf8 18 = .ok (.getfield 9, 3) := by decide +kernel
theorem dX0_isRightUtf8_21 : decode cX0_isRightUtf8 21 = .ok (.iload 6, 2) := by decide +kernel
theorem dX0_isRightUtf8_23 : decode cX0_isRightUtf8 23 = .ok (.invokevirtual 48, 3) := by decide +kernel
theorem dX0_isRightUtf8_26 : decode cX0_isRightUtf8 26 = .ok (.istore 7, 2) := by decide +kernel
theorem dX0_isRightUtf8_28 : decode cX0_isRightUtf8 28 = .ok (.iload 5, 2) := by decide +kernel
theorem dX0_isRightUtf8_30 : decode cX0_isRightUtf8 30 = .ok (.ifCond .ne 31, 3) := by decide +kernel
theorem dX0_isRightUtf8_33 : decode cX0_isRightUtf8 33 = .ok (.aload_n 0, 1) := by decide +kernel
theorem dX0_isRightUtf8_34 : decode cX0_isRightUtf8 34 = .ok (.iload 7, 2) := by decide +kernel
theorem dX0_isRightUtf8_36 : decode cX0_isRightUtf8 36 = .ok (.invokevirtual 117, 3) := by decide +kernel
theorem dX0_isRightUtf8_39 : decode cX0_isRightUtf8 39 = .ok (.istore 5, 2) := by decide +kernel
theorem dX0_isRightUtf8_41 : decode cX0_isRightUtf8 41 = .ok (.aload_n 0, 1) := by decide +kernel
theorem dX0_isRightUtf8_42 : decode cX0_isRightUtf8 42 = .ok (.iload 7, 2) := by decide +kernel
theorem dX0_isRightUtf8_44 : decode cX0_isRightUtf8 44 = .ok (.iload 5, 2) := by decide +kernel
theorem dX0_isRightUtf8_46 : decode cX0_isRightUtf8 46 = .ok (.invokevirtual 120, 3) := by decide +kernel
theorem dX0_isRightUtf8_49 : decode cX0_isRightUtf8 49 = .ok (.istore_n 3, 1) := by decide +kernel
theorem dX0_isRightUtf8_50 : decode cX0_isRightUtf8 50 = .ok (.aload_n 0, 1) := by decide +kernel
theorem dX0_isRightUtf8_51 : decode cX0_isRightUtf8 51 = .ok (.iload 5, 2) := by decide +kernel
theorem dX0_isRightUtf8_53 : decode cX0_isRightUtf8 53 = .ok (.invokevirtual 123, 3) := by decide +kernel
theorem dX0_isRightUtf8_56 : decode cX0_isRightUtf8 56 = .ok (.istore 4, 2) := by decide +kernel
theorem dX0_isRightUtf8_58 : decode cX0_isRightUtf8 58 = .ok (.goto 36, 3) := by decide +kernel
theorem dX0_isRightUtf8_61 : decode cX0_isRightUtf8 61 = .ok (.iload 7, 2) := by decide +kernel
theorem dX0_isRightUtf8_63 : decode cX0_isRightUtf8 63 = .ok (.sipush 192, 3) := by decide +kernel
theorem dX0_isRightUtf8_66 : decode cX0_isRightUtf8 66 = .ok (.iand, 1) := by decide +kernel
theorem dX0_isRightUtf8_67 : decode cX0_isRightUtf8 67 = .ok (.sipush 128, 3) := by decide +kernel
theorem dX0_isRightUtf8_70 : decode cX0_isRightUtf8 70 = .ok (.if_icmp .ne 10, 3) := by decide +kernel
theorem dX0_isRightUtf8_73 : decode cX0_isRightUtf8 73 = .ok (.iload 5, 2) := by decide +kernel
theorem dX0_isRightUtf8_75 : decode cX0_isRightUtf8 75 = .ok (.iconst 1, 1) := by decide +kernel
theorem dX0_isRightUtf8_76 : decode cX0_isRightUtf8 76 = .ok (.isub, 1) := by decide +kernel
theorem dX0_isRightUtf8_77 : decode cX0_isRightUtf8 77 = .ok (.goto 4, 3) := by decide +kernel
theorem dX0_isRightUtf8_80 : decode cX0_isRightUtf8 80 = .ok (.iconst (-1), 1) := by decide +kernel
theorem dX0_isRightUtf8_81 : decode cX0_isRightUtf8 81 = .ok (.istore 5, 2) := by decide +kernel
theorem dX0_isRightUtf8_83 : decode cX0_isRightUtf8 83 = .ok (.iload_n 3, 1) := by decide +kernel
theorem dX0_isRightUtf8_84 : decode cX0_isRightUtf8 84 = .ok (.bipush 6, 2) := by decide +kernel
theorem dX0_isRightUtf8_86 : decode cX0_isRightUtf8 86 = .ok (.ishl, 1) := by decide +kernel
theorem dX0_isRightUtf8_87 : decode cX0_isRightUtf8 87 = .ok (.iload 7, 2) := by decide +kernel
theorem dX0_isRightUtf8_89 : decode cX0_isRightUtf8 89 = .ok (.bipush 63, 2) := by decide +kernel
theorem dX0_isRightUtf8_91 : decode cX0_isRightUtf8 91 = .ok (.iand, 1) := by decide +kernel
theorem dX0_isRightUtf8_92 : decode cX0_isRightUtf8 92 = .ok (.ior, 1) := by decide +kernel
theorem dX0_isRightUtf8_93 : decode cX0_isRightUtf8 93 = .ok (.istore_n 3, 1) := by decide +kernel
theorem dX0_isRightUtf8_94 : decode cX0_isRightUtf8 94 = .ok (.iload 5, 2) := by decide +kernel
theorem dX0_isRightUtf8_96 : decode cX0_isRightUtf8 96 = .ok (.ifCond .lt 18, 3) := by decide +kernel
theorem dX0_isRightUtf8_99 : decode cX0_isRightUtf8 99 = .ok (.iload 5, 2) := by decide +kernel
theorem dX0_isRightUtf8_101 : decode cX0_isRightUtf8 101 = .ok (.ifCond .ne 15, 3) := by decide +kernel
theorem dX0_isRightUtf8_104 : decode cX0_isRightUtf8 104 = .ok (.aload_n 0, 1) := by decide +kernel
theorem dX0_isRightUtf8_105 : decode cX0_isRightUtf8 105 = .ok (.iload_n 3, 1) := by decide +kernel
theorem dX0_isRightUtf8_106 : decode cX0_isRightUtf8 106 = .ok (.iload 4, 2) := by decide +kernel
theorem dX0_isRightUtf8_108 : decode cX0_isRightUtf8 108 = .ok (.invokevirtual 126, 3) := by decide +kernel
theorem dX0_isRightUtf8_111 : decode cX0_isRightUtf8 111 = .ok (.ifCond .ne 5, 3) := by decide +kernel
theorem dX0_isRightUtf8_114 : decode cX0_isRightUtf8 114 = .ok (.iconst 0, 1) := by decide +kernel
theorem dX0_isRightUtf8_115 : decode cX0_isRightUtf8 115 = .ok (.ireturn, 1) := by decide +kernel
theorem dX0_isRightUtf8_116 : decode cX0_isRightUtf8 116 = .ok (.iinc 6 1, 3) := by decide +kernel
theorem dX0_isRightUtf8_119 : decode cX0_isRightUtf8 119 = .ok (.goto (-108), 3) := by decide +kernel
theorem dX0_isRightUtf8_122 : decode cX0_isRightUtf8 122 = .ok (.iload 5, 2) := by decide +kernel
theorem dX0_isRightUtf8_124 : decode cX0_isRightUtf8 124 = .ok (.ifCond .ne 7, 3) := by decide +kernel
theorem dX0_isRightUtf8_127 : decode cX0_isRightUtf8 127 = .ok (.iconst 1, 1) := by decide +kernel
theorem dX0_isRightUtf8_128 : decode cX0_isRightUtf8 128 = .ok (.goto 4, 3) := by decide +kernel
theorem dX0_isRightUtf8_131 : decode cX0_isRightUtf8 131 = .ok (.iconst 0, 1) := by decide +kernel
theorem dX0_isRightUtf8_132 : decode cX0_isRightUtf8 132 = .ok (.ireturn, 1) := by decide +kernel
theorem dX0_followers_0 : decode cX0_followers 0 = .ok (.iload_n 1, 1) := by decide +kernel
theorem dX0_followers_1 : decode cX0_followers 1 = .ok (.sipush 128, 3) := by decide +kernel
theorem dX0_followers_4 : decode cX0_followers 4 = .ok (.if_icmp .ge 5, 3) := by decide +kernel
theorem dX0_followers_7 : decode cX0_followers 7 = .ok (.iconst 0, 1) := by decide +kernel
theorem dX0_followers_8 : decode cX0_followers 8 = .ok (.ireturn, 1) := by decide +kernel
theorem dX0_followers_9 : decode cX0_followers 9 = .ok (.iload_n 1, 1) := by decide +kernel
theorem dX0_followers_10 : decode cX0_followers 10 = .ok (.sipush 192, 3) := by decide +kernel
theorem dX0_followers_13 : decode cX0_followers 13 = .ok (.if_icmp .lt 10, 3) := by decide +kernel
theorem dX0_followers_16 : decode cX0_followers 16 = .ok (.iload_n 1, 1) := by decide +kernel
theorem dX0_followers_17 : decode cX0_followers 17 = .ok (.sipush 247, 3) := by decide +kernel
theorem dX0_followers_20 : decode cX0_followers 20 = .ok (.if_icmp .le 5, 3) := by decide +kernel
theorem dX0_followers_23 : decode cX0_followers 23 = .ok (.iconst (-1), 1) := by decide +kernel
theorem dX0_followers_24 : decode cX0_followers 24 = .ok (.ireturn, 1) := by decide +kernel
theorem dX0_followers_25 : decode cX0_followers 25 = .ok (.iload_n 1, 1) := by decide +kernel
theorem dX0_followers_26 : decode cX0_followers 26 = .ok (.sipush 224, 3) := by decide +kernel
theorem dX0_followers_29 : decode cX0_followers 29 = .ok (.if_icmp .ge 7, 3) := by decide +kernel
theorem dX0_followers_32 : decode cX0_followers 32 = .ok (.iconst 1, 1) := by decide +kernel
theorem dX0_followers_33 : decode cX0_followers 33 = .ok (.goto 15, 3) := by decide +kernel
theorem dX0_followers_36 : decode cX0_followers 36 = .ok (.iload_n 1, 1) := by decide +kernel
theorem dX0_followers_37 : decode cX0_followers 37 = .ok (.sipush 240, 3) := by decide +kernel
theorem dX0_followers_40 : decode cX0_followers 40 = .ok (.if_icmp .ge 7, 3) := by decide +kernel
theorem dX0_followers_43 : decode cX0_followers 43 = .ok (.iconst 2, 1) := by decide +kernel
theorem dX0_followers_44 : decode cX0_followers 44 = .ok (.goto 4, 3) := by decide +kernel
theorem dX0_followers_47 : decode cX0_followers 47 = .ok (.iconst 3, 1) := by decide +kernel
theorem dX0_followers_48 : decode cX0_followers 48 = .ok (.ireturn, 1) := by decide +kernel
theorem dX0_leadingBits_0 : decode cX0_leadingBits 0 = .ok (.iload_n 2, 1) := by decide +kernel
theorem dX0_leadingBits_1 : decode cX0_leadingBits 1 = .ok (.ifCond .gt 7, 3) := by decide +kernel
theorem dX0_leadingBits_4 : decode cX0_leadingBits 4 = .ok (.iload_n 1, 1) := by decide +kernel
theorem dX0_leadingBits_5 : decode cX0_leadingBits 5 = .ok (.goto 9, 3) := by decide +kernel
theorem dX0_leadingBits_8 : decode cX0_leadingBits 8 = .ok (.iload_n 1, 1) := by decide +kernel
theorem dX0_leadingBits_9 : decode cX0_leadingBits 9 = .ok (.bipush 63, 2) := by decide +kernel
theorem dX0_leadingBits_11 : decode cX0_leadingBits 11 = .ok (.iload_n 2, 1) := by decide +kernel
theorem dX0_leadingBits_12 : decode cX0_leadingBits 12 = .ok (.ishr, 1) := by decide +kernel
theorem dX0_leadingBits_13 : decode cX0_leadingBits 13 = .ok (.iand, 1) := by decide +kernel
theorem dX0_leadingBits_14 : decode cX0_leadingBits 14 = .ok (.ireturn, 1) := by decide +kernel
theorem dX0_leastCode_0 : decode cX0_leastCode 0 = .ok (.iload_n 1, 1) := by decide +kernel
theorem dX0_leastCode_1 : decode cX0_leastCode 1 = .ok (.tableswitch 38 1 3 #[27, 31, 35], 27) := by decide +kernel
theorem dX0_leastCode_28 : decode cX0_leastCode 28 = .ok (.sipush 128, 3) := by decide +kernel
theorem dX0_leastCode_31 : decode cX0_leastCode 31 = .ok (.ireturn, 1) := by decide +kernel
theorem dX0_leastCode_32 : decode cX0_leastCode 32 = .ok (.sipush 2048, 3) := by decide +kernel
theorem dX0_leastCode_35 : decode cX0_leastCode 35 = .ok (.ireturn, 1) := by decide +kernel
theorem dX0_leastCode_36 : decode cX0_leastCode 36 = .ok (.ldc 129, 2) := by decide +kernel
theorem dX0_leastCode_38 : decode cX0_leastCode 38 = .ok (.ireturn, 1) := by decide +kernel
theorem dX0_leastCode_39 : decode cX0_leastCode 39 = .ok (.iconst 0, 1) := by decide +kernel
theorem dX0_leastCode_40 : decode cX0_leastCode 40 = .ok (.ireturn, 1) := by decide +kernel
theorem dX0_isCharacter_0 : decode cX0_isCharacter 0 = .ok (.iload_n 1, 1) := by decide +kernel
theorem dX0_isCharacter_1 : decode cX0_isCharacter 1 = .ok (.ldc 130, 2) := by decide +kernel
theorem dX0_isCharacter_3 : decode cX0_isCharacter 3 = .ok (.if_icmp .lt 13, 3) := by decide +kernel
theorem dX0_isCharacter_6 : decode cX0_isCharacter 6 = .ok (.iload_n 1, 1) := by decide +kernel
theorem dX0_isCharacter_7 : decode cX0_isCharacter 7 = .ok (.ldc 131, 2) := by decide +kernel
theorem dX0_isCharacter_9 : decode cX0_isCharacter 9 = .ok (.if_icmp .gt 7, 3) := by decide +kernel
theorem dX0_isCharacter_12 : decode cX0_isCharacter 12 = .ok (.iconst 1, 1) := by decide +kernel
theorem dX0_isCharacter_13 : decode cX0_isCharacter 13 = .ok (.goto 4, 3) := by decide +kernel
theorem dX0_isCharacter_16 : decode cX0_isCharacter 16 = .ok (.iconst 0, 1) := by decide +kernel
theorem dX0_isCharacter_17 : decode cX0_isCharacter 17 = .ok (.istore_n 3, 1) := by decide +kernel
theorem dX0_isCharacter_18 : decode cX0_isCharacter 18 = .ok (.iload_n 1, 1) := by decide +kernel
theorem dX0_isCharacter_19 : decode cX0_isCharacter 19 = .ok (.iload_n 2, 1) := by decide +kernel
theorem dX0_isCharacter_20 : decode cX0_isCharacter 20 = .ok (.if_icmp .lt 17, 3) := by decide +kernel
theorem dX0_isCharacter_23 : decode cX0_isCharacter 23 = .ok (.iload_n 1, 1) := by decide +kernel
theorem dX0_isCharacter_24 : decode cX0_isCharacter 24 = .ok (.ldc 132, 2) := by decide +kernel
theorem dX0_isCharacter_26 : decode cX0_isCharacter 26 = .ok (.if_icmp .gt 11, 3) := by decide +kernel
theorem dX0_isCharacter_29 : decode cX0_isCharacter 29 = .ok (.iload_n 3, 1) := by decide +kernel
theorem dX0_isCharacter_30 : decode cX0_isCharacter 30 = .ok (.ifCond .ne 7, 3) := by decide +kernel
theorem dX0_isCharacter_33 : decode cX0_isCharacter 33 = .ok (.iconst 1, 1) := by decide +kernel
theorem dX0_isCharacter_34 : decode cX0_isCharacter 34 = .ok (.goto 4, 3) := by decide +kernel
theorem dX0_isCharacter_37 : decode cX0_isCharacter 37 = .ok (.iconst 0, 1) := by decide +kernel
theorem dX0_isCharacter_38 : decode cX0_isCharacter 38 = .ok (.ireturn, 1) := by decide +kernel
theorem dX1_init_0 : decode cX1_init 0 = .ok (.aload_n 0, 1) := by decide +kernel
theorem dX1_init_1 : decode cX1_init 1 = .ok (.invokespecial 1, 3) := by decide +kernel
theorem dX1_init_4 : decode cX1_init 4 = .ok (.aload_n 0, 1) := by decide +kernel
theorem dX1_init_5 : decode cX1_init 5 = .ok (.new 7, 3) := by decide +kernel
theorem dX1_init_8 : decode cX1_init 8 = .ok (.dup, 1) := by decide +kernel
theorem dX1_init_9 : decode cX1_init 9 = .ok (.iconst 1, 1) := by decide +kernel
theorem dX1_init_10 : decode cX1_init 10 = .ok (.iconst 0, 1) := by decide +kernel
theorem dX1_init_11 : decode cX1_init 11 = .ok (.aload_n 1, 1) := by decide +kernel
theorem dX1_init_12 : decode cX1_init 12 = .ok (.aconst_null, 1) := by decide +kernel
theorem dX1_init_13 : decode cX1_init 13 = .ok (.invokespecial 9, 3) := by decide +kernel
theorem dX1_init_16 : decode cX1_init 16 = .ok (.putfield 12, 3) := by decide +kernel
theorem dX1_init_19 : decode cX1_init 19 = .ok (.aload_n 0, 1) := by decide +kernel
theorem dX1_init_20 : decode cX1_init 20 = .ok (.iconst 4, 1) := by decide +kernel
theorem dX1_init_21 : decode cX1_init 21 = .ok (.newarray .int, 2) := by decide +kernel
theorem dX1_init_23 : decode cX1_init 23 = .ok (.dup, 1) := by decide +kernel
theorem dX1_init_24 : decode cX1_init 24 = .ok (.iconst 0, 1) := by decide +kernel
theorem dX1_init_25 : decode cX1_init 25 = .ok (.aload_n 1, 1) := by decide +kernel
theorem dX1_init_26 : decode cX1_init 26 = .ok (.getfield 18, 3) := by decide +kernel
theorem dX1_init_29 : decode cX1_init 29 = .ok (.iastore, 1) := by decide +kernel
theorem dX1_init_30 : decode cX1_init 30 = .ok (.dup, 1) := by decide +kernel
theorem dX1_init_31 : decode cX1_init 31 = .ok (.iconst 1, 1) := by decide +kernel
theorem dX1_init_32 : decode cX1_init 32 = .ok (.iconst 0, 1) := by decide +kernel
theorem dX1_init_33 : decode cX1_init 33 = .ok (.iastore, 1) := by decide +kernel
theorem dX1_init_34 : decode cX1_init 34 = .ok (.dup, 1) := by decide +kernel
theorem dX1_init_35 : decode cX1_init 35 = .ok (.iconst 2, 1) := by decide +kernel
theorem dX1_init_36 : decode cX1_init 36 = .ok (.iconst 0, 1) := by decide +kernel
theorem dX1_init_37 : decode cX1_init 37 = .ok (.iastore, 1) := by decide +kernel
theorem dX1_init_38 : decode cX1_init 38 = .ok (.dup, 1) := by decide +kernel
theorem dX1_init_39 : decode cX1_init 39 = .ok (.iconst 3, 1) := by decide +kernel
theorem dX1_init_40 : decode cX1_init 40 = .ok (.iconst 0, 1) := by decide +kernel
theorem dX1_init_41 : decode cX1_init 41 = .ok (.iastore, 1) := by decide +kernel
theorem dX1_init_42 : decode cX1_init 42 = .ok (.putfield 24, 3) := by decide +kernel
theorem dX1_init_45 : decode cX1_init 45 = .ok (.return_, 1) := by decide +kernel
theorem dX2_init_0 : decode cX2_init 0 = .ok (.aload_n 0, 1) := by decide +kernel
theorem dX2_init_1 : decode cX2_init 1 = .ok (.invokespecial 3, 3) := by decide +kernel
theorem dX2_init_4 : decode cX2_init 4 = .ok (.aload_n 0, 1) := by decide +kernel
theorem dX2_init_5 : decode cX2_init 5 = .ok (.iconst (-1), 1) := by decide +kernel
theorem dX2_init_6 : decode cX2_init 6 = .ok (.putfield 9, 3) := by decide +kernel
theorem dX2_init_9 : decode cX2_init 9 = .ok (.aload_n 0, 1) := by decide +kernel
theorem dX2_init_10 : decode cX2_init 10 = .ok (.new 15, 3) := by decide +kernel
theorem dX2_init_13 : decode cX2_init 13 = .ok (.dup, 1) := by decide +kernel
theorem dX2_init_14 : decode cX2_init 14 = .ok (.aload_n 1, 1) := by decide +kernel
theorem dX2_init_15 : decode cX2_init 15 = .ok (.invokespecial 17, 3) := by decide +kernel
theorem dX2_init_18 : decode cX2_init 18 = .ok (.putfield 20, 3) := by decide +kernel
theorem dX2_init_21 : decode cX2_init 21 = .ok (.return_, 1) := by decide +kernel
theorem dX2_make_0 : decode cX2_make 0 = .ok (.aload_n 0, 1) := by decide +kernel
theorem dX2_make_1 : decode cX2_make 1 = .ok (.aload_n 0, 1) := by decide +kernel
theorem dX2_make_2 : decode cX2_make 2 = .ok (.getfield 20, 3) := by decide +kernel
theorem dX2_make_5 : decode cX2_make 5 = .ok (.getfield 24, 3) := by decide +kernel
theorem dX2_make_8 : decode cX2_make 8 = .ok (.iconst 1, 1) := by decide +kernel
theorem dX2_make_9 : decode cX2_make 9 = .ok (.invokevirtual 28, 3) := by decide +kernel
theorem dX2_make_12 : decode cX2_make 12 = .ok (.return_, 1) := by decide +kernel
theorem dX2_addClauses_0 : decode cX2_addClauses 0 = .ok (.iload_n 2, 1) := by decide +kernel
theorem dX2_addClauses_1 : decode cX2_addClauses 1 = .ok (.bipush 16, 2) := by decide +kernel
theorem dX2_addClauses_3 : decode cX2_addClauses 3 = .ok (.if_icmp .le 4, 3) := by decide +kernel
theorem dX2_addClauses_6 : decode cX2_addClauses 6 = .ok (.return_, 1) := by decide +kernel
theorem dX2_addClauses_7 : decode cX2_addClauses 7 = .ok (.aload_n 1, 1) := by decide +kernel
theorem dX2_addClauses_8 : decode cX2_addClauses 8 = .ok (.getfield 32, 3) := by decide +kernel
theorem dX2_addClauses_11 : decode cX2_addClauses 11 = .ok (.getfield 38, 3) := by decide +kernel
theorem dX2_addClauses_14 : decode cX2_addClauses 14 = .ok (.astore_n 3, 1) := by decide +kernel
theorem dX2_addClauses_15 : decode cX2_addClauses 15 = .ok (.aload_n 3, 1) := by decide +kernel
theorem dX2_addClauses_16 : decode cX2_addClauses 16 = .ok (.ifnull 45, 3) := by decide +kernel
theorem dX2_addClauses_19 : decode cX2_addClauses 19 = .ok (.aload_n 0, 1) := by decide +kernel
theorem dX2_addClauses_20 : decode cX2_addClauses 20 = .ok (.getfield 43, 3) := by decide +kernel
theorem dX2_addClauses_23 : decode cX2_addClauses 23 = .ok (.ifCond .ne 38, 3) := by decide +kernel
theorem dX2_addClauses_26 : decode cX2_addClauses 26 = .ok (.aload_n 3, 1) := by decide +kernel
theorem dX2_addClauses_27 : decode cX2_addClauses 27 = .ok (.getfield 46, 3) := by decide +kernel
theorem dX2_addClauses_30 : decode cX2_addClauses 30 = .ok (.invokestatic 50, 3) := by decide +kernel
theorem dX2_addClauses_33 : decode cX2_addClauses 33 = .ok (.ifCond .eq 13, 3) := by decide +kernel
theorem dX2_addClauses_36 : decode cX2_addClauses 36 = .ok (.aload_n 0, 1) := by decide +kernel
theorem dX2_addClauses_37 : decode cX2_addClauses 37 = .ok (.aload_n 1, 1) := by decide +kernel
theorem dX2_addClauses_38 : decode cX2_addClauses 38 = .ok (.aload_n 3, 1) := by decide +kernel
theorem dX2_addClauses_39 : decode cX2_addClauses 39 = .ok (.iload_n 2, 1) := by decide +kernel
theorem dX2_addClauses_40 : decode cX2_addClauses 40 = .ok (.invokevirtual 54, 3) := by decide +kernel
theorem dX2_addClauses_43 : decode cX2_addClauses 43 = .ok (.goto 10, 3) := by decide +kernel
theorem dX2_addClauses_46 : decode cX2_addClauses 46 = .ok (.aload_n 0, 1) := by decide +kernel
theorem dX2_addClauses_47 : decode cX2_addClauses 47 = .ok (.aload_n 1, 1) := by decide +kernel
theorem dX2_addClauses_48 : decode cX2_addClauses 48 = .ok (.aload_n 3, 1) := by decide +kernel
theorem dX2_addClauses_49 : decode cX2_addClauses 49 = .ok (.iload_n 2, 1) := by decide +kernel
theorem dX2_addClauses_50 : decode cX2_addClauses 50 = .ok (.invokevirtual 58, 3) := by decide +kernel
theorem dX2_addClauses_53 : decode cX2_addClauses 53 = .ok (.aload_n 3, 1) := by decide +kernel
theorem dX2_addClauses_54 : decode cX2_addClauses 54 = .ok (.getfield 61, 3) := by decide +kernel
theorem dX2_addClauses_57 : decode cX2_addClauses 57 = .ok (.astore_n 3, 1) := by decide +kernel
theorem dX2_addClauses_58 : decode cX2_addClauses 58 = .ok (.goto (-43), 3) := by decide +kernel
theorem dX2_addClauses_61 : decode cX2_addClauses 61 = .ok (.return_, 1) := by decide +kernel
theorem dX2_addJoin_0 : decode cX2_addJoin 0 = .ok (.aload_n 2, 1) := by decide +kernel
theorem dX2_addJoin_1 : decode cX2_addJoin 1 = .ok (.getfield 46, 3) := by decide +kernel
theorem dX2_addJoin_4 : decode cX2_addJoin 4 = .ok (.invokestatic 64, 3) := by decide +kernel
theorem dX2_addJoin_7 : decode cX2_addJoin 7 = .ok (.istore 4, 2) := by decide +kernel
theorem dX2_addJoin_9 : decode cX2_addJoin 9 = .ok (.iload 4, 2) := by decide +kernel
theorem dX2_addJoin_11 : decode cX2_addJoin 11 = .ok (.ifCond .ne 12, 3) := by decide +kernel
theorem dX2_addJoin_14 : decode cX2_addJoin 14 = .ok (.aload_n 0, 1) := by decide +kernel
theorem dX2_addJoin_15 : decode cX2_addJoin 15 = .ok (.iconst 1, 1) := by decide +kernel
theorem dX2_addJoin_16 : decode cX2_addJoin 16 = .ok (.aload_n 2, 1) := by decide +kernel
theorem dX2_addJoin_17 : decode cX2_addJoin 17 = .ok (.invokevirtual 68, 3) := by decide +kernel
theorem dX2_addJoin_20 : decode cX2_addJoin 20 = .ok (.goto 73, 3) := by decide +kernel
theorem dX2_addJoin_23 : decode cX2_addJoin 23 = .ok (.aload_n 2, 1) := by decide +kernel
theorem dX2_addJoin_24 : decode cX2_addJoin 24 = .ok (.getfield 72, 3) := by decide +kernel
theorem dX2_addJoin_27 : decode cX2_addJoin 27 = .ok (.iconst 4, 1) := by decide +kernel
theorem dX2_addJoin_28 : decode cX2_addJoin 28 = .ok (.if_icmp .ne 10, 3) := by decide +kernel
theorem dX2_addJoin_31 : decode cX2_addJoin 31 = .ok (.aload_n 2, 1) := by decide +kernel
theorem dX2_addJoin_32 : decode cX2_addJoin 32 = .ok (.getfield 77, 3) := by decide +kernel
theorem dX2_addJoin_35 : decode cX2_addJoin 35 = .ok (.ifCond .ne 12, 3) := by decide +kernel
theorem dX2_addJoin_38 : decode cX2_addJoin 38 = .ok (.aload_n 0, 1) := by decide +kernel
theorem dX2_addJoin_39 : decode cX2_addJoin 39 = .ok (.iconst 2, 1) := by decide +kernel
theorem dX2_addJoin_40 : decode cX2_addJoin 40 = .ok (.aload_n 2, 1) := by decide +kernel
theorem dX2_addJoin_41 : decode cX2_addJoin 41 = .ok (.invokevirtual 68, 3) := by decide +kernel
theorem dX2_addJoin_44 : decode cX2_addJoin 44 = .ok (.goto 49, 3) := by decide +kernel
theorem dX2_addJoin_47 : decode cX2_addJoin 47 = .ok (.aload_n 0, 1) := by decide +kernel
theorem dX2_addJoin_48 : decode cX2_addJoin 48 = .ok (.iconst 1, 1) := by decide +kernel
theorem dX2_addJoin_49 : decode cX2_addJoin 49 = .ok (.aload_n 2, 1) := by decide +kernel
theorem dX2_addJoin_50 : decode cX2_addJoin 50 = .ok (.invokevirtual 80, 3) := by decide +kernel
theorem dX2_addJoin_53 : decode cX2_addJoin 53 = .ok (.ifCond .eq 40, 3) := by decide +kernel
theorem dX2_addJoin_56 : decode cX2_addJoin 56 = .ok (.new 33, 3) := by decide +kernel
theorem dX2_addJoin_59 : decode cX2_addJoin 59 = .ok (.dup, 1) := by decide +kernel
theorem dX2_addJoin_60 : decode cX2_addJoin 60 = .ok (.iload 4, 2) := by decide +kernel
theorem dX2_addJoin_62 : decode cX2_addJoin 62 = .ok (.aload_n 2, 1) := by decide +kernel
theorem dX2_addJoin_63 : decode cX2_addJoin 63 = .ok (.getfield 46, 3) := by decide +kernel
theorem dX2_addJoin_66 : decode cX2_addJoin 66 = .ok (.ldc 84, 2) := by decide +kernel
theorem dX2_addJoin_68 : decode cX2_addJoin 68 = .ok (.invokevirtual 86, 3) := by decide +kernel
theorem dX2_addJoin_71 : decode cX2_addJoin 71 = .ok (.aload_n 2, 1) := by decide +kernel
theorem dX2_addJoin_72 : decode cX2_addJoin 72 = .ok (.aconst_null, 1) := by decide +kernel
theorem dX2_addJoin_73 : decode cX2_addJoin 73 = .ok (.invokespecial 92, 3) := by decide +kernel
theorem dX2_addJoin_76 : decode cX2_addJoin 76 = .ok (.astore 5, 2) := by decide +kernel
theorem dX2_addJoin_78 : decode cX2_addJoin 78 = .ok (.aload_n 1, 1) := by decide +kernel
theorem dX2_addJoin_79 : decode cX2_addJoin 79 = .ok (.aload 5, 2) := by decide +kernel
theorem dX2_addJoin_81 : decode cX2_addJoin 81 = .ok (.invokevirtual 95, 3) := by decide +kernel
theorem dX2_addJoin_84 : decode cX2_addJoin 84 = .ok (.aload_n 0, 1) := by decide +kernel
theorem dX2_addJoin_85 : decode cX2_addJoin 85 = .ok (.aload 5, 2) := by decide +kernel
theorem dX2_addJoin_87 : decode cX2_addJoin 87 = .ok (.iload_n 3, 1) := by decide +kernel
theorem dX2_addJoin_88 : decode cX2_addJoin 88 = .ok (.iconst 2, 1) := by decide +kernel
theorem dX2_addJoin_89 : decode cX2_addJoin 89 = .ok (.iadd, 1) := by decide +kernel
theorem dX2_addJoin_90 : decode cX2_addJoin 90 = .ok (.invokevirtual 99, 3) := by decide +kernel
theorem dX2_addJoin_93 : decode cX2_addJoin 93 = .ok (.return_, 1) := by decide +kernel
theorem dX2_addJoined_0 : decode cX2_addJoined 0 = .ok (.aload_n 1, 1) := by decide +kernel
theorem dX2_addJoined_1 : decode cX2_addJoined 1 = .ok (.getfield 32, 3) := by decide +kernel
theorem dX2_addJoined_4 : decode cX2_addJoined 4 = .ok (.getfield 38, 3) := by decide +kernel
theorem dX2_addJoined_7 : decode cX2_addJoined 7 = .ok (.astore_n 3, 1) := by decide +kernel
theorem dX2_addJoined_8 : decode cX2_addJoined 8 = .ok (.aload_n 3, 1) := by decide +kernel
theorem dX2_addJoined_9 : decode cX2_addJoined 9 = .ok (.ifnull 61, 3) := by decide +kernel
theorem dX2_addJoined_12 : decode cX2_addJoined 12 = .ok (.aload_n 0, 1) := by decide +kernel
theorem dX2_addJoined_13 : decode cX2_addJoined 13 = .ok (.getfield 43, 3) := by decide +kernel
theorem dX2_addJoined_16 : decode cX2_addJoined 16 = .ok (.ifCond .ne 54, 3) := by decide +kernel
theorem dX2_addJoined_19 : decode cX2_addJoined 19 = .ok (.aload_n 3, 1) := by decide +kernel
theorem dX2_addJoined_20 : decode cX2_addJoined 20 = .ok (.getfield 72, 3) := by decide +kernel
theorem dX2_addJoined_23 : decode cX2_addJoined 23 = .ok (.iconst 3, 1) := by decide +kernel
theorem dX2_addJoined_24 : decode cX2_addJoined 24 = .ok (.if_icmp .ne 32, 3) := by decide +kernel
theorem dX2_addJoined_27 : decode cX2_addJoined 27 = .ok (.new 33, 3) := by decide +kernel
theorem dX2_addJoined_30 : decode cX2_addJoined 30 = .ok (.dup, 1) := by decide +kernel
theorem dX2_addJoined_31 : decode cX2_addJoined 31 = .ok (.iconst 1, 1) := by decide +kernel
theorem dX2_addJoined_32 : decode cX2_addJoined 32 = .ok (.iconst 0, 1) := by decide +kernel
theorem dX2_addJoined_33 : decode cX2_addJoined 33 = .ok (.aload_n 3, 1) := by decide +kernel
theorem dX2_addJoined_34 : decode cX2_addJoined 34 = .ok (.aconst_null, 1) := by decide +kernel
theorem dX2_addJoined_35 : decode cX2_addJoined 35 = .ok (.invokespecial 92, 3) := by decide +kernel
theorem dX2_addJoined_38 : decode cX2_addJoined 38 = .ok (.astore 4, 2) := by decide +kernel
theorem dX2_addJoined_40 : decode cX2_addJoined 40 = .ok (.aload_n 1, 1) := by decide +kernel
theorem dX2_addJoined_41 : decode cX2_addJoined 41 = .ok (.aload 4, 2) := by decide +kernel
theorem dX2_addJoined_43 : decode cX2_addJoined 43 = .ok (.invokevirtual 95, 3) := by decide +kernel
theorem dX2_addJoined_46 : decode cX2_addJoined 46 = .ok (.aload_n 0, 1) := by decide +kernel
theorem dX2_addJoined_47 : decode cX2_addJoined 47 = .ok (.aload 4, 2) := by decide +kernel
theorem dX2_addJoined_49 : decode cX2_addJoined 49 = .ok (.iload_n 2, 1) := by decide +kernel
theorem dX2_addJoined_50 : decode cX2_addJoined 50 = .ok (.invokevirtual 28, 3) := by decide +kernel
theorem dX2_addJoined_53 : decode cX2_addJoined 53 = .ok (.goto 9, 3) := by decide +kernel
theorem dX2_addJoined_56 : decode cX2_addJoined 56 = .ok (.aload_n 0, 1) := by decide +kernel
theorem dX2_addJoined_57 : decode cX2_addJoined 57 = .ok (.iconst 2, 1) := by decide +kernel
theorem dX2_addJoined_58 : decode cX2_addJoined 58 = .ok (.aload_n 3, 1) := by decide +kernel
theorem dX2_addJoined_59 : decode cX2_addJoined 59 = .ok (.invokevirtual 68, 3) := by decide +kernel
theorem dX2_addJoined_62 : decode cX2_addJoined 62 = .ok (.aload_n 3, 1) := by decide +kernel
theorem dX2_addJoined_63 : decode cX2_addJoined 63 = .ok (.getfield 61, 3) := by decide +kernel
theorem dX2_addJoined_66 : decode cX2_addJoined 66 = .ok (.astore_n 3, 1) := by decide +kernel
theorem dX2_addJoined_67 : decode cX2_addJoined 67 = .ok (.goto (-59), 3) := by decide +kernel
theorem dX2_addJoined_70 : decode cX2_addJoined 70 = .ok (.return_, 1) := by decide +kernel
theorem dX2_addPath_0 : decode cX2_addPath 0 = .ok (.aload_n 2, 1) := by decide +kernel
theorem dX2_addPath_1 : decode cX2_addPath 1 = .ok (.getfield 46, 3) := by decide +kernel
theorem dX2_addPath_4 : decode cX2_addPath 4 = .ok (.invokestatic 102, 3) := by decide +kernel
theorem dX2_addPath_7 : decode cX2_addPath 7 = .ok (.astore 4, 2) := by decide +kernel
theorem dX2_addPath_9 : decode cX2_addPath 9 = .ok (.aload_n 2, 1) := by decide +kernel
theorem dX2_addPath_10 : decode cX2_addPath 10 = .ok (.invokevirtual 108, 3) := by decide +kernel
theorem dX2_addPath_13 : decode cX2_addPath 13 = .ok (.ifCond .ne 7, 3) := by decide +kernel
theorem dX2_addPath_16 : decode cX2_addPath 16 = .ok (.iconst 1, 1) := by decide +kernel
theorem dX2_addPath_17 : decode cX2_addPath 17 = .ok (.goto 4, 3) := by decide +kernel
theorem dX2_addPath_20 : decode cX2_addPath 20 = .ok (.iconst 0, 1) := by decide +kernel
theorem dX2_addPath_21 : decode cX2_addPath 21 = .ok (.istore 5, 2) := by decide +kernel
theorem dX2_addPath_23 : decode cX2_addPath 23 = .ok (.aload 4, 2) := by decide +kernel
theorem dX2_addPath_25 : decode cX2_addPath 25 = .ok (.ifnonnull 12, 3) := by decide +kernel
theorem dX2_addPath_28 : decode cX2_addPath 28 = .ok (.aload_n 0, 1) := by decide +kernel
theorem dX2_addPath_29 : decode cX2_addPath 29 = .ok (.iconst 3, 1) := by decide +kernel
theorem dX2_addPath_30 : decode cX2_addPath 30 = .ok (.aload_n 2, 1) := by decide +kernel
theorem dX2_addPath_31 : decode cX2_addPath 31 = .ok (.invokevirtual 68, 3) := by decide +kernel
theorem dX2_addPath_34 : decode cX2_addPath 34 = .ok (.goto 104, 3) := by decide +kernel
theorem dX2_addPath_37 : decode cX2_addPath 37 = .ok (.aload_n 0, 1) := by decide +kernel
theorem dX2_addPath_38 : decode cX2_addPath 38 = .ok (.iload 5, 2) := by decide +kernel
theorem dX2_addPath_40 : decode cX2_addPath 40 = .ok (.ifCond .eq 7, 3) := by decide +kernel
theorem dX2_addPath_43 : decode cX2_addPath 43 = .ok (.iconst 2, 1) := by decide +kernel
theorem dX2_addPath_44 : decode cX2_addPath 44 = .ok (.goto 4, 3) := by decide +kernel
theorem dX2_addPath_47 : decode cX2_addPath 47 = .ok (.iconst 1, 1) := by decide +kernel
theorem dX2_addPath_48 : decode cX2_addPath 48 = .ok (.aload_n 2, 1) := by decide +kernel
theorem dX2_addPath_49 : decode cX2_addPath 49 = .ok (.invokevirtual 80, 3) := by decide +kernel
theorem dX2_addPath_52 : decode cX2_addPath 52 = .ok (.ifCond .eq 86, 3) := by decide +kernel
theorem dX2_addPath_55 : decode cX2_addPath 55 = .ok (.aload_n 0, 1) := by decide +kernel
theorem dX2_addPath_56 : decode cX2_addPath 56 = .ok (.getfield 20, 3) := by decide +kernel
theorem dX2_addPath_59 : decode cX2_addPath 59 = .ok (.getfield 112, 3) := by decide +kernel
theorem dX2_addPath_62 : decode cX2_addPath 62 = .ok (.iconst 2, 1) := by decide +kernel
theorem dX2_addPath_63 : decode cX2_addPath 63 = .ok (.dup2, 1) := by decide +kernel
theorem dX2_addPath_64 : decode cX2_addPath 64 = .ok (.iaload, 1) := by decide +kernel
theorem dX2_addPath_65 : decode cX2_addPath 65 = .ok (.iconst 1, 1) := by decide +kernel
theorem dX2_addPath_66 : decode cX2_addPath 66 = .ok (.iadd, 1) := by decide +kernel
theorem dX2_addPath_67 : decode cX2_addPath 67 = .ok (.iastore, 1) := by decide +kernel
theorem dX2_addPath_68 : decode cX2_addPath 68 = .ok (.aload_n 0, 1) := by decide +kernel
theorem dX2_addPath_69 : decode cX2_addPath 69 = .ok (.getfield 20, 3) := by decide +kernel
theorem dX2_addPath_72 : decode cX2_addPath 72 = .ok (.getfield 112, 3) := by decide +kernel
theorem dX2_addPath_75 : decode cX2_addPath 75 = .ok (.iconst 3, 1) := by decide +kernel
theorem dX2_addPath_76 : decode cX2_addPath 76 = .ok (.dup2, 1) := by decide +kernel
theorem dX2_addPath_77 : decode cX2_addPath 77 = .ok (.iaload, 1) := by decide +kernel
theorem dX2_addPath_78 : decode cX2_addPath 78 = .ok (.aload 4, 2) := by decide +kernel
theorem dX2_addPath_80 : decode cX2_addPath 80 = .ok (.getfield 116, 3) := by decide +kernel
theorem dX2_addPath_83 : decode cX2_addPath 83 = .ok (.iadd, 1) := by decide +kernel
theorem dX2_addPath_84 : decode cX2_addPath 84 = .ok (.iastore, 1) := by decide +kernel
theorem dX2_addPath_85 : decode cX2_addPath 85 = .ok (.new 33, 3) := by decide +kernel
theorem dX2_addPath_88 : decode cX2_addPath 88 = .ok (.dup, 1) := by decide +kernel
theorem dX2_addPath_89 : decode cX2_addPath 89 = .ok (.iconst 4, 1) := by decide +kernel
theorem dX2_addPath_90 : decode cX2_addPath 90 = .ok (.iconst 0, 1) := by decide +kernel
theorem dX2_addPath_91 : decode cX2_addPath 91 = .ok (.aload_n 2, 1) := by decide +kernel
theorem dX2_addPath_92 : decode cX2_addPath 92 = .ok (.aload 4, 2) := by decide +kernel
theorem dX2_addPath_94 : decode cX2_addPath 94 = .ok (.invokespecial 92, 3) := by decide +kernel
theorem dX2_addPath_97 : decode cX2_addPath 97 = .ok (.astore 6, 2) := by decide +kernel
theorem dX2_addPath_99 : decode cX2_addPath 99 = .ok (.aload_n 1, 1) := by decide +kernel
theorem dX2_addPath_100 : decode cX2_addPath 100 = .ok (.aload 6, 2) := by decide +kernel
theorem dX2_addPath_102 : decode cX2_addPath 102 = .ok (.invokevirtual 95, 3) := by decide +kernel
theorem dX2_addPath_105 : decode cX2_addPath 105 = .ok (.iload 5, 2) := by decide +kernel
theorem dX2_addPath_107 : decode cX2_addPath 107 = .ok (.ifCond .eq 22, 3) := by decide +kernel
theorem dX2_addPath_110 : decode cX2_addPath 110 = .ok (.aload 6, 2) := by decide +kernel
theorem dX2_addPath_112 : decode cX2_addPath 112 = .ok (.new 33, 3) := by decide +kernel
theorem dX2_addPath_115 : decode cX2_addPath 115 = .ok (.dup, 1) := by decide +kernel
theorem dX2_addPath_116 : decode cX2_addPath 116 = .ok (.iconst 5, 1) := by decide +kernel
theorem dX2_addPath_117 : decode cX2_addPath 117 = .ok (.iconst 0, 1) := by decide +kernel
theorem dX2_addPath_118 : decode cX2_addPath 118 = .ok (.aload_n 2, 1) := by decide +kernel
theorem dX2_addPath_119 : decode cX2_addPath 119 = .ok (.aconst_null, 1) := by decide +kernel
theorem dX2_addPath_120 : decode cX2_addPath 120 = .ok (.invokespecial 92, 3) := by decide +kernel
theorem dX2_addPath_123 : decode cX2_addPath 123 = .ok (.invokevirtual 95, 3) := by decide +kernel
theorem dX2_addPath_126 : decode cX2_addPath 126 = .ok (.goto 12, 3) := by decide +kernel
theorem dX2_addPath_129 : decode cX2_addPath 129 = .ok (.aload_n 0, 1) := by decide +kernel
theorem dX2_addPath_130 : decode cX2_addPath 130 = .ok (.aload 6, 2) := by decide +kernel
theorem dX2_addPath_132 : decode cX2_addPath 132 = .ok (.iload_n 3, 1) := by decide +kernel
theorem dX2_addPath_133 : decode cX2_addPath 133 = .ok (.iconst 1, 1) := by decide +kernel
theorem dX2_addPath_134 : decode cX2_addPath 134 = .ok (.iadd, 1) := by decide +kernel
theorem dX2_addPath_135 : decode cX2_addPath 135 = .ok (.invokevirtual 117, 3) := by decide +kernel
theorem dX2_addPath_138 : decode cX2_addPath 138 = .ok (.return_, 1) := by decide +kernel
theorem dX2_addConditions_0 : decode cX2_addConditions 0 = .ok (.iload_n 2, 1) := by decide +kernel
theorem dX2_addConditions_1 : decode cX2_addConditions 1 = .ok (.bipush 16, 2) := by decide +kernel
theorem dX2_addConditions_3 : decode cX2_addConditions 3 = .ok (.if_icmp .le 4, 3) := by decide +kernel
theorem dX2_addConditions_6 : decode cX2_addConditions 6 = .ok (.return_, 1) := by decide +kernel
theorem dX2_addConditions_7 : decode cX2_addConditions 7 = .ok (.aload_n 1, 1) := by decide +kernel
theorem dX2_addConditions_8 : decode cX2_addConditions 8 = .ok (.getfield 32, 3) := by decide +kernel
theorem dX2_addConditions_11 : decode cX2_addConditions 11 = .ok (.getfield 38, 3) := by decide +kernel
theorem dX2_addConditions_14 : decode cX2_addConditions 14 = .ok (.astore_n 3, 1) := by decide +kernel
theorem dX2_addConditions_15 : decode cX2_addConditions 15 = .ok (.aload_n 3, 1) := by decide +kernel
theorem dX2_addConditions_16 : decode cX2_addConditions 16 = .ok (.ifnull 25, 3) := by decide +kernel
theorem dX2_addConditions_19 : decode cX2_addConditions 19 = .ok (.aload_n 0, 1) := by decide +kernel
theorem dX2_addConditions_20 : decode cX2_addConditions 20 = .ok (.getfield 43, 3) := by decide +kernel
theorem dX2_addConditions_23 : decode cX2_addConditions 23 = .ok (.ifCond .ne 18, 3) := by decide +kernel
theorem dX2_addConditions_26 : decode cX2_addConditions 26 = .ok (.aload_n 0, 1) := by decide +kernel
theorem dX2_addConditions_27 : decode cX2_addConditions 27 = .ok (.aload_n 1, 1) := by decide +kernel
theorem dX2_addConditions_28 : decode cX2_addConditions 28 = .ok (.aload_n 3, 1) := by decide +kernel
theorem dX2_addConditions_29 : decode cX2_addConditions 29 = .ok (.iload_n 2, 1) := by decide +kernel
theorem dX2_addConditions_30 : decode cX2_addConditions 30 = .ok (.invokevirtual 120, 3) := by decide +kernel
theorem dX2_addConditions_33 : decode cX2_addConditions 33 = .ok (.aload_n 3, 1) := by decide +kernel
theorem dX2_addConditions_34 : decode cX2_addConditions 34 = .ok (.getfield 61, 3) := by decide +kernel
theorem dX2_addConditions_37 : decode cX2_addConditions 37 = .ok (.astore_n 3, 1) := by decide +kernel
theorem dX2_addConditions_38 : decode cX2_addConditions 38 = .ok (.goto (-23), 3) := by decide +kernel
theorem dX2_addConditions_41 : decode cX2_addConditions 41 = .ok (.return_, 1) := by decide +kernel
theorem dX2_addCondition_0 : decode cX2_addCondition 0 = .ok (.aload_n 2, 1) := by decide +kernel
theorem dX2_addCondition_1 : decode cX2_addCondition 1 = .ok (.invokestatic 123, 3) := by decide +kernel
theorem dX2_addCondition_4 : decode cX2_addCondition 4 = .ok (.istore 4, 2) := by decide +kernel
theorem dX2_addCondition_6 : decode cX2_addCondition 6 = .ok (.iload 4, 2) := by decide +kernel
theorem dX2_addCondition_8 : decode cX2_addCondition 8 = .ok (.ifCond .ne 12, 3) := by decide +kernel
theorem dX2_addCondition_11 : decode cX2_addCondition 11 = .ok (.aload_n 0, 1) := by decide +kernel
theorem dX2_addCondition_12 : decode cX2_addCondition 12 = .ok (.iconst 1, 1) := by decide +kernel
theorem dX2_addCondition_13 : decode cX2_addCondition 13 = .ok (.aload_n 2, 1) := by decide +kernel
theorem dX2_addCondition_14 : decode cX2_addCondition 14 = .ok (.invokevirtual 68, 3) := by decide +kernel
theorem dX2_addCondition_17 : decode cX2_addCondition 17 = .ok (.goto 95, 3) := by decide +kernel
theorem dX2_addCondition_20 : decode cX2_addCondition 20 = .ok (.iload 4, 2) := by decide +kernel
theorem dX2_addCondition_22 : decode cX2_addCondition 22 = .ok (.aload_n 2, 1) := by decide +kernel
theorem dX2_addCondition_23 : decode cX2_addCondition 23 = .ok (.invokestatic 127, 3) := by decide +kernel
theorem dX2_addCondition_26 : decode cX2_addCondition 26 = .ok (.ifCond .ne 12, 3) := by decide +kernel
theorem dX2_addCondition_29 : decode cX2_addCondition 29 = .ok (.aload_n 0, 1) := by decide +kernel
theorem dX2_addCondition_30 : decode cX2_addCondition 30 = .ok (.iconst 4, 1) := by decide +kernel
theorem dX2_addCondition_31 : decode cX2_addCondition 31 = .ok (.aload_n 2, 1) := by decide +kernel
theorem dX2_addCondition_32 : decode cX2_addCondition 32 = .ok (.invokevirtual 68, 3) := by decide +kernel
theorem dX2_addCondition_35 : decode cX2_addCondition 35 = .ok (.goto 77, 3) := by decide +kernel
theorem dX2_addCondition_38 : decode cX2_addCondition 38 = .ok (.aload_n 0, 1) := by decide +kernel
theorem dX2_addCondition_39 : decode cX2_addCondition 39 = .ok (.iconst 1, 1) := by decide +kernel
theorem dX2_addCondition_40 : decode cX2_addCondition 40 = .ok (.aload_n 2, 1) := by decide +kernel
theorem dX2_addCondition_41 : decode cX2_addCondition 41 = .ok (.invokevirtual 80, 3) := by decide +kernel
theorem dX2_addCondition_44 : decode cX2_addCondition 44 = .ok (.ifCond .eq 68, 3) := by decide +kernel
theorem dX2_addCondition_47 : decode cX2_addCondition 47 = .ok (.new 33, 3) := by decide +kernel
theorem dX2_addCondition_50 : decode cX2_addCondition 50 = .ok (.dup, 1) := by decide +kernel
theorem dX2_addCondition_51 : decode cX2_addCondition 51 = .ok (.iload 4, 2) := by decide +kernel
theorem dX2_addCondition_53 : decode cX2_addCondition 53 = .ok (.aload_n 2, 1) := by decide +kernel
theorem dX2_addCondition_54 : decode cX2_addCondition 54 = .ok (.invokestatic 130, 3) := by decide +kernel
theorem dX2_addCondition_57 : decode cX2_addCondition 57 = .ok (.aload_n 2, 1) := by decide +kernel
theorem dX2_addCondition_58 : decode cX2_addCondition 58 = .ok (.aconst_null, 1) := by decide +kernel
theorem dX2_addCondition_59 : decode cX2_addCondition 59 = .ok (.invokespecial 92, 3) := by decide +kernel
theorem dX2_addCondition_62 : decode cX2_addCondition 62 = .ok (.astore 5, 2) := by decide +kernel
theorem dX2_addCondition_64 : decode cX2_addCondition 64 = .ok (.aload_n 1, 1) := by decide +kernel
theorem dX2_addCondition_65 : decode cX2_addCondition 65 = .ok (.aload 5, 2) := by decide +kernel
theorem dX2_addCondition_67 : decode cX2_addCondition 67 = .ok (.invokevirtual 95, 3) := by decide +kernel
theorem dX2_addCondition_70 : decode cX2_addCondition 70 = .ok (.iload 4, 2) := by decide +kernel
theorem dX2_addCondition_72 : decode cX2_addCondition 72 = .ok (.bipush 15, 2) := by decide +kernel
theorem dX2_addCondition_74 : decode cX2_addCondition 74 = .ok (.if_icmp .eq 10, 3) := by decide +kernel
theorem dX2_addCondition_77 : decode cX2_addCondition 77 = .ok (.iload 4, 2) := by decide +kernel
theorem dX2_addCondition_79 : decode cX2_addCondition 79 = .ok (.bipush 13, 2) := by decide +kernel
theorem dX2_addCondition_81 : decode cX2_addCondition 81 = .ok (.if_icmp .ne 15, 3) := by decide +kernel
theorem dX2_addCondition_84 : decode cX2_addCondition 84 = .ok (.aload_n 0, 1) := by decide +kernel
theorem dX2_addCondition_85 : decode cX2_addCondition 85 = .ok (.aload 5, 2) := by decide +kernel
theorem dX2_addCondition_87 : decode cX2_addCondition 87 = .ok (.iload_n 3, 1) := by decide +kernel
theorem dX2_addCondition_88 : decode cX2_addCondition 88 = .ok (.iconst 1, 1) := by decide +kernel
theorem dX2_addCondition_89 : decode cX2_addCondition 89 = .ok (.iadd, 1) := by decide +kernel
theorem dX2_addCondition_90 : decode cX2_addCondition 90 = .ok (.invokevirtual 117, 3) := by decide +kernel
theorem dX2_addCondition_93 : decode cX2_addCondition 93 = .ok (.goto 19, 3) := by decide +kernel
theorem dX2_addCondition_96 : decode cX2_addCondition 96 = .ok (.iload 4, 2) := by decide +kernel
theorem dX2_addCondition_98 : decode cX2_addCondition 98 = .ok (.bipush 14, 2) := by decide +kernel
theorem dX2_addCondition_100 : decode cX2_addCondition 100 = .ok (.if_icmp .ne 12, 3) := by decide +kernel
theorem dX2_addCondition_103 : decode cX2_addCondition 103 = .ok (.aload_n 0, 1) := by decide +kernel
theorem dX2_addCondition_104 : decode cX2_addCondition 104 = .ok (.aload 5, 2) := by decide +kernel
theorem dX2_addCondition_106 : decode cX2_addCondition 106 = .ok (.iload_n 3, 1) := by decide +kernel
theorem dX2_addCondition_107 : decode cX2_addCondition 107 = .ok (.iconst 1, 1) := by decide +kernel
theorem dX2_addCondition_108 : decode cX2_addCondition 108 = .ok (.iadd, 1) := by decide +kernel
theorem dX2_addCondition_109 : decode cX2_addCondition 109 = .ok (.invokevirtual 28, 3) := by decide +kernel
theorem dX2_addCondition_112 : decode cX2_addCondition 112 = .ok (.return_, 1) := by decide +kernel
theorem dX2_mayCount_0 : decode cX2_mayCount 0 = .ok (.aload_n 0, 1) := by decide +kernel
theorem dX2_mayCount_1 : decode cX2_mayCount 1 = .ok (.getfield 20, 3) := by decide +kernel
theorem dX2_mayCount_4 : decode cX2_mayCount 4 = .ok (.getfield 112, 3) := by decide +kernel
theorem dX2_mayCount_7 : decode cX2_mayCount 7 = .ok (.iconst 1, 1) := by decide +kernel
theorem dX2_mayCount_8 : decode cX2_mayCount 8 = .ok (.dup2, 1) := by decide +kernel
theorem dX2_mayCount_9 : decode cX2_mayCount 9 = .ok (.iaload, 1) := by decide +kernel
theorem dX2_mayCount_10 : decode cX2_mayCount 10 = .ok (.iload_n 1, 1) := by decide +kernel
theorem dX2_mayCount_11 : decode cX2_mayCount 11 = .ok (.iadd, 1) := by decide +kernel
theorem dX2_mayCount_12 : decode cX2_mayCount 12 = .ok (.iastore, 1) := by decide +kernel
theorem dX2_mayCount_13 : decode cX2_mayCount 13 = .ok (.aload_n 0, 1) := by decide +kernel
theorem dX2_mayCount_14 : decode cX2_mayCount 14 = .ok (.getfield 20, 3) := by decide +kernel
theorem dX2_mayCount_17 : decode cX2_mayCount 17 = .ok (.getfield 112, 3) := by decide +kernel
theorem dX2_mayCount_20 : decode cX2_mayCount 20 = .ok (.iconst 1, 1) := by decide +kernel
theorem dX2_mayCount_21 : decode cX2_mayCount 21 = .ok (.iaload, 1) := by decide +kernel
theorem dX2_mayCount_22 : decode cX2_mayCount 22 = .ok (.bipush 100, 2) := by decide +kernel
theorem dX2_mayCount_24 : decode cX2_mayCount 24 = .ok (.if_icmp .le 11, 3) := by decide +kernel
theorem dX2_mayCount_27 : decode cX2_mayCount 27 = .ok (.aload_n 0, 1) := by decide +kernel
theorem dX2_mayCount_28 : decode cX2_mayCount 28 = .ok (.iconst 5, 1) := by decide +kernel
theorem dX2_mayCount_29 : decode cX2_mayCount 29 = .ok (.aload_n 2, 1) := by decide +kernel
theorem dX2_mayCount_30 : decode cX2_mayCount 30 = .ok (.invokevirtual 68, 3) := by decide +kernel
theorem dX2_mayCount_33 : decode cX2_mayCount 33 = .ok (.iconst 0, 1) := by decide +kernel
theorem dX2_mayCount_34 : decode cX2_mayCount 34 = .ok (.ireturn, 1) := by decide +kernel
theorem dX2_mayCount_35 : decode cX2_mayCount 35 = .ok (.iconst 1, 1) := by decide +kernel
theorem dX2_mayCount_36 : decode cX2_mayCount 36 = .ok (.ireturn, 1) := by decide +kernel
theorem dX2_refuse_0 : decode cX2_refuse 0 = .ok (.aload_n 0, 1) := by decide +kernel
theorem dX2_refuse_1 : decode cX2_refuse 1 = .ok (.iload_n 1, 1) := by decide +kernel
theorem dX2_refuse_2 : decode cX2_refuse 2 = .ok (.putfield 43, 3) := by decide +kernel
theorem dX2_refuse_5 : decode cX2_refuse 5 = .ok (.aload_n 0, 1) := by decide +kernel
theorem dX2_refuse_6 : decode cX2_refuse 6 = .ok (.aload_n 2, 1) := by decide +kernel
theorem dX2_refuse_7 : decode cX2_refuse 7 = .ok (.getfield 134, 3) := by decide +kernel
theorem dX2_refuse_10 : decode cX2_refuse 10 = .ok (.putfield 9, 3) := by decide +kernel
theorem dX2_refuse_13 : decode cX2_refuse 13 = .ok (.return_, 1) := by decide +kernel
theorem dX2_joinSign_0 : decode cX2_joinSign 0 = .ok (.aload_n 0, 1) := by decide +kernel
theorem dX2_joinSign_1 : decode cX2_joinSign 1 = .ok (.ldc 137, 2) := by decide +kernel
theorem dX2_joinSign_3 : decode cX2_joinSign 3 = .ok (.invokevirtual 86, 3) := by decide +kernel
theorem dX2_joinSign_6 : decode cX2_joinSign 6 = .ok (.ifCond .eq 5, 3) := by decide +kernel
theorem dX2_joinSign_9 : decode cX2_joinSign 9 = .ok (.iconst 2, 1) := by decide +kernel
theorem dX2_joinSign_10 : decode cX2_joinSign 10 = .ok (.ireturn, 1) := by decide +kernel
theorem dX2_joinSign_11 : decode cX2_joinSign 11 = .ok (.aload_n 0, 1) := by decide +kernel
theorem dX2_joinSign_12 : decode cX2_joinSign 12 = .ok (.ldc 139, 2) := by decide +kernel
theorem dX2_joinSign_14 : decode cX2_joinSign 14 = .ok (.invokevirtual 86, 3) := by decide +kernel
theorem dX2_joinSign_17 : decode cX2_joinSign 17 = .ok (.ifCond .ne 12, 3) := by decide +kernel
theorem dX2_joinSign_20 : decode cX2_joinSign 20 = .ok (.aload_n 0, 1) := by decide +kernel
theorem dX2_joinSign_21 : decode cX2_joinSign 21 = .ok (.ldc 84, 2) := by decide +kernel
theorem dX2_joinSign_23 : decode cX2_joinSign 23 = .ok (.invokevirtual 86, 3) := by decide +kernel
theorem dX2_joinSign_26 : decode cX2_joinSign 26 = .ok (.ifCond .eq 7, 3) := by decide +kernel
theorem dX2_joinSign_29 : decode cX2_joinSign 29 = .ok (.iconst 3, 1) := by decide +kernel
theorem dX2_joinSign_30 : decode cX2_joinSign 30 = .ok (.goto 4, 3) := by decide +kernel
theorem dX2_joinSign_33 : decode cX2_joinSign 33 = .ok (.iconst 0, 1) := by decide +kernel
theorem dX2_joinSign_34 : decode cX2_joinSign 34 = .ok (.ireturn, 1) := by decide +kernel
theorem dX2_conditionSign_0 : decode cX2_conditionSign 0 = .ok (.aload_n 0, 1) := by decide +kernel
theorem dX2_conditionSign_1 : decode cX2_conditionSign 1 = .ok (.getfield 46, 3) := by decide +kernel
theorem dX2_conditionSign_4 : decode cX2_conditionSign 4 = .ok (.astore_n 1, 1) := by decide +kernel
theorem dX2_conditionSign_5 : decode cX2_conditionSign 5 = .ok (.aload_n 1, 1) := by decide +kernel
theorem dX2_conditionSign_6 : decode cX2_conditionSign 6 = .ok (.ldc 141, 2) := by decide +kernel
theorem dX2_conditionSign_8 : decode cX2_conditionSign 8 = .ok (.invokevirtual 86, 3) := by decide +kernel
theorem dX2_conditionSign_11 : decode cX2_conditionSign 11 = .ok (.ifCond .ne 12, 3) := by decide +kernel
theorem dX2_conditionSign_14 : decode cX2_conditionSign 14 = .ok (.aload_n 1, 1) := by decide +kernel
theorem dX2_conditionSign_15 : decode cX2_conditionSign 15 = .ok (.ldc 143, 2) := by decide +kernel
theorem dX2_conditionSign_17 : decode cX2_conditionSign 17 = .ok (.invokevirtual 86, 3) := by decide +kernel
theorem dX2_conditionSign_20 : decode cX2_conditionSign 20 = .ok (.ifCond .eq 5, 3) := by decide +kernel
theorem dX2_conditionSign_23 : decode cX2_conditionSign 23 = .ok (.iconst 5, 1) := by decide +kernel
theorem dX2_conditionSign_24 : decode cX2_conditionSign 24 = .ok (.ireturn, 1) := by decide +kernel
theorem dX2_conditionSign_25 : decode cX2_conditionSign 25 = .ok (.aload_n 1, 1) := by decide +kernel
theorem dX2_conditionSign_26 : decode cX2_conditionSign 26 = .ok (.ldc 145, 2) := by decide +kernel
theorem dX2_conditionSign_28 : decode cX2_conditionSign 28 = .ok (.invokevirtual 86, 3) := by decide +kernel
theorem dX2_conditionSign_31 : decode cX2_conditionSign 31 = .ok (.ifCond .ne 12, 3) := by decide +kernel
theorem dX2_conditionSign_34 : decode cX2_conditionSign 34 = .ok (.aload_n 1, 1) := by decide +kernel
theorem dX2_conditionSign_35 : decode cX2_conditionSign 35 = .ok (.ldc 147, 2) := by decide +kernel
theorem dX2_conditionSign_37 : decode cX2_conditionSign 37 = .ok (.invokevirtual 86, 3) := by decide +kernel
theorem dX2_conditionSign_40 : decode cX2_conditionSign 40 = .ok (.ifCond .eq 6, 3) := by decide +kernel
theorem dX2_conditionSign_43 : decode cX2_conditionSign 43 = .ok (.bipush 6, 2) := by decide +kernel
theorem dX2_conditionSign_45 : decode cX2_conditionSign 45 = .ok (.ireturn, 1) := by decide +kernel
theorem dX2_conditionSign_46 : decode cX2_conditionSign 46 = .ok (.aload_n 1, 1) := by decide +kernel
theorem dX2_conditionSign_47 : decode cX2_conditionSign 47 = .ok (.ldc 149, 2) := by decide +kernel
theorem dX2_conditionSign_49 : decode cX2_conditionSign 49 = .ok (.invokevirtual 86, 3) := by decide +kernel
theorem dX2_conditionSign_52 : decode cX2_conditionSign 52 = .ok (.ifCond .eq 6, 3) := by decide +kernel
theorem dX2_conditionSign_55 : decode cX2_conditionSign 55 = .ok (.bipush 11, 2) := by decide +kernel
theorem dX2_conditionSign_57 : decode cX2_conditionSign 57 = .ok (.ireturn, 1) := by decide +kernel
theorem dX2_conditionSign_58 : decode cX2_conditionSign 58 = .ok (.aload_n 1, 1) := by decide +kernel
theorem dX2_conditionSign_59 : decode cX2_conditionSign 59 = .ok (.ldc 151, 2) := by decide +kernel
theorem dX2_conditionSign_61 : decode cX2_conditionSign 61 = .ok (.invokevirtual 86, 3) := by decide +kernel
theorem dX2_conditionSign_64 : decode cX2_conditionSign 64 = .ok (.ifCond .eq 6, 3) := by decide +kernel
theorem dX2_conditionSign_67 : decode cX2_conditionSign 67 = .ok (.bipush 12, 2) := by decide +kernel
theorem dX2_conditionSign_69 : decode cX2_conditionSign 69 = .ok (.ireturn, 1) := by decide +kernel
theorem dX2_conditionSign_70 : decode cX2_conditionSign 70 = .ok (.aload_n 1, 1) := by decide +kernel
theorem dX2_conditionSign_71 : decode cX2_conditionSign 71 = .ok (.ldc 153, 2) := by decide +kernel
theorem dX2_conditionSign_73 : decode cX2_conditionSign 73 = .ok (.invokevirtual 86, 3) := by decide +kernel
theorem dX2_conditionSign_76 : decode cX2_conditionSign 76 = .ok (.ifCond .eq 8, 3) := by decide +kernel
theorem dX2_conditionSign_79 : decode cX2_conditionSign 79 = .ok (.aload_n 0, 1) := by decide +kernel
theorem dX2_conditionSign_80 : decode cX2_conditionSign 80 = .ok (.invokestatic 155, 3) := by decide +kernel
theorem dX2_conditionSign_83 : decode cX2_conditionSign 83 = .ok (.ireturn, 1) := by decide +kernel
theorem dX2_conditionSign_84 : decode cX2_conditionSign 84 = .ok (.aload_n 1, 1) := by decide +kernel
theorem dX2_conditionSign_85 : decode cX2_conditionSign 85 = .ok (.ldc 158, 2) := by decide +kernel
theorem dX2_conditionSign_87 : decode cX2_conditionSign 87 = .ok (.invokevirtual 86, 3) := by decide +kernel
theorem dX2_conditionSign_90 : decode cX2_conditionSign 90 = .ok (.ifCond .eq 8, 3) := by decide +kernel
theorem dX2_conditionSign_93 : decode cX2_conditionSign 93 = .ok (.bipush 15, 2) := by decide +kernel
theorem dX2_conditionSign_95 : decode cX2_conditionSign 95 = .ok (.goto 7, 3) := by decide +kernel
theorem dX2_conditionSign_98 : decode cX2_conditionSign 98 = .ok (.aload_n 0, 1) := by decide +kernel
theorem dX2_conditionSign_99 : decode cX2_conditionSign 99 = .ok (.invokestatic 160, 3) := by decide +kernel
theorem dX2_conditionSign_102 : decode cX2_conditionSign 102 = .ok (.ireturn, 1) := by decide +kernel
theorem dX2_orderSign_0 : decode cX2_orderSign 0 = .ok (.aload_n 0, 1) := by decide +kernel
theorem dX2_orderSign_1 : decode cX2_orderSign 1 = .ok (.getfield 46, 3) := by decide +kernel
theorem dX2_orderSign_4 : decode cX2_orderSign 4 = .ok (.astore_n 1, 1) := by decide +kernel
theorem dX2_orderSign_5 : decode cX2_orderSign 5 = .ok (.aload_n 0, 1) := by decide +kernel
theorem dX2_orderSign_6 : decode cX2_orderSign 6 = .ok (.getfield 72, 3) := by decide +kernel
theorem dX2_orderSign_9 : decode cX2_orderSign 9 = .ok (.bipush 10, 2) := by decide +kernel
theorem dX2_orderSign_11 : decode cX2_orderSign 11 = .ok (.if_icmp .ne 7, 3) := by decide +kernel
theorem dX2_orderSign_14 : decode cX2_orderSign 14 = .ok (.iconst 1, 1) := by decide +kernel
theorem dX2_orderSign_15 : decode cX2_orderSign 15 = .ok (.goto 4, 3) := by decide +kernel
theorem dX2_orderSign_18 : decode cX2_orderSign 18 = .ok (.iconst 0, 1) := by decide +kernel
theorem dX2_orderSign_19 : decode cX2_orderSign 19 = .ok (.istore_n 2, 1) := by decide +kernel
theorem dX2_orderSign_20 : decode cX2_orderSign 20 = .ok (.aload_n 1, 1) := by decide +kernel
theorem dX2_orderSign_21 : decode cX2_orderSign 21 = .ok (.ldc 163, 2) := by decide +kernel
theorem dX2_orderSign_23 : decode cX2_orderSign 23 = .ok (.invokevirtual 86, 3) := by decide +kernel
theorem dX2_orderSign_26 : decode cX2_orderSign 26 = .ok (.ifCond .eq 6, 3) := by decide +kernel
theorem dX2_orderSign_29 : decode cX2_orderSign 29 = .ok (.bipush 7, 2) := by decide +kernel
theorem dX2_orderSign_31 : decode cX2_orderSign 31 = .ok (.ireturn, 1) := by decide +kernel
theorem dX2_orderSign_32 : decode cX2_orderSign 32 = .ok (.aload_n 1, 1) := by decide +kernel
theorem dX2_orderSign_33 : decode cX2_orderSign 33 = .ok (.ldc 165, 2) := by decide +kernel
theorem dX2_orderSign_35 : decode cX2_orderSign 35 = .ok (.invokevirtual 86, 3) := by decide +kernel
theorem dX2_orderSign_38 : decode cX2_orderSign 38 = .ok (.ifCond .eq 6, 3) := by decide +kernel
theorem dX2_orderSign_41 : decode cX2_orderSign 41 = .ok (.bipush 9, 2) := by decide +kernel
theorem dX2_orderSign_43 : decode cX2_orderSign 43 = .ok (.ireturn, 1) := by decide +kernel
theorem dX2_orderSign_44 : decode cX2_orderSign 44 = .ok (.aload_n 1, 1) := by decide +kernel
theorem dX2_orderSign_45 : decode cX2_orderSign 45 = .ok (.ldc 167, 2) := by decide +kernel
theorem dX2_orderSign_47 : decode cX2_orderSign 47 = .ok (.invokevirtual 86, 3) := by decide +kernel
theorem dX2_orderSign_50 : decode cX2_orderSign 50 = .ok (.ifCond .eq 14, 3) := by decide +kernel
theorem dX2_orderSign_53 : decode cX2_orderSign 53 = .ok (.iload_n 2, 1) := by decide +kernel
theorem dX2_orderSign_54 : decode cX2_orderSign 54 = .ok (.ifCond .eq 7, 3) := by decide +kernel
theorem dX2_orderSign_57 : decode cX2_orderSign 57 = .ok (.iconst 5, 1) := by decide +kernel
theorem dX2_orderSign_58 : decode cX2_orderSign 58 = .ok (.goto 5, 3) := by decide +kernel
theorem dX2_orderSign_61 : decode cX2_orderSign 61 = .ok (.bipush 8, 2) := by decide +kernel
theorem dX2_orderSign_63 : decode cX2_orderSign 63 = .ok (.ireturn, 1) := by decide +kernel
theorem dX2_orderSign_64 : decode cX2_orderSign 64 = .ok (.aload_n 1, 1) := by decide +kernel
theorem dX2_orderSign_65 : decode cX2_orderSign 65 = .ok (.ldc 169, 2) := by decide +kernel
theorem dX2_orderSign_67 : decode cX2_orderSign 67 = .ok (.invokevirtual 86, 3) := by decide +kernel
theorem dX2_orderSign_70 : decode cX2_orderSign 70 = .ok (.ifCond .eq 14, 3) := by decide +kernel
theorem dX2_orderSign_73 : decode cX2_orderSign 73 = .ok (.iload_n 2, 1) := by decide +kernel
theorem dX2_orderSign_74 : decode cX2_orderSign 74 = .ok (.ifCond .eq 7, 3) := by decide +kernel
theorem dX2_orderSign_77 : decode cX2_orderSign 77 = .ok (.iconst 5, 1) := by decide +kernel
theorem dX2_orderSign_78 : decode cX2_orderSign 78 = .ok (.goto 5, 3) := by decide +kernel
theorem dX2_orderSign_81 : decode cX2_orderSign 81 = .ok (.bipush 10, 2) := by decide +kernel
theorem dX2_orderSign_83 : decode cX2_orderSign 83 = .ok (.ireturn, 1) := by decide +kernel
theorem dX2_orderSign_84 : decode cX2_orderSign 84 = .ok (.iconst 0, 1) := by decide +kernel
theorem dX2_orderSign_85 : decode cX2_orderSign 85 = .ok (.ireturn, 1) := by decide +kernel
theorem dX2_elemSign_0 : decode cX2_elemSign 0 = .ok (.aload_n 0, 1) := by decide +kernel
theorem dX2_elemSign_1 : decode cX2_elemSign 1 = .ok (.getfield 38, 3) := by decide +kernel
theorem dX2_elemSign_4 : decode cX2_elemSign 4 = .ok (.ifnull 20, 3) := by decide +kernel
theorem dX2_elemSign_7 : decode cX2_elemSign 7 = .ok (.aload_n 0, 1) := by decide +kernel
theorem dX2_elemSign_8 : decode cX2_elemSign 8 = .ok (.getfield 38, 3) := by decide +kernel
theorem dX2_elemSign_11 : decode cX2_elemSign 11 = .ok (.getfield 46, 3) := by decide +kernel
theorem dX2_elemSign_14 : decode cX2_elemSign 14 = .ok (.invokestatic 64, 3) := by decide +kernel
theorem dX2_elemSign_17 : decode cX2_elemSign 17 = .ok (.ifCond .eq 7, 3) := by decide +kernel
theorem dX2_elemSign_20 : decode cX2_elemSign 20 = .ok (.iconst 1, 1) := by decide +kernel
theorem dX2_elemSign_21 : decode cX2_elemSign 21 = .ok (.goto 4, 3) := by decide +kernel
theorem dX2_elemSign_24 : decode cX2_elemSign 24 = .ok (.iconst 0, 1) := by decide +kernel
theorem dX2_elemSign_25 : decode cX2_elemSign 25 = .ok (.istore_n 1, 1) := by decide +kernel
theorem dX2_elemSign_26 : decode cX2_elemSign 26 = .ok (.aload_n 0, 1) := by decide +kernel
theorem dX2_elemSign_27 : decode cX2_elemSign 27 = .ok (.invokevirtual 108, 3) := by decide +kernel
theorem dX2_elemSign_30 : decode cX2_elemSign 30 = .ok (.ifCond .eq 12, 3) := by decide +kernel
theorem dX2_elemSign_33 : decode cX2_elemSign 33 = .ok (.iload_n 1, 1) := by decide +kernel
theorem dX2_elemSign_34 : decode cX2_elemSign 34 = .ok (.ifCond .ne 8, 3) := by decide +kernel
theorem dX2_elemSign_37 : decode cX2_elemSign 37 = .ok (.bipush 13, 2) := by decide +kernel
theorem dX2_elemSign_39 : decode cX2_elemSign 39 = .ok (.goto 5, 3) := by decide +kernel
theorem dX2_elemSign_42 : decode cX2_elemSign 42 = .ok (.bipush 14, 2) := by decide +kernel
theorem dX2_elemSign_44 : decode cX2_elemSign 44 = .ok (.ireturn, 1) := by decide +kernel
theorem dX2_isNegated_0 : decode cX2_isNegated 0 = .ok (.aload_n 0, 1) := by decide +kernel
theorem dX2_isNegated_1 : decode cX2_isNegated 1 = .ok (.getfield 46, 3) := by decide +kernel
theorem dX2_isNegated_4 : decode cX2_isNegated 4 = .ok (.astore_n 1, 1) := by decide +kernel
theorem dX2_isNegated_5 : decode cX2_isNegated 5 = .ok (.aload_n 1, 1) := by decide +kernel
theorem dX2_isNegated_6 : decode cX2_isNegated 6 = .ok (.ldc 149, 2) := by decide +kernel
theorem dX2_isNegated_8 : decode cX2_isNegated 8 = .ok (.invokevirtual 86, 3) := by decide +kernel
theorem dX2_isNegated_11 : decode cX2_isNegated 11 = .ok (.ifCond .eq 18, 3) := by decide +kernel
theorem dX2_isNegated_14 : decode cX2_isNegated 14 = .ok (.aload_n 0, 1) := by decide +kernel
theorem dX2_isNegated_15 : decode cX2_isNegated 15 = .ok (.getfield 171, 3) := by decide +kernel
theorem dX2_isNegated_18 : decode cX2_isNegated 18 = .ok (.lconst 0, 1) := by decide +kernel
theorem dX2_isNegated_19 : decode cX2_isNegated 19 = .ok (.lcmp, 1) := by decide +kernel
theorem dX2_isNegated_20 : decode cX2_isNegated 20 = .ok (.ifCond .ne 7, 3) := by decide +kernel
theorem dX2_isNegated_23 : decode cX2_isNegated 23 = .ok (.iconst 1, 1) := by decide +kernel
theorem dX2_isNegated_24 : decode cX2_isNegated 24 = .ok (.goto 4, 3) := by decide +kernel
theorem dX2_isNegated_27 : decode cX2_isNegated 27 = .ok (.iconst 0, 1) := by decide +kernel
theorem dX2_isNegated_28 : decode cX2_isNegated 28 = .ok (.ireturn, 1) := by decide +kernel
theorem dX2_isNegated_29 : decode cX2_isNegated 29 = .ok (.aload_n 1, 1) := by decide +kernel
theorem dX2_isNegated_30 : decode cX2_isNegated 30 = .ok (.ldc 143, 2) := by decide +kernel
theorem dX2_isNegated_32 : decode cX2_isNegated 32 = .ok (.invokevirtual 86, 3) := by decide +kernel
theorem dX2_isNegated_35 : decode cX2_isNegated 35 = .ok (.ifCond .ne 21, 3) := by decide +kernel
theorem dX2_isNegated_38 : decode cX2_isNegated 38 = .ok (.aload_n 1, 1) := by decide +kernel
theorem dX2_isNegated_39 : decode cX2_isNegated 39 = .ok (.ldc 147, 2) := by decide +kernel
theorem dX2_isNegated_41 : decode cX2_isNegated 41 = .ok (.invokevirtual 86, 3) := by decide +kernel
theorem dX2_isNegated_44 : decode cX2_isNegated 44 = .ok (.ifCond .ne 12, 3) := by decide +kernel
theorem dX2_isNegated_47 : decode cX2_isNegated 47 = .ok (.aload_n 1, 1) := by decide +kernel
theorem dX2_isNegated_48 : decode cX2_isNegated 48 = .ok (.ldc 158, 2) := by decide +kernel
theorem dX2_isNegated_50 : decode cX2_isNegated 50 = .ok (.invokevirtual 86, 3) := by decide +kernel
theorem dX2_isNegated_53 : decode cX2_isNegated 53 = .ok (.ifCond .eq 7, 3) := by decide +kernel
theorem dX2_isNegated_56 : decode cX2_isNegated 56 = .ok (.iconst 1, 1) := by decide +kernel
theorem dX2_isNegated_57 : decode cX2_isNegated 57 = .ok (.goto 4, 3) := by decide +kernel
theorem dX2_isNegated_60 : decode cX2_isNegated 60 = .ok (.iconst 0, 1) := by decide +kernel
theorem dX2_isNegated_61 : decode cX2_isNegated 61 = .ok (.ireturn, 1) := by decide +kernel
theorem dX2_isValueFor_0 : decode cX2_isValueFor 0 = .ok (.iload_n 0, 1) := by decide +kernel
theorem dX2_isValueFor_1 : decode cX2_isValueFor 1 = .ok (.tableswitch 129 6 15 #[55, 129, 129, 129, 129, 69, 84, 110, 110, 124], 55) := by decide +kernel
theorem dX2_isValueFor_56 : decode cX2_isValueFor 56 = .ok (.aload_n 1, 1) := by decide +kernel
theorem dX2_isValueFor_57 : decode cX2_isValueFor 57 = .ok (.getfield 72, 3) := by decide +kernel
theorem dX2_isValueFor_60 : decode cX2_isValueFor 60 = .ok (.iconst 4, 1) := by decide +kernel
theorem dX2_isValueFor_61 : decode cX2_isValueFor 61 = .ok (.if_icmp .ne 7, 3) := by decide +kernel
theorem dX2_isValueFor_64 : decode cX2_isValueFor 64 = .ok (.iconst 1, 1) := by decide +kernel
theorem dX2_isValueFor_65 : decode cX2_isValueFor 65 = .ok (.goto 4, 3) := by decide +kernel
theorem dX2_isValueFor_68 : decode cX2_isValueFor 68 = .ok (.iconst 0, 1) := by decide +kernel
theorem dX2_isValueFor_69 : decode cX2_isValueFor 69 = .ok (.ireturn, 1) := by decide +kernel
theorem dX2_isValueFor_70 : decode cX2_isValueFor 70 = .ok (.aload_n 1, 1) := by decide +kernel
theorem dX2_isValueFor_71 : decode cX2_isValueFor 71 = .ok (.getfield 72, 3) := by decide +kernel
theorem dX2_isValueFor_74 : decode cX2_isValueFor 74 = .ok (.bipush 8, 2) := by decide +kernel
theorem dX2_isValueFor_76 : decode cX2_isValueFor 76 = .ok (.if_icmp .ne 7, 3) := by decide +kernel
theorem dX2_isValueFor_79 : decode cX2_isValueFor 79 = .ok (.iconst 1, 1) := by decide +kernel
theorem dX2_isValueFor_80 : decode cX2_isValueFor 80 = .ok (.goto 4, 3) := by decide +kernel
theorem dX2_isValueFor_83 : decode cX2_isValueFor 83 = .ok (.iconst 0, 1) := by decide +kernel
theorem dX2_isValueFor_84 : decode cX2_isValueFor 84 = .ok (.ireturn, 1) := by decide +kernel
theorem dX2_isValueFor_85 : decode cX2_isValueFor 85 = .ok (.aload_n 1, 1) := by decide +kernel
theorem dX2_isValueFor_86 : decode cX2_isValueFor 86 = .ok (.getfield 72, 3) := by decide +kernel
theorem dX2_isValueFor_89 : decode cX2_isValueFor 89 = .ok (.invokestatic 175, 3) := by decide +kernel
theorem dX2_isValueFor_92 : decode cX2_isValueFor 92 = .ok (.iconst 2, 1) := by decide +kernel
theorem dX2_isValueFor_93 : decode cX2_isValueFor 93 = .ok (.if_icmp .ne 16, 3) := by decide +kernel
theorem dX2_isValueFor_96 : decode cX2_isValueFor 96 = .ok (.aload_n 1, 1) := by decide +kernel
theorem dX2_isValueFor_97 : decode cX2_isValueFor 97 = .ok (.getfield 171, 3) := by decide +kernel
theorem dX2_isValueFor_100 : decode cX2_isValueFor 100 = .ok (.lconst 0, 1) := by decide +kernel
theorem dX2_isValueFor_101 : decode cX2_isValueFor 101 = .ok (.lcmp, 1) := by decide +kernel
theorem dX2_isValueFor_102 : decode cX2_isValueFor 102 = .ok (.ifCond .lt 7, 3) := by decide +kernel
theorem dX2_isValueFor_105 : decode cX2_isValueFor 105 = .ok (.iconst 1, 1) := by decide +kernel
theorem dX2_isValueFor_106 : decode cX2_isValueFor 106 = .ok (.goto 4, 3) := by decide +kernel
theorem dX2_isValueFor_109 : decode cX2_isValueFor 109 = .ok (.iconst 0, 1) := by decide +kernel
theorem dX2_isValueFor_110 : decode cX2_isValueFor 110 = .ok (.ireturn, 1) := by decide +kernel
theorem dX2_isValueFor_111 : decode cX2_isValueFor 111 = .ok (.aload_n 1, 1) := by decide +kernel
theorem dX2_isValueFor_112 : decode cX2_isValueFor 112 = .ok (.getfield 72, 3) := by decide +kernel
theorem dX2_isValueFor_115 : decode cX2_isValueFor 115 = .ok (.iconst 3, 1) := by decide +kernel
theorem dX2_isValueFor_116 : decode cX2_isValueFor 116 = .ok (.if_icmp .ne 7, 3) := by decide +kernel
theorem dX2_isValueFor_119 : decode cX2_isValueFor 119 = .ok (.iconst 1, 1) := by decide +kernel
theorem dX2_isValueFor_120 : decode cX2_isValueFor 120 = .ok (.goto 4, 3) := by decide +kernel
theorem dX2_isValueFor_123 : decode cX2_isValueFor 123 = .ok (.iconst 0, 1) := by decide +kernel
theorem dX2_isValueFor_124 : decode cX2_isValueFor 124 = .ok (.ireturn, 1) := by decide +kernel
theorem dX2_isValueFor_125 : decode cX2_isValueFor 125 = .ok (.aload_n 1, 1) := by decide +kernel
theorem dX2_isValueFor_126 : decode cX2_isValueFor 126 = .ok (.invokevirtual 108, 3) := by decide +kernel
theorem dX2_isValueFor_129 : decode cX2_isValueFor 129 = .ok (.ireturn, 1) := by decide +kernel
theorem dX2_isValueFor_130 : decode cX2_isValueFor 130 = .ok (.iconst 1, 1) := by decide +kernel
theorem dX2_isValueFor_131 : decode cX2_isValueFor 131 = .ok (.ireturn, 1) := by decide +kernel
theorem dX3_classOf_0 : decode cX3_classOf 0 = .ok (.iload_n 0, 1) := by decide +kernel
theorem dX3_classOf_1 : decode cX3_classOf 1 = .ok (.tableswitch 96 2 18 #[87, 89, 91, 96, 96, 96, 93, 96, 83, 96, 96, 96, 96, 96, 85, 96, 85], 83) := by decide +kernel
theorem dX3_classOf_84 : decode cX3_classOf 84 = .ok (.iconst 1, 1) := by decide +kernel
theorem dX3_classOf_85 : decode cX3_classOf 85 = .ok (.ireturn, 1) := by decide +kernel
theorem dX3_classOf_86 : decode cX3_classOf 86 = .ok (.iconst 2, 1) := by decide +kernel
theorem dX3_classOf_87 : decode cX3_classOf 87 = .ok (.ireturn, 1) := by decide +kernel
theorem dX3_classOf_88 : decode cX3_classOf 88 = .ok (.iconst 3, 1) := by decide +kernel
theorem dX3_classOf_89 : decode cX3_classOf 89 = .ok (.ireturn, 1) := by decide +kernel
theorem dX3_classOf_90 : decode cX3_classOf 90 = .ok (.iconst 4, 1) := by decide +kernel
theorem dX3_classOf_91 : decode cX3_classOf 91 = .ok (.ireturn, 1) := by decide +kernel
theorem dX3_classOf_92 : decode cX3_classOf 92 = .ok (.iconst 5, 1) := by decide +kernel
theorem dX3_classOf_93 : decode cX3_classOf 93 = .ok (.ireturn, 1) := by decide +kernel
theorem dX3_classOf_94 : decode cX3_classOf 94 = .ok (.bipush 6, 2) := by decide +kernel
theorem dX3_classOf_96 : decode cX3_classOf 96 = .ok (.ireturn, 1) := by decide +kernel
theorem dX3_classOf_97 : decode cX3_classOf 97 = .ok (.iconst 0, 1) := by decide +kernel
theorem dX3_classOf_98 : decode cX3_classOf 98 = .ok (.ireturn, 1) := by decide +kernel
theorem dX4_init_0 : decode cX4_init 0 = .ok (.aload_n 0, 1) := by decide +kernel
theorem dX4_init_1 : decode cX4_init 1 = .ok (.invokespecial 3, 3) := by decide +kernel
theorem dX4_init_4 : decode cX4_init 4 = .ok (.aload_n 0, 1) := by decide +kernel
theorem dX4_init_5 : decode cX4_init 5 = .ok (.new 9, 3) := by decide +kernel
theorem dX4_init_8 : decode cX4_init 8 = .ok (.dup, 1) := by decide +kernel
theorem dX4_init_9 : decode cX4_init 9 = .ok (.iconst 0, 1) := by decide +kernel
theorem dX4_init_10 : decode cX4_init 10 = .ok (.iconst (-1), 1) := by decide +kernel
theorem dX4_init_11 : decode cX4_init 11 = .ok (.ldc 13, 2) := by decide +kernel
theorem dX4_init_13 : decode cX4_init 13 = .ok (.invokespecial 15, 3) := by decide +kernel
theorem dX4_init_16 : decode cX4_init 16 = .ok (.putfield 18, 3) := by decide +kernel
theorem dX4_init_19 : decode cX4_init 19 = .ok (.return_, 1) := by decide +kernel
theorem dX4_firstFailing_0 : decode cX4_firstFailing 0 = .ok (.iconst 0, 1) := by decide +kernel
theorem dX4_firstFailing_1 : decode cX4_firstFailing 1 = .ok (.istore 4, 2) := by decide +kernel
theorem dX4_firstFailing_3 : decode cX4_firstFailing 3 = .ok (.aload_n 1, 1) := by decide +kernel
theorem dX4_firstFailing_4 : decode cX4_firstFailing 4 = .ok (.getfield 24, 3) := by decide +kernel
theorem dX4_firstFailing_7 : decode cX4_firstFailing 7 = .ok (.astore 5, 2) := by decide +kernel
theorem dX4_firstFailing_9 : decode cX4_firstFailing 9 = .ok (.aload 5, 2) := by decide +kernel
theorem dX4_firstFailing_11 : decode cX4_firstFailing 11 = .ok (.ifnull 30, 3) := by decide +kernel
theorem dX4_firstFailing_14 : decode cX4_firstFailing 14 = .ok (.aload_n 0, 1) := by decide +kernel
theorem dX4_firstFailing_15 : decode cX4_firstFailing 15 = .ok (.aload 5, 2) := by decide +kernel
theorem dX4_firstFailing_17 : decode cX4_firstFailing 17 = .ok (.aload_n 2, 1) := by decide +kernel
theorem dX4_firstFailing_18 : decode cX4_firstFailing 18 = .ok (.iload_n 3, 1) := by decide +kernel
theorem dX4_firstFailing_19 : decode cX4_firstFailing 19 = .ok (.invokevirtual 30, 3) := by decide +kernel
theorem dX4_firstFailing_22 : decode cX4_firstFailing 22 = .ok (.ifCond .ne 6, 3) := by decide +kernel
theorem dX4_firstFailing_25 : decode cX4_firstFailing 25 = .ok (.iload 4, 2) := by decide +kernel
theorem dX4_firstFailing_27 : decode cX4_firstFailing 27 = .ok (.ireturn, 1) := by decide +kernel
theorem dX4_firstFailing_28 : decode cX4_firstFailing 28 = .ok (.iinc 4 1, 3) := by decide +kernel
theorem dX4_firstFailing_31 : decode cX4_firstFailing 31 = .ok (.aload 5, 2) := by decide +kernel
theorem dX4_firstFailing_33 : decode cX4_firstFailing 33 = .ok (.getfield 34, 3) := by decide +kernel
theorem dX4_firstFailing_36 : decode cX4_firstFailing 36 = .ok (.astore 5, 2) := by decide +kernel
theorem dX4_firstFailing_38 : decode cX4_firstFailing 38 = .ok (.goto (-29), 3) := by decide +kernel
theorem dX4_firstFailing_41 : decode cX4_firstFailing 41 = .ok (.iconst (-1), 1) := by decide +kernel
theorem dX4_firstFailing_42 : decode cX4_firstFailing 42 = .ok (.ireturn, 1) := by decide +kernel
theorem dX4_clauseHolds_0 : decode cX4_clauseHolds 0 = .ok (.iload_n 3, 1) := by decide +kernel
theorem dX4_clauseHolds_1 : decode cX4_clauseHolds 1 = .ok (.bipush 40, 2) := by decide +kernel
theorem dX4_clauseHolds_3 : decode cX4_clauseHolds 3 = .ok (.if_icmp .le 5, 3) := by decide +kernel
theorem dX4_clauseHolds_6 : decode cX4_clauseHolds 6 = .ok (.iconst 0, 1) := by decide +kernel
theorem dX4_clauseHolds_7 : decode cX4_clauseHolds 7 = .ok (.ireturn, 1) := by decide +kernel
theorem dX4_clauseHolds_8 : decode cX4_clauseHolds 8 = .ok (.aload_n 1, 1) := by decide +kernel
theorem dX4_clauseHolds_9 : decode cX4_clauseHolds 9 = .ok (.getfield 37, 3) := by decide +kernel
theorem dX4_clauseHolds_12 : decode cX4_clauseHolds 12 = .ok (.lookupswitch 66 #[(2, 28), (3, 45)], 28) := by decide +kernel
theorem dX4_clauseHolds_40 : decode cX4_clauseHolds 40 = .ok (.aload_n 0, 1) := by decide +kernel
theorem dX4_clauseHolds_41 : decode cX4_clauseHolds 41 = .ok (.iconst 0, 1) := by decide +kernel
theorem dX4_clauseHolds_42 : decode cX4_clauseHolds 42 = .ok (.aload_n 1, 1) := by decide +kernel
theorem dX4_clauseHolds_43 : decode cX4_clauseHolds 43 = .ok (.aload_n 2, 1) := by decide +kernel
theorem dX4_clauseHolds_44 : decode cX4_clauseHolds 44 = .ok (.iload_n 3, 1) := by decide +kernel
theorem dX4_clauseHolds_45 : decode cX4_clauseHolds 45 = .ok (.invokevirtual 41, 3) := by decide +kernel
theorem dX4_clauseHolds_48 : decode cX4_clauseHolds 48 = .ok (.ifCond .ne 7, 3) := by decide +kernel
theorem dX4_clauseHolds_51 : decode cX4_clauseHolds 51 = .ok (.iconst 1, 1) := by decide +kernel
theorem dX4_clauseHolds_52 : decode cX4_clauseHolds 52 = .ok (.goto 4, 3) := by decide +kernel
theorem dX4_clauseHolds_55 : decode cX4_clauseHolds 55 = .ok (.iconst 0, 1) := by decide +kernel
theorem dX4_clauseHolds_56 : decode cX4_clauseHolds 56 = .ok (.ireturn, 1) := by decide +kernel
theorem dX4_clauseHolds_57 : decode cX4_clauseHolds 57 = .ok (.aload_n 0, 1) := by decide +kernel
theorem dX4_clauseHolds_58 : decode cX4_clauseHolds 58 = .ok (.iconst 1, 1) := by decide +kernel
theorem dX4_clauseHolds_59 : decode cX4_clauseHolds 59 = .ok (.aload_n 1, 1) := by decide +kernel
theorem dX4_clauseHolds_60 : decode cX4_clauseHolds 60 = .ok (.aload_n 2, 1) := by decide +kernel
theorem dX4_clauseHolds_61 : decode cX4_clauseHolds 61 = .ok (.iload_n 3, 1) := by decide +kernel
theorem dX4_clauseHolds_62 : decode cX4_clauseHolds 62 = .ok (.invokevirtual 41, 3) := by decide +kernel
theorem dX4_clauseHolds_65 : decode cX4_clauseHolds 65 = .ok (.aload_n 1, 1) := by decide +kernel
theorem dX4_clauseHolds_66 : decode cX4_clauseHolds 66 = .ok (.getfield 45, 3) := by decide +kernel
theorem dX4_clauseHolds_69 : decode cX4_clauseHolds 69 = .ok (.if_icmp .eq 7, 3) := by decide +kernel
theorem dX4_clauseHolds_72 : decode cX4_clauseHolds 72 = .ok (.iconst 1, 1) := by decide +kernel
theorem dX4_clauseHolds_73 : decode cX4_clauseHolds 73 = .ok (.goto 4, 3) := by decide +kernel
theorem dX4_clauseHolds_76 : decode cX4_clauseHolds 76 = .ok (.iconst 0, 1) := by decide +kernel
theorem dX4_clauseHolds_77 : decode cX4_clauseHolds 77 = .ok (.ireturn, 1) := by decide +kernel
theorem dX4_clauseHolds_78 : decode cX4_clauseHolds 78 = .ok (.aload_n 0, 1) := by decide +kernel
theorem dX4_clauseHolds_79 : decode cX4_clauseHolds 79 = .ok (.aload_n 1, 1) := by decide +kernel
theorem dX4_clauseHolds_80 : decode cX4_clauseHolds 80 = .ok (.aload_n 1, 1) := by decide +kernel
theorem dX4_clauseHolds_81 : decode cX4_clauseHolds 81 = .ok (.getfield 49, 3) := by decide +kernel
theorem dX4_clauseHolds_84 : decode cX4_clauseHolds 84 = .ok (.aload_n 2, 1) := by decide +kernel
theorem dX4_clauseHolds_85 : decode cX4_clauseHolds 85 = .ok (.iload_n 3, 1) := by decide +kernel
theorem dX4_clauseHolds_86 : decode cX4_clauseHolds 86 = .ok (.invokevirtual 53, 3) := by decide +kernel
theorem dX4_clauseHolds_89 : decode cX4_clauseHolds 89 = .ok (.ireturn, 1) := by decide +kernel
theorem dX4_somePartIs_0 : decode cX4_somePartIs 0 = .ok (.aload_n 2, 1) := by decide +kernel
theorem dX4_somePartIs_1 : decode cX4_somePartIs 1 = .ok (.getfield 24, 3) := by decide +kernel
theorem dX4_somePartIs_4 : decode cX4_somePartIs 4 = .ok (.astore 5, 2) := by decide +kernel
theorem dX4_somePartIs_6 : decode cX4_somePartIs 6 = .ok (.aload 5, 2) := by decide +kernel
theorem dX4_somePartIs_8 : decode cX4_somePartIs 8 = .ok (.ifnull 38, 3) := by decide +kernel
theorem dX4_somePartIs_11 : decode cX4_somePartIs 11 = .ok (.aload_n 0, 1) := by decide +kernel
theorem dX4_somePartIs_12 : decode cX4_somePartIs 12 = .ok (.aload 5, 2) := by decide +kernel
theorem dX4_somePartIs_14 : decode cX4_somePartIs 14 = .ok (.aload_n 3, 1) := by decide +kernel
theorem dX4_somePartIs_15 : decode cX4_somePartIs 15 = .ok (.iload 4, 2) := by decide +kernel
theorem dX4_somePartIs_17 : decode cX4_somePartIs 17 = .ok (.iconst 1, 1) := by decide +kernel
theorem dX4_somePartIs_18 : decode cX4_somePartIs 18 = .ok (.iadd, 1) := by decide +kernel
theorem dX4_somePartIs_19 : decode cX4_somePartIs 19 = .ok (.invokevirtual 57, 3) := by decide +kernel
theorem dX4_somePartIs_22 : decode cX4_somePartIs 22 = .ok (.ifCond .ge 7, 3) := by decide +kernel
theorem dX4_somePartIs_25 : decode cX4_somePartIs 25 = .ok (.iconst 1, 1) := by decide +kernel
theorem dX4_somePartIs_26 : decode cX4_somePartIs 26 = .ok (.goto 4, 3) := by decide +kernel
theorem dX4_somePartIs_29 : decode cX4_somePartIs 29 = .ok (.iconst 0, 1) := by decide +kernel
theorem dX4_somePartIs_30 : decode cX4_somePartIs 30 = .ok (.iload_n 1, 1) := by decide +kernel
theorem dX4_somePartIs_31 : decode cX4_somePartIs 31 = .ok (.if_icmp .ne 5, 3) := by decide +kernel
theorem dX4_somePartIs_34 : decode cX4_somePartIs 34 = .ok (.iconst 1, 1) := by decide +kernel
theorem dX4_somePartIs_35 : decode cX4_somePartIs 35 = .ok (.ireturn, 1) := by decide +kernel
theorem dX4_somePartIs_36 : decode cX4_somePartIs 36 = .ok (.aload 5, 2) := by decide +kernel
theorem dX4_somePartIs_38 : decode cX4_somePartIs 38 = .ok (.getfield 34, 3) := by decide +kernel
theorem dX4_somePartIs_41 : decode cX4_somePartIs 41 = .ok (.astore 5, 2) := by decide +kernel
theorem dX4_somePartIs_43 : decode cX4_somePartIs 43 = .ok (.goto (-37), 3) := by decide +kernel
theorem dX4_somePartIs_46 : decode cX4_somePartIs 46 = .ok (.iconst 0, 1) := by decide +kernel
theorem dX4_somePartIs_47 : decode cX4_somePartIs 47 = .ok (.ireturn, 1) := by decide +kernel
theorem dX4_conditionsHold_0 : decode cX4_conditionsHold 0 = .ok (.iload 4, 2) := by decide +kernel
theorem dX4_conditionsHold_2 : decode cX4_conditionsHold 2 = .ok (.bipush 40, 2) := by decide +kernel
theorem dX4_conditionsHold_4 : decode cX4_conditionsHold 4 = .ok (.if_icmp .le 5, 3) := by decide +kernel
theorem dX4_conditionsHold_7 : decode cX4_conditionsHold 7 = .ok (.iconst 0, 1) := by decide +kernel
theorem dX4_conditionsHold_8 : decode cX4_conditionsHold 8 = .ok (.ireturn, 1) := by decide +kernel
theorem dX4_conditionsHold_9 : decode cX4_conditionsHold 9 = .ok (.aload_n 1, 1) := by decide +kernel
theorem dX4_conditionsHold_10 : decode cX4_conditionsHold 10 = .ok (.getfield 24, 3) := by decide +kernel
theorem dX4_conditionsHold_13 : decode cX4_conditionsHold 13 = .ok (.astore 5, 2) := by decide +kernel
theorem dX4_conditionsHold_15 : decode cX4_conditionsHold 15 = .ok (.aload 5, 2) := by decide +kernel
theorem dX4_conditionsHold_17 : decode cX4_conditionsHold 17 = .ok (.ifnull 28, 3) := by decide +kernel
theorem dX4_conditionsHold_20 : decode cX4_conditionsHold 20 = .ok (.aload_n 0, 1) := by decide +kernel
theorem dX4_conditionsHold_21 : decode cX4_conditionsHold 21 = .ok (.aload 5, 2) := by decide +kernel
theorem dX4_conditionsHold_23 : decode cX4_conditionsHold 23 = .ok (.aload_n 2, 1) := by decide +kernel
theorem dX4_conditionsHold_24 : decode cX4_conditionsHold 24 = .ok (.aload_n 3, 1) := by decide +kernel
theorem dX4_conditionsHold_25 : decode cX4_conditionsHold 25 = .ok (.iload 4, 2) := by decide +kernel
theorem dX4_conditionsHold_27 : decode cX4_conditionsHold 27 = .ok (.invokevirtual 61, 3) := by decide +kernel
theorem dX4_conditionsHold_30 : decode cX4_conditionsHold 30 = .ok (.ifCond .ne 5, 3) := by decide +kernel
theorem dX4_conditionsHold_33 : decode cX4_conditionsHold 33 = .ok (.iconst 0, 1) := by decide +kernel
theorem dX4_conditionsHold_34 : decode cX4_conditionsHold 34 = .ok (.ireturn, 1) := by decide +kernel
theorem dX4_conditionsHold_35 : decode cX4_conditionsHold 35 = .ok (.aload 5, 2) := by decide +kernel
theorem dX4_conditionsHold_37 : decode cX4_conditionsHold 37 = .ok (.getfield 34, 3) := by decide +kernel
theorem dX4_conditionsHold_40 : decode cX4_conditionsHold 40 = .ok (.astore 5, 2) := by decide +kernel
theorem dX4_conditionsHold_42 : decode cX4_conditionsHold 42 = .ok (.goto (-27), 3) := by decide +kernel
theorem dX4_conditionsHold_45 : decode cX4_conditionsHold 45 = .ok (.iconst 1, 1) := by decide +kernel
theorem dX4_conditionsHold_46 : decode cX4_conditionsHold 46 = .ok (.ireturn, 1) := by decide +kernel
theorem dX4_conditionHolds_0 : decode cX4_conditionHolds 0 = .ok (.aload_n 1, 1) := by decide +kernel
theorem dX4_conditionHolds_1 : decode cX4_conditionHolds 1 = .ok (.getfield 37, 3) := by decide +kernel
theorem dX4_conditionHolds_4 : decode cX4_conditionHolds 4 = .ok (.bipush 15, 2) := by decide +kernel
theorem dX4_conditionHolds_6 : decode cX4_conditionHolds 6 = .ok (.if_icmp .ne 19, 3) := by decide +kernel
theorem dX4_conditionHolds_9 : decode cX4_conditionHolds 9 = .ok (.aload_n 0, 1) := by decide +kernel
theorem dX4_conditionHolds_10 : decode cX4_conditionHolds 10 = .ok (.aload_n 1, 1) := by decide +kernel
theorem dX4_conditionHolds_11 : decode cX4_conditionHolds 11 = .ok (.aload_n 2, 1) := by decide +kernel
theorem dX4_conditionHolds_12 : decode cX4_conditionHolds 12 = .ok (.aload_n 3, 1) := by decide +kernel
theorem dX4_conditionHolds_13 : decode cX4_conditionHolds 13 = .ok (.iload 4, 2) := by decide +kernel
theorem dX4_conditionHolds_15 : decode cX4_conditionHolds 15 = .ok (.iconst 1, 1) := by decide +kernel
theorem dX4_conditionHolds_16 : decode cX4_conditionHolds 16 = .ok (.iadd, 1) := by decide +kernel
theorem dX4_conditionHolds_17 : decode cX4_conditionHolds 17 = .ok (.invokevirtual 53, 3) := by decide +kernel
theorem dX4_conditionHolds_20 : decode cX4_conditionHolds 20 = .ok (.istore 5, 2) := by decide +kernel
theorem dX4_conditionHolds_22 : decode cX4_conditionHolds 22 = .ok (.goto 46, 3) := by decide +kernel
theorem dX4_conditionHolds_25 : decode cX4_conditionHolds 25 = .ok (.aload_n 0, 1) := by decide +kernel
theorem dX4_conditionHolds_26 : decode cX4_conditionHolds 26 = .ok (.aload_n 1, 1) := by decide +kernel
theorem dX4_conditionHolds_27 : decode cX4_conditionHolds 27 = .ok (.aload_n 2, 1) := by decide +kernel
theorem dX4_conditionHolds_28 : decode cX4_conditionHolds 28 = .ok (.aload_n 3, 1) := by decide +kernel
theorem dX4_conditionHolds_29 : decode cX4_conditionHolds 29 = .ok (.iload 4, 2) := by decide +kernel
theorem dX4_conditionHolds_31 : decode cX4_conditionHolds 31 = .ok (.invokevirtual 64, 3) := by decide +kernel
theorem dX4_conditionHolds_34 : decode cX4_conditionHolds 34 = .ok (.istore 6, 2) := by decide +kernel
theorem dX4_conditionHolds_36 : decode cX4_conditionHolds 36 = .ok (.iload 6, 2) := by decide +kernel
theorem dX4_conditionHolds_38 : decode cX4_conditionHolds 38 = .ok (.ifCond .ne 17, 3) := by decide +kernel
theorem dX4_conditionHolds_41 : decode cX4_conditionHolds 41 = .ok (.aload_n 0, 1) := by decide +kernel
theorem dX4_conditionHolds_42 : decode cX4_conditionHolds 42 = .ok (.aload_n 1, 1) := by decide +kernel
theorem dX4_conditionHolds_43 : decode cX4_conditionHolds 43 = .ok (.aload_n 0, 1) := by decide +kernel
theorem dX4_conditionHolds_44 : decode cX4_conditionHolds 44 = .ok (.getfield 18, 3) := by decide +kernel
theorem dX4_conditionHolds_47 : decode cX4_conditionHolds 47 = .ok (.iload 4, 2) := by decide +kernel
theorem dX4_conditionHolds_49 : decode cX4_conditionHolds 49 = .ok (.invokevirtual 68, 3) := by decide +kernel
theorem dX4_conditionHolds_52 : decode cX4_conditionHolds 52 = .ok (.goto 5, 3) := by decide +kernel
theorem dX4_conditionHolds_55 : decode cX4_conditionHolds 55 = .ok (.iload 6, 2) := by decide +kernel
theorem dX4_conditionHolds_57 : decode cX4_conditionHolds 57 = .ok (.iconst 2, 1) := by decide +kernel
theorem dX4_conditionHolds_58 : decode cX4_conditionHolds 58 = .ok (.if_icmp .ne 7, 3) := by decide +kernel
theorem dX4_conditionHolds_61 : decode cX4_conditionHolds 61 = .ok (.iconst 1, 1) := by decide +kernel
theorem dX4_conditionHolds_62 : decode cX4_conditionHolds 62 = .ok (.goto 4, 3) := by decide +kernel
theorem dX4_conditionHolds_65 : decode cX4_conditionHolds 65 = .ok (.iconst 0, 1) := by decide +kernel
theorem dX4_conditionHolds_66 : decode cX4_conditionHolds 66 = .ok (.istore 5, 2) := by decide +kernel
theorem dX4_conditionHolds_68 : decode cX4_conditionHolds 68 = .ok (.iload 5, 2) := by decide +kernel
theorem dX4_conditionHolds_70 : decode cX4_conditionHolds 70 = .ok (.aload_n 1, 1) := by decide +kernel
theorem dX4_conditionHolds_71 : decode cX4_conditionHolds 71 = .ok (.getfield 45, 3) := by decide +kernel
theorem dX4_conditionHolds_74 : decode cX4_conditionHolds 74 = .ok (.if_icmp .eq 7, 3) := by decide +kernel
theorem dX4_conditionHolds_77 : decode cX4_conditionHolds 77 = .ok (.iconst 1, 1) := by decide +kernel
theorem dX4_conditionHolds_78 : decode cX4_conditionHolds 78 = .ok (.goto 4, 3) := by decide +kernel
theorem dX4_conditionHolds_81 : decode cX4_conditionHolds 81 = .ok (.iconst 0, 1) := by decide +kernel
theorem dX4_conditionHolds_82 : decode cX4_conditionHolds 82 = .ok (.ireturn, 1) := by decide +kernel
theorem dX4_tryLeaves_0 : decode cX4_tryLeaves 0 = .ok (.iload 4, 2) := by decide +kernel
theorem dX4_tryLeaves_2 : decode cX4_tryLeaves 2 = .ok (.bipush 40, 2) := by decide +kernel
theorem dX4_tryLeaves_4 : decode cX4_tryLeaves 4 = .ok (.if_icmp .le 5, 3) := by decide +kernel
theorem dX4_tryLeaves_7 : decode cX4_tryLeaves 7 = .ok (.iconst 0, 1) := by decide +kernel
theorem dX4_tryLeaves_8 : decode cX4_tryLeaves 8 = .ok (.ireturn, 1) := by decide +kernel
theorem dX4_tryLeaves_9 : decode cX4_tryLeaves 9 = .ok (.aload_n 2, 1) := by decide +kernel
theorem dX4_tryLeaves_10 : decode cX4_tryLeaves 10 = .ok (.ifnonnull 12, 3) := by decide +kernel
theorem dX4_tryLeaves_13 : decode cX4_tryLeaves 13 = .ok (.aload_n 0, 1) := by decide +kernel
theorem dX4_tryLeaves_14 : decode cX4_tryLeaves 14 = .ok (.aload_n 1, 1) := by decide +kernel
theorem dX4_tryLeaves_15 : decode cX4_tryLeaves 15 = .ok (.aload_n 3, 1) := by decide +kernel
theorem dX4_tryLeaves_16 : decode cX4_tryLeaves 16 = .ok (.iload 4, 2) := by decide +kernel
theorem dX4_tryLeaves_18 : decode cX4_tryLeaves 18 = .ok (.invokevirtual 68, 3) := by decide +kernel
theorem dX4_tryLeaves_21 : decode cX4_tryLeaves 21 = .ok (.ireturn, 1) := by decide +kernel
theorem dX4_tryLeaves_22 : decode cX4_tryLeaves 22 = .ok (.aload_n 3, 1) := by decide +kernel
theorem dX4_tryLeaves_23 : decode cX4_tryLeaves 23 = .ok (.getfield 71, 3) := by decide +kernel
theorem dX4_tryLeaves_26 : decode cX4_tryLeaves 26 = .ok (.iconst 4, 1) := by decide +kernel
theorem dX4_tryLeaves_27 : decode cX4_tryLeaves 27 = .ok (.if_icmp .ne 13, 3) := by decide +kernel
theorem dX4_tryLeaves_30 : decode cX4_tryLeaves 30 = .ok (.aload_n 0, 1) := by decide +kernel
theorem dX4_tryLeaves_31 : decode cX4_tryLeaves 31 = .ok (.aload_n 1, 1) := by decide +kernel
theorem dX4_tryLeaves_32 : decode cX4_tryLeaves 32 = .ok (.aload_n 2, 1) := by decide +kernel
theorem dX4_tryLeaves_33 : decode cX4_tryLeaves 33 = .ok (.aload_n 3, 1) := by decide +kernel
theorem dX4_tryLeaves_34 : decode cX4_tryLeaves 34 = .ok (.iload 4, 2) := by decide +kernel
theorem dX4_tryLeaves_36 : decode cX4_tryLeaves 36 = .ok (.invokevirtual 74, 3) := by decide +kernel
theorem dX4_tryLeaves_39 : decode cX4_tryLeaves 39 = .ok (.ireturn, 1) := by decide +kernel
theorem dX4_tryLeaves_40 : decode cX4_tryLeaves 40 = .ok (.aload_n 3, 1) := by decide +kernel
theorem dX4_tryLeaves_41 : decode cX4_tryLeaves 41 = .ok (.aload_n 2, 1) := by decide +kernel
theorem dX4_tryLeaves_42 : decode cX4_tryLeaves 42 = .ok (.getfield 77, 3) := by decide +kernel
theorem dX4_tryLeaves_45 : decode cX4_tryLeaves 45 = .ok (.invokevirtual 83, 3) := by decide +kernel
theorem dX4_tryLeaves_48 : decode cX4_tryLeaves 48 = .ok (.astore 5, 2) := by decide +kernel
theorem dX4_tryLeaves_50 : decode cX4_tryLeaves 50 = .ok (.aload 5, 2) := by decide +kernel
theorem dX4_tryLeaves_52 : decode cX4_tryLeaves 52 = .ok (.ifnonnull 15, 3) := by decide +kernel
theorem dX4_tryLeaves_55 : decode cX4_tryLeaves 55 = .ok (.aload_n 0, 1) := by decide +kernel
theorem dX4_tryLeaves_56 : decode cX4_tryLeaves 56 = .ok (.aload_n 1, 1) := by decide +kernel
theorem dX4_tryLeaves_57 : decode cX4_tryLeaves 57 = .ok (.aload_n 0, 1) := by decide +kernel
theorem dX4_tryLeaves_58 : decode cX4_tryLeaves 58 = .ok (.getfield 18, 3) := by decide +kernel
theorem dX4_tryLeaves_61 : decode cX4_tryLeaves 61 = .ok (.iload 4, 2) := by decide +kernel
theorem dX4_tryLeaves_63 : decode cX4_tryLeaves 63 = .ok (.invokevirtual 68, 3) := by decide +kernel
theorem dX4_tryLeaves_66 : decode cX4_tryLeaves 66 = .ok (.ireturn, 1) := by decide +kernel
theorem dX4_tryLeaves_67 : decode cX4_tryLeaves 67 = .ok (.aload_n 0, 1) := by decide +kernel
theorem dX4_tryLeaves_68 : decode cX4_tryLeaves 68 = .ok (.aload_n 1, 1) := by decide +kernel
theorem dX4_tryLeaves_69 : decode cX4_tryLeaves 69 = .ok (.aload_n 2, 1) := by decide +kernel
theorem dX4_tryLeaves_70 : decode cX4_tryLeaves 70 = .ok (.getfield 87, 3) := by decide +kernel
theorem dX4_tryLeaves_73 : decode cX4_tryLeaves 73 = .ok (.aload 5, 2) := by decide +kernel
theorem dX4_tryLeaves_75 : decode cX4_tryLeaves 75 = .ok (.iload 4, 2) := by decide +kernel
theorem dX4_tryLeaves_77 : decode cX4_tryLeaves 77 = .ok (.iconst 1, 1) := by decide +kernel
theorem dX4_tryLeaves_78 : decode cX4_tryLeaves 78 = .ok (.iadd, 1) := by decide +kernel
theorem dX4_tryLeaves_79 : decode cX4_tryLeaves 79 = .ok (.invokevirtual 64, 3) := by decide +kernel
theorem dX4_tryLeaves_82 : decode cX4_tryLeaves 82 = .ok (.ireturn, 1) := by decide +kernel
theorem dX4_tryLeavesOfRow_0 : decode cX4_tryLeavesOfRow 0 = .ok (.aload_n 3, 1) := by decide +kernel
theorem dX4_tryLeavesOfRow_1 : decode cX4_tryLeavesOfRow 1 = .ok (.aload_n 2, 1) := by decide +kernel
theorem dX4_tryLeavesOfRow_2 : decode cX4_tryLeavesOfRow 2 = .ok (.getfield 77, 3) := by decide +kernel
theorem dX4_tryLeavesOfRow_5 : decode cX4_tryLeavesOfRow 5 = .ok (.invokevirtual 83, 3) := by decide +kernel
theorem dX4_tryLeavesOfRow_8 : decode cX4_tryLeavesOfRow 8 = .ok (.astore 5, 2) := by decide +kernel
theorem dX4_tryLeavesOfRow_10 : decode cX4_tryLeavesOfRow 10 = .ok (.iconst 0, 1) := by decide +kernel
theorem dX4_tryLeavesOfRow_11 : decode cX4_tryLeavesOfRow 11 = .ok (.istore 6, 2) := by decide +kernel
theorem dX4_tryLeavesOfRow_13 : decode cX4_tryLeavesOfRow 13 = .ok (.aload 5, 2) := by decide +kernel
theorem dX4_tryLeavesOfRow_15 : decode cX4_tryLeavesOfRow 15 = .ok (.ifnull 20, 3) := by decide +kernel
theorem dX4_tryLeavesOfRow_18 : decode cX4_tryLeavesOfRow 18 = .ok (.aload_n 0, 1) := by decide +kernel
theorem dX4_tryLeavesOfRow_19 : decode cX4_tryLeavesOfRow 19 = .ok (.aload_n 1, 1) := by decide +kernel
theorem dX4_tryLeavesOfRow_20 : decode cX4_tryLeavesOfRow 20 = .ok (.aload_n 2, 1) := by decide +kernel
theorem dX4_tryLeavesOfRow_21 : decode cX4_tryLeavesOfRow 21 = .ok (.getfield 87, 3) := by decide +kernel
theorem dX4_tryLeavesOfRow_24 : decode cX4_tryLeavesOfRow 24 = .ok (.aload 5, 2) := by decide +kernel
theorem dX4_tryLeavesOfRow_26 : decode cX4_tryLeavesOfRow 26 = .ok (.iload 4, 2) := by decide +kernel
theorem dX4_tryLeavesOfRow_28 : decode cX4_tryLeavesOfRow 28 = .ok (.iconst 1, 1) := by decide +kernel
theorem dX4_tryLeavesOfRow_29 : decode cX4_tryLeavesOfRow 29 = .ok (.iadd, 1) := by decide +kernel
theorem dX4_tryLeavesOfRow_30 : decode cX4_tryLeavesOfRow 30 = .ok (.invokevirtual 64, 3) := by decide +kernel
theorem dX4_tryLeavesOfRow_33 : decode cX4_tryLeavesOfRow 33 = .ok (.istore 6, 2) := by decide +kernel
theorem dX4_tryLeavesOfRow_35 : decode cX4_tryLeavesOfRow 35 = .ok (.aload_n 3, 1) := by decide +kernel
theorem dX4_tryLeavesOfRow_36 : decode cX4_tryLeavesOfRow 36 = .ok (.getfield 89, 3) := by decide +kernel
theorem dX4_tryLeavesOfRow_39 : decode cX4_tryLeavesOfRow 39 = .ok (.astore 7, 2) := by decide +kernel
theorem dX4_tryLeavesOfRow_41 : decode cX4_tryLeavesOfRow 41 = .ok (.aload 7, 2) := by decide +kernel
theorem dX4_tryLeavesOfRow_43 : decode cX4_tryLeavesOfRow 43 = .ok (.ifnull 47, 3) := by decide +kernel
theorem dX4_tryLeavesOfRow_46 : decode cX4_tryLeavesOfRow 46 = .ok (.iload 6, 2) := by decide +kernel
theorem dX4_tryLeavesOfRow_48 : decode cX4_tryLeavesOfRow 48 = .ok (.iconst 2, 1) := by decide +kernel
theorem dX4_tryLeavesOfRow_49 : decode cX4_tryLeavesOfRow 49 = .ok (.if_icmp .eq 41, 3) := by decide +kernel
theorem dX4_tryLeavesOfRow_52 : decode cX4_tryLeavesOfRow 52 = .ok (.aload 7, 2) := by decide +kernel
theorem dX4_tryLeavesOfRow_54 : decode cX4_tryLeavesOfRow 54 = .ok (.getfield 71, 3) := by decide +kernel
theorem dX4_tryLeavesOfRow_57 : decode cX4_tryLeavesOfRow 57 = .ok (.iconst 3, 1) := by decide +kernel
theorem dX4_tryLeavesOfRow_58 : decode cX4_tryLeavesOfRow 58 = .ok (.if_icmp .ne 22, 3) := by decide +kernel
theorem dX4_tryLeavesOfRow_61 : decode cX4_tryLeavesOfRow 61 = .ok (.iload 6, 2) := by decide +kernel
theorem dX4_tryLeavesOfRow_63 : decode cX4_tryLeavesOfRow 63 = .ok (.aload_n 0, 1) := by decide +kernel
theorem dX4_tryLeavesOfRow_64 : decode cX4_tryLeavesOfRow 64 = .ok (.aload_n 1, 1) := by decide +kernel
theorem dX4_tryLeavesOfRow_65 : decode cX4_tryLeavesOfRow 65 = .ok (.aload_n 2, 1) := by decide +kernel
theorem dX4_tryLeavesOfRow_66 : decode cX4_tryLeavesOfRow 66 = .ok (.aload 7, 2) := by decide +kernel
theorem dX4_tryLeavesOfRow_68 : decode cX4_tryLeavesOfRow 68 = .ok (.iload 4, 2) := by decide +kernel
theorem dX4_tryLeavesOfRow_70 : decode cX4_tryLeavesOfRow 70 = .ok (.iconst 1, 1) := by decide +kernel
theorem dX4_tryLeavesOfRow_71 : decode cX4_tryLeavesOfRow 71 = .ok (.iadd, 1) := by decide +kernel
theorem dX4_tryLeavesOfRow_72 : decode cX4_tryLeavesOfRow 72 = .ok (.invokevirtual 64, 3) := by decide +kernel
theorem dX4_tryLeavesOfRow_75 : decode cX4_tryLeavesOfRow 75 = .ok (.invokestatic 91, 3) := by decide +kernel
theorem dX4_tryLeavesOfRow_78 : decode cX4_tryLeavesOfRow 78 = .ok (.istore 6, 2) := by decide +kernel
theorem dX4_tryLeavesOfRow_80 : decode cX4_tryLeavesOfRow 80 = .ok (.aload 7, 2) := by decide +kernel
theorem dX4_tryLeavesOfRow_82 : decode cX4_tryLeavesOfRow 82 = .ok (.getfield 97, 3) := by decide +kernel
theorem dX4_tryLeavesOfRow_85 : decode cX4_tryLeavesOfRow 85 = .ok (.astore 7, 2) := by decide +kernel
theorem dX4_tryLeavesOfRow_87 : decode cX4_tryLeavesOfRow 87 = .ok (.goto (-46), 3) := by decide +kernel
theorem dX4_tryLeavesOfRow_90 : decode cX4_tryLeavesOfRow 90 = .ok (.iload 6, 2) := by decide +kernel
theorem dX4_tryLeavesOfRow_92 : decode cX4_tryLeavesOfRow 92 = .ok (.ireturn, 1) := by decide +kernel
theorem dX4_tryLeaf_0 : decode cX4_tryLeaf 0 = .ok (.aload_n 0, 1) := by decide +kernel
theorem dX4_tryLeaf_1 : decode cX4_tryLeaf 1 = .ok (.aload_n 1, 1) := by decide +kernel
theorem dX4_tryLeaf_2 : decode cX4_tryLeaf 2 = .ok (.aload_n 2, 1) := by decide +kernel
theorem dX4_tryLeaf_3 : decode cX4_tryLeaf 3 = .ok (.iload_n 3, 1) := by decide +kernel
theorem dX4_tryLeaf_4 : decode cX4_tryLeaf 4 = .ok (.invokevirtual 99, 3) := by decide +kernel
theorem dX4_tryLeaf_7 : decode cX4_tryLeaf 7 = .ok (.ifCond .eq 7, 3) := by decide +kernel
theorem dX4_tryLeaf_10 : decode cX4_tryLeaf 10 = .ok (.iconst 2, 1) := by decide +kernel
theorem dX4_tryLeaf_11 : decode cX4_tryLeaf 11 = .ok (.goto 4, 3) := by decide +kernel
theorem dX4_tryLeaf_14 : decode cX4_tryLeaf 14 = .ok (.iconst 1, 1) := by decide +kernel
theorem dX4_tryLeaf_15 : decode cX4_tryLeaf 15 = .ok (.ireturn, 1) := by decide +kernel
theorem dX4_passes_0 : decode cX4_passes 0 = .ok (.aload_n 1, 1) := by decide +kernel
theorem dX4_passes_1 : decode cX4_passes 1 = .ok (.getfield 37, 3) := by decide +kernel
theorem dX4_passes_4 : decode cX4_passes 4 = .ok (.tableswitch 129 6 14 #[52, 129, 129, 129, 129, 62, 75, 105, 105], 52) := by decide +kernel
theorem dX4_passes_56 : decode cX4_passes 56 = .ok (.aload_n 0, 1) := by decide +kernel
theorem dX4_passes_57 : decode cX4_passes 57 = .ok (.aload_n 1, 1) := by decide +kernel
theorem dX4_passes_58 : decode cX4_passes 58 = .ok (.getfield 102, 3) := by decide +kernel
theorem dX4_passes_61 : decode cX4_passes 61 = .ok (.aload_n 2, 1) := by decide +kernel
theorem dX4_passes_62 : decode cX4_passes 62 = .ok (.invokevirtual 105, 3) := by decide +kernel
theorem dX4_passes_65 : decode cX4_passes 65 = .ok (.ireturn, 1) := by decide +kernel
theorem dX4_passes_66 : decode cX4_passes 66 = .ok (.aload_n 2, 1) := by decide +kernel
theorem dX4_passes_67 : decode cX4_passes 67 = .ok (.getfield 71, 3) := by decide +kernel
theorem dX4_passes_70 : decode cX4_passes 70 = .ok (.ifCond .eq 7, 3) := by decide +kernel
theorem dX4_passes_73 : decode cX4_passes 73 = .ok (.iconst 1, 1) := by decide +kernel
theorem dX4_passes_74 : decode cX4_passes 74 = .ok (.goto 4, 3) := by decide +kernel
theorem dX4_passes_77 : decode cX4_passes 77 = .ok (.iconst 0, 1) := by decide +kernel
theorem dX4_passes_78 : decode cX4_passes 78 = .ok (.ireturn, 1) := by decide +kernel
theorem dX4_passes_79 : decode cX4_passes 79 = .ok (.aload_n 2, 1) := by decide +kernel
theorem dX4_passes_80 : decode cX4_passes 80 = .ok (.getfield 71, 3) := by decide +kernel
theorem dX4_passes_83 : decode cX4_passes 83 = .ok (.iconst 4, 1) := by decide +kernel
theorem dX4_passes_84 : decode cX4_passes 84 = .ok (.if_icmp .ne 23, 3) := by decide +kernel
theorem dX4_passes_87 : decode cX4_passes 87 = .ok (.aload_n 2, 1) := by decide +kernel
theorem dX4_passes_88 : decode cX4_passes 88 = .ok (.getfield 109, 3) := by decide +kernel
theorem dX4_passes_91 : decode cX4_passes 91 = .ok (.i2l, 1) := by decide +kernel
theorem dX4_passes_92 : decode cX4_passes 92 = .ok (.aload_n 1, 1) := by decide +kernel
theorem dX4_passes_93 : decode cX4_passes 93 = .ok (.getfield 102, 3) := by decide +kernel
theorem dX4_passes_96 : decode cX4_passes 96 = .ok (.getfield 112, 3) := by decide +kernel
theorem dX4_passes_99 : decode cX4_passes 99 = .ok (.lcmp, 1) := by decide +kernel
theorem dX4_passes_100 : decode cX4_passes 100 = .ok (.ifCond .ne 7, 3) := by decide +kernel
theorem dX4_passes_103 : decode cX4_passes 103 = .ok (.iconst 1, 1) := by decide +kernel
theorem dX4_passes_104 : decode cX4_passes 104 = .ok (.goto 4, 3) := by decide +kernel
theorem dX4_passes_107 : decode cX4_passes 107 = .ok (.iconst 0, 1) := by decide +kernel
theorem dX4_passes_108 : decode cX4_passes 108 = .ok (.ireturn, 1) := by decide +kernel
theorem dX4_passes_109 : decode cX4_passes 109 = .ok (.aload_n 2, 1) := by decide +kernel
theorem dX4_passes_110 : decode cX4_passes 110 = .ok (.getfield 71, 3) := by decide +kernel
theorem dX4_passes_113 : decode cX4_passes 113 = .ok (.iconst 4, 1) := by decide +kernel
theorem dX4_passes_114 : decode cX4_passes 114 = .ok (.if_icmp .ne 17, 3) := by decide +kernel
theorem dX4_passes_117 : decode cX4_passes 117 = .ok (.aload_n 0, 1) := by decide +kernel
theorem dX4_passes_118 : decode cX4_passes 118 = .ok (.aload_n 1, 1) := by decide +kernel
theorem dX4_passes_119 : decode cX4_passes 119 = .ok (.aload_n 2, 1) := by decide +kernel
theorem dX4_passes_120 : decode cX4_passes 120 = .ok (.iload_n 3, 1) := by decide +kernel
theorem dX4_passes_121 : decode cX4_passes 121 = .ok (.invokevirtual 116, 3) := by decide +kernel
theorem dX4_passes_124 : decode cX4_passes 124 = .ok (.ifCond .eq 7, 3) := by decide +kernel
theorem dX4_passes_127 : decode cX4_passes 127 = .ok (.iconst 1, 1) := by decide +kernel
theorem dX4_passes_128 : decode cX4_passes 128 = .ok (.goto 4, 3) := by decide +kernel
theorem dX4_passes_131 : decode cX4_passes 131 = .ok (.iconst 0, 1) := by decide +kernel
theorem dX4_passes_132 : decode cX4_passes 132 = .ok (.ireturn, 1) := by decide +kernel
theorem dX4_passes_133 : decode cX4_passes 133 = .ok (.aload_n 0, 1) := by decide +kernel
theorem dX4_passes_134 : decode cX4_passes 134 = .ok (.aload_n 1, 1) := by decide +kernel
theorem dX4_passes_135 : decode cX4_passes 135 = .ok (.getfield 37, 3) := by decide +kernel
theorem dX4_passes_138 : decode cX4_passes 138 = .ok (.aload_n 1, 1) := by decide +kernel
theorem dX4_passes_139 : decode cX4_passes 139 = .ok (.getfield 102, 3) := by decide +kernel
theorem dX4_passes_142 : decode cX4_passes 142 = .ok (.aload_n 2, 1) := by decide +kernel
theorem dX4_passes_143 : decode cX4_passes 143 = .ok (.invokevirtual 119, 3) := by decide +kernel
theorem dX4_passes_146 : decode cX4_passes 146 = .ok (.ireturn, 1) := by decide +kernel
theorem dX4_hasItemFor_0 : decode cX4_hasItemFor 0 = .ok (.aload_n 2, 1) := by decide +kernel
theorem dX4_hasItemFor_1 : decode cX4_hasItemFor 1 = .ok (.getfield 89, 3) := by decide +kernel
theorem dX4_hasItemFor_4 : decode cX4_hasItemFor 4 = .ok (.astore 4, 2) := by decide +kernel
theorem dX4_hasItemFor_6 : decode cX4_hasItemFor 6 = .ok (.aload 4, 2) := by decide +kernel
theorem dX4_hasItemFor_8 : decode cX4_hasItemFor 8 = .ok (.ifnull 62, 3) := by decide +kernel
theorem dX4_hasItemFor_11 : decode cX4_hasItemFor 11 = .ok (.aload_n 1, 1) := by decide +kernel
theorem dX4_hasItemFor_12 : decode cX4_hasItemFor 12 = .ok (.getfield 37, 3) := by decide +kernel
theorem dX4_hasItemFor_15 : decode cX4_hasItemFor 15 = .ok (.bipush 13, 2) := by decide +kernel
theorem dX4_hasItemFor_17 : decode cX4_hasItemFor 17 = .ok (.if_icmp .ne 19, 3) := by decide +kernel
theorem dX4_hasItemFor_20 : decode cX4_hasItemFor 20 = .ok (.aload_n 0, 1) := by decide +kernel
theorem dX4_hasItemFor_21 : decode cX4_hasItemFor 21 = .ok (.aload_n 1, 1) := by decide +kernel
theorem dX4_hasItemFor_22 : decode cX4_hasItemFor 22 = .ok (.aconst_null, 1) := by decide +kernel
theorem dX4_hasItemFor_23 : decode cX4_hasItemFor 23 = .ok (.aload 4, 2) := by decide +kernel
theorem dX4_hasItemFor_25 : decode cX4_hasItemFor 25 = .ok (.iload_n 3, 1) := by decide +kernel
theorem dX4_hasItemFor_26 : decode cX4_hasItemFor 26 = .ok (.iconst 1, 1) := by decide +kernel
theorem dX4_hasItemFor_27 : decode cX4_hasItemFor 27 = .ok (.iadd, 1) := by decide +kernel
theorem dX4_hasItemFor_28 : decode cX4_hasItemFor 28 = .ok (.invokevirtual 53, 3) := by decide +kernel
theorem dX4_hasItemFor_31 : decode cX4_hasItemFor 31 = .ok (.ifCond .eq 29, 3) := by decide +kernel
theorem dX4_hasItemFor_34 : decode cX4_hasItemFor 34 = .ok (.iconst 1, 1) := by decide +kernel
theorem dX4_hasItemFor_35 : decode cX4_hasItemFor 35 = .ok (.ireturn, 1) := by decide +kernel
theorem dX4_hasItemFor_36 : decode cX4_hasItemFor 36 = .ok (.aload 4, 2) := by decide +kernel
theorem dX4_hasItemFor_38 : decode cX4_hasItemFor 38 = .ok (.getfield 71, 3) := by decide +kernel
theorem dX4_hasItemFor_41 : decode cX4_hasItemFor 41 = .ok (.iconst 3, 1) := by decide +kernel
theorem dX4_hasItemFor_42 : decode cX4_hasItemFor 42 = .ok (.if_icmp .ne 18, 3) := by decide +kernel
theorem dX4_hasItemFor_45 : decode cX4_hasItemFor 45 = .ok (.aload_n 0, 1) := by decide +kernel
theorem dX4_hasItemFor_46 : decode cX4_hasItemFor 46 = .ok (.aload_n 1, 1) := by decide +kernel
theorem dX4_hasItemFor_47 : decode cX4_hasItemFor 47 = .ok (.aload 4, 2) := by decide +kernel
theorem dX4_hasItemFor_49 : decode cX4_hasItemFor 49 = .ok (.iload_n 3, 1) := by decide +kernel
theorem dX4_hasItemFor_50 : decode cX4_hasItemFor 50 = .ok (.iconst 1, 1) := by decide +kernel
theorem dX4_hasItemFor_51 : decode cX4_hasItemFor 51 = .ok (.iadd, 1) := by decide +kernel
theorem dX4_hasItemFor_52 : decode cX4_hasItemFor 52 = .ok (.invokevirtual 57, 3) := by decide +kernel
theorem dX4_hasItemFor_55 : decode cX4_hasItemFor 55 = .ok (.ifCond .ge 5, 3) := by decide +kernel
theorem dX4_hasItemFor_58 : decode cX4_hasItemFor 58 = .ok (.iconst 1, 1) := by decide +kernel
theorem dX4_hasItemFor_59 : decode cX4_hasItemFor 59 = .ok (.ireturn, 1) := by decide +kernel
theorem dX4_hasItemFor_60 : decode cX4_hasItemFor 60 = .ok (.aload 4, 2) := by decide +kernel
theorem dX4_hasItemFor_62 : decode cX4_hasItemFor 62 = .ok (.getfield 97, 3) := by decide +kernel
theorem dX4_hasItemFor_65 : decode cX4_hasItemFor 65 = .ok (.astore 4, 2) := by decide +kernel
theorem dX4_hasItemFor_67 : decode cX4_hasItemFor 67 = .ok (.goto (-61), 3) := by decide +kernel
theorem dX4_hasItemFor_70 : decode cX4_hasItemFor 70 = .ok (.iconst 0, 1) := by decide +kernel
theorem dX4_hasItemFor_71 : decode cX4_hasItemFor 71 = .ok (.ireturn, 1) := by decide +kernel
theorem dX4_passesSome_0 : decode cX4_passesSome 0 = .ok (.aload_n 1, 1) := by decide +kernel
theorem dX4_passesSome_1 : decode cX4_passesSome 1 = .ok (.getfield 89, 3) := by decide +kernel
theorem dX4_passesSome_4 : decode cX4_passesSome 4 = .ok (.astore_n 3, 1) := by decide +kernel
theorem dX4_passesSome_5 : decode cX4_passesSome 5 = .ok (.aload_n 3, 1) := by decide +kernel
theorem dX4_passesSome_6 : decode cX4_passesSome 6 = .ok (.ifnull 23, 3) := by decide +kernel
theorem dX4_passesSome_9 : decode cX4_passesSome 9 = .ok (.aload_n 0, 1) := by decide +kernel
theorem dX4_passesSome_10 : decode cX4_passesSome 10 = .ok (.iconst 5, 1) := by decide +kernel
theorem dX4_passesSome_11 : decode cX4_passesSome 11 = .ok (.aload_n 3, 1) := by decide +kernel
theorem dX4_passesSome_12 : decode cX4_passesSome 12 = .ok (.aload_n 2, 1) := by decide +kernel
theorem dX4_passesSome_13 : decode cX4_passesSome 13 = .ok (.invokevirtual 119, 3) := by decide +kernel
theorem dX4_passesSome_16 : decode cX4_passesSome 16 = .ok (.ifCond .eq 5, 3) := by decide +kernel
theorem dX4_passesSome_19 : decode cX4_passesSome 19 = .ok (.iconst 1, 1) := by decide +kernel
theorem dX4_passesSome_20 : decode cX4_passesSome 20 = .ok (.ireturn, 1) := by decide +kernel
theorem dX4_passesSome_21 : decode cX4_passesSome 21 = .ok (.aload_n 3, 1) := by decide +kernel
theorem dX4_passesSome_22 : decode cX4_passesSome 22 = .ok (.getfield 97, 3) := by decide +kernel
theorem dX4_passesSome_25 : decode cX4_passesSome 25 = .ok (.astore_n 3, 1) := by decide +kernel
theorem dX4_passesSome_26 : decode cX4_passesSome 26 = .ok (.goto (-21), 3) := by decide +kernel
theorem dX4_passesSome_29 : decode cX4_passesSome 29 = .ok (.iconst 0, 1) := by decide +kernel
theorem dX4_passesSome_30 : decode cX4_passesSome 30 = .ok (.ireturn, 1) := by decide +kernel
theorem dX4_passesWithItems_0 : decode cX4_passesWithItems 0 = .ok (.aload_n 0, 1) := by decide +kernel
theorem dX4_passesWithItems_1 : decode cX4_passesWithItems 1 = .ok (.iload_n 1, 1) := by decide +kernel
theorem dX4_passesWithItems_2 : decode cX4_passesWithItems 2 = .ok (.aload_n 3, 1) := by decide +kernel
theorem dX4_passesWithItems_3 : decode cX4_passesWithItems 3 = .ok (.aload_n 2, 1) := by decide +kernel
theorem dX4_passesWithItems_4 : decode cX4_passesWithItems 4 = .ok (.invokevirtual 123, 3) := by decide +kernel
theorem dX4_passesWithItems_7 : decode cX4_passesWithItems 7 = .ok (.ifCond .eq 5, 3) := by decide +kernel
theorem dX4_passesWithItems_10 : decode cX4_passesWithItems 10 = .ok (.iconst 1, 1) := by decide +kernel
theorem dX4_passesWithItems_11 : decode cX4_passesWithItems 11 = .ok (.ireturn, 1) := by decide +kernel
theorem dX4_passesWithItems_12 : decode cX4_passesWithItems 12 = .ok (.aload_n 3, 1) := by decide +kernel
theorem dX4_passesWithItems_13 : decode cX4_passesWithItems 13 = .ok (.getfield 71, 3) := by decide +kernel
theorem dX4_passesWithItems_16 : decode cX4_passesWithItems 16 = .ok (.iconst 4, 1) := by decide +kernel
theorem dX4_passesWithItems_17 : decode cX4_passesWithItems 17 = .ok (.if_icmp .eq 5, 3) := by decide +kernel
theorem dX4_passesWithItems_20 : decode cX4_passesWithItems 20 = .ok (.iconst 0, 1) := by decide +kernel
theorem dX4_passesWithItems_21 : decode cX4_passesWithItems 21 = .ok (.ireturn, 1) := by decide +kernel
theorem dX4_passesWithItems_22 : decode cX4_passesWithItems 22 = .ok (.aload_n 3, 1) := by decide +kernel
theorem dX4_passesWithItems_23 : decode cX4_passesWithItems 23 = .ok (.getfield 89, 3) := by decide +kernel
theorem dX4_passesWithItems_26 : decode cX4_passesWithItems 26 = .ok (.astore 4, 2) := by decide +kernel
theorem dX4_passesWithItems_28 : decode cX4_passesWithItems 28 = .ok (.aload 4, 2) := by decide +kernel
theorem dX4_passesWithItems_30 : decode cX4_passesWithItems 30 = .ok (.ifnull 26, 3) := by decide +kernel
theorem dX4_passesWithItems_33 : decode cX4_passesWithItems 33 = .ok (.aload_n 0, 1) := by decide +kernel
theorem dX4_passesWithItems_34 : decode cX4_passesWithItems 34 = .ok (.iload_n 1, 1) := by decide +kernel
theorem dX4_passesWithItems_35 : decode cX4_passesWithItems 35 = .ok (.aload 4, 2) := by decide +kernel
theorem dX4_passesWithItems_37 : decode cX4_passesWithItems 37 = .ok (.aload_n 2, 1) := by decide +kernel
theorem dX4_passesWithItems_38 : decode cX4_passesWithItems 38 = .ok (.invokevirtual 123, 3) := by decide +kernel
theorem dX4_passesWithItems_41 : decode cX4_passesWithItems 41 = .ok (.ifCond .eq 5, 3) := by decide +kernel
theorem dX4_passesWithItems_44 : decode cX4_passesWithItems 44 = .ok (.iconst 1, 1) := by decide +kernel
theorem dX4_passesWithItems_45 : decode cX4_passesWithItems 45 = .ok (.ireturn, 1) := by decide +kernel
theorem dX4_passesWithItems_46 : decode cX4_passesWithItems 46 = .ok (.aload 4, 2) := by decide +kernel
theorem dX4_passesWithItems_48 : decode cX4_passesWithItems 48 = .ok (.getfield 97, 3) := by decide +kernel
theorem dX4_passesWithItems_51 : decode cX4_passesWithItems 51 = .ok (.astore 4, 2) := by decide +kernel
theorem dX4_passesWithItems_53 : decode cX4_passesWithItems 53 = .ok (.goto (-25), 3) := by decide +kernel
theorem dX4_passesWithItems_56 : decode cX4_passesWithItems 56 = .ok (.iconst 0, 1) := by decide +kernel
theorem dX4_passesWithItems_57 : decode cX4_passesWithItems 57 = .ok (.ireturn, 1) := by decide +kernel
theorem dX4_compares_0 : decode cX4_compares 0 = .ok (.aload_n 2, 1) := by decide +kernel
theorem dX4_compares_1 : decode cX4_compares 1 = .ok (.getfield 71, 3) := by decide +kernel
theorem dX4_compares_4 : decode cX4_compares 4 = .ok (.invokestatic 126, 3) := by decide +kernel
theorem dX4_compares_7 : decode cX4_compares 7 = .ok (.aload_n 3, 1) := by decide +kernel
theorem dX4_compares_8 : decode cX4_compares 8 = .ok (.getfield 71, 3) := by decide +kernel
theorem dX4_compares_11 : decode cX4_compares 11 = .ok (.invokestatic 126, 3) := by decide +kernel
theorem dX4_compares_14 : decode cX4_compares 14 = .ok (.if_icmp .eq 30, 3) := by decide +kernel
theorem dX4_compares_17 : decode cX4_compares 17 = .ok (.iload_n 1, 1) := by decide +kernel
theorem dX4_compares_18 : decode cX4_compares 18 = .ok (.iconst 5, 1) := by decide +kernel
theorem dX4_compares_19 : decode cX4_compares 19 = .ok (.if_icmp .ne 23, 3) := by decide +kernel
theorem dX4_compares_22 : decode cX4_compares 22 = .ok (.aload_n 2, 1) := by decide +kernel
theorem dX4_compares_23 : decode cX4_compares 23 = .ok (.getfield 71, 3) := by decide +kernel
theorem dX4_compares_26 : decode cX4_compares 26 = .ok (.ifCond .ne 16, 3) := by decide +kernel
theorem dX4_compares_29 : decode cX4_compares 29 = .ok (.aload_n 3, 1) := by decide +kernel
theorem dX4_compares_30 : decode cX4_compares 30 = .ok (.getfield 71, 3) := by decide +kernel
theorem dX4_compares_33 : decode cX4_compares 33 = .ok (.bipush 10, 2) := by decide +kernel
theorem dX4_compares_35 : decode cX4_compares 35 = .ok (.if_icmp .ne 7, 3) := by decide +kernel
theorem dX4_compares_38 : decode cX4_compares 38 = .ok (.iconst 1, 1) := by decide +kernel
theorem dX4_compares_39 : decode cX4_compares 39 = .ok (.goto 4, 3) := by decide +kernel
theorem dX4_compares_42 : decode cX4_compares 42 = .ok (.iconst 0, 1) := by decide +kernel
theorem dX4_compares_43 : decode cX4_compares 43 = .ok (.ireturn, 1) := by decide +kernel
theorem dX4_compares_44 : decode cX4_compares 44 = .ok (.aload_n 2, 1) := by decide +kernel
theorem dX4_compares_45 : decode cX4_compares 45 = .ok (.aload_n 3, 1) := by decide +kernel
theorem dX4_compares_46 : decode cX4_compares 46 = .ok (.iconst 1, 1) := by decide +kernel
theorem dX4_compares_47 : decode cX4_compares 47 = .ok (.invokestatic 130, 3) := by decide +kernel
theorem dX4_compares_50 : decode cX4_compares 50 = .ok (.istore 4, 2) := by decide +kernel
theorem dX4_compares_52 : decode cX4_compares 52 = .ok (.iload_n 1, 1) := by decide +kernel
theorem dX4_compares_53 : decode cX4_compares 53 = .ok (.tableswitch 79 5 9 #[35, 79, 46, 57, 68], 35) := by decide +kernel
theorem dX4_compares_88 : decode cX4_compares 88 = .ok (.iload 4, 2) := by decide +kernel
theorem dX4_compares_90 : decode cX4_compares 90 = .ok (.ifCond .ne 7, 3) := by decide +kernel
theorem dX4_compares_93 : decode cX4_compares 93 = .ok (.iconst 1, 1) := by decide +kernel
theorem dX4_compares_94 : decode cX4_compares 94 = .ok (.goto 4, 3) := by decide +kernel
theorem dX4_compares_97 : decode cX4_compares 97 = .ok (.iconst 0, 1) := by decide +kernel
theorem dX4_compares_98 : decode cX4_compares 98 = .ok (.ireturn, 1) := by decide +kernel
theorem dX4_compares_99 : decode cX4_compares 99 = .ok (.iload 4, 2) := by decide +kernel
theorem dX4_compares_101 : decode cX4_compares 101 = .ok (.ifCond .ge 7, 3) := by decide +kernel
theorem dX4_compares_104 : decode cX4_compares 104 = .ok (.iconst 1, 1) := by decide +kernel
theorem dX4_compares_105 : decode cX4_compares 105 = .ok (.goto 4, 3) := by decide +kernel
theorem dX4_compares_108 : decode cX4_compares 108 = .ok (.iconst 0, 1) := by decide +kernel
theorem dX4_compares_109 : decode cX4_compares 109 = .ok (.ireturn, 1) := by decide +kernel
theorem dX4_compares_110 : decode cX4_compares 110 = .ok (.iload 4, 2) := by decide +kernel
theorem dX4_compares_112 : decode cX4_compares 112 = .ok (.ifCond .gt 7, 3) := by decide +kernel
theorem dX4_compares_115 : decode cX4_compares 115 = .ok (.iconst 1, 1) := by decide +kernel
theorem dX4_compares_116 : decode cX4_compares 116 = .ok (.goto 4, 3) := by decide +kernel
theorem dX4_compares_119 : decode cX4_compares 119 = .ok (.iconst 0, 1) := by decide +kernel
theorem dX4_compares_120 : decode cX4_compares 120 = .ok (.ireturn, 1) := by decide +kernel
theorem dX4_compares_121 : decode cX4_compares 121 = .ok (.iload 4, 2) := by decide +kernel
theorem dX4_compares_123 : decode cX4_compares 123 = .ok (.ifCond .le 7, 3) := by decide +kernel
theorem dX4_compares_126 : decode cX4_compares 126 = .ok (.iconst 1, 1) := by decide +kernel
theorem dX4_compares_127 : decode cX4_compares 127 = .ok (.goto 4, 3) := by decide +kernel
theorem dX4_compares_130 : decode cX4_compares 130 = .ok (.iconst 0, 1) := by decide +kernel
theorem dX4_compares_131 : decode cX4_compares 131 = .ok (.ireturn, 1) := by decide +kernel
theorem dX4_compares_132 : decode cX4_compares 132 = .ok (.iload 4, 2) := by decide +kernel
theorem dX4_compares_134 : decode cX4_compares 134 = .ok (.ifCond .lt 7, 3) := by decide +kernel
theorem dX4_compares_137 : decode cX4_compares 137 = .ok (.iconst 1, 1) := by decide +kernel
theorem dX4_compares_138 : decode cX4_compares 138 = .ok (.goto 4, 3) := by decide +kernel
theorem dX4_compares_141 : decode cX4_compares 141 = .ok (.iconst 0, 1) := by decide +kernel
theorem dX4_compares_142 : decode cX4_compares 142 = .ok (.ireturn, 1) := by decide +kernel
theorem dX5_compare_0 : decode cX5_compare 0 = .ok (.aload_n 0, 1) := by decide +kernel
theorem dX5_compare_1 : decode cX5_compare 1 = .ok (.getfield 9, 3) := by decide +kernel
theorem dX5_compare_4 : decode cX5_compare 4 = .ok (.invokestatic 15, 3) := by decide +kernel
theorem dX5_compare_7 : decode cX5_compare 7 = .ok (.istore_n 3, 1) := by decide +kernel
theorem dX5_compare_8 : decode cX5_compare 8 = .ok (.iload_n 3, 1) := by decide +kernel
theorem dX5_compare_9 : decode cX5_compare 9 = .ok (.aload_n 1, 1) := by decide +kernel
theorem dX5_compare_10 : decode cX5_compare 10 = .ok (.getfield 9, 3) := by decide +kernel
theorem dX5_compare_13 : decode cX5_compare 13 = .ok (.invokestatic 15, 3) := by decide +kernel
theorem dX5_compare_16 : decode cX5_compare 16 = .ok (.invokestatic 21, 3) := by decide +kernel
theorem dX5_compare_19 : decode cX5_compare 19 = .ok (.istore 4, 2) := by decide +kernel
theorem dX5_compare_21 : decode cX5_compare 21 = .ok (.iload 4, 2) := by decide +kernel
theorem dX5_compare_23 : decode cX5_compare 23 = .ok (.ifCond .eq 6, 3) := by decide +kernel
theorem dX5_compare_26 : decode cX5_compare 26 = .ok (.iload 4, 2) := by decide +kernel
theorem dX5_compare_28 : decode cX5_compare 28 = .ok (.ireturn, 1) := by decide +kernel
theorem dX5_compare_29 : decode cX5_compare 29 = .ok (.iload_n 3, 1) := by decide +kernel
theorem dX5_compare_30 : decode cX5_compare 30 = .ok (.tableswitch 65 2 6 #[34, 46, 58, 58, 34], 34) := by decide +kernel
theorem dX5_compare_64 : decode cX5_compare 64 = .ok (.aload_n 0, 1) := by decide +kernel
theorem dX5_compare_65 : decode cX5_compare 65 = .ok (.getfield 27, 3) := by decide +kernel
theorem dX5_compare_68 : decode cX5_compare 68 = .ok (.aload_n 1, 1) := by decide +kernel
theorem dX5_compare_69 : decode cX5_compare 69 = .ok (.getfield 27, 3) := by decide +kernel
theorem dX5_compare_72 : decode cX5_compare 72 = .ok (.invokestatic 31, 3) := by decide +kernel
theorem dX5_compare_75 : decode cX5_compare 75 = .ok (.ireturn, 1) := by decide +kernel
theorem dX5_compare_76 : decode cX5_compare 76 = .ok (.aload_n 0, 1) := by decide +kernel
theorem dX5_compare_77 : decode cX5_compare 77 = .ok (.getfield 36, 3) := by decide +kernel
theorem dX5_compare_80 : decode cX5_compare 80 = .ok (.aload_n 1, 1) := by decide +kernel
theorem dX5_compare_81 : decode cX5_compare 81 = .ok (.getfield 36, 3) := by decide +kernel
theorem dX5_compare_84 : decode cX5_compare 84 = .ok (.invokestatic 40, 3) := by decide +kernel
theorem dX5_compare_87 : decode cX5_compare 87 = .ok (.ireturn, 1) := by decide +kernel
theorem dX5_compare_88 : decode cX5_compare 88 = .ok (.aload_n 0, 1) := by decide +kernel
theorem dX5_compare_89 : decode cX5_compare 89 = .ok (.aload_n 1, 1) := by decide +kernel
theorem dX5_compare_90 : decode cX5_compare 90 = .ok (.iload_n 2, 1) := by decide +kernel
theorem dX5_compare_91 : decode cX5_compare 91 = .ok (.invokestatic 46, 3) := by decide +kernel
theorem dX5_compare_94 : decode cX5_compare 94 = .ok (.ireturn, 1) := by decide +kernel
theorem dX5_compare_95 : decode cX5_compare 95 = .ok (.iconst 0, 1) := by decide +kernel
theorem dX5_compare_96 : decode cX5_compare 96 = .ok (.ireturn, 1) := by decide +kernel
theorem dX5_compareParts_0 : decode cX5_compareParts 0 = .ok (.iload_n 2, 1) := by decide +kernel
theorem dX5_compareParts_1 : decode cX5_compareParts 1 = .ok (.bipush 16, 2) := by decide +kernel
theorem dX5_compareParts_3 : decode cX5_compareParts 3 = .ok (.if_icmp .le 5, 3) := by decide +kernel
theorem dX5_compareParts_6 : decode cX5_compareParts 6 = .ok (.iconst 0, 1) := by decide +kernel
theorem dX5_compareParts_7 : decode cX5_compareParts 7 = .ok (.ireturn, 1) := by decide +kernel
theorem dX5_compareParts_8 : decode cX5_compareParts 8 = .ok (.aload_n 1, 1) := by decide +kernel
theorem dX5_compareParts_9 : decode cX5_compareParts 9 = .ok (.getfield 50, 3) := by decide +kernel
theorem dX5_compareParts_12 : decode cX5_compareParts 12 = .ok (.astore_n 3, 1) := by decide +kernel
theorem dX5_compareParts_13 : decode cX5_compareParts 13 = .ok (.aload_n 0, 1) := by decide +kernel
theorem dX5_compareParts_14 : decode cX5_compareParts 14 = .ok (.getfield 50, 3) := by decide +kernel
theorem dX5_compareParts_17 : decode cX5_compareParts 17 = .ok (.astore 4, 2) := by decide +kernel
theorem dX5_compareParts_19 : decode cX5_compareParts 19 = .ok (.aload 4, 2) := by decide +kernel
theorem dX5_compareParts_21 : decode cX5_compareParts 21 = .ok (.ifnull 41, 3) := by decide +kernel
theorem dX5_compareParts_24 : decode cX5_compareParts 24 = .ok (.aload_n 3, 1) := by decide +kernel
theorem dX5_compareParts_25 : decode cX5_compareParts 25 = .ok (.ifnonnull 5, 3) := by decide +kernel
theorem dX5_compareParts_28 : decode cX5_compareParts 28 = .ok (.iconst 1, 1) := by decide +kernel
theorem dX5_compareParts_29 : decode cX5_compareParts 29 = .ok (.ireturn, 1) := by decide +kernel
theorem dX5_compareParts_30 : decode cX5_compareParts 30 = .ok (.aload 4, 2) := by decide +kernel
theorem dX5_compareParts_32 : decode cX5_compareParts 32 = .ok (.aload_n 3, 1) := by decide +kernel
theorem dX5_compareParts_33 : decode cX5_compareParts 33 = .ok (.iload_n 2, 1) := by decide +kernel
theorem dX5_compareParts_34 : decode cX5_compareParts 34 = .ok (.invokestatic 54, 3) := by decide +kernel
theorem dX5_compareParts_37 : decode cX5_compareParts 37 = .ok (.istore 5, 2) := by decide +kernel
theorem dX5_compareParts_39 : decode cX5_compareParts 39 = .ok (.iload 5, 2) := by decide +kernel
theorem dX5_compareParts_41 : decode cX5_compareParts 41 = .ok (.ifCond .eq 6, 3) := by decide +kernel
theorem dX5_compareParts_44 : decode cX5_compareParts 44 = .ok (.iload 5, 2) := by decide +kernel
theorem dX5_compareParts_46 : decode cX5_compareParts 46 = .ok (.ireturn, 1) := by decide +kernel
theorem dX5_compareParts_47 : decode cX5_compareParts 47 = .ok (.aload_n 3, 1) := by decide +kernel
theorem dX5_compareParts_48 : decode cX5_compareParts 48 = .ok (.getfield 57, 3) := by decide +kernel
theorem dX5_compareParts_51 : decode cX5_compareParts 51 = .ok (.astore_n 3, 1) := by decide +kernel
theorem dX5_compareParts_52 : decode cX5_compareParts 52 = .ok (.aload 4, 2) := by decide +kernel
theorem dX5_compareParts_54 : decode cX5_compareParts 54 = .ok (.getfield 57, 3) := by decide +kernel
theorem dX5_compareParts_57 : decode cX5_compareParts 57 = .ok (.astore 4, 2) := by decide +kernel
theorem dX5_compareParts_59 : decode cX5_compareParts 59 = .ok (.goto (-40), 3) := by decide +kernel
theorem dX5_compareParts_62 : decode cX5_compareParts 62 = .ok (.aload_n 3, 1) := by decide +kernel
theorem dX5_compareParts_63 : decode cX5_compareParts 63 = .ok (.ifnonnull 7, 3) := by decide +kernel
theorem dX5_compareParts_66 : decode cX5_compareParts 66 = .ok (.iconst 0, 1) := by decide +kernel
theorem dX5_compareParts_67 : decode cX5_compareParts 67 = .ok (.goto 4, 3) := by decide +kernel
theorem dX5_compareParts_70 : decode cX5_compareParts 70 = .ok (.iconst (-1), 1) := by decide +kernel
theorem dX5_compareParts_71 : decode cX5_compareParts 71 = .ok (.ireturn, 1) := by decide +kernel
theorem dX5_compareElements_0 : decode cX5_compareElements 0 = .ok (.aload_n 0, 1) := by decide +kernel
theorem dX5_compareElements_1 : decode cX5_compareElements 1 = .ok (.getfield 9, 3) := by decide +kernel
theorem dX5_compareElements_4 : decode cX5_compareElements 4 = .ok (.invokestatic 15, 3) := by decide +kernel
theorem dX5_compareElements_7 : decode cX5_compareElements 7 = .ok (.aload_n 1, 1) := by decide +kernel
theorem dX5_compareElements_8 : decode cX5_compareElements 8 = .ok (.getfield 9, 3) := by decide +kernel
theorem dX5_compareElements_11 : decode cX5_compareElements 11 = .ok (.invokestatic 15, 3) := by decide +kernel
theorem dX5_compareElements_14 : decode cX5_compareElements 14 = .ok (.invokestatic 21, 3) := by decide +kernel
theorem dX5_compareElements_17 : decode cX5_compareElements 17 = .ok (.istore_n 3, 1) := by decide +kernel
theorem dX5_compareElements_18 : decode cX5_compareElements 18 = .ok (.iload_n 3, 1) := by decide +kernel
theorem dX5_compareElements_19 : decode cX5_compareElements 19 = .ok (.ifCond .eq 5, 3) := by decide +kernel
theorem dX5_compareElements_22 : decode cX5_compareElements 22 = .ok (.iload_n 3, 1) := by decide +kernel
theorem dX5_compareElements_23 : decode cX5_compareElements 23 = .ok (.ireturn, 1) := by decide +kernel
theorem dX5_compareElements_24 : decode cX5_compareElements 24 = .ok (.aload_n 0, 1) := by decide +kernel
theorem dX5_compareElements_25 : decode cX5_compareElements 25 = .ok (.getfield 60, 3) := by decide +kernel
theorem dX5_compareElements_28 : decode cX5_compareElements 28 = .ok (.aload_n 1, 1) := by decide +kernel
theorem dX5_compareElements_29 : decode cX5_compareElements 29 = .ok (.getfield 60, 3) := by decide +kernel
theorem dX5_compareElements_32 : decode cX5_compareElements 32 = .ok (.invokestatic 40, 3) := by decide +kernel
theorem dX5_compareElements_35 : decode cX5_compareElements 35 = .ok (.istore 4, 2) := by decide +kernel
theorem dX5_compareElements_37 : decode cX5_compareElements 37 = .ok (.iload 4, 2) := by decide +kernel
theorem dX5_compareElements_39 : decode cX5_compareElements 39 = .ok (.ifCond .eq 8, 3) := by decide +kernel
theorem dX5_compareElements_42 : decode cX5_compareElements 42 = .ok (.iload 4, 2) := by decide +kernel
theorem dX5_compareElements_44 : decode cX5_compareElements 44 = .ok (.goto 11, 3) := by decide +kernel
theorem dX5_compareElements_47 : decode cX5_compareElements 47 = .ok (.aload_n 0, 1) := by decide +kernel
theorem dX5_compareElements_48 : decode cX5_compareElements 48 = .ok (.aload_n 1, 1) := by decide +kernel
theorem dX5_compareElements_49 : decode cX5_compareElements 49 = .ok (.iload_n 2, 1) := by decide +kernel
theorem dX5_compareElements_50 : decode cX5_compareElements 50 = .ok (.iconst 1, 1) := by decide +kernel
theorem dX5_compareElements_51 : decode cX5_compareElements 51 = .ok (.iadd, 1) := by decide +kernel
theorem dX5_compareElements_52 : decode cX5_compareElements 52 = .ok (.invokestatic 63, 3) := by decide +kernel
theorem dX5_compareElements_55 : decode cX5_compareElements 55 = .ok (.ireturn, 1) := by decide +kernel
theorem dX5_compareTexts_0 : decode cX5_compareTexts 0 = .ok (.aload_n 0, 1) := by decide +kernel
theorem dX5_compareTexts_1 : decode cX5_compareTexts 1 = .ok (.invokevirtual 65, 3) := by decide +kernel
theorem dX5_compareTexts_4 : decode cX5_compareTexts 4 = .ok (.aload_n 1, 1) := by decide +kernel
theorem dX5_compareTexts_5 : decode cX5_compareTexts 5 = .ok (.invokevirtual 65, 3) := by decide +kernel
theorem dX5_compareTexts_8 : decode cX5_compareTexts 8 = .ok (.invokestatic 71, 3) := by decide +kernel
theorem dX5_compareTexts_11 : decode cX5_compareTexts 11 = .ok (.istore_n 2, 1) := by decide +kernel
theorem dX5_compareTexts_12 : decode cX5_compareTexts 12 = .ok (.iconst 0, 1) := by decide +kernel
theorem dX5_compareTexts_13 : decode cX5_compareTexts 13 = .ok (.istore_n 3, 1) := by decide +kernel
theorem dX5_compareTexts_14 : decode cX5_compareTexts 14 = .ok (.iload_n 3, 1) := by decide +kernel
theorem dX5_compareTexts_15 : decode cX5_compareTexts 15 = .ok (.iload_n 2, 1) := by decide +kernel
theorem dX5_compareTexts_16 : decode cX5_compareTexts 16 = .ok (.if_icmp .ge 36, 3) := by decide +kernel
theorem dX5_compareTexts_19 : decode cX5_compareTexts 19 = .ok (.aload_n 0, 1) := by decide +kernel
theorem dX5_compareTexts_20 : decode cX5_compareTexts 20 = .ok (.iload_n 3, 1) := by decide +kernel
theorem dX5_compareTexts_21 : decode cX5_compareTexts 21 = .ok (.invokevirtual 76, 3) := by decide +kernel
theorem dX5_compareTexts_24 : decode cX5_compareTexts 24 = .ok (.aload_n 1, 1) := by decide +kernel
theorem dX5_compareTexts_25 : decode cX5_compareTexts 25 = .ok (.iload_n 3, 1) := by decide +kernel
theorem dX5_compareTexts_26 : decode cX5_compareTexts 26 = .ok (.invokevirtual 76, 3) := by decide +kernel
theorem dX5_compareTexts_29 : decode cX5_compareTexts 29 = .ok (.if_icmp .eq 17, 3) := by decide +kernel
theorem dX5_compareTexts_32 : decode cX5_compareTexts 32 = .ok (.aload_n 0, 1) := by decide +kernel
theorem dX5_compareTexts_33 : decode cX5_compareTexts 33 = .ok (.iload_n 3, 1) := by decide +kernel
theorem dX5_compareTexts_34 : decode cX5_compareTexts 34 = .ok (.invokevirtual 76, 3) := by decide +kernel
theorem dX5_compareTexts_37 : decode cX5_compareTexts 37 = .ok (.aload_n 1, 1) := by decide +kernel
theorem dX5_compareTexts_38 : decode cX5_compareTexts 38 = .ok (.iload_n 3, 1) := by decide +kernel
theorem dX5_compareTexts_39 : decode cX5_compareTexts 39 = .ok (.invokevirtual 76, 3) := by decide +kernel
theorem dX5_compareTexts_42 : decode cX5_compareTexts 42 = .ok (.invokestatic 21, 3) := by decide +kernel
theorem dX5_compareTexts_45 : decode cX5_compareTexts 45 = .ok (.ireturn, 1) := by decide +kernel
theorem dX5_compareTexts_46 : decode cX5_compareTexts 46 = .ok (.iinc 3 1, 3) := by decide +kernel
theorem dX5_compareTexts_49 : decode cX5_compareTexts 49 = .ok (.goto (-35), 3) := by decide +kernel
theorem dX5_compareTexts_52 : decode cX5_compareTexts 52 = .ok (.aload_n 0, 1) := by decide +kernel
theorem dX5_compareTexts_53 : decode cX5_compareTexts 53 = .ok (.invokevirtual 65, 3) := by decide +kernel
theorem dX5_compareTexts_56 : decode cX5_compareTexts 56 = .ok (.aload_n 1, 1) := by decide +kernel
theorem dX5_compareTexts_57 : decode cX5_compareTexts 57 = .ok (.invokevirtual 65, 3) := by decide +kernel
theorem dX5_compareTexts_60 : decode cX5_compareTexts 60 = .ok (.invokestatic 21, 3) := by decide +kernel
theorem dX5_compareTexts_63 : decode cX5_compareTexts 63 = .ok (.ireturn, 1) := by decide +kernel
theorem dX6_init_0 : decode cX6_init 0 = .ok (.aload_n 0, 1) := by decide +kernel
theorem dX6_init_1 : decode cX6_init 1 = .ok (.invokespecial 1, 3) := by decide +kernel
theorem dX6_init_4 : decode cX6_init 4 = .ok (.aload_n 0, 1) := by decide +kernel
theorem dX6_init_5 : decode cX6_init 5 = .ok (.iload_n 1, 1) := by decide +kernel
theorem dX6_init_6 : decode cX6_init 6 = .ok (.putfield 7, 3) := by decide +kernel
theorem dX6_init_9 : decode cX6_init 9 = .ok (.aload_n 0, 1) := by decide +kernel
theorem dX6_init_10 : decode cX6_init 10 = .ok (.iload_n 2, 1) := by decide +kernel
theorem dX6_init_11 : decode cX6_init 11 = .ok (.putfield 13, 3) := by decide +kernel
theorem dX6_init_14 : decode cX6_init 14 = .ok (.aload_n 0, 1) := by decide +kernel
theorem dX6_init_15 : decode cX6_init 15 = .ok (.aload_n 3, 1) := by decide +kernel
theorem dX6_init_16 : decode cX6_init 16 = .ok (.putfield 17, 3) := by decide +kernel
theorem dX6_init_19 : decode cX6_init 19 = .ok (.aload_n 0, 1) := by decide +kernel
theorem dX6_init_20 : decode cX6_init 20 = .ok (.aload 4, 2) := by decide +kernel
theorem dX6_init_22 : decode cX6_init 22 = .ok (.putfield 21, 3) := by decide +kernel
theorem dX6_init_25 : decode cX6_init 25 = .ok (.return_, 1) := by decide +kernel
theorem dX6_add_0 : decode cX6_add 0 = .ok (.aload_n 0, 1) := by decide +kernel
theorem dX6_add_1 : decode cX6_add 1 = .ok (.getfield 25, 3) := by decide +kernel
theorem dX6_add_4 : decode cX6_add 4 = .ok (.ifnonnull 11, 3) := by decide +kernel
theorem dX6_add_7 : decode cX6_add 7 = .ok (.aload_n 0, 1) := by decide +kernel
theorem dX6_add_8 : decode cX6_add 8 = .ok (.aload_n 1, 1) := by decide +kernel
theorem dX6_add_9 : decode cX6_add 9 = .ok (.putfield 29, 3) := by decide +kernel
theorem dX6_add_12 : decode cX6_add 12 = .ok (.goto 11, 3) := by decide +kernel
theorem dX6_add_15 : decode cX6_add 15 = .ok (.aload_n 0, 1) := by decide +kernel
theorem dX6_add_16 : decode cX6_add 16 = .ok (.getfield 25, 3) := by decide +kernel
theorem dX6_add_19 : decode cX6_add 19 = .ok (.aload_n 1, 1) := by decide +kernel
theorem dX6_add_20 : decode cX6_add 20 = .ok (.putfield 32, 3) := by decide +kernel
theorem dX6_add_23 : decode cX6_add 23 = .ok (.aload_n 0, 1) := by decide +kernel
theorem dX6_add_24 : decode cX6_add 24 = .ok (.aload_n 1, 1) := by decide +kernel
theorem dX6_add_25 : decode cX6_add 25 = .ok (.putfield 25, 3) := by decide +kernel
theorem dX6_add_28 : decode cX6_add 28 = .ok (.return_, 1) := by decide +kernel
theorem dX7_init_0 : decode cX7_init 0 = .ok (.aload_n 0, 1) := by decide +kernel
theorem dX7_init_1 : decode cX7_init 1 = .ok (.invokespecial 3, 3) := by decide +kernel
theorem dX7_init_4 : decode cX7_init 4 = .ok (.aload_n 0, 1) := by decide +kernel
theorem dX7_init_5 : decode cX7_init 5 = .ok (.aload_n 1, 1) := by decide +kernel
theorem dX7_init_6 : decode cX7_init 6 = .ok (.putfield 9, 3) := by decide +kernel
theorem dX7_init_9 : decode cX7_init 9 = .ok (.aload_n 0, 1) := by decide +kernel
theorem dX7_init_10 : decode cX7_init 10 = .ok (.aload_n 2, 1) := by decide +kernel
theorem dX7_init_11 : decode cX7_init 11 = .ok (.putfield 15, 3) := by decide +kernel
theorem dX7_init_14 : decode cX7_init 14 = .ok (.aload_n 0, 1) := by decide +kernel
theorem dX7_init_15 : decode cX7_init 15 = .ok (.aload_n 2, 1) := by decide +kernel
theorem dX7_init_16 : decode cX7_init 16 = .ok (.ifnonnull 7, 3) := by decide +kernel
theorem dX7_init_19 : decode cX7_init 19 = .ok (.iconst 1, 1) := by decide +kernel
theorem dX7_init_20 : decode cX7_init 20 = .ok (.goto 9, 3) := by decide +kernel
theorem dX7_init_23 : decode cX7_init 23 = .ok (.aload_n 2, 1) := by decide +kernel
theorem dX7_init_24 : decode cX7_init 24 = .ok (.getfield 19, 3) := by decide +kernel
theorem dX7_init_27 : decode cX7_init 27 = .ok (.iconst 1, 1) := by decide +kernel
theorem dX7_init_28 : decode cX7_init 28 = .ok (.iadd, 1) := by decide +kernel
theorem dX7_init_29 : decode cX7_init 29 = .ok (.putfield 19, 3) := by decide +kernel
theorem dX7_init_32 : decode cX7_init 32 = .ok (.return_, 1) := by decide +kernel
theorem dX7_ofPath_0 : decode cX7_ofPath 0 = .ok (.aconst_null, 1) := by decide +kernel
theorem dX7_ofPath_1 : decode cX7_ofPath 1 = .ok (.astore_n 1, 1) := by decide +kernel
theorem dX7_ofPath_2 : decode cX7_ofPath 2 = .ok (.aload_n 0, 1) := by decide +kernel
theorem dX7_ofPath_3 : decode cX7_ofPath 3 = .ok (.invokevirtual 23, 3) := by decide +kernel
theorem dX7_ofPath_6 : decode cX7_ofPath 6 = .ok (.istore_n 2, 1) := by decide +kernel
theorem dX7_ofPath_7 : decode cX7_ofPath 7 = .ok (.aload_n 0, 1) := by decide +kernel
theorem dX7_ofPath_8 : decode cX7_ofPath 8 = .ok (.invokevirtual 23, 3) := by decide +kernel
theorem dX7_ofPath_11 : decode cX7_ofPath 11 = .ok (.iconst 1, 1) := by decide +kernel
theorem dX7_ofPath_12 : decode cX7_ofPath 12 = .ok (.isub, 1) := by decide +kernel
theorem dX7_ofPath_13 : decode cX7_ofPath 13 = .ok (.istore_n 3, 1) := by decide +kernel
theorem dX7_ofPath_14 : decode cX7_ofPath 14 = .ok (.iload_n 3, 1) := by decide +kernel
theorem dX7_ofPath_15 : decode cX7_ofPath 15 = .ok (.iconst (-1), 1) := by decide +kernel
theorem dX7_ofPath_16 : decode cX7_ofPath 16 = .ok (.if_icmp .lt 75, 3) := by decide +kernel
theorem dX7_ofPath_19 : decode cX7_ofPath 19 = .ok (.iload_n 3, 1) := by decide +kernel
theorem dX7_ofPath_20 : decode cX7_ofPath 20 = .ok (.ifCond .lt 13, 3) := by decide +kernel
theorem dX7_ofPath_23 : decode cX7_ofPath 23 = .ok (.aload_n 0, 1) := by decide +kernel
theorem dX7_ofPath_24 : decode cX7_ofPath 24 = .ok (.iload_n 3, 1) := by decide +kernel
theorem dX7_ofPath_25 : decode cX7_ofPath 25 = .ok (.invokevirtual 29, 3) := by decide +kernel
theorem dX7_ofPath_28 : decode cX7_ofPath 28 = .ok (.bipush 46, 2) := by decide +kernel
theorem dX7_ofPath_30 : decode cX7_ofPath 30 = .ok (.if_icmp .ne 55, 3) := by decide +kernel
theorem dX7_ofPath_33 : decode cX7_ofPath 33 = .ok (.aload_n 0, 1) := by decide +kernel
theorem dX7_ofPath_34 : decode cX7_ofPath 34 = .ok (.iload_n 3, 1) := by decide +kernel
theorem dX7_ofPath_35 : decode cX7_ofPath 35 = .ok (.iconst 1, 1) := by decide +kernel
theorem dX7_ofPath_36 : decode cX7_ofPath 36 = .ok (.iadd, 1) := by decide +kernel
theorem dX7_ofPath_37 : decode cX7_ofPath 37 = .ok (.iload_n 2, 1) := by decide +kernel
theorem dX7_ofPath_38 : decode cX7_ofPath 38 = .ok (.invokevirtual 33, 3) := by decide +kernel
theorem dX7_ofPath_41 : decode cX7_ofPath 41 = .ok (.astore 4, 2) := by decide +kernel
theorem dX7_ofPath_43 : decode cX7_ofPath 43 = .ok (.aload 4, 2) := by decide +kernel
theorem dX7_ofPath_45 : decode cX7_ofPath 45 = .ok (.invokevirtual 37, 3) := by decide +kernel
theorem dX7_ofPath_48 : decode cX7_ofPath 48 = .ok (.ifCond .ne 11, 3) := by decide +kernel
theorem dX7_ofPath_51 : decode cX7_ofPath 51 = .ok (.aload 4, 2) := by decide +kernel
theorem dX7_ofPath_53 : decode cX7_ofPath 53 = .ok (.invokestatic 41, 3) := by decide +kernel
theorem dX7_ofPath_56 : decode cX7_ofPath 56 = .ok (.ifCond .eq 5, 3) := by decide +kernel
theorem dX7_ofPath_59 : decode cX7_ofPath 59 = .ok (.aconst_null, 1) := by decide +kernel
theorem dX7_ofPath_60 : decode cX7_ofPath 60 = .ok (.areturn, 1) := by decide +kernel
theorem dX7_ofPath_61 : decode cX7_ofPath 61 = .ok (.new 10, 3) := by decide +kernel
theorem dX7_ofPath_64 : decode cX7_ofPath 64 = .ok (.dup, 1) := by decide +kernel
theorem dX7_ofPath_65 : decode cX7_ofPath 65 = .ok (.aload 4, 2) := by decide +kernel
theorem dX7_ofPath_67 : decode cX7_ofPath 67 = .ok (.aload_n 1, 1) := by decide +kernel
theorem dX7_ofPath_68 : decode cX7_ofPath 68 = .ok (.invokespecial 45, 3) := by decide +kernel
theorem dX7_ofPath_71 : decode cX7_ofPath 71 = .ok (.astore_n 1, 1) := by decide +kernel
theorem dX7_ofPath_72 : decode cX7_ofPath 72 = .ok (.aload_n 1, 1) := by decide +kernel
theorem dX7_ofPath_73 : decode cX7_ofPath 73 = .ok (.getfield 19, 3) := by decide +kernel
theorem dX7_ofPath_76 : decode cX7_ofPath 76 = .ok (.bipush 8, 2) := by decide +kernel
theorem dX7_ofPath_78 : decode cX7_ofPath 78 = .ok (.if_icmp .le 5, 3) := by decide +kernel
theorem dX7_ofPath_81 : decode cX7_ofPath 81 = .ok (.aconst_null, 1) := by decide +kernel
theorem dX7_ofPath_82 : decode cX7_ofPath 82 = .ok (.areturn, 1) := by decide +kernel
theorem dX7_ofPath_83 : decode cX7_ofPath 83 = .ok (.iload_n 3, 1) := by decide +kernel
theorem dX7_ofPath_84 : decode cX7_ofPath 84 = .ok (.istore_n 2, 1) := by decide +kernel
theorem dX7_ofPath_85 : decode cX7_ofPath 85 = .ok (.iinc 3 (-1), 3) := by decide +kernel
theorem dX7_ofPath_88 : decode cX7_ofPath 88 = .ok (.goto (-74), 3) := by decide +kernel
theorem dX7_ofPath_91 : decode cX7_ofPath 91 = .ok (.aload_n 1, 1) := by decide +kernel
theorem dX7_ofPath_92 : decode cX7_ofPath 92 = .ok (.areturn, 1) := by decide +kernel
theorem dX8_init_0 : decode cX8_init 0 = .ok (.aload_n 0, 1) := by decide +kernel
theorem dX8_init_1 : decode cX8_init 1 = .ok (.invokespecial 3, 3) := by decide +kernel
theorem dX8_init_4 : decode cX8_init 4 = .ok (.aload_n 0, 1) := by decide +kernel
theorem dX8_init_5 : decode cX8_init 5 = .ok (.sipush 2000, 3) := by decide +kernel
theorem dX8_init_8 : decode cX8_init 8 = .ok (.newarray .int, 2) := by decide +kernel
theorem dX8_init_10 : decode cX8_init 10 = .ok (.putfield 9, 3) := by decide +kernel
theorem dX8_init_13 : decode cX8_init 13 = .ok (.return_, 1) := by decide +kernel
theorem dX8_hasRoom_0 : decode cX8_hasRoom 0 = .ok (.aload_n 0, 1) := by decide +kernel
theorem dX8_hasRoom_1 : decode cX8_hasRoom 1 = .ok (.getfield 15, 3) := by decide +kernel
theorem dX8_hasRoom_4 : decode cX8_hasRoom 4 = .ok (.bipush 20, 2) := by decide +kernel
theorem dX8_hasRoom_6 : decode cX8_hasRoom 6 = .ok (.iadd, 1) := by decide +kernel
theorem dX8_hasRoom_7 : decode cX8_hasRoom 7 = .ok (.sipush 2000, 3) := by decide +kernel
theorem dX8_hasRoom_10 : decode cX8_hasRoom 10 = .ok (.if_icmp .gt 7, 3) := by decide +kernel
theorem dX8_hasRoom_13 : decode cX8_hasRoom 13 = .ok (.iconst 1, 1) := by decide +kernel
theorem dX8_hasRoom_14 : decode cX8_hasRoom 14 = .ok (.goto 4, 3) := by decide +kernel
theorem dX8_hasRoom_17 : decode cX8_hasRoom 17 = .ok (.iconst 0, 1) := by decide +kernel
theorem dX8_hasRoom_18 : decode cX8_hasRoom 18 = .ok (.ireturn, 1) := by decide +kernel
theorem dX8_has_0 : decode cX8_has 0 = .ok (.iload_n 1, 1) := by decide +kernel
theorem dX8_has_1 : decode cX8_has 1 = .ok (.ifCond .lt 15, 3) := by decide +kernel
theorem dX8_has_4 : decode cX8_has 4 = .ok (.iload_n 1, 1) := by decide +kernel
theorem dX8_has_5 : decode cX8_has 5 = .ok (.aload_n 0, 1) := by decide +kernel
theorem dX8_has_6 : decode cX8_has 6 = .ok (.getfield 15, 3) := by decide +kernel
theorem dX8_has_9 : decode cX8_has 9 = .ok (.if_icmp .gt 7, 3) := by decide +kernel
theorem dX8_has_12 : decode cX8_has 12 = .ok (.iconst 1, 1) := by decide +kernel
theorem dX8_has_13 : decode cX8_has 13 = .ok (.goto 4, 3) := by decide +kernel
theorem dX8_has_16 : decode cX8_has 16 = .ok (.iconst 0, 1) := by decide +kernel
theorem dX8_has_17 : decode cX8_has 17 = .ok (.ireturn, 1) := by decide +kernel
theorem dX8_clear_0 : decode cX8_clear 0 = .ok (.aload_n 0, 1) := by decide +kernel
theorem dX8_clear_1 : decode cX8_clear 1 = .ok (.iconst 0, 1) := by decide +kernel
theorem dX8_clear_2 : decode cX8_clear 2 = .ok (.putfield 15, 3) := by decide +kernel
theorem dX8_clear_5 : decode cX8_clear 5 = .ok (.return_, 1) := by decide +kernel
theorem dX8_put_0 : decode cX8_put 0 = .ok (.bipush 24, 2) := by decide +kernel
theorem dX8_put_2 : decode cX8_put 2 = .ok (.istore_n 2, 1) := by decide +kernel
theorem dX8_put_3 : decode cX8_put 3 = .ok (.iload_n 2, 1) := by decide +kernel
theorem dX8_put_4 : decode cX8_put 4 = .ok (.ifCond .lt 54, 3) := by decide +kernel
theorem dX8_put_7 : decode cX8_put 7 = .ok (.aload_n 0, 1) := by decide +kernel
theorem dX8_put_8 : decode cX8_put 8 = .ok (.getfield 15, 3) := by decide +kernel
theorem dX8_put_11 : decode cX8_put 11 = .ok (.ifCond .lt 41, 3) := by decide +kernel
theorem dX8_put_14 : decode cX8_put 14 = .ok (.aload_n 0, 1) := by decide +kernel
theorem dX8_put_15 : decode cX8_put 15 = .ok (.getfield 15, 3) := by decide +kernel
theorem dX8_put_18 : decode cX8_put 18 = .ok (.aload_n 0, 1) := by decide +kernel
theorem dX8_put_19 : decode cX8_put 19 = .ok (.getfield 9, 3) := by decide +kernel
theorem dX8_put_22 : decode cX8_put 22 = .ok (.arraylength, 1) := by decide +kernel
theorem dX8_put_23 : decode cX8_put 23 = .ok (.if_icmp .ge 29, 3) := by decide +kernel
theorem dX8_put_26 : decode cX8_put 26 = .ok (.aload_n 0, 1) := by decide +kernel
theorem dX8_put_27 : decode cX8_put 27 = .ok (.getfield 9, 3) := by decide +kernel
theorem dX8_put_30 : decode cX8_put 30 = .ok (.aload_n 0, 1) := by decide +kernel
theorem dX8_put_31 : decode cX8_put 31 = .ok (.getfield 15, 3) := by decide +kernel
theorem dX8_put_34 : decode cX8_put 34 = .ok (.iload_n 1, 1) := by decide +kernel
theorem dX8_put_35 : decode cX8_put 35 = .ok (.iload_n 2, 1) := by decide +kernel
theorem dX8_put_36 : decode cX8_put 36 = .ok (.iushr, 1) := by decide +kernel
theorem dX8_put_37 : decode cX8_put 37 = .ok (.sipush 255, 3) := by decide +kernel
theorem dX8_put_40 : decode cX8_put 40 = .ok (.iand, 1) := by decide +kernel
theorem dX8_put_41 : decode cX8_put 41 = .ok (.iastore, 1) := by decide +kernel
theorem dX8_put_42 : decode cX8_put 42 = .ok (.aload_n 0, 1) := by decide +kernel
theorem dX8_put_43 : decode cX8_put 43 = .ok (.dup, 1) := by decide +kernel
theorem dX8_put_44 : decode cX8_put 44 = .ok (.getfield 15, 3) := by decide +kernel
theorem dX8_put_47 : decode cX8_put 47 = .ok (.iconst 1, 1) := by decide +kernel
theorem dX8_put_48 : decode cX8_put 48 = .ok (.iadd, 1) := by decide +kernel
theorem dX8_put_49 : decode cX8_put 49 = .ok (.putfield 15, 3) := by decide +kernel
theorem dX8_put_52 : decode cX8_put 52 = .ok (.iinc 2 (-8), 3) := by decide +kernel
theorem dX8_put_55 : decode cX8_put 55 = .ok (.goto (-52), 3) := by decide +kernel
theorem dX8_put_58 : decode cX8_put 58 = .ok (.return_, 1) := by decide +kernel
theorem dX8_byteAt_0 : decode cX8_byteAt 0 = .ok (.iload_n 1, 1) := by decide +kernel
theorem dX8_byteAt_1 : decode cX8_byteAt 1 = .ok (.ifCond .lt 21, 3) := by decide +kernel
theorem dX8_byteAt_4 : decode cX8_byteAt 4 = .ok (.iload_n 1, 1) := by decide +kernel
theorem dX8_byteAt_5 : decode cX8_byteAt 5 = .ok (.aload_n 0, 1) := by decide +kernel
theorem dX8_byteAt_6 : decode cX8_byteAt 6 = .ok (.getfield 9, 3) := by decide +kernel
theorem dX8_byteAt_9 : decode cX8_byteAt 9 = .ok (.arraylength, 1) := by decide +kernel
theorem dX8_byteAt_10 : decode cX8_byteAt 10 = .ok (.if_icmp .ge 12, 3) := by decide +kernel
theorem dX8_byteAt_13 : decode cX8_byteAt 13 = .ok (.aload_n 0, 1) := by decide +kernel
theorem dX8_byteAt_14 : decode cX8_byteAt 14 = .ok (.getfield 9, 3) := by decide +kernel
theorem dX8_byteAt_17 : decode cX8_byteAt 17 = .ok (.iload_n 1, 1) := by decide +kernel
theorem dX8_byteAt_18 : decode cX8_byteAt 18 = .ok (.iaload, 1) := by decide +kernel
theorem dX8_byteAt_19 : decode cX8_byteAt 19 = .ok (.goto 4, 3) := by decide +kernel
theorem dX8_byteAt_22 : decode cX8_byteAt 22 = .ok (.iconst 0, 1) := by decide +kernel
theorem dX8_byteAt_23 : decode cX8_byteAt 23 = .ok (.ireturn, 1) := by decide +kernel
theorem dX9_init_0 : decode cX9_init 0 = .ok (.aload_n 0, 1) := by decide +kernel
theorem dX9_init_1 : decode cX9_init 1 = .ok (.invokespecial 1, 3) := by decide +kernel
theorem dX9_init_4 : decode cX9_init 4 = .ok (.aload_n 0, 1) := by decide +kernel
theorem dX9_init_5 : decode cX9_init 5 = .ok (.ldc 7, 2) := by decide +kernel
theorem dX9_init_7 : decode cX9_init 7 = .ok (.putfield 9, 3) := by decide +kernel
theorem dX9_init_10 : decode cX9_init 10 = .ok (.aload_n 0, 1) := by decide +kernel
theorem dX9_init_11 : decode cX9_init 11 = .ok (.iload_n 1, 1) := by decide +kernel
theorem dX9_init_12 : decode cX9_init 12 = .ok (.putfield 15, 3) := by decide +kernel
theorem dX9_init_15 : decode cX9_init 15 = .ok (.aload_n 0, 1) := by decide +kernel
theorem dX9_init_16 : decode cX9_init 16 = .ok (.iload_n 2, 1) := by decide +kernel
theorem dX9_init_17 : decode cX9_init 17 = .ok (.putfield 19, 3) := by decide +kernel
theorem dX9_init_20 : decode cX9_init 20 = .ok (.aload_n 0, 1) := by decide +kernel
theorem dX9_init_21 : decode cX9_init 21 = .ok (.aload_n 3, 1) := by decide +kernel
theorem dX9_init_22 : decode cX9_init 22 = .ok (.putfield 22, 3) := by decide +kernel
theorem dX9_init_25 : decode cX9_init 25 = .ok (.return_, 1) := by decide +kernel
theorem dX9_add_0 : decode cX9_add 0 = .ok (.aload_n 0, 1) := by decide +kernel
theorem dX9_add_1 : decode cX9_add 1 = .ok (.getfield 25, 3) := by decide +kernel
theorem dX9_add_4 : decode cX9_add 4 = .ok (.ifnonnull 11, 3) := by decide +kernel
theorem dX9_add_7 : decode cX9_add 7 = .ok (.aload_n 0, 1) := by decide +kernel
theorem dX9_add_8 : decode cX9_add 8 = .ok (.aload_n 1, 1) := by decide +kernel
theorem dX9_add_9 : decode cX9_add 9 = .ok (.putfield 29, 3) := by decide +kernel
theorem dX9_add_12 : decode cX9_add 12 = .ok (.goto 11, 3) := by decide +kernel
theorem dX9_add_15 : decode cX9_add 15 = .ok (.aload_n 0, 1) := by decide +kernel
theorem dX9_add_16 : decode cX9_add 16 = .ok (.getfield 25, 3) := by decide +kernel
theorem dX9_add_19 : decode cX9_add 19 = .ok (.aload_n 1, 1) := by decide +kernel
theorem dX9_add_20 : decode cX9_add 20 = .ok (.putfield 32, 3) := by decide +kernel
theorem dX9_add_23 : decode cX9_add 23 = .ok (.aload_n 0, 1) := by decide +kernel
theorem dX9_add_24 : decode cX9_add 24 = .ok (.aload_n 1, 1) := by decide +kernel
theorem dX9_add_25 : decode cX9_add 25 = .ok (.putfield 25, 3) := by decide +kernel
theorem dX9_add_28 : decode cX9_add 28 = .ok (.aload_n 0, 1) := by decide +kernel
theorem dX9_add_29 : decode cX9_add 29 = .ok (.dup, 1) := by decide +kernel
theorem dX9_add_30 : decode cX9_add 30 = .ok (.getfield 35, 3) := by decide +kernel
theorem dX9_add_33 : decode cX9_add 33 = .ok (.iconst 1, 1) := by decide +kernel
theorem dX9_add_34 : decode cX9_add 34 = .ok (.iadd, 1) := by decide +kernel
theorem dX9_add_35 : decode cX9_add 35 = .ok (.putfield 35, 3) := by decide +kernel
theorem dX9_add_38 : decode cX9_add 38 = .ok (.return_, 1) := by decide +kernel
theorem dX9_named_0 : decode cX9_named 0 = .ok (.aload_n 0, 1) := by decide +kernel
theorem dX9_named_1 : decode cX9_named 1 = .ok (.getfield 29, 3) := by decide +kernel
theorem dX9_named_4 : decode cX9_named 4 = .ok (.astore_n 2, 1) := by decide +kernel
theorem dX9_named_5 : decode cX9_named 5 = .ok (.aload_n 2, 1) := by decide +kernel
theorem dX9_named_6 : decode cX9_named 6 = .ok (.ifnull 24, 3) := by decide +kernel
theorem dX9_named_9 : decode cX9_named 9 = .ok (.aload_n 2, 1) := by decide +kernel
theorem dX9_named_10 : decode cX9_named 10 = .ok (.getfield 22, 3) := by decide +kernel
theorem dX9_named_13 : decode cX9_named 13 = .ok (.aload_n 1, 1) := by decide +kernel
theorem dX9_named_14 : decode cX9_named 14 = .ok (.invokevirtual 38, 3) := by decide +kernel
theorem dX9_named_17 : decode cX9_named 17 = .ok (.ifCond .eq 5, 3) := by decide +kernel
theorem dX9_named_20 : decode cX9_named 20 = .ok (.aload_n 2, 1) := by decide +kernel
theorem dX9_named_21 : decode cX9_named 21 = .ok (.areturn, 1) := by decide +kernel
theorem dX9_named_22 : decode cX9_named 22 = .ok (.aload_n 2, 1) := by decide +kernel
theorem dX9_named_23 : decode cX9_named 23 = .ok (.getfield 32, 3) := by decide +kernel
theorem dX9_named_26 : decode cX9_named 26 = .ok (.astore_n 2, 1) := by decide +kernel
theorem dX9_named_27 : decode cX9_named 27 = .ok (.goto (-22), 3) := by decide +kernel
theorem dX9_named_30 : decode cX9_named 30 = .ok (.aconst_null, 1) := by decide +kernel
theorem dX9_named_31 : decode cX9_named 31 = .ok (.areturn, 1) := by decide +kernel
theorem dX9_isConditions_0 : decode cX9_isConditions 0 = .ok (.aload_n 0, 1) := by decide +kernel
theorem dX9_isConditions_1 : decode cX9_isConditions 1 = .ok (.getfield 15, 3) := by decide +kernel
theorem dX9_isConditions_4 : decode cX9_isConditions 4 = .ok (.iconst 3, 1) := by decide +kernel
theorem dX9_isConditions_5 : decode cX9_isConditions 5 = .ok (.if_icmp .ne 27, 3) := by decide +kernel
theorem dX9_isConditions_8 : decode cX9_isConditions 8 = .ok (.aload_n 0, 1) := by decide +kernel
theorem dX9_isConditions_9 : decode cX9_isConditions 9 = .ok (.getfield 29, 3) := by decide +kernel
theorem dX9_isConditions_12 : decode cX9_isConditions 12 = .ok (.ifnull 20, 3) := by decide +kernel
theorem dX9_isConditions_15 : decode cX9_isConditions 15 = .ok (.aload_n 0, 1) := by decide +kernel
theorem dX9_isConditions_16 : decode cX9_isConditions 16 = .ok (.getfield 29, 3) := by decide +kernel
theorem dX9_isConditions_19 : decode cX9_isConditions 19 = .ok (.getfield 22, 3) := by decide +kernel
theorem dX9_isConditions_22 : decode cX9_isConditions 22 = .ok (.invokestatic 46, 3) := by decide +kernel
theorem dX9_isConditions_25 : decode cX9_isConditions 25 = .ok (.ifCond .eq 7, 3) := by decide +kernel
theorem dX9_isConditions_28 : decode cX9_isConditions 28 = .ok (.iconst 1, 1) := by decide +kernel
theorem dX9_isConditions_29 : decode cX9_isConditions 29 = .ok (.goto 4, 3) := by decide +kernel
theorem dX9_isConditions_32 : decode cX9_isConditions 32 = .ok (.iconst 0, 1) := by decide +kernel
theorem dX9_isConditions_33 : decode cX9_isConditions 33 = .ok (.ireturn, 1) := by decide +kernel
theorem dX10_init_0 : decode cX10_init 0 = .ok (.aload_n 0, 1) := by decide +kernel
theorem dX10_init_1 : decode cX10_init 1 = .ok (.invokespecial 1, 3) := by decide +kernel
theorem dX10_init_4 : decode cX10_init 4 = .ok (.aload_n 0, 1) := by decide +kernel
theorem dX10_init_5 : decode cX10_init 5 = .ok (.new 7, 3) := by decide +kernel
theorem dX10_init_8 : decode cX10_init 8 = .ok (.dup, 1) := by decide +kernel
theorem dX10_init_9 : decode cX10_init 9 = .ok (.invokespecial 9, 3) := by decide +kernel
theorem dX10_init_12 : decode cX10_init 12 = .ok (.putfield 10, 3) := by decide +kernel
theorem dX10_init_15 : decode cX10_init 15 = .ok (.aload_n 0, 1) := by decide +kernel
theorem dX10_init_16 : decode cX10_init 16 = .ok (.new 16, 3) := by decide +kernel
theorem dX10_init_19 : decode cX10_init 19 = .ok (.dup, 1) := by decide +kernel
theorem dX10_init_20 : decode cX10_init 20 = .ok (.invokespecial 18, 3) := by decide +kernel
theorem dX10_init_23 : decode cX10_init 23 = .ok (.putfield 19, 3) := by decide +kernel
theorem dX10_init_26 : decode cX10_init 26 = .ok (.aload_n 0, 1) := by decide +kernel
theorem dX10_init_27 : decode cX10_init 27 = .ok (.iconst 4, 1) := by decide +kernel
theorem dX10_init_28 : decode cX10_init 28 = .ok (.anewarray 23, 3) := by decide +kernel
theorem dX10_init_31 : decode cX10_init 31 = .ok (.putfield 25, 3) := by decide +kernel
theorem dX10_init_34 : decode cX10_init 34 = .ok (.iconst 0, 1) := by decide +kernel
theorem dX10_init_35 : decode cX10_init 35 = .ok (.istore_n 1, 1) := by decide +kernel
theorem dX10_init_36 : decode cX10_init 36 = .ok (.iload_n 1, 1) := by decide +kernel
theorem dX10_init_37 : decode cX10_init 37 = .ok (.iconst 4, 1) := by decide +kernel
theorem dX10_init_38 : decode cX10_init 38 = .ok (.if_icmp .ge 26, 3) := by decide +kernel
theorem dX10_init_41 : decode cX10_init 41 = .ok (.aload_n 0, 1) := by decide +kernel
theorem dX10_init_42 : decode cX10_init 42 = .ok (.getfield 25, 3) := by decide +kernel
theorem dX10_init_45 : decode cX10_init 45 = .ok (.iload_n 1, 1) := by decide +kernel
theorem dX10_init_46 : decode cX10_init 46 = .ok (.new 23, 3) := by decide +kernel
theorem dX10_init_49 : decode cX10_init 49 = .ok (.dup, 1) := by decide +kernel
theorem dX10_init_50 : decode cX10_init 50 = .ok (.iconst 3, 1) := by decide +kernel
theorem dX10_init_51 : decode cX10_init 51 = .ok (.iconst (-1), 1) := by decide +kernel
theorem dX10_init_52 : decode cX10_init 52 = .ok (.ldc 31, 2) := by decide +kernel
theorem dX10_init_54 : decode cX10_init 54 = .ok (.invokespecial 33, 3) := by decide +kernel
theorem dX10_init_57 : decode cX10_init 57 = .ok (.aastore, 1) := by decide +kernel
theorem dX10_init_58 : decode cX10_init 58 = .ok (.iinc 1 1, 3) := by decide +kernel
theorem dX10_init_61 : decode cX10_init 61 = .ok (.goto (-25), 3) := by decide +kernel
theorem dX10_init_64 : decode cX10_init 64 = .ok (.aload_n 0, 1) := by decide +kernel
theorem dX10_init_65 : decode cX10_init 65 = .ok (.iconst 4, 1) := by decide +kernel
theorem dX10_init_66 : decode cX10_init 66 = .ok (.anewarray 36, 3) := by decide +kernel
theorem dX10_init_69 : decode cX10_init 69 = .ok (.putfield 38, 3) := by decide +kernel
theorem dX10_init_72 : decode cX10_init 72 = .ok (.iconst 0, 1) := by decide +kernel
theorem dX10_init_73 : decode cX10_init 73 = .ok (.istore_n 1, 1) := by decide +kernel
theorem dX10_init_74 : decode cX10_init 74 = .ok (.iload_n 1, 1) := by decide +kernel
theorem dX10_init_75 : decode cX10_init 75 = .ok (.iconst 4, 1) := by decide +kernel
theorem dX10_init_76 : decode cX10_init 76 = .ok (.if_icmp .ge 33, 3) := by decide +kernel
theorem dX10_init_79 : decode cX10_init 79 = .ok (.aload_n 0, 1) := by decide +kernel
theorem dX10_init_80 : decode cX10_init 80 = .ok (.getfield 38, 3) := by decide +kernel
theorem dX10_init_83 : decode cX10_init 83 = .ok (.iload_n 1, 1) := by decide +kernel
theorem dX10_init_84 : decode cX10_init 84 = .ok (.new 36, 3) := by decide +kernel
theorem dX10_init_87 : decode cX10_init 87 = .ok (.dup, 1) := by decide +kernel
theorem dX10_init_88 : decode cX10_init 88 = .ok (.new 23, 3) := by decide +kernel
theorem dX10_init_91 : decode cX10_init 91 = .ok (.dup, 1) := by decide +kernel
theorem dX10_init_92 : decode cX10_init 92 = .ok (.iconst 3, 1) := by decide +kernel
theorem dX10_init_93 : decode cX10_init 93 = .ok (.iconst (-1), 1) := by decide +kernel
theorem dX10_init_94 : decode cX10_init 94 = .ok (.ldc 31, 2) := by decide +kernel
theorem dX10_init_96 : decode cX10_init 96 = .ok (.invokespecial 33, 3) := by decide +kernel
theorem dX10_init_99 : decode cX10_init 99 = .ok (.invokespecial 42, 3) := by decide +kernel
theorem dX10_init_102 : decode cX10_init 102 = .ok (.aastore, 1) := by decide +kernel
theorem dX10_init_103 : decode cX10_init 103 = .ok (.iinc 1 1, 3) := by decide +kernel
theorem dX10_init_106 : decode cX10_init 106 = .ok (.goto (-32), 3) := by decide +kernel
theorem dX10_init_109 : decode cX10_init 109 = .ok (.aload_n 0, 1) := by decide +kernel
theorem dX10_init_110 : decode cX10_init 110 = .ok (.iconst (-1), 1) := by decide +kernel
theorem dX10_init_111 : decode cX10_init 111 = .ok (.putfield 45, 3) := by decide +kernel
theorem dX10_init_114 : decode cX10_init 114 = .ok (.return_, 1) := by decide +kernel
theorem dX10_feed_0 : decode cX10_feed 0 = .ok (.aload_n 0, 1) := by decide +kernel
theorem dX10_feed_1 : decode cX10_feed 1 = .ok (.getfield 10, 3) := by decide +kernel
theorem dX10_feed_4 : decode cX10_feed 4 = .ok (.invokevirtual 49, 3) := by decide +kernel
theorem dX10_feed_7 : decode cX10_feed 7 = .ok (.ifCond .ne 5, 3) := by decide +kernel
theorem dX10_feed_10 : decode cX10_feed 10 = .ok (.iconst (-1), 1) := by decide +kernel
theorem dX10_feed_11 : decode cX10_feed 11 = .ok (.ireturn, 1) := by decide +kernel
theorem dX10_feed_12 : decode cX10_feed 12 = .ok (.aload_n 0, 1) := by decide +kernel
theorem dX10_feed_13 : decode cX10_feed 13 = .ok (.getfield 10, 3) := by decide +kernel
theorem dX10_feed_16 : decode cX10_feed 16 = .ok (.iload_n 1, 1) := by decide +kernel
theorem dX10_feed_17 : decode cX10_feed 17 = .ok (.invokevirtual 53, 3) := by decide +kernel
theorem dX10_feed_20 : decode cX10_feed 20 = .ok (.aload_n 0, 1) := by decide +kernel
theorem dX10_feed_21 : decode cX10_feed 21 = .ok (.getfield 10, 3) := by decide +kernel
theorem dX10_feed_24 : decode cX10_feed 24 = .ok (.iload_n 2, 1) := by decide +kernel
theorem dX10_feed_25 : decode cX10_feed 25 = .ok (.invokevirtual 53, 3) := by decide +kernel
theorem dX10_feed_28 : decode cX10_feed 28 = .ok (.aload_n 0, 1) := by decide +kernel
theorem dX10_feed_29 : decode cX10_feed 29 = .ok (.getfield 10, 3) := by decide +kernel
theorem dX10_feed_32 : decode cX10_feed 32 = .ok (.iload_n 3, 1) := by decide +kernel
theorem dX10_feed_33 : decode cX10_feed 33 = .ok (.invokevirtual 53, 3) := by decide +kernel
theorem dX10_feed_36 : decode cX10_feed 36 = .ok (.aload_n 0, 1) := by decide +kernel
theorem dX10_feed_37 : decode cX10_feed 37 = .ok (.getfield 10, 3) := by decide +kernel
theorem dX10_feed_40 : decode cX10_feed 40 = .ok (.iload 4, 2) := by decide +kernel
theorem dX10_feed_42 : decode cX10_feed 42 = .ok (.invokevirtual 53, 3) := by decide +kernel
theorem dX10_feed_45 : decode cX10_feed 45 = .ok (.aload_n 0, 1) := by decide +kernel
theorem dX10_feed_46 : decode cX10_feed 46 = .ok (.getfield 10, 3) := by decide +kernel
theorem dX10_feed_49 : decode cX10_feed 49 = .ok (.iload 5, 2) := by decide +kernel
theorem dX10_feed_51 : decode cX10_feed 51 = .ok (.invokevirtual 53, 3) := by decide +kernel
theorem dX10_feed_54 : decode cX10_feed 54 = .ok (.aload_n 0, 1) := by decide +kernel
theorem dX10_feed_55 : decode cX10_feed 55 = .ok (.getfield 10, 3) := by decide +kernel
theorem dX10_feed_58 : decode cX10_feed 58 = .ok (.getfield 57, 3) := by decide +kernel
theorem dX10_feed_61 : decode cX10_feed 61 = .ok (.ireturn, 1) := by decide +kernel
theorem dX10_read_0 : decode cX10_read 0 = .ok (.aload_n 0, 1) := by decide +kernel
theorem dX10_read_1 : decode cX10_read 1 = .ok (.iload_n 1, 1) := by decide +kernel
theorem dX10_read_2 : decode cX10_read 2 = .ok (.invokevirtual 60, 3) := by decide +kernel
theorem dX10_read_5 : decode cX10_read 5 = .ok (.ifnull 14, 3) := by decide +kernel
theorem dX10_read_8 : decode cX10_read 8 = .ok (.aload_n 0, 1) := by decide +kernel
theorem dX10_read_9 : decode cX10_read 9 = .ok (.getfield 10, 3) := by decide +kernel
theorem dX10_read_12 : decode cX10_read 12 = .ok (.iload_n 2, 1) := by decide +kernel
theorem dX10_read_13 : decode cX10_read 13 = .ok (.invokevirtual 64, 3) := by decide +kernel
theorem dX10_read_16 : decode cX10_read 16 = .ok (.ifCond .ne 6, 3) := by decide +kernel
theorem dX10_read_19 : decode cX10_read 19 = .ok (.bipush (-2), 2) := by decide +kernel
theorem dX10_read_21 : decode cX10_read 21 = .ok (.ireturn, 1) := by decide +kernel
theorem dX10_read_22 : decode cX10_read 22 = .ok (.aload_n 0, 1) := by decide +kernel
theorem dX10_read_23 : decode cX10_read 23 = .ok (.iload_n 2, 1) := by decide +kernel
theorem dX10_read_24 : decode cX10_read 24 = .ok (.invokevirtual 68, 3) := by decide +kernel
theorem dX10_read_27 : decode cX10_read 27 = .ok (.astore_n 3, 1) := by decide +kernel
theorem dX10_read_28 : decode cX10_read 28 = .ok (.aload_n 3, 1) := by decide +kernel
theorem dX10_read_29 : decode cX10_read 29 = .ok (.ifnonnull 5, 3) := by decide +kernel
theorem dX10_read_32 : decode cX10_read 32 = .ok (.iconst (-1), 1) := by decide +kernel
theorem dX10_read_33 : decode cX10_read 33 = .ok (.ireturn, 1) := by decide +kernel
theorem dX10_read_34 : decode cX10_read 34 = .ok (.aload_n 0, 1) := by decide +kernel
theorem dX10_read_35 : decode cX10_read 35 = .ok (.getfield 25, 3) := by decide +kernel
theorem dX10_read_38 : decode cX10_read 38 = .ok (.iload_n 1, 1) := by decide +kernel
theorem dX10_read_39 : decode cX10_read 39 = .ok (.aload_n 3, 1) := by decide +kernel
theorem dX10_read_40 : decode cX10_read 40 = .ok (.aastore, 1) := by decide +kernel
theorem dX10_read_41 : decode cX10_read 41 = .ok (.iconst 0, 1) := by decide +kernel
theorem dX10_read_42 : decode cX10_read 42 = .ok (.ireturn, 1) := by decide +kernel
theorem dX10_filter_0 : decode cX10_filter 0 = .ok (.aload_n 0, 1) := by decide +kernel
theorem dX10_filter_1 : decode cX10_filter 1 = .ok (.iload_n 1, 1) := by decide +kernel
theorem dX10_filter_2 : decode cX10_filter 2 = .ok (.invokevirtual 71, 3) := by decide +kernel
theorem dX10_filter_5 : decode cX10_filter 5 = .ok (.ifnull 14, 3) := by decide +kernel
theorem dX10_filter_8 : decode cX10_filter 8 = .ok (.aload_n 0, 1) := by decide +kernel
theorem dX10_filter_9 : decode cX10_filter 9 = .ok (.getfield 10, 3) := by decide +kernel
theorem dX10_filter_12 : decode cX10_filter 12 = .ok (.iload_n 2, 1) := by decide +kernel
theorem dX10_filter_13 : decode cX10_filter 13 = .ok (.invokevirtual 64, 3) := by decide +kernel
theorem dX10_filter_16 : decode cX10_filter 16 = .ok (.ifCond .ne 6, 3) := by decide +kernel
theorem dX10_filter_19 : decode cX10_filter 19 = .ok (.bipush (-2), 2) := by decide +kernel
theorem dX10_filter_21 : decode cX10_filter 21 = .ok (.ireturn, 1) := by decide +kernel
theorem dX10_filter_22 : decode cX10_filter 22 = .ok (.aload_n 0, 1) := by decide +kernel
theorem dX10_filter_23 : decode cX10_filter 23 = .ok (.iload_n 2, 1) := by decide +kernel
theorem dX10_filter_24 : decode cX10_filter 24 = .ok (.invokevirtual 68, 3) := by decide +kernel
theorem dX10_filter_27 : decode cX10_filter 27 = .ok (.astore_n 3, 1) := by decide +kernel
theorem dX10_filter_28 : decode cX10_filter 28 = .ok (.aload_n 3, 1) := by decide +kernel
theorem dX10_filter_29 : decode cX10_filter 29 = .ok (.ifnonnull 10, 3) := by decide +kernel
theorem dX10_filter_32 : decode cX10_filter 32 = .ok (.aload_n 0, 1) := by decide +kernel
theorem dX10_filter_33 : decode cX10_filter 33 = .ok (.iconst (-1), 1) := by decide +kernel
theorem dX10_filter_34 : decode cX10_filter 34 = .ok (.putfield 45, 3) := by decide +kernel
theorem dX10_filter_37 : decode cX10_filter 37 = .ok (.iconst (-1), 1) := by decide +kernel
theorem dX10_filter_38 : decode cX10_filter 38 = .ok (.ireturn, 1) := by decide +kernel
theorem dX10_filter_39 : decode cX10_filter 39 = .ok (.new 75, 3) := by decide +kernel
theorem dX10_filter_42 : decode cX10_filter 42 = .ok (.dup, 1) := by decide +kernel
theorem dX10_filter_43 : decode cX10_filter 43 = .ok (.aload_n 3, 1) := by decide +kernel
theorem dX10_filter_44 : decode cX10_filter 44 = .ok (.invokespecial 77, 3) := by decide +kernel
theorem dX10_filter_47 : decode cX10_filter 47 = .ok (.astore 4, 2) := by decide +kernel
theorem dX10_filter_49 : decode cX10_filter 49 = .ok (.aload 4, 2) := by decide +kernel
theorem dX10_filter_51 : decode cX10_filter 51 = .ok (.invokevirtual 78, 3) := by decide +kernel
theorem dX10_filter_54 : decode cX10_filter 54 = .ok (.aload_n 0, 1) := by decide +kernel
theorem dX10_filter_55 : decode cX10_filter 55 = .ok (.aload 4, 2) := by decide +kernel
theorem dX10_filter_57 : decode cX10_filter 57 = .ok (.getfield 81, 3) := by decide +kernel
theorem dX10_filter_60 : decode cX10_filter 60 = .ok (.putfield 45, 3) := by decide +kernel
theorem dX10_filter_63 : decode cX10_filter 63 = .ok (.aload 4, 2) := by decide +kernel
theorem dX10_filter_65 : decode cX10_filter 65 = .ok (.getfield 82, 3) := by decide +kernel
theorem dX10_filter_68 : decode cX10_filter 68 = .ok (.ifCond .ne 14, 3) := by decide +kernel
theorem dX10_filter_71 : decode cX10_filter 71 = .ok (.aload_n 0, 1) := by decide +kernel
theorem dX10_filter_72 : decode cX10_filter 72 = .ok (.getfield 38, 3) := by decide +kernel
theorem dX10_filter_75 : decode cX10_filter 75 = .ok (.iload_n 1, 1) := by decide +kernel
theorem dX10_filter_76 : decode cX10_filter 76 = .ok (.aload 4, 2) := by decide +kernel
theorem dX10_filter_78 : decode cX10_filter 78 = .ok (.getfield 85, 3) := by decide +kernel
theorem dX10_filter_81 : decode cX10_filter 81 = .ok (.aastore, 1) := by decide +kernel
theorem dX10_filter_82 : decode cX10_filter 82 = .ok (.aload 4, 2) := by decide +kernel
theorem dX10_filter_84 : decode cX10_filter 84 = .ok (.getfield 82, 3) := by decide +kernel
theorem dX10_filter_87 : decode cX10_filter 87 = .ok (.ireturn, 1) := by decide +kernel
theorem dX10_place_0 : decode cX10_place 0 = .ok (.aload_n 0, 1) := by decide +kernel
theorem dX10_place_1 : decode cX10_place 1 = .ok (.getfield 45, 3) := by decide +kernel
theorem dX10_place_4 : decode cX10_place 4 = .ok (.ireturn, 1) := by decide +kernel
theorem dX10_many_0 : decode cX10_many 0 = .ok (.aload_n 0, 1) := by decide +kernel
theorem dX10_many_1 : decode cX10_many 1 = .ok (.iload_n 1, 1) := by decide +kernel
theorem dX10_many_2 : decode cX10_many 2 = .ok (.invokevirtual 71, 3) := by decide +kernel
theorem dX10_many_5 : decode cX10_many 5 = .ok (.astore_n 3, 1) := by decide +kernel
theorem dX10_many_6 : decode cX10_many 6 = .ok (.aload_n 3, 1) := by decide +kernel
theorem dX10_many_7 : decode cX10_many 7 = .ok (.ifnull 16, 3) := by decide +kernel
theorem dX10_many_10 : decode cX10_many 10 = .ok (.iload_n 2, 1) := by decide +kernel
theorem dX10_many_11 : decode cX10_many 11 = .ok (.ifCond .lt 12, 3) := by decide +kernel
theorem dX10_many_14 : decode cX10_many 14 = .ok (.iload_n 2, 1) := by decide +kernel
theorem dX10_many_15 : decode cX10_many 15 = .ok (.aload_n 3, 1) := by decide +kernel
theorem dX10_many_16 : decode cX10_many 16 = .ok (.getfield 89, 3) := by decide +kernel
theorem dX10_many_19 : decode cX10_many 19 = .ok (.arraylength, 1) := by decide +kernel
theorem dX10_many_20 : decode cX10_many 20 = .ok (.if_icmp .lt 5, 3) := by decide +kernel
theorem dX10_many_23 : decode cX10_many 23 = .ok (.iconst (-1), 1) := by decide +kernel
theorem dX10_many_24 : decode cX10_many 24 = .ok (.ireturn, 1) := by decide +kernel
theorem dX10_many_25 : decode cX10_many 25 = .ok (.aload_n 3, 1) := by decide +kernel
theorem dX10_many_26 : decode cX10_many 26 = .ok (.getfield 89, 3) := by decide +kernel
theorem dX10_many_29 : decode cX10_many 29 = .ok (.iload_n 2, 1) := by decide +kernel
theorem dX10_many_30 : decode cX10_many 30 = .ok (.iaload, 1) := by decide +kernel
theorem dX10_many_31 : decode cX10_many 31 = .ok (.ireturn, 1) := by decide +kernel
theorem dX10_holds_0 : decode cX10_holds 0 = .ok (.aload_n 0, 1) := by decide +kernel
theorem dX10_holds_1 : decode cX10_holds 1 = .ok (.iload_n 1, 1) := by decide +kernel
theorem dX10_holds_2 : decode cX10_holds 2 = .ok (.invokevirtual 71, 3) := by decide +kernel
theorem dX10_holds_5 : decode cX10_holds 5 = .ok (.astore_n 3, 1) := by decide +kernel
theorem dX10_holds_6 : decode cX10_holds 6 = .ok (.aload_n 0, 1) := by decide +kernel
theorem dX10_holds_7 : decode cX10_holds 7 = .ok (.iload_n 2, 1) := by decide +kernel
theorem dX10_holds_8 : decode cX10_holds 8 = .ok (.invokevirtual 60, 3) := by decide +kernel
theorem dX10_holds_11 : decode cX10_holds 11 = .ok (.astore 4, 2) := by decide +kernel
theorem dX10_holds_13 : decode cX10_holds 13 = .ok (.aload_n 3, 1) := by decide +kernel
theorem dX10_holds_14 : decode cX10_holds 14 = .ok (.ifnull 8, 3) := by decide +kernel
theorem dX10_holds_17 : decode cX10_holds 17 = .ok (.aload 4, 2) := by decide +kernel
theorem dX10_holds_19 : decode cX10_holds 19 = .ok (.ifnonnull 5, 3) := by decide +kernel
theorem dX10_holds_22 : decode cX10_holds 22 = .ok (.iconst (-1), 1) := by decide +kernel
theorem dX10_holds_23 : decode cX10_holds 23 = .ok (.ireturn, 1) := by decide +kernel
theorem dX10_holds_24 : decode cX10_holds 24 = .ok (.aload_n 0, 1) := by decide +kernel
theorem dX10_holds_25 : decode cX10_holds 25 = .ok (.getfield 19, 3) := by decide +kernel
theorem dX10_holds_28 : decode cX10_holds 28 = .ok (.aload_n 3, 1) := by decide +kernel
theorem dX10_holds_29 : decode cX10_holds 29 = .ok (.getfield 93, 3) := by decide +kernel
theorem dX10_holds_32 : decode cX10_holds 32 = .ok (.aload 4, 2) := by decide +kernel
theorem dX10_holds_34 : decode cX10_holds 34 = .ok (.iconst 0, 1) := by decide +kernel
theorem dX10_holds_35 : decode cX10_holds 35 = .ok (.invokevirtual 97, 3) := by decide +kernel
theorem dX10_holds_38 : decode cX10_holds 38 = .ok (.ifCond .ge 7, 3) := by decide +kernel
theorem dX10_holds_41 : decode cX10_holds 41 = .ok (.iconst 1, 1) := by decide +kernel
theorem dX10_holds_42 : decode cX10_holds 42 = .ok (.goto 4, 3) := by decide +kernel
theorem dX10_holds_45 : decode cX10_holds 45 = .ok (.iconst 0, 1) := by decide +kernel
theorem dX10_holds_46 : decode cX10_holds 46 = .ok (.ireturn, 1) := by decide +kernel
theorem dX10_fails_0 : decode cX10_fails 0 = .ok (.aload_n 0, 1) := by decide +kernel
theorem dX10_fails_1 : decode cX10_fails 1 = .ok (.iload_n 1, 1) := by decide +kernel
theorem dX10_fails_2 : decode cX10_fails 2 = .ok (.invokevirtual 71, 3) := by decide +kernel
theorem dX10_fails_5 : decode cX10_fails 5 = .ok (.astore_n 3, 1) := by decide +kernel
theorem dX10_fails_6 : decode cX10_fails 6 = .ok (.aload_n 0, 1) := by decide +kernel
theorem dX10_fails_7 : decode cX10_fails 7 = .ok (.iload_n 2, 1) := by decide +kernel
theorem dX10_fails_8 : decode cX10_fails 8 = .ok (.invokevirtual 60, 3) := by decide +kernel
theorem dX10_fails_11 : decode cX10_fails 11 = .ok (.astore 4, 2) := by decide +kernel
theorem dX10_fails_13 : decode cX10_fails 13 = .ok (.aload_n 3, 1) := by decide +kernel
theorem dX10_fails_14 : decode cX10_fails 14 = .ok (.ifnull 8, 3) := by decide +kernel
theorem dX10_fails_17 : decode cX10_fails 17 = .ok (.aload 4, 2) := by decide +kernel
theorem dX10_fails_19 : decode cX10_fails 19 = .ok (.ifnonnull 6, 3) := by decide +kernel
theorem dX10_fails_22 : decode cX10_fails 22 = .ok (.bipush (-2), 2) := by decide +kernel
theorem dX10_fails_24 : decode cX10_fails 24 = .ok (.ireturn, 1) := by decide +kernel
theorem dX10_fails_25 : decode cX10_fails 25 = .ok (.aload_n 0, 1) := by decide +kernel
theorem dX10_fails_26 : decode cX10_fails 26 = .ok (.getfield 19, 3) := by decide +kernel
theorem dX10_fails_29 : decode cX10_fails 29 = .ok (.aload_n 3, 1) := by decide +kernel
theorem dX10_fails_30 : decode cX10_fails 30 = .ok (.getfield 93, 3) := by decide +kernel
theorem dX10_fails_33 : decode cX10_fails 33 = .ok (.aload 4, 2) := by decide +kernel
theorem dX10_fails_35 : decode cX10_fails 35 = .ok (.iconst 0, 1) := by decide +kernel
theorem dX10_fails_36 : decode cX10_fails 36 = .ok (.invokevirtual 97, 3) := by decide +kernel
theorem dX10_fails_39 : decode cX10_fails 39 = .ok (.ireturn, 1) := by decide +kernel
theorem dX10_which_0 : decode cX10_which 0 = .ok (.aload_n 0, 1) := by decide +kernel
theorem dX10_which_1 : decode cX10_which 1 = .ok (.iload_n 1, 1) := by decide +kernel
theorem dX10_which_2 : decode cX10_which 2 = .ok (.invokevirtual 71, 3) := by decide +kernel
theorem dX10_which_5 : decode cX10_which 5 = .ok (.ifnonnull 5, 3) := by decide +kernel
theorem dX10_which_8 : decode cX10_which 8 = .ok (.iconst (-1), 1) := by decide +kernel
theorem dX10_which_9 : decode cX10_which 9 = .ok (.ireturn, 1) := by decide +kernel
theorem dX10_which_10 : decode cX10_which 10 = .ok (.iconst 0, 1) := by decide +kernel
theorem dX10_which_11 : decode cX10_which 11 = .ok (.istore_n 2, 1) := by decide +kernel
theorem dX10_which_12 : decode cX10_which 12 = .ok (.iconst 0, 1) := by decide +kernel
theorem dX10_which_13 : decode cX10_which 13 = .ok (.istore_n 3, 1) := by decide +kernel
theorem dX10_which_14 : decode cX10_which 14 = .ok (.iload_n 3, 1) := by decide +kernel
theorem dX10_which_15 : decode cX10_which 15 = .ok (.iconst 4, 1) := by decide +kernel
theorem dX10_which_16 : decode cX10_which 16 = .ok (.if_icmp .ge 25, 3) := by decide +kernel
theorem dX10_which_19 : decode cX10_which 19 = .ok (.aload_n 0, 1) := by decide +kernel
theorem dX10_which_20 : decode cX10_which 20 = .ok (.iload_n 1, 1) := by decide +kernel
theorem dX10_which_21 : decode cX10_which 21 = .ok (.iload_n 3, 1) := by decide +kernel
theorem dX10_which_22 : decode cX10_which 22 = .ok (.invokevirtual 101, 3) := by decide +kernel
theorem dX10_which_25 : decode cX10_which 25 = .ok (.iconst 1, 1) := by decide +kernel
theorem dX10_which_26 : decode cX10_which 26 = .ok (.if_icmp .ne 9, 3) := by decide +kernel
theorem dX10_which_29 : decode cX10_which 29 = .ok (.iload_n 2, 1) := by decide +kernel
theorem dX10_which_30 : decode cX10_which 30 = .ok (.iconst 1, 1) := by decide +kernel
theorem dX10_which_31 : decode cX10_which 31 = .ok (.iload_n 3, 1) := by decide +kernel
theorem dX10_which_32 : decode cX10_which 32 = .ok (.ishl, 1) := by decide +kernel
theorem dX10_which_33 : decode cX10_which 33 = .ok (.ior, 1) := by decide +kernel
theorem dX10_which_34 : decode cX10_which 34 = .ok (.istore_n 2, 1) := by decide +kernel
theorem dX10_which_35 : decode cX10_which 35 = .ok (.iinc 3 1, 3) := by decide +kernel
theorem dX10_which_38 : decode cX10_which 38 = .ok (.goto (-24), 3) := by decide +kernel
theorem dX10_which_41 : decode cX10_which 41 = .ok (.iload_n 2, 1) := by decide +kernel
theorem dX10_which_42 : decode cX10_which 42 = .ok (.ireturn, 1) := by decide +kernel
theorem dX10_takeDocument_0 : decode cX10_takeDocument 0 = .ok (.new 105, 3) := by decide +kernel
theorem dX10_takeDocument_3 : decode cX10_takeDocument 3 = .ok (.dup, 1) := by decide +kernel
theorem dX10_takeDocument_4 : decode cX10_takeDocument 4 = .ok (.aload_n 0, 1) := by decide +kernel
theorem dX10_takeDocument_5 : decode cX10_takeDocument 5 = .ok (.getfield 10, 3) := by decide +kernel
theorem dX10_takeDocument_8 : decode cX10_takeDocument 8 = .ok (.invokespecial 107, 3) := by decide +kernel
theorem dX10_takeDocument_11 : decode cX10_takeDocument 11 = .ok (.iload_n 1, 1) := by decide +kernel
theorem dX10_takeDocument_12 : decode cX10_takeDocument 12 = .ok (.invokevirtual 110, 3) := by decide +kernel
theorem dX10_takeDocument_15 : decode cX10_takeDocument 15 = .ok (.astore_n 2, 1) := by decide +kernel
theorem dX10_takeDocument_16 : decode cX10_takeDocument 16 = .ok (.aload_n 0, 1) := by decide +kernel
theorem dX10_takeDocument_17 : decode cX10_takeDocument 17 = .ok (.getfield 10, 3) := by decide +kernel
theorem dX10_takeDocument_20 : decode cX10_takeDocument 20 = .ok (.invokevirtual 113, 3) := by decide +kernel
theorem dX10_takeDocument_23 : decode cX10_takeDocument 23 = .ok (.aload_n 2, 1) := by decide +kernel
theorem dX10_takeDocument_24 : decode cX10_takeDocument 24 = .ok (.areturn, 1) := by decide +kernel
theorem dX10_slotAt_0 : decode cX10_slotAt 0 = .ok (.iload_n 1, 1) := by decide +kernel
theorem dX10_slotAt_1 : decode cX10_slotAt 1 = .ok (.ifCond .lt 21, 3) := by decide +kernel
theorem dX10_slotAt_4 : decode cX10_slotAt 4 = .ok (.iload_n 1, 1) := by decide +kernel
theorem dX10_slotAt_5 : decode cX10_slotAt 5 = .ok (.aload_n 0, 1) := by decide +kernel
theorem dX10_slotAt_6 : decode cX10_slotAt 6 = .ok (.getfield 25, 3) := by decide +kernel
theorem dX10_slotAt_9 : decode cX10_slotAt 9 = .ok (.arraylength, 1) := by decide +kernel
theorem dX10_slotAt_10 : decode cX10_slotAt 10 = .ok (.if_icmp .ge 12, 3) := by decide +kernel
theorem dX10_slotAt_13 : decode cX10_slotAt 13 = .ok (.aload_n 0, 1) := by decide +kernel
theorem dX10_slotAt_14 : decode cX10_slotAt 14 = .ok (.getfield 25, 3) := by decide +kernel
theorem dX10_slotAt_17 : decode cX10_slotAt 17 = .ok (.iload_n 1, 1) := by decide +kernel
theorem dX10_slotAt_18 : decode cX10_slotAt 18 = .ok (.aaload, 1) := by decide +kernel
theorem dX10_slotAt_19 : decode cX10_slotAt 19 = .ok (.goto 4, 3) := by decide +kernel
theorem dX10_slotAt_22 : decode cX10_slotAt 22 = .ok (.aconst_null, 1) := by decide +kernel
theorem dX10_slotAt_23 : decode cX10_slotAt 23 = .ok (.areturn, 1) := by decide +kernel
theorem dX10_filterAt_0 : decode cX10_filterAt 0 = .ok (.iload_n 1, 1) := by decide +kernel
theorem dX10_filterAt_1 : decode cX10_filterAt 1 = .ok (.ifCond .lt 21, 3) := by decide +kernel
theorem dX10_filterAt_4 : decode cX10_filterAt 4 = .ok (.iload_n 1, 1) := by decide +kernel
theorem dX10_filterAt_5 : decode cX10_filterAt 5 = .ok (.aload_n 0, 1) := by decide +kernel
theorem dX10_filterAt_6 : decode cX10_filterAt 6 = .ok (.getfield 38, 3) := by decide +kernel
theorem dX10_filterAt_9 : decode cX10_filterAt 9 = .ok (.arraylength, 1) := by decide +kernel
theorem dX10_filterAt_10 : decode cX10_filterAt 10 = .ok (.if_icmp .ge 12, 3) := by decide +kernel
theorem dX10_filterAt_13 : decode cX10_filterAt 13 = .ok (.aload_n 0, 1) := by decide +kernel
theorem dX10_filterAt_14 : decode cX10_filterAt 14 = .ok (.getfield 38, 3) := by decide +kernel
theorem dX10_filterAt_17 : decode cX10_filterAt 17 = .ok (.iload_n 1, 1) := by decide +kernel
theorem dX10_filterAt_18 : decode cX10_filterAt 18 = .ok (.aaload, 1) := by decide +kernel
theorem dX10_filterAt_19 : decode cX10_filterAt 19 = .ok (.goto 4, 3) := by decide +kernel
theorem dX10_filterAt_22 : decode cX10_filterAt 22 = .ok (.aconst_null, 1) := by decide +kernel
theorem dX10_filterAt_23 : decode cX10_filterAt 23 = .ok (.areturn, 1) := by decide +kernel
theorem dX10_beginsWithDollar_0 : decode cX10_beginsWithDollar 0 = .ok (.aload_n 0, 1) := by decide +kernel
theorem dX10_beginsWithDollar_1 : decode cX10_beginsWithDollar 1 = .ok (.invokevirtual 116, 3) := by decide +kernel
theorem dX10_beginsWithDollar_4 : decode cX10_beginsWithDollar 4 = .ok (.ifCond .ne 17, 3) := by decide +kernel
theorem dX10_beginsWithDollar_7 : decode cX10_beginsWithDollar 7 = .ok (.aload_n 0, 1) := by decide +kernel
theorem dX10_beginsWithDollar_8 : decode cX10_beginsWithDollar 8 = .ok (.iconst 0, 1) := by decide +kernel
theorem dX10_beginsWithDollar_9 : decode cX10_beginsWithDollar 9 = .ok (.invokevirtual 121, 3) := by decide +kernel
theorem dX10_beginsWithDollar_12 : decode cX10_beginsWithDollar 12 = .ok (.bipush 36, 2) := by decide +kernel
theorem dX10_beginsWithDollar_14 : decode cX10_beginsWithDollar 14 = .ok (.if_icmp .ne 7, 3) := by decide +kernel
theorem dX10_beginsWithDollar_17 : decode cX10_beginsWithDollar 17 = .ok (.iconst 1, 1) := by decide +kernel
theorem dX10_beginsWithDollar_18 : decode cX10_beginsWithDollar 18 = .ok (.goto 4, 3) := by decide +kernel
theorem dX10_beginsWithDollar_21 : decode cX10_beginsWithDollar 21 = .ok (.iconst 0, 1) := by decide +kernel
theorem dX10_beginsWithDollar_22 : decode cX10_beginsWithDollar 22 = .ok (.ireturn, 1) := by decide +kernel
end
section
theorem dX11_init_0 : decode cX11_init 0 = .ok (.aload_n 0, 1) := by decide +kernel
theorem dX11_init_1 : decode cX11_init 1 = .ok (.invokespecial 1, 3) := by decide +kernel
theorem dX11_init_4 : decode cX11_init 4 = .ok (.aload_n 0, 1) := by decide +kernel
theorem dX11_init_5 : decode cX11_init 5 = .ok (.sipush 18000, 3) := by decide +kernel
theorem dX11_init_8 : decode cX11_init 8 = .ok (.newarray .int, 2) := by decide +kernel
theorem dX11_init_10 : decode cX11_init 10 = .ok (.putfield 7, 3) := by decide +kernel
theorem dX11_init_13 : decode cX11_init 13 = .ok (.aload_n 0, 1) := by decide +kernel
theorem dX11_init_14 : decode cX11_init 14 = .ok (.iconst (-1), 1) := by decide +kernel
theorem dX11_init_15 : decode cX11_init 15 = .ok (.putfield 13, 3) := by decide +kernel
theorem dX11_init_18 : decode cX11_init 18 = .ok (.aload_n 0, 1) := by decide +kernel
theorem dX11_init_19 : decode cX11_init 19 = .ok (.iconst 4, 1) := by decide +kernel
theorem dX11_init_20 : decode cX11_init 20 = .ok (.newarray .int, 2) := by decide +kernel
theorem dX11_init_22 : decode cX11_init 22 = .ok (.putfield 17, 3) := by decide +kernel
theorem dX11_init_25 : decode cX11_init 25 = .ok (.aload_n 0, 1) := by decide +kernel
theorem dX11_init_26 : decode cX11_init 26 = .ok (.iconst 4, 1) := by decide +kernel
theorem dX11_init_27 : decode cX11_init 27 = .ok (.newarray .int, 2) := by decide +kernel
theorem dX11_init_29 : decode cX11_init 29 = .ok (.putfield 20, 3) := by decide +kernel
theorem dX11_init_32 : decode cX11_init 32 = .ok (.aload_n 0, 1) := by decide +kernel
theorem dX11_init_33 : decode cX11_init 33 = .ok (.iconst 4, 1) := by decide +kernel
theorem dX11_init_34 : decode cX11_init 34 = .ok (.newarray .int, 2) := by decide +kernel
theorem dX11_init_36 : decode cX11_init 36 = .ok (.putfield 23, 3) := by decide +kernel
theorem dX11_init_39 : decode cX11_init 39 = .ok (.aload_n 0, 1) := by decide +kernel
theorem dX11_init_40 : decode cX11_init 40 = .ok (.sipush 2000, 3) := by decide +kernel
theorem dX11_init_43 : decode cX11_init 43 = .ok (.newarray .int, 2) := by decide +kernel
theorem dX11_init_45 : decode cX11_init 45 = .ok (.putfield 26, 3) := by decide +kernel
theorem dX11_init_48 : decode cX11_init 48 = .ok (.aload_n 0, 1) := by decide +kernel
theorem dX11_init_49 : decode cX11_init 49 = .ok (.sipush 1000, 3) := by decide +kernel
theorem dX11_init_52 : decode cX11_init 52 = .ok (.newarray .int, 2) := by decide +kernel
theorem dX11_init_54 : decode cX11_init 54 = .ok (.putfield 29, 3) := by decide +kernel
theorem dX11_init_57 : decode cX11_init 57 = .ok (.aload_n 0, 1) := by decide +kernel
theorem dX11_init_58 : decode cX11_init 58 = .ok (.sipush 1000, 3) := by decide +kernel
theorem dX11_init_61 : decode cX11_init 61 = .ok (.newarray .int, 2) := by decide +kernel
theorem dX11_init_63 : decode cX11_init 63 = .ok (.putfield 32, 3) := by decide +kernel
theorem dX11_init_66 : decode cX11_init 66 = .ok (.aload_n 0, 1) := by decide +kernel
theorem dX11_init_67 : decode cX11_init 67 = .ok (.sipush 1000, 3) := by decide +kernel
theorem dX11_init_70 : decode cX11_init 70 = .ok (.newarray .int, 2) := by decide +kernel
theorem dX11_init_72 : decode cX11_init 72 = .ok (.putfield 35, 3) := by decide +kernel
theorem dX11_init_75 : decode cX11_init 75 = .ok (.aload_n 0, 1) := by decide +kernel
theorem dX11_init_76 : decode cX11_init 76 = .ok (.bipush 20, 2) := by decide +kernel
theorem dX11_init_78 : decode cX11_init 78 = .ok (.newarray .int, 2) := by decide +kernel
theorem dX11_init_80 : decode cX11_init 80 = .ok (.putfield 38, 3) := by decide +kernel
theorem dX11_init_83 : decode cX11_init 83 = .ok (.aload_n 0, 1) := by decide +kernel
theorem dX11_init_84 : decode cX11_init 84 = .ok (.bipush 20, 2) := by decide +kernel
theorem dX11_init_86 : decode cX11_init 86 = .ok (.newarray .int, 2) := by decide +kernel
theorem dX11_init_88 : decode cX11_init 88 = .ok (.putfield 41, 3) := by decide +kernel
theorem dX11_init_91 : decode cX11_init 91 = .ok (.aload_n 0, 1) := by decide +kernel
theorem dX11_init_92 : decode cX11_init 92 = .ok (.bipush 20, 2) := by decide +kernel
theorem dX11_init_94 : decode cX11_init 94 = .ok (.newarray .int, 2) := by decide +kernel
theorem dX11_init_96 : decode cX11_init 96 = .ok (.putfield 44, 3) := by decide +kernel
theorem dX11_init_99 : decode cX11_init 99 = .ok (.aload_n 0, 1) := by decide +kernel
theorem dX11_init_100 : decode cX11_init 100 = .ok (.bipush 20, 2) := by decide +kernel
theorem dX11_init_102 : decode cX11_init 102 = .ok (.newarray .int, 2) := by decide +kernel
theorem dX11_init_104 : decode cX11_init 104 = .ok (.putfield 47, 3) := by decide +kernel
theorem dX11_init_107 : decode cX11_init 107 = .ok (.iconst 0, 1) := by decide +kernel
theorem dX11_init_108 : decode cX11_init 108 = .ok (.istore_n 1, 1) := by decide +kernel
theorem dX11_init_109 : decode cX11_init 109 = .ok (.iload_n 1, 1) := by decide +kernel
theorem dX11_init_110 : decode cX11_init 110 = .ok (.bipush 8, 2) := by decide +kernel
theorem dX11_init_112 : decode cX11_init 112 = .ok (.if_icmp .ge 20, 3) := by decide +kernel
theorem dX11_init_115 : decode cX11_init 115 = .ok (.aload_n 0, 1) := by decide +kernel
theorem dX11_init_116 : decode cX11_init 116 = .ok (.getfield 7, 3) := by decide +kernel
theorem dX11_init_119 : decode cX11_init 119 = .ok (.sipush 2000, 3) := by decide +kernel
theorem dX11_init_122 : decode cX11_init 122 = .ok (.iload_n 1, 1) := by decide +kernel
theorem dX11_init_123 : decode cX11_init 123 = .ok (.imul, 1) := by decide +kernel
theorem dX11_init_124 : decode cX11_init 124 = .ok (.iconst 5, 1) := by decide +kernel
theorem dX11_init_125 : decode cX11_init 125 = .ok (.iastore, 1) := by decide +kernel
theorem dX11_init_126 : decode cX11_init 126 = .ok (.iinc 1 1, 3) := by decide +kernel
theorem dX11_init_129 : decode cX11_init 129 = .ok (.goto (-20), 3) := by decide +kernel
theorem dX11_init_132 : decode cX11_init 132 = .ok (.return_, 1) := by decide +kernel
theorem dX11_feed_0 : decode cX11_feed 0 = .ok (.aload_n 0, 1) := by decide +kernel
theorem dX11_feed_1 : decode cX11_feed 1 = .ok (.getfield 53, 3) := by decide +kernel
theorem dX11_feed_4 : decode cX11_feed 4 = .ok (.bipush 20, 2) := by decide +kernel
theorem dX11_feed_6 : decode cX11_feed 6 = .ok (.iadd, 1) := by decide +kernel
theorem dX11_feed_7 : decode cX11_feed 7 = .ok (.sipush 2000, 3) := by decide +kernel
theorem dX11_feed_10 : decode cX11_feed 10 = .ok (.if_icmp .le 5, 3) := by decide +kernel
theorem dX11_feed_13 : decode cX11_feed 13 = .ok (.iconst (-1), 1) := by decide +kernel
theorem dX11_feed_14 : decode cX11_feed 14 = .ok (.ireturn, 1) := by decide +kernel
theorem dX11_feed_15 : decode cX11_feed 15 = .ok (.aload_n 0, 1) := by decide +kernel
theorem dX11_feed_16 : decode cX11_feed 16 = .ok (.iload_n 1, 1) := by decide +kernel
theorem dX11_feed_17 : decode cX11_feed 17 = .ok (.invokevirtual 56, 3) := by decide +kernel
theorem dX11_feed_20 : decode cX11_feed 20 = .ok (.aload_n 0, 1) := by decide +kernel
theorem dX11_feed_21 : decode cX11_feed 21 = .ok (.iload_n 2, 1) := by decide +kernel
theorem dX11_feed_22 : decode cX11_feed 22 = .ok (.invokevirtual 56, 3) := by decide +kernel
theorem dX11_feed_25 : decode cX11_feed 25 = .ok (.aload_n 0, 1) := by decide +kernel
theorem dX11_feed_26 : decode cX11_feed 26 = .ok (.iload_n 3, 1) := by decide +kernel
theorem dX11_feed_27 : decode cX11_feed 27 = .ok (.invokevirtual 56, 3) := by decide +kernel
theorem dX11_feed_30 : decode cX11_feed 30 = .ok (.aload_n 0, 1) := by decide +kernel
theorem dX11_feed_31 : decode cX11_feed 31 = .ok (.iload 4, 2) := by decide +kernel
theorem dX11_feed_33 : decode cX11_feed 33 = .ok (.invokevirtual 56, 3) := by decide +kernel
theorem dX11_feed_36 : decode cX11_feed 36 = .ok (.aload_n 0, 1) := by decide +kernel
theorem dX11_feed_37 : decode cX11_feed 37 = .ok (.iload 5, 2) := by decide +kernel
theorem dX11_feed_39 : decode cX11_feed 39 = .ok (.invokevirtual 56, 3) := by decide +kernel
theorem dX11_feed_42 : decode cX11_feed 42 = .ok (.aload_n 0, 1) := by decide +kernel
theorem dX11_feed_43 : decode cX11_feed 43 = .ok (.getfield 53, 3) := by decide +kernel
theorem dX11_feed_46 : decode cX11_feed 46 = .ok (.ireturn, 1) := by decide +kernel
theorem dX11_put_0 : decode cX11_put 0 = .ok (.bipush 24, 2) := by decide +kernel
theorem dX11_put_2 : decode cX11_put 2 = .ok (.istore_n 2, 1) := by decide +kernel
theorem dX11_put_3 : decode cX11_put 3 = .ok (.iload_n 2, 1) := by decide +kernel
theorem dX11_put_4 : decode cX11_put 4 = .ok (.ifCond .lt 39, 3) := by decide +kernel
theorem dX11_put_7 : decode cX11_put 7 = .ok (.aload_n 0, 1) := by decide +kernel
theorem dX11_put_8 : decode cX11_put 8 = .ok (.getfield 7, 3) := by decide +kernel
theorem dX11_put_11 : decode cX11_put 11 = .ok (.sipush 16000, 3) := by decide +kernel
theorem dX11_put_14 : decode cX11_put 14 = .ok (.aload_n 0, 1) := by decide +kernel
theorem dX11_put_15 : decode cX11_put 15 = .ok (.getfield 53, 3) := by decide +kernel
theorem dX11_put_18 : decode cX11_put 18 = .ok (.iadd, 1) := by decide +kernel
theorem dX11_put_19 : decode cX11_put 19 = .ok (.iload_n 1, 1) := by decide +kernel
theorem dX11_put_20 : decode cX11_put 20 = .ok (.iload_n 2, 1) := by decide +kernel
theorem dX11_put_21 : decode cX11_put 21 = .ok (.ishr, 1) := by decide +kernel
theorem dX11_put_22 : decode cX11_put 22 = .ok (.sipush 255, 3) := by decide +kernel
theorem dX11_put_25 : decode cX11_put 25 = .ok (.iand, 1) := by decide +kernel
theorem dX11_put_26 : decode cX11_put 26 = .ok (.iastore, 1) := by decide +kernel
theorem dX11_put_27 : decode cX11_put 27 = .ok (.aload_n 0, 1) := by decide +kernel
theorem dX11_put_28 : decode cX11_put 28 = .ok (.dup, 1) := by decide +kernel
theorem dX11_put_29 : decode cX11_put 29 = .ok (.getfield 53, 3) := by decide +kernel
theorem dX11_put_32 : decode cX11_put 32 = .ok (.iconst 1, 1) := by decide +kernel
theorem dX11_put_33 : decode cX11_put 33 = .ok (.iadd, 1) := by decide +kernel
theorem dX11_put_34 : decode cX11_put 34 = .ok (.putfield 53, 3) := by decide +kernel
theorem dX11_put_37 : decode cX11_put 37 = .ok (.iinc 2 (-8), 3) := by decide +kernel
theorem dX11_put_40 : decode cX11_put 40 = .ok (.goto (-37), 3) := by decide +kernel
theorem dX11_put_43 : decode cX11_put 43 = .ok (.return_, 1) := by decide +kernel
theorem dX11_character_0 : decode cX11_character 0 = .ok (.aload_n 0, 1) := by decide +kernel
theorem dX11_character_1 : decode cX11_character 1 = .ok (.iload_n 1, 1) := by decide +kernel
theorem dX11_character_2 : decode cX11_character 2 = .ok (.iaload, 1) := by decide +kernel
theorem dX11_character_3 : decode cX11_character 3 = .ok (.istore_n 3, 1) := by decide +kernel
theorem dX11_character_4 : decode cX11_character 4 = .ok (.iload_n 3, 1) := by decide +kernel
theorem dX11_character_5 : decode cX11_character 5 = .ok (.sipush 128, 3) := by decide +kernel
theorem dX11_character_8 : decode cX11_character 8 = .ok (.if_icmp .ge 5, 3) := by decide +kernel
theorem dX11_character_11 : decode cX11_character 11 = .ok (.iconst 1, 1) := by decide +kernel
theorem dX11_character_12 : decode cX11_character 12 = .ok (.ireturn, 1) := by decide +kernel
theorem dX11_character_13 : decode cX11_character 13 = .ok (.iload_n 3, 1) := by decide +kernel
theorem dX11_character_14 : decode cX11_character 14 = .ok (.sipush 192, 3) := by decide +kernel
theorem dX11_character_17 : decode cX11_character 17 = .ok (.if_icmp .lt 14, 3) := by decide +kernel
theorem dX11_character_20 : decode cX11_character 20 = .ok (.iload_n 3, 1) := by decide +kernel
theorem dX11_character_21 : decode cX11_character 21 = .ok (.sipush 224, 3) := by decide +kernel
theorem dX11_character_24 : decode cX11_character 24 = .ok (.if_icmp .ge 7, 3) := by decide +kernel
theorem dX11_character_27 : decode cX11_character 27 = .ok (.iconst 2, 1) := by decide +kernel
theorem dX11_character_28 : decode cX11_character 28 = .ok (.goto 40, 3) := by decide +kernel
theorem dX11_character_31 : decode cX11_character 31 = .ok (.iload_n 3, 1) := by decide +kernel
theorem dX11_character_32 : decode cX11_character 32 = .ok (.sipush 224, 3) := by decide +kernel
theorem dX11_character_35 : decode cX11_character 35 = .ok (.if_icmp .lt 14, 3) := by decide +kernel
theorem dX11_character_38 : decode cX11_character 38 = .ok (.iload_n 3, 1) := by decide +kernel
theorem dX11_character_39 : decode cX11_character 39 = .ok (.sipush 240, 3) := by decide +kernel
theorem dX11_character_42 : decode cX11_character 42 = .ok (.if_icmp .ge 7, 3) := by decide +kernel
theorem dX11_character_45 : decode cX11_character 45 = .ok (.iconst 3, 1) := by decide +kernel
theorem dX11_character_46 : decode cX11_character 46 = .ok (.goto 22, 3) := by decide +kernel
theorem dX11_character_49 : decode cX11_character 49 = .ok (.iload_n 3, 1) := by decide +kernel
theorem dX11_character_50 : decode cX11_character 50 = .ok (.sipush 240, 3) := by decide +kernel
theorem dX11_character_53 : decode cX11_character 53 = .ok (.if_icmp .lt 14, 3) := by decide +kernel
theorem dX11_character_56 : decode cX11_character 56 = .ok (.iload_n 3, 1) := by decide +kernel
theorem dX11_character_57 : decode cX11_character 57 = .ok (.sipush 248, 3) := by decide +kernel
theorem dX11_character_60 : decode cX11_character 60 = .ok (.if_icmp .ge 7, 3) := by decide +kernel
theorem dX11_character_63 : decode cX11_character 63 = .ok (.iconst 4, 1) := by decide +kernel
theorem dX11_character_64 : decode cX11_character 64 = .ok (.goto 4, 3) := by decide +kernel
theorem dX11_character_67 : decode cX11_character 67 = .ok (.iconst 0, 1) := by decide +kernel
theorem dX11_character_68 : decode cX11_character 68 = .ok (.istore 4, 2) := by decide +kernel
theorem dX11_character_70 : decode cX11_character 70 = .ok (.iload 4, 2) := by decide +kernel
theorem dX11_character_72 : decode cX11_character 72 = .ok (.ifCond .eq 11, 3) := by decide +kernel
theorem dX11_character_75 : decode cX11_character 75 = .ok (.iload_n 1, 1) := by decide +kernel
theorem dX11_character_76 : decode cX11_character 76 = .ok (.iload 4, 2) := by decide +kernel
theorem dX11_character_78 : decode cX11_character 78 = .ok (.iadd, 1) := by decide +kernel
theorem dX11_character_79 : decode cX11_character 79 = .ok (.iload_n 2, 1) := by decide +kernel
theorem dX11_character_80 : decode cX11_character 80 = .ok (.if_icmp .le 5, 3) := by decide +kernel
theorem dX11_character_83 : decode cX11_character 83 = .ok (.iconst 0, 1) := by decide +kernel
theorem dX11_character_84 : decode cX11_character 84 = .ok (.ireturn, 1) := by decide +kernel
theorem dX11_character_85 : decode cX11_character 85 = .ok (.iload 4, 2) := by decide +kernel
theorem dX11_character_87 : decode cX11_character 87 = .ok (.iconst 2, 1) := by decide +kernel
theorem dX11_character_88 : decode cX11_character 88 = .ok (.if_icmp .ne 11, 3) := by decide +kernel
theorem dX11_character_91 : decode cX11_character 91 = .ok (.iload_n 3, 1) := by decide +kernel
theorem dX11_character_92 : decode cX11_character 92 = .ok (.sipush 192, 3) := by decide +kernel
theorem dX11_character_95 : decode cX11_character 95 = .ok (.isub, 1) := by decide +kernel
theorem dX11_character_96 : decode cX11_character 96 = .ok (.goto 22, 3) := by decide +kernel
theorem dX11_character_99 : decode cX11_character 99 = .ok (.iload 4, 2) := by decide +kernel
theorem dX11_character_101 : decode cX11_character 101 = .ok (.iconst 3, 1) := by decide +kernel
theorem dX11_character_102 : decode cX11_character 102 = .ok (.if_icmp .ne 11, 3) := by decide +kernel
theorem dX11_character_105 : decode cX11_character 105 = .ok (.iload_n 3, 1) := by decide +kernel
theorem dX11_character_106 : decode cX11_character 106 = .ok (.sipush 224, 3) := by decide +kernel
theorem dX11_character_109 : decode cX11_character 109 = .ok (.isub, 1) := by decide +kernel
theorem dX11_character_110 : decode cX11_character 110 = .ok (.goto 8, 3) := by decide +kernel
theorem dX11_character_113 : decode cX11_character 113 = .ok (.iload_n 3, 1) := by decide +kernel
theorem dX11_character_114 : decode cX11_character 114 = .ok (.sipush 240, 3) := by decide +kernel
theorem dX11_character_117 : decode cX11_character 117 = .ok (.isub, 1) := by decide +kernel
theorem dX11_character_118 : decode cX11_character 118 = .ok (.istore 5, 2) := by decide +kernel
theorem dX11_character_120 : decode cX11_character 120 = .ok (.iconst 1, 1) := by decide +kernel
theorem dX11_character_121 : decode cX11_character 121 = .ok (.istore 6, 2) := by decide +kernel
theorem dX11_character_123 : decode cX11_character 123 = .ok (.iload 6, 2) := by decide +kernel
theorem dX11_character_125 : decode cX11_character 125 = .ok (.iload 4, 2) := by decide +kernel
theorem dX11_character_127 : decode cX11_character 127 = .ok (.if_icmp .ge 53, 3) := by decide +kernel
theorem dX11_character_130 : decode cX11_character 130 = .ok (.aload_n 0, 1) := by decide +kernel
theorem dX11_character_131 : decode cX11_character 131 = .ok (.iload_n 1, 1) := by decide +kernel
theorem dX11_character_132 : decode cX11_character 132 = .ok (.iload 6, 2) := by decide +kernel
theorem dX11_character_134 : decode cX11_character 134 = .ok (.iadd, 1) := by decide +kernel
theorem dX11_character_135 : decode cX11_character 135 = .ok (.iaload, 1) := by decide +kernel
theorem dX11_character_136 : decode cX11_character 136 = .ok (.sipush 128, 3) := by decide +kernel
theorem dX11_character_139 : decode cX11_character 139 = .ok (.if_icmp .lt 15, 3) := by decide +kernel
theorem dX11_character_142 : decode cX11_character 142 = .ok (.aload_n 0, 1) := by decide +kernel
theorem dX11_character_143 : decode cX11_character 143 = .ok (.iload_n 1, 1) := by decide +kernel
theorem dX11_character_144 : decode cX11_character 144 = .ok (.iload 6, 2) := by decide +kernel
theorem dX11_character_146 : decode cX11_character 146 = .ok (.iadd, 1) := by decide +kernel
theorem dX11_character_147 : decode cX11_character 147 = .ok (.iaload, 1) := by decide +kernel
theorem dX11_character_148 : decode cX11_character 148 = .ok (.sipush 191, 3) := by decide +kernel
theorem dX11_character_151 : decode cX11_character 151 = .ok (.if_icmp .le 5, 3) := by decide +kernel
theorem dX11_character_154 : decode cX11_character 154 = .ok (.iconst 0, 1) := by decide +kernel
theorem dX11_character_155 : decode cX11_character 155 = .ok (.ireturn, 1) := by decide +kernel
theorem dX11_character_156 : decode cX11_character 156 = .ok (.bipush 64, 2) := by decide +kernel
theorem dX11_character_158 : decode cX11_character 158 = .ok (.iload 5, 2) := by decide +kernel
theorem dX11_character_160 : decode cX11_character 160 = .ok (.imul, 1) := by decide +kernel
theorem dX11_character_161 : decode cX11_character 161 = .ok (.aload_n 0, 1) := by decide +kernel
theorem dX11_character_162 : decode cX11_character 162 = .ok (.iload_n 1, 1) := by decide +kernel
theorem dX11_character_163 : decode cX11_character 163 = .ok (.iload 6, 2) := by decide +kernel
theorem dX11_character_165 : decode cX11_character 165 = .ok (.iadd, 1) := by decide +kernel
theorem dX11_character_166 : decode cX11_character 166 = .ok (.iaload, 1) := by decide +kernel
theorem dX11_character_167 : decode cX11_character 167 = .ok (.iadd, 1) := by decide +kernel
theorem dX11_character_168 : decode cX11_character 168 = .ok (.sipush 128, 3) := by decide +kernel
theorem dX11_character_171 : decode cX11_character 171 = .ok (.isub, 1) := by decide +kernel
theorem dX11_character_172 : decode cX11_character 172 = .ok (.istore 5, 2) := by decide +kernel
theorem dX11_character_174 : decode cX11_character 174 = .ok (.iinc 6 1, 3) := by decide +kernel
theorem dX11_character_177 : decode cX11_character 177 = .ok (.goto (-54), 3) := by decide +kernel
theorem dX11_character_180 : decode cX11_character 180 = .ok (.iload 4, 2) := by decide +kernel
theorem dX11_character_182 : decode cX11_character 182 = .ok (.iconst 2, 1) := by decide +kernel
theorem dX11_character_183 : decode cX11_character 183 = .ok (.if_icmp .ne 9, 3) := by decide +kernel
theorem dX11_character_186 : decode cX11_character 186 = .ok (.sipush 128, 3) := by decide +kernel
theorem dX11_character_189 : decode cX11_character 189 = .ok (.goto 17, 3) := by decide +kernel
theorem dX11_character_192 : decode cX11_character 192 = .ok (.iload 4, 2) := by decide +kernel
theorem dX11_character_194 : decode cX11_character 194 = .ok (.iconst 3, 1) := by decide +kernel
theorem dX11_character_195 : decode cX11_character 195 = .ok (.if_icmp .ne 9, 3) := by decide +kernel
theorem dX11_character_198 : decode cX11_character 198 = .ok (.sipush 2048, 3) := by decide +kernel
theorem dX11_character_201 : decode cX11_character 201 = .ok (.goto 5, 3) := by decide +kernel
theorem dX11_character_204 : decode cX11_character 204 = .ok (.ldc 60, 2) := by decide +kernel
theorem dX11_character_206 : decode cX11_character 206 = .ok (.istore 6, 2) := by decide +kernel
theorem dX11_character_208 : decode cX11_character 208 = .ok (.iload 5, 2) := by decide +kernel
theorem dX11_character_210 : decode cX11_character 210 = .ok (.iload 6, 2) := by decide +kernel
theorem dX11_character_212 : decode cX11_character 212 = .ok (.if_icmp .lt 24, 3) := by decide +kernel
theorem dX11_character_215 : decode cX11_character 215 = .ok (.iload 5, 2) := by decide +kernel
theorem dX11_character_217 : decode cX11_character 217 = .ok (.ldc 61, 2) := by decide +kernel
theorem dX11_character_219 : decode cX11_character 219 = .ok (.if_icmp .gt 17, 3) := by decide +kernel
theorem dX11_character_222 : decode cX11_character 222 = .ok (.iload 5, 2) := by decide +kernel
theorem dX11_character_224 : decode cX11_character 224 = .ok (.ldc 62, 2) := by decide +kernel
theorem dX11_character_226 : decode cX11_character 226 = .ok (.if_icmp .le 14, 3) := by decide +kernel
theorem dX11_character_229 : decode cX11_character 229 = .ok (.iload 5, 2) := by decide +kernel
theorem dX11_character_231 : decode cX11_character 231 = .ok (.ldc 63, 2) := by decide +kernel
theorem dX11_character_233 : decode cX11_character 233 = .ok (.if_icmp .ge 7, 3) := by decide +kernel
theorem dX11_character_236 : decode cX11_character 236 = .ok (.iconst 0, 1) := by decide +kernel
theorem dX11_character_237 : decode cX11_character 237 = .ok (.goto 5, 3) := by decide +kernel
theorem dX11_character_240 : decode cX11_character 240 = .ok (.iload 4, 2) := by decide +kernel
theorem dX11_character_242 : decode cX11_character 242 = .ok (.ireturn, 1) := by decide +kernel
theorem dX11_badText_0 : decode cX11_badText 0 = .ok (.iload_n 1, 1) := by decide +kernel
theorem dX11_badText_1 : decode cX11_badText 1 = .ok (.istore_n 3, 1) := by decide +kernel
theorem dX11_badText_2 : decode cX11_badText 2 = .ok (.iload_n 3, 1) := by decide +kernel
theorem dX11_badText_3 : decode cX11_badText 3 = .ok (.iload_n 2, 1) := by decide +kernel
theorem dX11_badText_4 : decode cX11_badText 4 = .ok (.if_icmp .ge 26, 3) := by decide +kernel
theorem dX11_badText_7 : decode cX11_badText 7 = .ok (.aload_n 0, 1) := by decide +kernel
theorem dX11_badText_8 : decode cX11_badText 8 = .ok (.iload_n 3, 1) := by decide +kernel
theorem dX11_badText_9 : decode cX11_badText 9 = .ok (.iload_n 2, 1) := by decide +kernel
theorem dX11_badText_10 : decode cX11_badText 10 = .ok (.invokestatic 64, 3) := by decide +kernel
theorem dX11_badText_13 : decode cX11_badText 13 = .ok (.istore 4, 2) := by decide +kernel
theorem dX11_badText_15 : decode cX11_badText 15 = .ok (.iload 4, 2) := by decide +kernel
theorem dX11_badText_17 : decode cX11_badText 17 = .ok (.ifCond .ne 5, 3) := by decide +kernel
theorem dX11_badText_20 : decode cX11_badText 20 = .ok (.iload_n 3, 1) := by decide +kernel
theorem dX11_badText_21 : decode cX11_badText 21 = .ok (.ireturn, 1) := by decide +kernel
theorem dX11_badText_22 : decode cX11_badText 22 = .ok (.iload_n 3, 1) := by decide +kernel
theorem dX11_badText_23 : decode cX11_badText 23 = .ok (.iload 4, 2) := by decide +kernel
theorem dX11_badText_25 : decode cX11_badText 25 = .ok (.iadd, 1) := by decide +kernel
theorem dX11_badText_26 : decode cX11_badText 26 = .ok (.istore_n 3, 1) := by decide +kernel
theorem dX11_badText_27 : decode cX11_badText 27 = .ok (.goto (-25), 3) := by decide +kernel
theorem dX11_badText_30 : decode cX11_badText 30 = .ok (.iconst (-1), 1) := by decide +kernel
theorem dX11_badText_31 : decode cX11_badText 31 = .ok (.ireturn, 1) := by decide +kernel
theorem dX11_stop_0 : decode cX11_stop 0 = .ok (.aload_n 0, 1) := by decide +kernel
theorem dX11_stop_1 : decode cX11_stop 1 = .ok (.aload_n 0, 1) := by decide +kernel
theorem dX11_stop_2 : decode cX11_stop 2 = .ok (.getfield 68, 3) := by decide +kernel
theorem dX11_stop_5 : decode cX11_stop 5 = .ok (.ifCond .ne 7, 3) := by decide +kernel
theorem dX11_stop_8 : decode cX11_stop 8 = .ok (.iload_n 1, 1) := by decide +kernel
theorem dX11_stop_9 : decode cX11_stop 9 = .ok (.goto 7, 3) := by decide +kernel
theorem dX11_stop_12 : decode cX11_stop 12 = .ok (.aload_n 0, 1) := by decide +kernel
theorem dX11_stop_13 : decode cX11_stop 13 = .ok (.getfield 68, 3) := by decide +kernel
theorem dX11_stop_16 : decode cX11_stop 16 = .ok (.putfield 68, 3) := by decide +kernel
theorem dX11_stop_19 : decode cX11_stop 19 = .ok (.return_, 1) := by decide +kernel
theorem dX11_low_0 : decode cX11_low 0 = .ok (.lconst 0, 1) := by decide +kernel
theorem dX11_low_1 : decode cX11_low 1 = .ok (.lstore_n 3, 1) := by decide +kernel
theorem dX11_low_2 : decode cX11_low 2 = .ok (.iload_n 2, 1) := by decide +kernel
theorem dX11_low_3 : decode cX11_low 3 = .ok (.iconst 1, 1) := by decide +kernel
theorem dX11_low_4 : decode cX11_low 4 = .ok (.isub, 1) := by decide +kernel
theorem dX11_low_5 : decode cX11_low 5 = .ok (.istore 5, 2) := by decide +kernel
theorem dX11_low_7 : decode cX11_low 7 = .ok (.iload 5, 2) := by decide +kernel
theorem dX11_low_9 : decode cX11_low 9 = .ok (.ifCond .lt 25, 3) := by decide +kernel
theorem dX11_low_12 : decode cX11_low 12 = .ok (.lload_n 3, 1) := by decide +kernel
theorem dX11_low_13 : decode cX11_low 13 = .ok (.bipush 8, 2) := by decide +kernel
theorem dX11_low_15 : decode cX11_low 15 = .ok (.lshl, 1) := by decide +kernel
theorem dX11_low_16 : decode cX11_low 16 = .ok (.aload_n 0, 1) := by decide +kernel
theorem dX11_low_17 : decode cX11_low 17 = .ok (.getfield 26, 3) := by decide +kernel
theorem dX11_low_20 : decode cX11_low 20 = .ok (.iload_n 1, 1) := by decide +kernel
theorem dX11_low_21 : decode cX11_low 21 = .ok (.iload 5, 2) := by decide +kernel
theorem dX11_low_23 : decode cX11_low 23 = .ok (.iadd, 1) := by decide +kernel
theorem dX11_low_24 : decode cX11_low 24 = .ok (.iaload, 1) := by decide +kernel
theorem dX11_low_25 : decode cX11_low 25 = .ok (.i2l, 1) := by decide +kernel
theorem dX11_low_26 : decode cX11_low 26 = .ok (.lor, 1) := by decide +kernel
theorem dX11_low_27 : decode cX11_low 27 = .ok (.lstore_n 3, 1) := by decide +kernel
theorem dX11_low_28 : decode cX11_low 28 = .ok (.iinc 5 (-1), 3) := by decide +kernel
theorem dX11_low_31 : decode cX11_low 31 = .ok (.goto (-24), 3) := by decide +kernel
theorem dX11_low_34 : decode cX11_low 34 = .ok (.lload_n 3, 1) := by decide +kernel
theorem dX11_low_35 : decode cX11_low 35 = .ok (.lreturn, 1) := by decide +kernel
theorem dX11_opens_0 : decode cX11_opens 0 = .ok (.iload_n 2, 1) := by decide +kernel
theorem dX11_opens_1 : decode cX11_opens 1 = .ok (.iconst 4, 1) := by decide +kernel
theorem dX11_opens_2 : decode cX11_opens 2 = .ok (.if_icmp .ge 11, 3) := by decide +kernel
theorem dX11_opens_5 : decode cX11_opens 5 = .ok (.aload_n 0, 1) := by decide +kernel
theorem dX11_opens_6 : decode cX11_opens 6 = .ok (.iconst 1, 1) := by decide +kernel
theorem dX11_opens_7 : decode cX11_opens 7 = .ok (.iload_n 1, 1) := by decide +kernel
theorem dX11_opens_8 : decode cX11_opens 8 = .ok (.invokevirtual 71, 3) := by decide +kernel
theorem dX11_opens_11 : decode cX11_opens 11 = .ok (.iconst 0, 1) := by decide +kernel
theorem dX11_opens_12 : decode cX11_opens 12 = .ok (.ireturn, 1) := by decide +kernel
theorem dX11_opens_13 : decode cX11_opens 13 = .ok (.aload_n 0, 1) := by decide +kernel
theorem dX11_opens_14 : decode cX11_opens 14 = .ok (.iload_n 1, 1) := by decide +kernel
theorem dX11_opens_15 : decode cX11_opens 15 = .ok (.iconst 4, 1) := by decide +kernel
theorem dX11_opens_16 : decode cX11_opens 16 = .ok (.invokevirtual 75, 3) := by decide +kernel
theorem dX11_opens_19 : decode cX11_opens 19 = .ok (.lstore 6, 2) := by decide +kernel
theorem dX11_opens_21 : decode cX11_opens 21 = .ok (.lload 6, 2) := by decide +kernel
theorem dX11_opens_23 : decode cX11_opens 23 = .ok (.ldc2_w 79, 3) := by decide +kernel
theorem dX11_opens_26 : decode cX11_opens 26 = .ok (.lcmp, 1) := by decide +kernel
theorem dX11_opens_27 : decode cX11_opens 27 = .ok (.ifCond .lt 15, 3) := by decide +kernel
theorem dX11_opens_30 : decode cX11_opens 30 = .ok (.iload_n 3, 1) := by decide +kernel
theorem dX11_opens_31 : decode cX11_opens 31 = .ok (.ifCond .ne 20, 3) := by decide +kernel
theorem dX11_opens_34 : decode cX11_opens 34 = .ok (.lload 6, 2) := by decide +kernel
theorem dX11_opens_36 : decode cX11_opens 36 = .ok (.iload_n 2, 1) := by decide +kernel
theorem dX11_opens_37 : decode cX11_opens 37 = .ok (.i2l, 1) := by decide +kernel
theorem dX11_opens_38 : decode cX11_opens 38 = .ok (.lcmp, 1) := by decide +kernel
theorem dX11_opens_39 : decode cX11_opens 39 = .ok (.ifCond .ge 12, 3) := by decide +kernel
theorem dX11_opens_42 : decode cX11_opens 42 = .ok (.aload_n 0, 1) := by decide +kernel
theorem dX11_opens_43 : decode cX11_opens 43 = .ok (.iconst 2, 1) := by decide +kernel
theorem dX11_opens_44 : decode cX11_opens 44 = .ok (.iload_n 1, 1) := by decide +kernel
theorem dX11_opens_45 : decode cX11_opens 45 = .ok (.invokevirtual 71, 3) := by decide +kernel
theorem dX11_opens_48 : decode cX11_opens 48 = .ok (.goto 33, 3) := by decide +kernel
theorem dX11_opens_51 : decode cX11_opens 51 = .ok (.lload 6, 2) := by decide +kernel
theorem dX11_opens_53 : decode cX11_opens 53 = .ok (.iload_n 2, 1) := by decide +kernel
theorem dX11_opens_54 : decode cX11_opens 54 = .ok (.i2l, 1) := by decide +kernel
theorem dX11_opens_55 : decode cX11_opens 55 = .ok (.lcmp, 1) := by decide +kernel
theorem dX11_opens_56 : decode cX11_opens 56 = .ok (.ifCond .le 12, 3) := by decide +kernel
theorem dX11_opens_59 : decode cX11_opens 59 = .ok (.aload_n 0, 1) := by decide +kernel
theorem dX11_opens_60 : decode cX11_opens 60 = .ok (.iconst 1, 1) := by decide +kernel
theorem dX11_opens_61 : decode cX11_opens 61 = .ok (.iload_n 1, 1) := by decide +kernel
theorem dX11_opens_62 : decode cX11_opens 62 = .ok (.invokevirtual 71, 3) := by decide +kernel
theorem dX11_opens_65 : decode cX11_opens 65 = .ok (.goto 16, 3) := by decide +kernel
theorem dX11_opens_68 : decode cX11_opens 68 = .ok (.iload_n 3, 1) := by decide +kernel
theorem dX11_opens_69 : decode cX11_opens 69 = .ok (.bipush 16, 2) := by decide +kernel
theorem dX11_opens_71 : decode cX11_opens 71 = .ok (.if_icmp .ne 10, 3) := by decide +kernel
theorem dX11_opens_74 : decode cX11_opens 74 = .ok (.aload_n 0, 1) := by decide +kernel
theorem dX11_opens_75 : decode cX11_opens 75 = .ok (.bipush 8, 2) := by decide +kernel
theorem dX11_opens_77 : decode cX11_opens 77 = .ok (.iload_n 1, 1) := by decide +kernel
theorem dX11_opens_78 : decode cX11_opens 78 = .ok (.invokevirtual 71, 3) := by decide +kernel
theorem dX11_opens_81 : decode cX11_opens 81 = .ok (.aload_n 0, 1) := by decide +kernel
theorem dX11_opens_82 : decode cX11_opens 82 = .ok (.getfield 68, 3) := by decide +kernel
theorem dX11_opens_85 : decode cX11_opens 85 = .ok (.ifCond .eq 5, 3) := by decide +kernel
theorem dX11_opens_88 : decode cX11_opens 88 = .ok (.iconst 0, 1) := by decide +kernel
theorem dX11_opens_89 : decode cX11_opens 89 = .ok (.ireturn, 1) := by decide +kernel
theorem dX11_opens_90 : decode cX11_opens 90 = .ok (.aload_n 0, 1) := by decide +kernel
theorem dX11_opens_91 : decode cX11_opens 91 = .ok (.getfield 38, 3) := by decide +kernel
theorem dX11_opens_94 : decode cX11_opens 94 = .ok (.iload_n 3, 1) := by decide +kernel
theorem dX11_opens_95 : decode cX11_opens 95 = .ok (.iload_n 1, 1) := by decide +kernel
theorem dX11_opens_96 : decode cX11_opens 96 = .ok (.lload 6, 2) := by decide +kernel
theorem dX11_opens_98 : decode cX11_opens 98 = .ok (.l2i, 1) := by decide +kernel
theorem dX11_opens_99 : decode cX11_opens 99 = .ok (.iadd, 1) := by decide +kernel
theorem dX11_opens_100 : decode cX11_opens 100 = .ok (.iastore, 1) := by decide +kernel
theorem dX11_opens_101 : decode cX11_opens 101 = .ok (.aload_n 0, 1) := by decide +kernel
theorem dX11_opens_102 : decode cX11_opens 102 = .ok (.getfield 41, 3) := by decide +kernel
theorem dX11_opens_105 : decode cX11_opens 105 = .ok (.iload_n 3, 1) := by decide +kernel
theorem dX11_opens_106 : decode cX11_opens 106 = .ok (.iload 4, 2) := by decide +kernel
theorem dX11_opens_108 : decode cX11_opens 108 = .ok (.iastore, 1) := by decide +kernel
theorem dX11_opens_109 : decode cX11_opens 109 = .ok (.aload_n 0, 1) := by decide +kernel
theorem dX11_opens_110 : decode cX11_opens 110 = .ok (.getfield 44, 3) := by decide +kernel
theorem dX11_opens_113 : decode cX11_opens 113 = .ok (.iload_n 3, 1) := by decide +kernel
theorem dX11_opens_114 : decode cX11_opens 114 = .ok (.iconst 0, 1) := by decide +kernel
theorem dX11_opens_115 : decode cX11_opens 115 = .ok (.iastore, 1) := by decide +kernel
theorem dX11_opens_116 : decode cX11_opens 116 = .ok (.aload_n 0, 1) := by decide +kernel
theorem dX11_opens_117 : decode cX11_opens 117 = .ok (.getfield 47, 3) := by decide +kernel
theorem dX11_opens_120 : decode cX11_opens 120 = .ok (.iload_n 3, 1) := by decide +kernel
theorem dX11_opens_121 : decode cX11_opens 121 = .ok (.iload 5, 2) := by decide +kernel
theorem dX11_opens_123 : decode cX11_opens 123 = .ok (.ifCond .eq 7, 3) := by decide +kernel
theorem dX11_opens_126 : decode cX11_opens 126 = .ok (.iconst 1, 1) := by decide +kernel
theorem dX11_opens_127 : decode cX11_opens 127 = .ok (.goto 4, 3) := by decide +kernel
theorem dX11_opens_130 : decode cX11_opens 130 = .ok (.iconst 0, 1) := by decide +kernel
theorem dX11_opens_131 : decode cX11_opens 131 = .ok (.iastore, 1) := by decide +kernel
theorem dX11_opens_132 : decode cX11_opens 132 = .ok (.iconst 1, 1) := by decide +kernel
theorem dX11_opens_133 : decode cX11_opens 133 = .ok (.ireturn, 1) := by decide +kernel
theorem dX11_isKind_0 : decode cX11_isKind 0 = .ok (.iload_n 1, 1) := by decide +kernel
theorem dX11_isKind_1 : decode cX11_isKind 1 = .ok (.iconst 2, 1) := by decide +kernel
theorem dX11_isKind_2 : decode cX11_isKind 2 = .ok (.if_icmp .eq 37, 3) := by decide +kernel
theorem dX11_isKind_5 : decode cX11_isKind 5 = .ok (.iload_n 1, 1) := by decide +kernel
theorem dX11_isKind_6 : decode cX11_isKind 6 = .ok (.iconst 3, 1) := by decide +kernel
theorem dX11_isKind_7 : decode cX11_isKind 7 = .ok (.if_icmp .eq 32, 3) := by decide +kernel
theorem dX11_isKind_10 : decode cX11_isKind 10 = .ok (.iload_n 1, 1) := by decide +kernel
theorem dX11_isKind_11 : decode cX11_isKind 11 = .ok (.iconst 4, 1) := by decide +kernel
theorem dX11_isKind_12 : decode cX11_isKind 12 = .ok (.if_icmp .eq 27, 3) := by decide +kernel
theorem dX11_isKind_15 : decode cX11_isKind 15 = .ok (.iload_n 1, 1) := by decide +kernel
theorem dX11_isKind_16 : decode cX11_isKind 16 = .ok (.bipush 8, 2) := by decide +kernel
theorem dX11_isKind_18 : decode cX11_isKind 18 = .ok (.if_icmp .eq 21, 3) := by decide +kernel
theorem dX11_isKind_21 : decode cX11_isKind 21 = .ok (.iload_n 1, 1) := by decide +kernel
theorem dX11_isKind_22 : decode cX11_isKind 22 = .ok (.bipush 10, 2) := by decide +kernel
theorem dX11_isKind_24 : decode cX11_isKind 24 = .ok (.if_icmp .eq 15, 3) := by decide +kernel
theorem dX11_isKind_27 : decode cX11_isKind 27 = .ok (.iload_n 1, 1) := by decide +kernel
theorem dX11_isKind_28 : decode cX11_isKind 28 = .ok (.bipush 16, 2) := by decide +kernel
theorem dX11_isKind_30 : decode cX11_isKind 30 = .ok (.if_icmp .eq 9, 3) := by decide +kernel
theorem dX11_isKind_33 : decode cX11_isKind 33 = .ok (.iload_n 1, 1) := by decide +kernel
theorem dX11_isKind_34 : decode cX11_isKind 34 = .ok (.bipush 18, 2) := by decide +kernel
theorem dX11_isKind_36 : decode cX11_isKind 36 = .ok (.if_icmp .ne 7, 3) := by decide +kernel
theorem dX11_isKind_39 : decode cX11_isKind 39 = .ok (.iconst 1, 1) := by decide +kernel
theorem dX11_isKind_40 : decode cX11_isKind 40 = .ok (.goto 4, 3) := by decide +kernel
theorem dX11_isKind_43 : decode cX11_isKind 43 = .ok (.iconst 0, 1) := by decide +kernel
theorem dX11_isKind_44 : decode cX11_isKind 44 = .ok (.ireturn, 1) := by decide +kernel
theorem dX11_goOver_0 : decode cX11_goOver 0 = .ok (.aload_n 0, 1) := by decide +kernel
theorem dX11_goOver_1 : decode cX11_goOver 1 = .ok (.iconst 0, 1) := by decide +kernel
theorem dX11_goOver_2 : decode cX11_goOver 2 = .ok (.putfield 68, 3) := by decide +kernel
theorem dX11_goOver_5 : decode cX11_goOver 5 = .ok (.aload_n 0, 1) := by decide +kernel
theorem dX11_goOver_6 : decode cX11_goOver 6 = .ok (.iconst 1, 1) := by decide +kernel
theorem dX11_goOver_7 : decode cX11_goOver 7 = .ok (.putfield 81, 3) := by decide +kernel
theorem dX11_goOver_10 : decode cX11_goOver 10 = .ok (.aload_n 0, 1) := by decide +kernel
theorem dX11_goOver_11 : decode cX11_goOver 11 = .ok (.iconst 0, 1) := by decide +kernel
theorem dX11_goOver_12 : decode cX11_goOver 12 = .ok (.iload_n 1, 1) := by decide +kernel
theorem dX11_goOver_13 : decode cX11_goOver 13 = .ok (.iconst 0, 1) := by decide +kernel
theorem dX11_goOver_14 : decode cX11_goOver 14 = .ok (.iconst 0, 1) := by decide +kernel
theorem dX11_goOver_15 : decode cX11_goOver 15 = .ok (.iconst 0, 1) := by decide +kernel
theorem dX11_goOver_16 : decode cX11_goOver 16 = .ok (.invokevirtual 84, 3) := by decide +kernel
theorem dX11_goOver_19 : decode cX11_goOver 19 = .ok (.ifCond .eq 7, 3) := by decide +kernel
theorem dX11_goOver_22 : decode cX11_goOver 22 = .ok (.iconst 1, 1) := by decide +kernel
theorem dX11_goOver_23 : decode cX11_goOver 23 = .ok (.goto 4, 3) := by decide +kernel
theorem dX11_goOver_26 : decode cX11_goOver 26 = .ok (.iconst 0, 1) := by decide +kernel
theorem dX11_goOver_27 : decode cX11_goOver 27 = .ok (.istore_n 2, 1) := by decide +kernel
theorem dX11_goOver_28 : decode cX11_goOver 28 = .ok (.iconst 4, 1) := by decide +kernel
theorem dX11_goOver_29 : decode cX11_goOver 29 = .ok (.istore_n 3, 1) := by decide +kernel
theorem dX11_goOver_30 : decode cX11_goOver 30 = .ok (.iload_n 2, 1) := by decide +kernel
theorem dX11_goOver_31 : decode cX11_goOver 31 = .ok (.ifCond .le 206, 3) := by decide +kernel
theorem dX11_goOver_34 : decode cX11_goOver 34 = .ok (.aload_n 0, 1) := by decide +kernel
theorem dX11_goOver_35 : decode cX11_goOver 35 = .ok (.getfield 68, 3) := by decide +kernel
theorem dX11_goOver_38 : decode cX11_goOver 38 = .ok (.ifCond .ne 199, 3) := by decide +kernel
theorem dX11_goOver_41 : decode cX11_goOver 41 = .ok (.aload_n 0, 1) := by decide +kernel
theorem dX11_goOver_42 : decode cX11_goOver 42 = .ok (.getfield 38, 3) := by decide +kernel
theorem dX11_goOver_45 : decode cX11_goOver 45 = .ok (.iload_n 2, 1) := by decide +kernel
theorem dX11_goOver_46 : decode cX11_goOver 46 = .ok (.iconst 1, 1) := by decide +kernel
theorem dX11_goOver_47 : decode cX11_goOver 47 = .ok (.isub, 1) := by decide +kernel
theorem dX11_goOver_48 : decode cX11_goOver 48 = .ok (.iaload, 1) := by decide +kernel
theorem dX11_goOver_49 : decode cX11_goOver 49 = .ok (.iconst 1, 1) := by decide +kernel
theorem dX11_goOver_50 : decode cX11_goOver 50 = .ok (.isub, 1) := by decide +kernel
theorem dX11_goOver_51 : decode cX11_goOver 51 = .ok (.istore 4, 2) := by decide +kernel
theorem dX11_goOver_53 : decode cX11_goOver 53 = .ok (.iload_n 3, 1) := by decide +kernel
theorem dX11_goOver_54 : decode cX11_goOver 54 = .ok (.iload 4, 2) := by decide +kernel
theorem dX11_goOver_56 : decode cX11_goOver 56 = .ok (.if_icmp .ne 27, 3) := by decide +kernel
theorem dX11_goOver_59 : decode cX11_goOver 59 = .ok (.aload_n 0, 1) := by decide +kernel
theorem dX11_goOver_60 : decode cX11_goOver 60 = .ok (.getfield 26, 3) := by decide +kernel
theorem dX11_goOver_63 : decode cX11_goOver 63 = .ok (.iload_n 3, 1) := by decide +kernel
theorem dX11_goOver_64 : decode cX11_goOver 64 = .ok (.iaload, 1) := by decide +kernel
theorem dX11_goOver_65 : decode cX11_goOver 65 = .ok (.ifCond .eq 9, 3) := by decide +kernel
theorem dX11_goOver_68 : decode cX11_goOver 68 = .ok (.aload_n 0, 1) := by decide +kernel
theorem dX11_goOver_69 : decode cX11_goOver 69 = .ok (.iconst 2, 1) := by decide +kernel
theorem dX11_goOver_70 : decode cX11_goOver 70 = .ok (.iload_n 3, 1) := by decide +kernel
theorem dX11_goOver_71 : decode cX11_goOver 71 = .ok (.invokevirtual 71, 3) := by decide +kernel
theorem dX11_goOver_74 : decode cX11_goOver 74 = .ok (.iinc 3 1, 3) := by decide +kernel
theorem dX11_goOver_77 : decode cX11_goOver 77 = .ok (.iinc 2 (-1), 3) := by decide +kernel
theorem dX11_goOver_80 : decode cX11_goOver 80 = .ok (.goto 154, 3) := by decide +kernel
theorem dX11_goOver_83 : decode cX11_goOver 83 = .ok (.aload_n 0, 1) := by decide +kernel
theorem dX11_goOver_84 : decode cX11_goOver 84 = .ok (.getfield 26, 3) := by decide +kernel
theorem dX11_goOver_87 : decode cX11_goOver 87 = .ok (.iload_n 3, 1) := by decide +kernel
theorem dX11_goOver_88 : decode cX11_goOver 88 = .ok (.iaload, 1) := by decide +kernel
theorem dX11_goOver_89 : decode cX11_goOver 89 = .ok (.ifCond .ne 12, 3) := by decide +kernel
theorem dX11_goOver_92 : decode cX11_goOver 92 = .ok (.aload_n 0, 1) := by decide +kernel
theorem dX11_goOver_93 : decode cX11_goOver 93 = .ok (.iconst 2, 1) := by decide +kernel
theorem dX11_goOver_94 : decode cX11_goOver 94 = .ok (.iload_n 3, 1) := by decide +kernel
theorem dX11_goOver_95 : decode cX11_goOver 95 = .ok (.invokevirtual 71, 3) := by decide +kernel
theorem dX11_goOver_98 : decode cX11_goOver 98 = .ok (.goto 136, 3) := by decide +kernel
theorem dX11_goOver_101 : decode cX11_goOver 101 = .ok (.aload_n 0, 1) := by decide +kernel
theorem dX11_goOver_102 : decode cX11_goOver 102 = .ok (.aload_n 0, 1) := by decide +kernel
theorem dX11_goOver_103 : decode cX11_goOver 103 = .ok (.getfield 26, 3) := by decide +kernel
theorem dX11_goOver_106 : decode cX11_goOver 106 = .ok (.iload_n 3, 1) := by decide +kernel
theorem dX11_goOver_107 : decode cX11_goOver 107 = .ok (.iaload, 1) := by decide +kernel
theorem dX11_goOver_108 : decode cX11_goOver 108 = .ok (.invokevirtual 88, 3) := by decide +kernel
theorem dX11_goOver_111 : decode cX11_goOver 111 = .ok (.ifCond .ne 12, 3) := by decide +kernel
theorem dX11_goOver_114 : decode cX11_goOver 114 = .ok (.aload_n 0, 1) := by decide +kernel
theorem dX11_goOver_115 : decode cX11_goOver 115 = .ok (.iconst 3, 1) := by decide +kernel
theorem dX11_goOver_116 : decode cX11_goOver 116 = .ok (.iload_n 3, 1) := by decide +kernel
theorem dX11_goOver_117 : decode cX11_goOver 117 = .ok (.invokevirtual 71, 3) := by decide +kernel
theorem dX11_goOver_120 : decode cX11_goOver 120 = .ok (.goto 114, 3) := by decide +kernel
theorem dX11_goOver_123 : decode cX11_goOver 123 = .ok (.aload_n 0, 1) := by decide +kernel
theorem dX11_goOver_124 : decode cX11_goOver 124 = .ok (.iload_n 3, 1) := by decide +kernel
theorem dX11_goOver_125 : decode cX11_goOver 125 = .ok (.iload 4, 2) := by decide +kernel
theorem dX11_goOver_127 : decode cX11_goOver 127 = .ok (.iload_n 2, 1) := by decide +kernel
theorem dX11_goOver_128 : decode cX11_goOver 128 = .ok (.invokevirtual 92, 3) := by decide +kernel
theorem dX11_goOver_131 : decode cX11_goOver 131 = .ok (.istore_n 3, 1) := by decide +kernel
theorem dX11_goOver_132 : decode cX11_goOver 132 = .ok (.aload_n 0, 1) := by decide +kernel
theorem dX11_goOver_133 : decode cX11_goOver 133 = .ok (.getfield 68, 3) := by decide +kernel
theorem dX11_goOver_136 : decode cX11_goOver 136 = .ok (.ifCond .ne 98, 3) := by decide +kernel
theorem dX11_goOver_139 : decode cX11_goOver 139 = .ok (.aload_n 0, 1) := by decide +kernel
theorem dX11_goOver_140 : decode cX11_goOver 140 = .ok (.getfield 26, 3) := by decide +kernel
theorem dX11_goOver_143 : decode cX11_goOver 143 = .ok (.aload_n 0, 1) := by decide +kernel
theorem dX11_goOver_144 : decode cX11_goOver 144 = .ok (.getfield 32, 3) := by decide +kernel
theorem dX11_goOver_147 : decode cX11_goOver 147 = .ok (.aload_n 0, 1) := by decide +kernel
theorem dX11_goOver_148 : decode cX11_goOver 148 = .ok (.getfield 81, 3) := by decide +kernel
theorem dX11_goOver_151 : decode cX11_goOver 151 = .ok (.iconst 1, 1) := by decide +kernel
theorem dX11_goOver_152 : decode cX11_goOver 152 = .ok (.isub, 1) := by decide +kernel
theorem dX11_goOver_153 : decode cX11_goOver 153 = .ok (.iaload, 1) := by decide +kernel
theorem dX11_goOver_154 : decode cX11_goOver 154 = .ok (.iaload, 1) := by decide +kernel
theorem dX11_goOver_155 : decode cX11_goOver 155 = .ok (.iconst 3, 1) := by decide +kernel
theorem dX11_goOver_156 : decode cX11_goOver 156 = .ok (.if_icmp .eq 23, 3) := by decide +kernel
theorem dX11_goOver_159 : decode cX11_goOver 159 = .ok (.aload_n 0, 1) := by decide +kernel
theorem dX11_goOver_160 : decode cX11_goOver 160 = .ok (.getfield 26, 3) := by decide +kernel
theorem dX11_goOver_163 : decode cX11_goOver 163 = .ok (.aload_n 0, 1) := by decide +kernel
theorem dX11_goOver_164 : decode cX11_goOver 164 = .ok (.getfield 32, 3) := by decide +kernel
theorem dX11_goOver_167 : decode cX11_goOver 167 = .ok (.aload_n 0, 1) := by decide +kernel
theorem dX11_goOver_168 : decode cX11_goOver 168 = .ok (.getfield 81, 3) := by decide +kernel
theorem dX11_goOver_171 : decode cX11_goOver 171 = .ok (.iconst 1, 1) := by decide +kernel
theorem dX11_goOver_172 : decode cX11_goOver 172 = .ok (.isub, 1) := by decide +kernel
theorem dX11_goOver_173 : decode cX11_goOver 173 = .ok (.iaload, 1) := by decide +kernel
theorem dX11_goOver_174 : decode cX11_goOver 174 = .ok (.iaload, 1) := by decide +kernel
theorem dX11_goOver_175 : decode cX11_goOver 175 = .ok (.iconst 4, 1) := by decide +kernel
theorem dX11_goOver_176 : decode cX11_goOver 176 = .ok (.if_icmp .ne 58, 3) := by decide +kernel
theorem dX11_goOver_179 : decode cX11_goOver 179 = .ok (.aload_n 0, 1) := by decide +kernel
theorem dX11_goOver_180 : decode cX11_goOver 180 = .ok (.iload_n 3, 1) := by decide +kernel
theorem dX11_goOver_181 : decode cX11_goOver 181 = .ok (.iload 4, 2) := by decide +kernel
theorem dX11_goOver_183 : decode cX11_goOver 183 = .ok (.iload_n 3, 1) := by decide +kernel
theorem dX11_goOver_184 : decode cX11_goOver 184 = .ok (.isub, 1) := by decide +kernel
theorem dX11_goOver_185 : decode cX11_goOver 185 = .ok (.iload_n 2, 1) := by decide +kernel
theorem dX11_goOver_186 : decode cX11_goOver 186 = .ok (.aload_n 0, 1) := by decide +kernel
theorem dX11_goOver_187 : decode cX11_goOver 187 = .ok (.getfield 81, 3) := by decide +kernel
theorem dX11_goOver_190 : decode cX11_goOver 190 = .ok (.iconst 1, 1) := by decide +kernel
theorem dX11_goOver_191 : decode cX11_goOver 191 = .ok (.isub, 1) := by decide +kernel
theorem dX11_goOver_192 : decode cX11_goOver 192 = .ok (.aload_n 0, 1) := by decide +kernel
theorem dX11_goOver_193 : decode cX11_goOver 193 = .ok (.getfield 26, 3) := by decide +kernel
theorem dX11_goOver_196 : decode cX11_goOver 196 = .ok (.aload_n 0, 1) := by decide +kernel
theorem dX11_goOver_197 : decode cX11_goOver 197 = .ok (.getfield 32, 3) := by decide +kernel
theorem dX11_goOver_200 : decode cX11_goOver 200 = .ok (.aload_n 0, 1) := by decide +kernel
theorem dX11_goOver_201 : decode cX11_goOver 201 = .ok (.getfield 81, 3) := by decide +kernel
theorem dX11_goOver_204 : decode cX11_goOver 204 = .ok (.iconst 1, 1) := by decide +kernel
theorem dX11_goOver_205 : decode cX11_goOver 205 = .ok (.isub, 1) := by decide +kernel
theorem dX11_goOver_206 : decode cX11_goOver 206 = .ok (.iaload, 1) := by decide +kernel
theorem dX11_goOver_207 : decode cX11_goOver 207 = .ok (.iaload, 1) := by decide +kernel
theorem dX11_goOver_208 : decode cX11_goOver 208 = .ok (.iconst 4, 1) := by decide +kernel
theorem dX11_goOver_209 : decode cX11_goOver 209 = .ok (.if_icmp .ne 7, 3) := by decide +kernel
theorem dX11_goOver_212 : decode cX11_goOver 212 = .ok (.iconst 1, 1) := by decide +kernel
theorem dX11_goOver_213 : decode cX11_goOver 213 = .ok (.goto 4, 3) := by decide +kernel
theorem dX11_goOver_216 : decode cX11_goOver 216 = .ok (.iconst 0, 1) := by decide +kernel
theorem dX11_goOver_217 : decode cX11_goOver 217 = .ok (.invokevirtual 84, 3) := by decide +kernel
theorem dX11_goOver_220 : decode cX11_goOver 220 = .ok (.ifCond .eq 9, 3) := by decide +kernel
theorem dX11_goOver_223 : decode cX11_goOver 223 = .ok (.iload_n 2, 1) := by decide +kernel
theorem dX11_goOver_224 : decode cX11_goOver 224 = .ok (.iconst 1, 1) := by decide +kernel
theorem dX11_goOver_225 : decode cX11_goOver 225 = .ok (.iadd, 1) := by decide +kernel
theorem dX11_goOver_226 : decode cX11_goOver 226 = .ok (.goto 4, 3) := by decide +kernel
theorem dX11_goOver_229 : decode cX11_goOver 229 = .ok (.iload_n 2, 1) := by decide +kernel
theorem dX11_goOver_230 : decode cX11_goOver 230 = .ok (.istore_n 2, 1) := by decide +kernel
theorem dX11_goOver_231 : decode cX11_goOver 231 = .ok (.iinc 3 4, 3) := by decide +kernel
theorem dX11_goOver_234 : decode cX11_goOver 234 = .ok (.goto (-204), 3) := by decide +kernel
theorem dX11_goOver_237 : decode cX11_goOver 237 = .ok (.return_, 1) := by decide +kernel
theorem dX11_element_0 : decode cX11_element 0 = .ok (.iload_n 1, 1) := by decide +kernel
theorem dX11_element_1 : decode cX11_element 1 = .ok (.iconst 1, 1) := by decide +kernel
theorem dX11_element_2 : decode cX11_element 2 = .ok (.iadd, 1) := by decide +kernel
theorem dX11_element_3 : decode cX11_element 3 = .ok (.istore 4, 2) := by decide +kernel
theorem dX11_element_5 : decode cX11_element 5 = .ok (.iload 4, 2) := by decide +kernel
theorem dX11_element_7 : decode cX11_element 7 = .ok (.istore 5, 2) := by decide +kernel
theorem dX11_element_9 : decode cX11_element 9 = .ok (.iload 5, 2) := by decide +kernel
theorem dX11_element_11 : decode cX11_element 11 = .ok (.iload_n 2, 1) := by decide +kernel
theorem dX11_element_12 : decode cX11_element 12 = .ok (.if_icmp .ge 19, 3) := by decide +kernel
theorem dX11_element_15 : decode cX11_element 15 = .ok (.aload_n 0, 1) := by decide +kernel
theorem dX11_element_16 : decode cX11_element 16 = .ok (.getfield 26, 3) := by decide +kernel
theorem dX11_element_19 : decode cX11_element 19 = .ok (.iload 5, 2) := by decide +kernel
theorem dX11_element_21 : decode cX11_element 21 = .ok (.iaload, 1) := by decide +kernel
theorem dX11_element_22 : decode cX11_element 22 = .ok (.ifCond .eq 9, 3) := by decide +kernel
theorem dX11_element_25 : decode cX11_element 25 = .ok (.iinc 5 1, 3) := by decide +kernel
theorem dX11_element_28 : decode cX11_element 28 = .ok (.goto (-19), 3) := by decide +kernel
theorem dX11_element_31 : decode cX11_element 31 = .ok (.iload 5, 2) := by decide +kernel
theorem dX11_element_33 : decode cX11_element 33 = .ok (.iload_n 2, 1) := by decide +kernel
theorem dX11_element_34 : decode cX11_element 34 = .ok (.if_icmp .lt 13, 3) := by decide +kernel
theorem dX11_element_37 : decode cX11_element 37 = .ok (.aload_n 0, 1) := by decide +kernel
theorem dX11_element_38 : decode cX11_element 38 = .ok (.iconst 1, 1) := by decide +kernel
theorem dX11_element_39 : decode cX11_element 39 = .ok (.iload 4, 2) := by decide +kernel
theorem dX11_element_41 : decode cX11_element 41 = .ok (.invokevirtual 71, 3) := by decide +kernel
theorem dX11_element_44 : decode cX11_element 44 = .ok (.iload 5, 2) := by decide +kernel
theorem dX11_element_46 : decode cX11_element 46 = .ok (.ireturn, 1) := by decide +kernel
theorem dX11_element_47 : decode cX11_element 47 = .ok (.aload_n 0, 1) := by decide +kernel
theorem dX11_element_48 : decode cX11_element 48 = .ok (.getfield 26, 3) := by decide +kernel
theorem dX11_element_51 : decode cX11_element 51 = .ok (.iload 4, 2) := by decide +kernel
theorem dX11_element_53 : decode cX11_element 53 = .ok (.iload 5, 2) := by decide +kernel
theorem dX11_element_55 : decode cX11_element 55 = .ok (.invokestatic 96, 3) := by decide +kernel
theorem dX11_element_58 : decode cX11_element 58 = .ok (.istore 6, 2) := by decide +kernel
theorem dX11_element_60 : decode cX11_element 60 = .ok (.iload 6, 2) := by decide +kernel
theorem dX11_element_62 : decode cX11_element 62 = .ok (.ifCond .lt 13, 3) := by decide +kernel
theorem dX11_element_65 : decode cX11_element 65 = .ok (.aload_n 0, 1) := by decide +kernel
theorem dX11_element_66 : decode cX11_element 66 = .ok (.iconst 4, 1) := by decide +kernel
theorem dX11_element_67 : decode cX11_element 67 = .ok (.iload 6, 2) := by decide +kernel
theorem dX11_element_69 : decode cX11_element 69 = .ok (.invokevirtual 71, 3) := by decide +kernel
theorem dX11_element_72 : decode cX11_element 72 = .ok (.goto 23, 3) := by decide +kernel
theorem dX11_element_75 : decode cX11_element 75 = .ok (.aload_n 0, 1) := by decide +kernel
theorem dX11_element_76 : decode cX11_element 76 = .ok (.iload 4, 2) := by decide +kernel
theorem dX11_element_78 : decode cX11_element 78 = .ok (.iload 5, 2) := by decide +kernel
theorem dX11_element_80 : decode cX11_element 80 = .ok (.iload_n 3, 1) := by decide +kernel
theorem dX11_element_81 : decode cX11_element 81 = .ok (.invokevirtual 99, 3) := by decide +kernel
theorem dX11_element_84 : decode cX11_element 84 = .ok (.ifCond .ne 11, 3) := by decide +kernel
theorem dX11_element_87 : decode cX11_element 87 = .ok (.aload_n 0, 1) := by decide +kernel
theorem dX11_element_88 : decode cX11_element 88 = .ok (.bipush 7, 2) := by decide +kernel
theorem dX11_element_90 : decode cX11_element 90 = .ok (.iload 4, 2) := by decide +kernel
theorem dX11_element_92 : decode cX11_element 92 = .ok (.invokevirtual 71, 3) := by decide +kernel
theorem dX11_element_95 : decode cX11_element 95 = .ok (.aload_n 0, 1) := by decide +kernel
theorem dX11_element_96 : decode cX11_element 96 = .ok (.getfield 68, 3) := by decide +kernel
theorem dX11_element_99 : decode cX11_element 99 = .ok (.ifCond .eq 6, 3) := by decide +kernel
theorem dX11_element_102 : decode cX11_element 102 = .ok (.iload 5, 2) := by decide +kernel
theorem dX11_element_104 : decode cX11_element 104 = .ok (.ireturn, 1) := by decide +kernel
theorem dX11_element_105 : decode cX11_element 105 = .ok (.aload_n 0, 1) := by decide +kernel
theorem dX11_element_106 : decode cX11_element 106 = .ok (.getfield 81, 3) := by decide +kernel
theorem dX11_element_109 : decode cX11_element 109 = .ok (.istore 7, 2) := by decide +kernel
theorem dX11_element_111 : decode cX11_element 111 = .ok (.aload_n 0, 1) := by decide +kernel
theorem dX11_element_112 : decode cX11_element 112 = .ok (.dup, 1) := by decide +kernel
theorem dX11_element_113 : decode cX11_element 113 = .ok (.getfield 81, 3) := by decide +kernel
theorem dX11_element_116 : decode cX11_element 116 = .ok (.iconst 1, 1) := by decide +kernel
theorem dX11_element_117 : decode cX11_element 117 = .ok (.iadd, 1) := by decide +kernel
theorem dX11_element_118 : decode cX11_element 118 = .ok (.putfield 81, 3) := by decide +kernel
theorem dX11_element_121 : decode cX11_element 121 = .ok (.aload_n 0, 1) := by decide +kernel
theorem dX11_element_122 : decode cX11_element 122 = .ok (.getfield 29, 3) := by decide +kernel
theorem dX11_element_125 : decode cX11_element 125 = .ok (.iload 7, 2) := by decide +kernel
theorem dX11_element_127 : decode cX11_element 127 = .ok (.aload_n 0, 1) := by decide +kernel
theorem dX11_element_128 : decode cX11_element 128 = .ok (.getfield 41, 3) := by decide +kernel
theorem dX11_element_131 : decode cX11_element 131 = .ok (.iload_n 3, 1) := by decide +kernel
theorem dX11_element_132 : decode cX11_element 132 = .ok (.iconst 1, 1) := by decide +kernel
theorem dX11_element_133 : decode cX11_element 133 = .ok (.isub, 1) := by decide +kernel
theorem dX11_element_134 : decode cX11_element 134 = .ok (.iaload, 1) := by decide +kernel
theorem dX11_element_135 : decode cX11_element 135 = .ok (.iastore, 1) := by decide +kernel
theorem dX11_element_136 : decode cX11_element 136 = .ok (.aload_n 0, 1) := by decide +kernel
theorem dX11_element_137 : decode cX11_element 137 = .ok (.getfield 32, 3) := by decide +kernel
theorem dX11_element_140 : decode cX11_element 140 = .ok (.iload 7, 2) := by decide +kernel
theorem dX11_element_142 : decode cX11_element 142 = .ok (.iload_n 1, 1) := by decide +kernel
theorem dX11_element_143 : decode cX11_element 143 = .ok (.iastore, 1) := by decide +kernel
theorem dX11_element_144 : decode cX11_element 144 = .ok (.aload_n 0, 1) := by decide +kernel
theorem dX11_element_145 : decode cX11_element 145 = .ok (.getfield 35, 3) := by decide +kernel
theorem dX11_element_148 : decode cX11_element 148 = .ok (.iload 7, 2) := by decide +kernel
theorem dX11_element_150 : decode cX11_element 150 = .ok (.iload 5, 2) := by decide +kernel
theorem dX11_element_152 : decode cX11_element 152 = .ok (.iastore, 1) := by decide +kernel
theorem dX11_element_153 : decode cX11_element 153 = .ok (.aload_n 0, 1) := by decide +kernel
theorem dX11_element_154 : decode cX11_element 154 = .ok (.getfield 44, 3) := by decide +kernel
theorem dX11_element_157 : decode cX11_element 157 = .ok (.iload_n 3, 1) := by decide +kernel
theorem dX11_element_158 : decode cX11_element 158 = .ok (.iconst 1, 1) := by decide +kernel
theorem dX11_element_159 : decode cX11_element 159 = .ok (.isub, 1) := by decide +kernel
theorem dX11_element_160 : decode cX11_element 160 = .ok (.dup2, 1) := by decide +kernel
theorem dX11_element_161 : decode cX11_element 161 = .ok (.iaload, 1) := by decide +kernel
theorem dX11_element_162 : decode cX11_element 162 = .ok (.iconst 1, 1) := by decide +kernel
theorem dX11_element_163 : decode cX11_element 163 = .ok (.iadd, 1) := by decide +kernel
theorem dX11_element_164 : decode cX11_element 164 = .ok (.iastore, 1) := by decide +kernel
theorem dX11_element_165 : decode cX11_element 165 = .ok (.aload_n 0, 1) := by decide +kernel
theorem dX11_element_166 : decode cX11_element 166 = .ok (.aload_n 0, 1) := by decide +kernel
theorem dX11_element_167 : decode cX11_element 167 = .ok (.getfield 26, 3) := by decide +kernel
theorem dX11_element_170 : decode cX11_element 170 = .ok (.iload_n 1, 1) := by decide +kernel
theorem dX11_element_171 : decode cX11_element 171 = .ok (.iaload, 1) := by decide +kernel
theorem dX11_element_172 : decode cX11_element 172 = .ok (.iload 5, 2) := by decide +kernel
theorem dX11_element_174 : decode cX11_element 174 = .ok (.iconst 1, 1) := by decide +kernel
theorem dX11_element_175 : decode cX11_element 175 = .ok (.iadd, 1) := by decide +kernel
theorem dX11_element_176 : decode cX11_element 176 = .ok (.iload_n 2, 1) := by decide +kernel
theorem dX11_element_177 : decode cX11_element 177 = .ok (.invokevirtual 103, 3) := by decide +kernel
theorem dX11_element_180 : decode cX11_element 180 = .ok (.ireturn, 1) := by decide +kernel
theorem dX11_isName_0 : decode cX11_isName 0 = .ok (.aload_n 0, 1) := by decide +kernel
theorem dX11_isName_1 : decode cX11_isName 1 = .ok (.getfield 47, 3) := by decide +kernel
theorem dX11_isName_4 : decode cX11_isName 4 = .ok (.iload_n 3, 1) := by decide +kernel
theorem dX11_isName_5 : decode cX11_isName 5 = .ok (.iconst 1, 1) := by decide +kernel
theorem dX11_isName_6 : decode cX11_isName 6 = .ok (.isub, 1) := by decide +kernel
theorem dX11_isName_7 : decode cX11_isName 7 = .ok (.iaload, 1) := by decide +kernel
theorem dX11_isName_8 : decode cX11_isName 8 = .ok (.iconst 1, 1) := by decide +kernel
theorem dX11_isName_9 : decode cX11_isName 9 = .ok (.if_icmp .ne 21, 3) := by decide +kernel
theorem dX11_isName_12 : decode cX11_isName 12 = .ok (.aload_n 0, 1) := by decide +kernel
theorem dX11_isName_13 : decode cX11_isName 13 = .ok (.getfield 26, 3) := by decide +kernel
theorem dX11_isName_16 : decode cX11_isName 16 = .ok (.iload_n 1, 1) := by decide +kernel
theorem dX11_isName_17 : decode cX11_isName 17 = .ok (.iload_n 2, 1) := by decide +kernel
theorem dX11_isName_18 : decode cX11_isName 18 = .ok (.aload_n 0, 1) := by decide +kernel
theorem dX11_isName_19 : decode cX11_isName 19 = .ok (.getfield 44, 3) := by decide +kernel
theorem dX11_isName_22 : decode cX11_isName 22 = .ok (.iload_n 3, 1) := by decide +kernel
theorem dX11_isName_23 : decode cX11_isName 23 = .ok (.iconst 1, 1) := by decide +kernel
theorem dX11_isName_24 : decode cX11_isName 24 = .ok (.isub, 1) := by decide +kernel
theorem dX11_isName_25 : decode cX11_isName 25 = .ok (.iaload, 1) := by decide +kernel
theorem dX11_isName_26 : decode cX11_isName 26 = .ok (.invokestatic 106, 3) := by decide +kernel
theorem dX11_isName_29 : decode cX11_isName 29 = .ok (.ireturn, 1) := by decide +kernel
theorem dX11_isName_30 : decode cX11_isName 30 = .ok (.iconst 1, 1) := by decide +kernel
theorem dX11_isName_31 : decode cX11_isName 31 = .ok (.istore 4, 2) := by decide +kernel
theorem dX11_isName_33 : decode cX11_isName 33 = .ok (.iload 4, 2) := by decide +kernel
theorem dX11_isName_35 : decode cX11_isName 35 = .ok (.aload_n 0, 1) := by decide +kernel
theorem dX11_isName_36 : decode cX11_isName 36 = .ok (.getfield 81, 3) := by decide +kernel
theorem dX11_isName_39 : decode cX11_isName 39 = .ok (.if_icmp .ge 122, 3) := by decide +kernel
theorem dX11_isName_42 : decode cX11_isName 42 = .ok (.aload_n 0, 1) := by decide +kernel
theorem dX11_isName_43 : decode cX11_isName 43 = .ok (.getfield 29, 3) := by decide +kernel
theorem dX11_isName_46 : decode cX11_isName 46 = .ok (.iload 4, 2) := by decide +kernel
theorem dX11_isName_48 : decode cX11_isName 48 = .ok (.iaload, 1) := by decide +kernel
theorem dX11_isName_49 : decode cX11_isName 49 = .ok (.aload_n 0, 1) := by decide +kernel
theorem dX11_isName_50 : decode cX11_isName 50 = .ok (.getfield 41, 3) := by decide +kernel
theorem dX11_isName_53 : decode cX11_isName 53 = .ok (.iload_n 3, 1) := by decide +kernel
theorem dX11_isName_54 : decode cX11_isName 54 = .ok (.iconst 1, 1) := by decide +kernel
theorem dX11_isName_55 : decode cX11_isName 55 = .ok (.isub, 1) := by decide +kernel
theorem dX11_isName_56 : decode cX11_isName 56 = .ok (.iaload, 1) := by decide +kernel
theorem dX11_isName_57 : decode cX11_isName 57 = .ok (.if_icmp .ne 30, 3) := by decide +kernel
theorem dX11_isName_60 : decode cX11_isName 60 = .ok (.aload_n 0, 1) := by decide +kernel
theorem dX11_isName_61 : decode cX11_isName 61 = .ok (.getfield 35, 3) := by decide +kernel
theorem dX11_isName_64 : decode cX11_isName 64 = .ok (.iload 4, 2) := by decide +kernel
theorem dX11_isName_66 : decode cX11_isName 66 = .ok (.iaload, 1) := by decide +kernel
theorem dX11_isName_67 : decode cX11_isName 67 = .ok (.aload_n 0, 1) := by decide +kernel
theorem dX11_isName_68 : decode cX11_isName 68 = .ok (.getfield 32, 3) := by decide +kernel
theorem dX11_isName_71 : decode cX11_isName 71 = .ok (.iload 4, 2) := by decide +kernel
theorem dX11_isName_73 : decode cX11_isName 73 = .ok (.iaload, 1) := by decide +kernel
theorem dX11_isName_74 : decode cX11_isName 74 = .ok (.isub, 1) := by decide +kernel
theorem dX11_isName_75 : decode cX11_isName 75 = .ok (.iconst 1, 1) := by decide +kernel
theorem dX11_isName_76 : decode cX11_isName 76 = .ok (.isub, 1) := by decide +kernel
theorem dX11_isName_77 : decode cX11_isName 77 = .ok (.iload_n 2, 1) := by decide +kernel
theorem dX11_isName_78 : decode cX11_isName 78 = .ok (.iload_n 1, 1) := by decide +kernel
theorem dX11_isName_79 : decode cX11_isName 79 = .ok (.isub, 1) := by decide +kernel
theorem dX11_isName_80 : decode cX11_isName 80 = .ok (.if_icmp .ne 7, 3) := by decide +kernel
theorem dX11_isName_83 : decode cX11_isName 83 = .ok (.iconst 1, 1) := by decide +kernel
theorem dX11_isName_84 : decode cX11_isName 84 = .ok (.goto 4, 3) := by decide +kernel
theorem dX11_isName_87 : decode cX11_isName 87 = .ok (.iconst 0, 1) := by decide +kernel
theorem dX11_isName_88 : decode cX11_isName 88 = .ok (.istore 5, 2) := by decide +kernel
theorem dX11_isName_90 : decode cX11_isName 90 = .ok (.iconst 0, 1) := by decide +kernel
theorem dX11_isName_91 : decode cX11_isName 91 = .ok (.istore 6, 2) := by decide +kernel
theorem dX11_isName_93 : decode cX11_isName 93 = .ok (.iload 6, 2) := by decide +kernel
theorem dX11_isName_95 : decode cX11_isName 95 = .ok (.iload_n 2, 1) := by decide +kernel
theorem dX11_isName_96 : decode cX11_isName 96 = .ok (.iload_n 1, 1) := by decide +kernel
theorem dX11_isName_97 : decode cX11_isName 97 = .ok (.isub, 1) := by decide +kernel
theorem dX11_isName_98 : decode cX11_isName 98 = .ok (.if_icmp .ge 50, 3) := by decide +kernel
theorem dX11_isName_101 : decode cX11_isName 101 = .ok (.iload 5, 2) := by decide +kernel
theorem dX11_isName_103 : decode cX11_isName 103 = .ok (.ifCond .eq 45, 3) := by decide +kernel
theorem dX11_isName_106 : decode cX11_isName 106 = .ok (.aload_n 0, 1) := by decide +kernel
theorem dX11_isName_107 : decode cX11_isName 107 = .ok (.getfield 26, 3) := by decide +kernel
theorem dX11_isName_110 : decode cX11_isName 110 = .ok (.aload_n 0, 1) := by decide +kernel
theorem dX11_isName_111 : decode cX11_isName 111 = .ok (.getfield 32, 3) := by decide +kernel
theorem dX11_isName_114 : decode cX11_isName 114 = .ok (.iload 4, 2) := by decide +kernel
theorem dX11_isName_116 : decode cX11_isName 116 = .ok (.iaload, 1) := by decide +kernel
theorem dX11_isName_117 : decode cX11_isName 117 = .ok (.iconst 1, 1) := by decide +kernel
theorem dX11_isName_118 : decode cX11_isName 118 = .ok (.iadd, 1) := by decide +kernel
theorem dX11_isName_119 : decode cX11_isName 119 = .ok (.iload 6, 2) := by decide +kernel
theorem dX11_isName_121 : decode cX11_isName 121 = .ok (.iadd, 1) := by decide +kernel
theorem dX11_isName_122 : decode cX11_isName 122 = .ok (.iaload, 1) := by decide +kernel
theorem dX11_isName_123 : decode cX11_isName 123 = .ok (.aload_n 0, 1) := by decide +kernel
theorem dX11_isName_124 : decode cX11_isName 124 = .ok (.getfield 26, 3) := by decide +kernel
theorem dX11_isName_127 : decode cX11_isName 127 = .ok (.iload_n 1, 1) := by decide +kernel
theorem dX11_isName_128 : decode cX11_isName 128 = .ok (.iload 6, 2) := by decide +kernel
theorem dX11_isName_130 : decode cX11_isName 130 = .ok (.iadd, 1) := by decide +kernel
theorem dX11_isName_131 : decode cX11_isName 131 = .ok (.iaload, 1) := by decide +kernel
theorem dX11_isName_132 : decode cX11_isName 132 = .ok (.if_icmp .ne 7, 3) := by decide +kernel
theorem dX11_isName_135 : decode cX11_isName 135 = .ok (.iconst 1, 1) := by decide +kernel
theorem dX11_isName_136 : decode cX11_isName 136 = .ok (.goto 4, 3) := by decide +kernel
theorem dX11_isName_139 : decode cX11_isName 139 = .ok (.iconst 0, 1) := by decide +kernel
theorem dX11_isName_140 : decode cX11_isName 140 = .ok (.istore 5, 2) := by decide +kernel
theorem dX11_isName_142 : decode cX11_isName 142 = .ok (.iinc 6 1, 3) := by decide +kernel
theorem dX11_isName_145 : decode cX11_isName 145 = .ok (.goto (-52), 3) := by decide +kernel
theorem dX11_isName_148 : decode cX11_isName 148 = .ok (.iload 5, 2) := by decide +kernel
theorem dX11_isName_150 : decode cX11_isName 150 = .ok (.ifCond .eq 5, 3) := by decide +kernel
theorem dX11_isName_153 : decode cX11_isName 153 = .ok (.iconst 0, 1) := by decide +kernel
theorem dX11_isName_154 : decode cX11_isName 154 = .ok (.ireturn, 1) := by decide +kernel
theorem dX11_isName_155 : decode cX11_isName 155 = .ok (.iinc 4 1, 3) := by decide +kernel
theorem dX11_isName_158 : decode cX11_isName 158 = .ok (.goto (-125), 3) := by decide +kernel
theorem dX11_isName_161 : decode cX11_isName 161 = .ok (.iconst 1, 1) := by decide +kernel
theorem dX11_isName_162 : decode cX11_isName 162 = .ok (.ireturn, 1) := by decide +kernel
theorem dX11_digits_0 : decode cX11_digits 0 = .ok (.iload_n 0, 1) := by decide +kernel
theorem dX11_digits_1 : decode cX11_digits 1 = .ok (.sipush 999, 3) := by decide +kernel
theorem dX11_digits_4 : decode cX11_digits 4 = .ok (.if_icmp .le 7, 3) := by decide +kernel
theorem dX11_digits_7 : decode cX11_digits 7 = .ok (.iconst 4, 1) := by decide +kernel
theorem dX11_digits_8 : decode cX11_digits 8 = .ok (.goto 24, 3) := by decide +kernel
theorem dX11_digits_11 : decode cX11_digits 11 = .ok (.iload_n 0, 1) := by decide +kernel
theorem dX11_digits_12 : decode cX11_digits 12 = .ok (.bipush 99, 2) := by decide +kernel
theorem dX11_digits_14 : decode cX11_digits 14 = .ok (.if_icmp .le 7, 3) := by decide +kernel
theorem dX11_digits_17 : decode cX11_digits 17 = .ok (.iconst 3, 1) := by decide +kernel
theorem dX11_digits_18 : decode cX11_digits 18 = .ok (.goto 14, 3) := by decide +kernel
theorem dX11_digits_21 : decode cX11_digits 21 = .ok (.iload_n 0, 1) := by decide +kernel
theorem dX11_digits_22 : decode cX11_digits 22 = .ok (.bipush 9, 2) := by decide +kernel
theorem dX11_digits_24 : decode cX11_digits 24 = .ok (.if_icmp .le 7, 3) := by decide +kernel
theorem dX11_digits_27 : decode cX11_digits 27 = .ok (.iconst 2, 1) := by decide +kernel
theorem dX11_digits_28 : decode cX11_digits 28 = .ok (.goto 4, 3) := by decide +kernel
theorem dX11_digits_31 : decode cX11_digits 31 = .ok (.iconst 1, 1) := by decide +kernel
theorem dX11_digits_32 : decode cX11_digits 32 = .ok (.ireturn, 1) := by decide +kernel
theorem dX11_digit_0 : decode cX11_digit 0 = .ok (.iload_n 0, 1) := by decide +kernel
theorem dX11_digit_1 : decode cX11_digit 1 = .ok (.istore_n 2, 1) := by decide +kernel
theorem dX11_digit_2 : decode cX11_digit 2 = .ok (.iload_n 0, 1) := by decide +kernel
theorem dX11_digit_3 : decode cX11_digit 3 = .ok (.invokestatic 110, 3) := by decide +kernel
theorem dX11_digit_6 : decode cX11_digit 6 = .ok (.iconst 1, 1) := by decide +kernel
theorem dX11_digit_7 : decode cX11_digit 7 = .ok (.isub, 1) := by decide +kernel
theorem dX11_digit_8 : decode cX11_digit 8 = .ok (.istore_n 3, 1) := by decide +kernel
theorem dX11_digit_9 : decode cX11_digit 9 = .ok (.iload_n 3, 1) := by decide +kernel
theorem dX11_digit_10 : decode cX11_digit 10 = .ok (.iload_n 1, 1) := by decide +kernel
theorem dX11_digit_11 : decode cX11_digit 11 = .ok (.if_icmp .le 14, 3) := by decide +kernel
theorem dX11_digit_14 : decode cX11_digit 14 = .ok (.iload_n 2, 1) := by decide +kernel
theorem dX11_digit_15 : decode cX11_digit 15 = .ok (.bipush 10, 2) := by decide +kernel
theorem dX11_digit_17 : decode cX11_digit 17 = .ok (.idiv, 1) := by decide +kernel
theorem dX11_digit_18 : decode cX11_digit 18 = .ok (.istore_n 2, 1) := by decide +kernel
theorem dX11_digit_19 : decode cX11_digit 19 = .ok (.iinc 3 (-1), 3) := by decide +kernel
theorem dX11_digit_22 : decode cX11_digit 22 = .ok (.goto (-13), 3) := by decide +kernel
theorem dX11_digit_25 : decode cX11_digit 25 = .ok (.bipush 48, 2) := by decide +kernel
theorem dX11_digit_27 : decode cX11_digit 27 = .ok (.iload_n 2, 1) := by decide +kernel
theorem dX11_digit_28 : decode cX11_digit 28 = .ok (.bipush 10, 2) := by decide +kernel
theorem dX11_digit_30 : decode cX11_digit 30 = .ok (.irem, 1) := by decide +kernel
theorem dX11_digit_31 : decode cX11_digit 31 = .ok (.iadd, 1) := by decide +kernel
theorem dX11_digit_32 : decode cX11_digit 32 = .ok (.ireturn, 1) := by decide +kernel
theorem dX11_isNumber_0 : decode cX11_isNumber 0 = .ok (.iload_n 2, 1) := by decide +kernel
theorem dX11_isNumber_1 : decode cX11_isNumber 1 = .ok (.iload_n 1, 1) := by decide +kernel
theorem dX11_isNumber_2 : decode cX11_isNumber 2 = .ok (.isub, 1) := by decide +kernel
theorem dX11_isNumber_3 : decode cX11_isNumber 3 = .ok (.iload_n 3, 1) := by decide +kernel
theorem dX11_isNumber_4 : decode cX11_isNumber 4 = .ok (.invokestatic 110, 3) := by decide +kernel
theorem dX11_isNumber_7 : decode cX11_isNumber 7 = .ok (.if_icmp .eq 5, 3) := by decide +kernel
theorem dX11_isNumber_10 : decode cX11_isNumber 10 = .ok (.iconst 0, 1) := by decide +kernel
theorem dX11_isNumber_11 : decode cX11_isNumber 11 = .ok (.ireturn, 1) := by decide +kernel
theorem dX11_isNumber_12 : decode cX11_isNumber 12 = .ok (.iconst 0, 1) := by decide +kernel
theorem dX11_isNumber_13 : decode cX11_isNumber 13 = .ok (.istore 4, 2) := by decide +kernel
theorem dX11_isNumber_15 : decode cX11_isNumber 15 = .ok (.iload 4, 2) := by decide +kernel
theorem dX11_isNumber_17 : decode cX11_isNumber 17 = .ok (.iload_n 2, 1) := by decide +kernel
theorem dX11_isNumber_18 : decode cX11_isNumber 18 = .ok (.iload_n 1, 1) := by decide +kernel
theorem dX11_isNumber_19 : decode cX11_isNumber 19 = .ok (.isub, 1) := by decide +kernel
theorem dX11_isNumber_20 : decode cX11_isNumber 20 = .ok (.if_icmp .ge 26, 3) := by decide +kernel
theorem dX11_isNumber_23 : decode cX11_isNumber 23 = .ok (.aload_n 0, 1) := by decide +kernel
theorem dX11_isNumber_24 : decode cX11_isNumber 24 = .ok (.iload_n 1, 1) := by decide +kernel
theorem dX11_isNumber_25 : decode cX11_isNumber 25 = .ok (.iload 4, 2) := by decide +kernel
theorem dX11_isNumber_27 : decode cX11_isNumber 27 = .ok (.iadd, 1) := by decide +kernel
theorem dX11_isNumber_28 : decode cX11_isNumber 28 = .ok (.iaload, 1) := by decide +kernel
theorem dX11_isNumber_29 : decode cX11_isNumber 29 = .ok (.iload_n 3, 1) := by decide +kernel
theorem dX11_isNumber_30 : decode cX11_isNumber 30 = .ok (.iload 4, 2) := by decide +kernel
theorem dX11_isNumber_32 : decode cX11_isNumber 32 = .ok (.invokestatic 114, 3) := by decide +kernel
theorem dX11_isNumber_35 : decode cX11_isNumber 35 = .ok (.if_icmp .eq 5, 3) := by decide +kernel
theorem dX11_isNumber_38 : decode cX11_isNumber 38 = .ok (.iconst 0, 1) := by decide +kernel
theorem dX11_isNumber_39 : decode cX11_isNumber 39 = .ok (.ireturn, 1) := by decide +kernel
theorem dX11_isNumber_40 : decode cX11_isNumber 40 = .ok (.iinc 4 1, 3) := by decide +kernel
theorem dX11_isNumber_43 : decode cX11_isNumber 43 = .ok (.goto (-28), 3) := by decide +kernel
theorem dX11_isNumber_46 : decode cX11_isNumber 46 = .ok (.iconst 1, 1) := by decide +kernel
theorem dX11_isNumber_47 : decode cX11_isNumber 47 = .ok (.ireturn, 1) := by decide +kernel
theorem dX11_value_0 : decode cX11_value 0 = .ok (.iload_n 3, 1) := by decide +kernel
theorem dX11_value_1 : decode cX11_value 1 = .ok (.iload_n 2, 1) := by decide +kernel
theorem dX11_value_2 : decode cX11_value 2 = .ok (.isub, 1) := by decide +kernel
theorem dX11_value_3 : decode cX11_value 3 = .ok (.istore 4, 2) := by decide +kernel
theorem dX11_value_5 : decode cX11_value 5 = .ok (.iload_n 1, 1) := by decide +kernel
theorem dX11_value_6 : decode cX11_value 6 = .ok (.bipush 16, 2) := by decide +kernel
theorem dX11_value_8 : decode cX11_value 8 = .ok (.if_icmp .eq 15, 3) := by decide +kernel
theorem dX11_value_11 : decode cX11_value 11 = .ok (.iload_n 1, 1) := by decide +kernel
theorem dX11_value_12 : decode cX11_value 12 = .ok (.bipush 18, 2) := by decide +kernel
theorem dX11_value_14 : decode cX11_value 14 = .ok (.if_icmp .eq 9, 3) := by decide +kernel
theorem dX11_value_17 : decode cX11_value 17 = .ok (.iload_n 1, 1) := by decide +kernel
theorem dX11_value_18 : decode cX11_value 18 = .ok (.bipush 8, 2) := by decide +kernel
theorem dX11_value_20 : decode cX11_value 20 = .ok (.if_icmp .ne 70, 3) := by decide +kernel
theorem dX11_value_23 : decode cX11_value 23 = .ok (.iload_n 1, 1) := by decide +kernel
theorem dX11_value_24 : decode cX11_value 24 = .ok (.bipush 16, 2) := by decide +kernel
theorem dX11_value_26 : decode cX11_value 26 = .ok (.if_icmp .ne 7, 3) := by decide +kernel
theorem dX11_value_29 : decode cX11_value 29 = .ok (.iconst 4, 1) := by decide +kernel
theorem dX11_value_30 : decode cX11_value 30 = .ok (.goto 15, 3) := by decide +kernel
theorem dX11_value_33 : decode cX11_value 33 = .ok (.iload_n 1, 1) := by decide +kernel
theorem dX11_value_34 : decode cX11_value 34 = .ok (.bipush 18, 2) := by decide +kernel
theorem dX11_value_36 : decode cX11_value 36 = .ok (.if_icmp .ne 8, 3) := by decide +kernel
theorem dX11_value_39 : decode cX11_value 39 = .ok (.bipush 8, 2) := by decide +kernel
theorem dX11_value_41 : decode cX11_value 41 = .ok (.goto 4, 3) := by decide +kernel
theorem dX11_value_44 : decode cX11_value 44 = .ok (.iconst 1, 1) := by decide +kernel
theorem dX11_value_45 : decode cX11_value 45 = .ok (.istore 5, 2) := by decide +kernel
theorem dX11_value_47 : decode cX11_value 47 = .ok (.iload 4, 2) := by decide +kernel
theorem dX11_value_49 : decode cX11_value 49 = .ok (.iload 5, 2) := by decide +kernel
theorem dX11_value_51 : decode cX11_value 51 = .ok (.if_icmp .ge 12, 3) := by decide +kernel
theorem dX11_value_54 : decode cX11_value 54 = .ok (.aload_n 0, 1) := by decide +kernel
theorem dX11_value_55 : decode cX11_value 55 = .ok (.iconst 1, 1) := by decide +kernel
theorem dX11_value_56 : decode cX11_value 56 = .ok (.iload_n 2, 1) := by decide +kernel
theorem dX11_value_57 : decode cX11_value 57 = .ok (.invokevirtual 71, 3) := by decide +kernel
theorem dX11_value_60 : decode cX11_value 60 = .ok (.goto 25, 3) := by decide +kernel
theorem dX11_value_63 : decode cX11_value 63 = .ok (.iload_n 1, 1) := by decide +kernel
theorem dX11_value_64 : decode cX11_value 64 = .ok (.bipush 8, 2) := by decide +kernel
theorem dX11_value_66 : decode cX11_value 66 = .ok (.if_icmp .ne 19, 3) := by decide +kernel
theorem dX11_value_69 : decode cX11_value 69 = .ok (.aload_n 0, 1) := by decide +kernel
theorem dX11_value_70 : decode cX11_value 70 = .ok (.getfield 26, 3) := by decide +kernel
theorem dX11_value_73 : decode cX11_value 73 = .ok (.iload_n 2, 1) := by decide +kernel
theorem dX11_value_74 : decode cX11_value 74 = .ok (.iaload, 1) := by decide +kernel
theorem dX11_value_75 : decode cX11_value 75 = .ok (.iconst 1, 1) := by decide +kernel
theorem dX11_value_76 : decode cX11_value 76 = .ok (.if_icmp .le 9, 3) := by decide +kernel
theorem dX11_value_79 : decode cX11_value 79 = .ok (.aload_n 0, 1) := by decide +kernel
theorem dX11_value_80 : decode cX11_value 80 = .ok (.iconst 5, 1) := by decide +kernel
theorem dX11_value_81 : decode cX11_value 81 = .ok (.iload_n 2, 1) := by decide +kernel
theorem dX11_value_82 : decode cX11_value 82 = .ok (.invokevirtual 71, 3) := by decide +kernel
theorem dX11_value_85 : decode cX11_value 85 = .ok (.iload_n 2, 1) := by decide +kernel
theorem dX11_value_86 : decode cX11_value 86 = .ok (.iload 5, 2) := by decide +kernel
theorem dX11_value_88 : decode cX11_value 88 = .ok (.iadd, 1) := by decide +kernel
theorem dX11_value_89 : decode cX11_value 89 = .ok (.ireturn, 1) := by decide +kernel
theorem dX11_value_90 : decode cX11_value 90 = .ok (.iload_n 1, 1) := by decide +kernel
theorem dX11_value_91 : decode cX11_value 91 = .ok (.iconst 2, 1) := by decide +kernel
theorem dX11_value_92 : decode cX11_value 92 = .ok (.if_icmp .ne 12, 3) := by decide +kernel
theorem dX11_value_95 : decode cX11_value 95 = .ok (.aload_n 0, 1) := by decide +kernel
theorem dX11_value_96 : decode cX11_value 96 = .ok (.iload_n 2, 1) := by decide +kernel
theorem dX11_value_97 : decode cX11_value 97 = .ok (.iload_n 3, 1) := by decide +kernel
theorem dX11_value_98 : decode cX11_value 98 = .ok (.invokevirtual 118, 3) := by decide +kernel
theorem dX11_value_101 : decode cX11_value 101 = .ok (.goto 4, 3) := by decide +kernel
theorem dX11_value_104 : decode cX11_value 104 = .ok (.iload_n 2, 1) := by decide +kernel
theorem dX11_value_105 : decode cX11_value 105 = .ok (.ireturn, 1) := by decide +kernel
theorem dX11_text_0 : decode cX11_text 0 = .ok (.iload_n 2, 1) := by decide +kernel
theorem dX11_text_1 : decode cX11_text 1 = .ok (.iload_n 1, 1) := by decide +kernel
theorem dX11_text_2 : decode cX11_text 2 = .ok (.isub, 1) := by decide +kernel
theorem dX11_text_3 : decode cX11_text 3 = .ok (.istore_n 3, 1) := by decide +kernel
theorem dX11_text_4 : decode cX11_text 4 = .ok (.iload_n 3, 1) := by decide +kernel
theorem dX11_text_5 : decode cX11_text 5 = .ok (.iconst 4, 1) := by decide +kernel
theorem dX11_text_6 : decode cX11_text 6 = .ok (.if_icmp .ge 11, 3) := by decide +kernel
theorem dX11_text_9 : decode cX11_text 9 = .ok (.aload_n 0, 1) := by decide +kernel
theorem dX11_text_10 : decode cX11_text 10 = .ok (.iconst 1, 1) := by decide +kernel
theorem dX11_text_11 : decode cX11_text 11 = .ok (.iload_n 1, 1) := by decide +kernel
theorem dX11_text_12 : decode cX11_text 12 = .ok (.invokevirtual 71, 3) := by decide +kernel
theorem dX11_text_15 : decode cX11_text 15 = .ok (.iload_n 1, 1) := by decide +kernel
theorem dX11_text_16 : decode cX11_text 16 = .ok (.ireturn, 1) := by decide +kernel
theorem dX11_text_17 : decode cX11_text 17 = .ok (.aload_n 0, 1) := by decide +kernel
theorem dX11_text_18 : decode cX11_text 18 = .ok (.iload_n 1, 1) := by decide +kernel
theorem dX11_text_19 : decode cX11_text 19 = .ok (.iconst 4, 1) := by decide +kernel
theorem dX11_text_20 : decode cX11_text 20 = .ok (.invokevirtual 75, 3) := by decide +kernel
theorem dX11_text_23 : decode cX11_text 23 = .ok (.lstore 4, 2) := by decide +kernel
theorem dX11_text_25 : decode cX11_text 25 = .ok (.lload 4, 2) := by decide +kernel
theorem dX11_text_27 : decode cX11_text 27 = .ok (.lconst 1, 1) := by decide +kernel
theorem dX11_text_28 : decode cX11_text 28 = .ok (.lcmp, 1) := by decide +kernel
theorem dX11_text_29 : decode cX11_text 29 = .ok (.ifCond .ge 13, 3) := by decide +kernel
theorem dX11_text_32 : decode cX11_text 32 = .ok (.aload_n 0, 1) := by decide +kernel
theorem dX11_text_33 : decode cX11_text 33 = .ok (.bipush 6, 2) := by decide +kernel
theorem dX11_text_35 : decode cX11_text 35 = .ok (.iload_n 1, 1) := by decide +kernel
theorem dX11_text_36 : decode cX11_text 36 = .ok (.invokevirtual 71, 3) := by decide +kernel
theorem dX11_text_39 : decode cX11_text 39 = .ok (.goto 19, 3) := by decide +kernel
theorem dX11_text_42 : decode cX11_text 42 = .ok (.lload 4, 2) := by decide +kernel
theorem dX11_text_44 : decode cX11_text 44 = .ok (.iload_n 3, 1) := by decide +kernel
theorem dX11_text_45 : decode cX11_text 45 = .ok (.iconst 4, 1) := by decide +kernel
theorem dX11_text_46 : decode cX11_text 46 = .ok (.isub, 1) := by decide +kernel
theorem dX11_text_47 : decode cX11_text 47 = .ok (.i2l, 1) := by decide +kernel
theorem dX11_text_48 : decode cX11_text 48 = .ok (.lcmp, 1) := by decide +kernel
theorem dX11_text_49 : decode cX11_text 49 = .ok (.ifCond .le 9, 3) := by decide +kernel
theorem dX11_text_52 : decode cX11_text 52 = .ok (.aload_n 0, 1) := by decide +kernel
theorem dX11_text_53 : decode cX11_text 53 = .ok (.iconst 1, 1) := by decide +kernel
theorem dX11_text_54 : decode cX11_text 54 = .ok (.iload_n 1, 1) := by decide +kernel
theorem dX11_text_55 : decode cX11_text 55 = .ok (.invokevirtual 71, 3) := by decide +kernel
theorem dX11_text_58 : decode cX11_text 58 = .ok (.aload_n 0, 1) := by decide +kernel
theorem dX11_text_59 : decode cX11_text 59 = .ok (.getfield 68, 3) := by decide +kernel
theorem dX11_text_62 : decode cX11_text 62 = .ok (.ifCond .eq 5, 3) := by decide +kernel
theorem dX11_text_65 : decode cX11_text 65 = .ok (.iload_n 1, 1) := by decide +kernel
theorem dX11_text_66 : decode cX11_text 66 = .ok (.ireturn, 1) := by decide +kernel
theorem dX11_text_67 : decode cX11_text 67 = .ok (.iload_n 1, 1) := by decide +kernel
theorem dX11_text_68 : decode cX11_text 68 = .ok (.iconst 4, 1) := by decide +kernel
theorem dX11_text_69 : decode cX11_text 69 = .ok (.iadd, 1) := by decide +kernel
theorem dX11_text_70 : decode cX11_text 70 = .ok (.lload 4, 2) := by decide +kernel
theorem dX11_text_72 : decode cX11_text 72 = .ok (.l2i, 1) := by decide +kernel
theorem dX11_text_73 : decode cX11_text 73 = .ok (.iadd, 1) := by decide +kernel
theorem dX11_text_74 : decode cX11_text 74 = .ok (.istore 6, 2) := by decide +kernel
theorem dX11_text_76 : decode cX11_text 76 = .ok (.aload_n 0, 1) := by decide +kernel
theorem dX11_text_77 : decode cX11_text 77 = .ok (.getfield 26, 3) := by decide +kernel
theorem dX11_text_80 : decode cX11_text 80 = .ok (.iload 6, 2) := by decide +kernel
theorem dX11_text_82 : decode cX11_text 82 = .ok (.iconst 1, 1) := by decide +kernel
theorem dX11_text_83 : decode cX11_text 83 = .ok (.isub, 1) := by decide +kernel
theorem dX11_text_84 : decode cX11_text 84 = .ok (.iaload, 1) := by decide +kernel
theorem dX11_text_85 : decode cX11_text 85 = .ok (.ifCond .eq 13, 3) := by decide +kernel
theorem dX11_text_88 : decode cX11_text 88 = .ok (.aload_n 0, 1) := by decide +kernel
theorem dX11_text_89 : decode cX11_text 89 = .ok (.bipush 6, 2) := by decide +kernel
theorem dX11_text_91 : decode cX11_text 91 = .ok (.iload 6, 2) := by decide +kernel
theorem dX11_text_93 : decode cX11_text 93 = .ok (.iconst 1, 1) := by decide +kernel
theorem dX11_text_94 : decode cX11_text 94 = .ok (.isub, 1) := by decide +kernel
theorem dX11_text_95 : decode cX11_text 95 = .ok (.invokevirtual 71, 3) := by decide +kernel
theorem dX11_text_98 : decode cX11_text 98 = .ok (.aload_n 0, 1) := by decide +kernel
theorem dX11_text_99 : decode cX11_text 99 = .ok (.getfield 26, 3) := by decide +kernel
theorem dX11_text_102 : decode cX11_text 102 = .ok (.iload_n 1, 1) := by decide +kernel
theorem dX11_text_103 : decode cX11_text 103 = .ok (.iconst 4, 1) := by decide +kernel
theorem dX11_text_104 : decode cX11_text 104 = .ok (.iadd, 1) := by decide +kernel
theorem dX11_text_105 : decode cX11_text 105 = .ok (.iload 6, 2) := by decide +kernel
theorem dX11_text_107 : decode cX11_text 107 = .ok (.iconst 1, 1) := by decide +kernel
theorem dX11_text_108 : decode cX11_text 108 = .ok (.isub, 1) := by decide +kernel
theorem dX11_text_109 : decode cX11_text 109 = .ok (.invokestatic 96, 3) := by decide +kernel
theorem dX11_text_112 : decode cX11_text 112 = .ok (.istore 7, 2) := by decide +kernel
theorem dX11_text_114 : decode cX11_text 114 = .ok (.iload 7, 2) := by decide +kernel
theorem dX11_text_116 : decode cX11_text 116 = .ok (.ifCond .lt 10, 3) := by decide +kernel
theorem dX11_text_119 : decode cX11_text 119 = .ok (.aload_n 0, 1) := by decide +kernel
theorem dX11_text_120 : decode cX11_text 120 = .ok (.iconst 4, 1) := by decide +kernel
theorem dX11_text_121 : decode cX11_text 121 = .ok (.iload 7, 2) := by decide +kernel
theorem dX11_text_123 : decode cX11_text 123 = .ok (.invokevirtual 71, 3) := by decide +kernel
theorem dX11_text_126 : decode cX11_text 126 = .ok (.iload 6, 2) := by decide +kernel
theorem dX11_text_128 : decode cX11_text 128 = .ok (.ireturn, 1) := by decide +kernel
theorem dX11_isDocument_0 : decode cX11_isDocument 0 = .ok (.iconst 0, 1) := by decide +kernel
theorem dX11_isDocument_1 : decode cX11_isDocument 1 = .ok (.istore_n 2, 1) := by decide +kernel
theorem dX11_isDocument_2 : decode cX11_isDocument 2 = .ok (.iload_n 2, 1) := by decide +kernel
theorem dX11_isDocument_3 : decode cX11_isDocument 3 = .ok (.iload_n 1, 1) := by decide +kernel
theorem dX11_isDocument_4 : decode cX11_isDocument 4 = .ok (.if_icmp .ge 25, 3) := by decide +kernel
theorem dX11_isDocument_7 : decode cX11_isDocument 7 = .ok (.aload_n 0, 1) := by decide +kernel
theorem dX11_isDocument_8 : decode cX11_isDocument 8 = .ok (.getfield 26, 3) := by decide +kernel
theorem dX11_isDocument_11 : decode cX11_isDocument 11 = .ok (.iload_n 2, 1) := by decide +kernel
theorem dX11_isDocument_12 : decode cX11_isDocument 12 = .ok (.aload_n 0, 1) := by decide +kernel
theorem dX11_isDocument_13 : decode cX11_isDocument 13 = .ok (.getfield 7, 3) := by decide +kernel
theorem dX11_isDocument_16 : decode cX11_isDocument 16 = .ok (.sipush 16000, 3) := by decide +kernel
theorem dX11_isDocument_19 : decode cX11_isDocument 19 = .ok (.iload_n 2, 1) := by decide +kernel
theorem dX11_isDocument_20 : decode cX11_isDocument 20 = .ok (.iadd, 1) := by decide +kernel
theorem dX11_isDocument_21 : decode cX11_isDocument 21 = .ok (.iaload, 1) := by decide +kernel
theorem dX11_isDocument_22 : decode cX11_isDocument 22 = .ok (.iastore, 1) := by decide +kernel
theorem dX11_isDocument_23 : decode cX11_isDocument 23 = .ok (.iinc 2 1, 3) := by decide +kernel
theorem dX11_isDocument_26 : decode cX11_isDocument 26 = .ok (.goto (-24), 3) := by decide +kernel
theorem dX11_isDocument_29 : decode cX11_isDocument 29 = .ok (.aload_n 0, 1) := by decide +kernel
theorem dX11_isDocument_30 : decode cX11_isDocument 30 = .ok (.iload_n 1, 1) := by decide +kernel
theorem dX11_isDocument_31 : decode cX11_isDocument 31 = .ok (.invokevirtual 121, 3) := by decide +kernel
theorem dX11_isDocument_34 : decode cX11_isDocument 34 = .ok (.aload_n 0, 1) := by decide +kernel
theorem dX11_isDocument_35 : decode cX11_isDocument 35 = .ok (.getfield 68, 3) := by decide +kernel
theorem dX11_isDocument_38 : decode cX11_isDocument 38 = .ok (.ifCond .ne 7, 3) := by decide +kernel
theorem dX11_isDocument_41 : decode cX11_isDocument 41 = .ok (.iconst 1, 1) := by decide +kernel
theorem dX11_isDocument_42 : decode cX11_isDocument 42 = .ok (.goto 4, 3) := by decide +kernel
theorem dX11_isDocument_45 : decode cX11_isDocument 45 = .ok (.iconst 0, 1) := by decide +kernel
theorem dX11_isDocument_46 : decode cX11_isDocument 46 = .ok (.ireturn, 1) := by decide +kernel
theorem dX11_whole_0 : decode cX11_whole 0 = .ok (.aload_n 0, 1) := by decide +kernel
theorem dX11_whole_1 : decode cX11_whole 1 = .ok (.getfield 7, 3) := by decide +kernel
theorem dX11_whole_4 : decode cX11_whole 4 = .ok (.iload_n 1, 1) := by decide +kernel
theorem dX11_whole_5 : decode cX11_whole 5 = .ok (.iaload, 1) := by decide +kernel
theorem dX11_whole_6 : decode cX11_whole 6 = .ok (.sipush 256, 3) := by decide +kernel
theorem dX11_whole_9 : decode cX11_whole 9 = .ok (.aload_n 0, 1) := by decide +kernel
theorem dX11_whole_10 : decode cX11_whole 10 = .ok (.getfield 7, 3) := by decide +kernel
theorem dX11_whole_13 : decode cX11_whole 13 = .ok (.iload_n 1, 1) := by decide +kernel
theorem dX11_whole_14 : decode cX11_whole 14 = .ok (.iconst 1, 1) := by decide +kernel
theorem dX11_whole_15 : decode cX11_whole 15 = .ok (.iadd, 1) := by decide +kernel
theorem dX11_whole_16 : decode cX11_whole 16 = .ok (.iaload, 1) := by decide +kernel
theorem dX11_whole_17 : decode cX11_whole 17 = .ok (.imul, 1) := by decide +kernel
theorem dX11_whole_18 : decode cX11_whole 18 = .ok (.iadd, 1) := by decide +kernel
theorem dX11_whole_19 : decode cX11_whole 19 = .ok (.ldc 60, 2) := by decide +kernel
theorem dX11_whole_21 : decode cX11_whole 21 = .ok (.aload_n 0, 1) := by decide +kernel
theorem dX11_whole_22 : decode cX11_whole 22 = .ok (.getfield 7, 3) := by decide +kernel
theorem dX11_whole_25 : decode cX11_whole 25 = .ok (.iload_n 1, 1) := by decide +kernel
theorem dX11_whole_26 : decode cX11_whole 26 = .ok (.iconst 2, 1) := by decide +kernel
theorem dX11_whole_27 : decode cX11_whole 27 = .ok (.iadd, 1) := by decide +kernel
theorem dX11_whole_28 : decode cX11_whole 28 = .ok (.iaload, 1) := by decide +kernel
theorem dX11_whole_29 : decode cX11_whole 29 = .ok (.imul, 1) := by decide +kernel
theorem dX11_whole_30 : decode cX11_whole 30 = .ok (.iadd, 1) := by decide +kernel
theorem dX11_whole_31 : decode cX11_whole 31 = .ok (.ldc 124, 2) := by decide +kernel
theorem dX11_whole_33 : decode cX11_whole 33 = .ok (.aload_n 0, 1) := by decide +kernel
theorem dX11_whole_34 : decode cX11_whole 34 = .ok (.getfield 7, 3) := by decide +kernel
theorem dX11_whole_37 : decode cX11_whole 37 = .ok (.iload_n 1, 1) := by decide +kernel
theorem dX11_whole_38 : decode cX11_whole 38 = .ok (.iconst 3, 1) := by decide +kernel
theorem dX11_whole_39 : decode cX11_whole 39 = .ok (.iadd, 1) := by decide +kernel
theorem dX11_whole_40 : decode cX11_whole 40 = .ok (.iaload, 1) := by decide +kernel
theorem dX11_whole_41 : decode cX11_whole 41 = .ok (.imul, 1) := by decide +kernel
theorem dX11_whole_42 : decode cX11_whole 42 = .ok (.iadd, 1) := by decide +kernel
theorem dX11_whole_43 : decode cX11_whole 43 = .ok (.ireturn, 1) := by decide +kernel
theorem dX11_nameEndOf_0 : decode cX11_nameEndOf 0 = .ok (.iload_n 1, 1) := by decide +kernel
theorem dX11_nameEndOf_1 : decode cX11_nameEndOf 1 = .ok (.iconst 1, 1) := by decide +kernel
theorem dX11_nameEndOf_2 : decode cX11_nameEndOf 2 = .ok (.iadd, 1) := by decide +kernel
theorem dX11_nameEndOf_3 : decode cX11_nameEndOf 3 = .ok (.istore_n 2, 1) := by decide +kernel
theorem dX11_nameEndOf_4 : decode cX11_nameEndOf 4 = .ok (.aload_n 0, 1) := by decide +kernel
theorem dX11_nameEndOf_5 : decode cX11_nameEndOf 5 = .ok (.getfield 7, 3) := by decide +kernel
theorem dX11_nameEndOf_8 : decode cX11_nameEndOf 8 = .ok (.iload_n 2, 1) := by decide +kernel
theorem dX11_nameEndOf_9 : decode cX11_nameEndOf 9 = .ok (.iaload, 1) := by decide +kernel
theorem dX11_nameEndOf_10 : decode cX11_nameEndOf 10 = .ok (.ifCond .eq 9, 3) := by decide +kernel
theorem dX11_nameEndOf_13 : decode cX11_nameEndOf 13 = .ok (.iinc 2 1, 3) := by decide +kernel
theorem dX11_nameEndOf_16 : decode cX11_nameEndOf 16 = .ok (.goto (-12), 3) := by decide +kernel
theorem dX11_nameEndOf_19 : decode cX11_nameEndOf 19 = .ok (.iload_n 2, 1) := by decide +kernel
theorem dX11_nameEndOf_20 : decode cX11_nameEndOf 20 = .ok (.ireturn, 1) := by decide +kernel
theorem dX11_valueOf_0 : decode cX11_valueOf 0 = .ok (.aload_n 0, 1) := by decide +kernel
theorem dX11_valueOf_1 : decode cX11_valueOf 1 = .ok (.iload_n 1, 1) := by decide +kernel
theorem dX11_valueOf_2 : decode cX11_valueOf 2 = .ok (.invokevirtual 125, 3) := by decide +kernel
theorem dX11_valueOf_5 : decode cX11_valueOf 5 = .ok (.iconst 1, 1) := by decide +kernel
theorem dX11_valueOf_6 : decode cX11_valueOf 6 = .ok (.iadd, 1) := by decide +kernel
theorem dX11_valueOf_7 : decode cX11_valueOf 7 = .ok (.ireturn, 1) := by decide +kernel
theorem dX11_lengthOf_0 : decode cX11_lengthOf 0 = .ok (.iload_n 1, 1) := by decide +kernel
theorem dX11_lengthOf_1 : decode cX11_lengthOf 1 = .ok (.tableswitch 104 2 18 #[90, 98, 98, 104, 104, 104, 88, 104, 104, 104, 104, 104, 104, 104, 83, 104, 85], 83) := by decide +kernel
theorem dX11_lengthOf_84 : decode cX11_lengthOf 84 = .ok (.iconst 4, 1) := by decide +kernel
theorem dX11_lengthOf_85 : decode cX11_lengthOf 85 = .ok (.ireturn, 1) := by decide +kernel
theorem dX11_lengthOf_86 : decode cX11_lengthOf 86 = .ok (.bipush 8, 2) := by decide +kernel
theorem dX11_lengthOf_88 : decode cX11_lengthOf 88 = .ok (.ireturn, 1) := by decide +kernel
theorem dX11_lengthOf_89 : decode cX11_lengthOf 89 = .ok (.iconst 1, 1) := by decide +kernel
theorem dX11_lengthOf_90 : decode cX11_lengthOf 90 = .ok (.ireturn, 1) := by decide +kernel
theorem dX11_lengthOf_91 : decode cX11_lengthOf 91 = .ok (.iconst 4, 1) := by decide +kernel
theorem dX11_lengthOf_92 : decode cX11_lengthOf 92 = .ok (.aload_n 0, 1) := by decide +kernel
theorem dX11_lengthOf_93 : decode cX11_lengthOf 93 = .ok (.iload_n 2, 1) := by decide +kernel
theorem dX11_lengthOf_94 : decode cX11_lengthOf 94 = .ok (.invokevirtual 128, 3) := by decide +kernel
theorem dX11_lengthOf_97 : decode cX11_lengthOf 97 = .ok (.iadd, 1) := by decide +kernel
theorem dX11_lengthOf_98 : decode cX11_lengthOf 98 = .ok (.ireturn, 1) := by decide +kernel
theorem dX11_lengthOf_99 : decode cX11_lengthOf 99 = .ok (.aload_n 0, 1) := by decide +kernel
theorem dX11_lengthOf_100 : decode cX11_lengthOf 100 = .ok (.iload_n 2, 1) := by decide +kernel
theorem dX11_lengthOf_101 : decode cX11_lengthOf 101 = .ok (.invokevirtual 128, 3) := by decide +kernel
theorem dX11_lengthOf_104 : decode cX11_lengthOf 104 = .ok (.ireturn, 1) := by decide +kernel
theorem dX11_lengthOf_105 : decode cX11_lengthOf 105 = .ok (.iconst 0, 1) := by decide +kernel
theorem dX11_lengthOf_106 : decode cX11_lengthOf 106 = .ok (.ireturn, 1) := by decide +kernel
theorem dX11_firstOf_0 : decode cX11_firstOf 0 = .ok (.aload_n 0, 1) := by decide +kernel
theorem dX11_firstOf_1 : decode cX11_firstOf 1 = .ok (.getfield 7, 3) := by decide +kernel
theorem dX11_firstOf_4 : decode cX11_firstOf 4 = .ok (.iload_n 1, 1) := by decide +kernel
theorem dX11_firstOf_5 : decode cX11_firstOf 5 = .ok (.iconst 4, 1) := by decide +kernel
theorem dX11_firstOf_6 : decode cX11_firstOf 6 = .ok (.iadd, 1) := by decide +kernel
theorem dX11_firstOf_7 : decode cX11_firstOf 7 = .ok (.iaload, 1) := by decide +kernel
theorem dX11_firstOf_8 : decode cX11_firstOf 8 = .ok (.ifCond .ne 7, 3) := by decide +kernel
theorem dX11_firstOf_11 : decode cX11_firstOf 11 = .ok (.iconst 0, 1) := by decide +kernel
theorem dX11_firstOf_12 : decode cX11_firstOf 12 = .ok (.goto 6, 3) := by decide +kernel
theorem dX11_firstOf_15 : decode cX11_firstOf 15 = .ok (.iload_n 1, 1) := by decide +kernel
theorem dX11_firstOf_16 : decode cX11_firstOf 16 = .ok (.iconst 4, 1) := by decide +kernel
theorem dX11_firstOf_17 : decode cX11_firstOf 17 = .ok (.iadd, 1) := by decide +kernel
theorem dX11_firstOf_18 : decode cX11_firstOf 18 = .ok (.ireturn, 1) := by decide +kernel
theorem dX11_nextOf_0 : decode cX11_nextOf 0 = .ok (.aload_n 0, 1) := by decide +kernel
theorem dX11_nextOf_1 : decode cX11_nextOf 1 = .ok (.iload_n 1, 1) := by decide +kernel
theorem dX11_nextOf_2 : decode cX11_nextOf 2 = .ok (.invokevirtual 131, 3) := by decide +kernel
theorem dX11_nextOf_5 : decode cX11_nextOf 5 = .ok (.istore_n 2, 1) := by decide +kernel
theorem dX11_nextOf_6 : decode cX11_nextOf 6 = .ok (.iload_n 2, 1) := by decide +kernel
theorem dX11_nextOf_7 : decode cX11_nextOf 7 = .ok (.aload_n 0, 1) := by decide +kernel
theorem dX11_nextOf_8 : decode cX11_nextOf 8 = .ok (.aload_n 0, 1) := by decide +kernel
theorem dX11_nextOf_9 : decode cX11_nextOf 9 = .ok (.getfield 7, 3) := by decide +kernel
theorem dX11_nextOf_12 : decode cX11_nextOf 12 = .ok (.iload_n 1, 1) := by decide +kernel
theorem dX11_nextOf_13 : decode cX11_nextOf 13 = .ok (.iaload, 1) := by decide +kernel
theorem dX11_nextOf_14 : decode cX11_nextOf 14 = .ok (.iload_n 2, 1) := by decide +kernel
theorem dX11_nextOf_15 : decode cX11_nextOf 15 = .ok (.invokevirtual 134, 3) := by decide +kernel
theorem dX11_nextOf_18 : decode cX11_nextOf 18 = .ok (.iadd, 1) := by decide +kernel
theorem dX11_nextOf_19 : decode cX11_nextOf 19 = .ok (.istore_n 3, 1) := by decide +kernel
theorem dX11_nextOf_20 : decode cX11_nextOf 20 = .ok (.aload_n 0, 1) := by decide +kernel
theorem dX11_nextOf_21 : decode cX11_nextOf 21 = .ok (.getfield 7, 3) := by decide +kernel
theorem dX11_nextOf_24 : decode cX11_nextOf 24 = .ok (.iload_n 3, 1) := by decide +kernel
theorem dX11_nextOf_25 : decode cX11_nextOf 25 = .ok (.iaload, 1) := by decide +kernel
theorem dX11_nextOf_26 : decode cX11_nextOf 26 = .ok (.ifCond .ne 7, 3) := by decide +kernel
theorem dX11_nextOf_29 : decode cX11_nextOf 29 = .ok (.iconst 0, 1) := by decide +kernel
theorem dX11_nextOf_30 : decode cX11_nextOf 30 = .ok (.goto 4, 3) := by decide +kernel
theorem dX11_nextOf_33 : decode cX11_nextOf 33 = .ok (.iload_n 3, 1) := by decide +kernel
theorem dX11_nextOf_34 : decode cX11_nextOf 34 = .ok (.ireturn, 1) := by decide +kernel
theorem dX11_countOf_0 : decode cX11_countOf 0 = .ok (.iconst 0, 1) := by decide +kernel
theorem dX11_countOf_1 : decode cX11_countOf 1 = .ok (.istore_n 2, 1) := by decide +kernel
theorem dX11_countOf_2 : decode cX11_countOf 2 = .ok (.aload_n 0, 1) := by decide +kernel
theorem dX11_countOf_3 : decode cX11_countOf 3 = .ok (.iload_n 1, 1) := by decide +kernel
theorem dX11_countOf_4 : decode cX11_countOf 4 = .ok (.invokevirtual 137, 3) := by decide +kernel
theorem dX11_countOf_7 : decode cX11_countOf 7 = .ok (.istore_n 3, 1) := by decide +kernel
theorem dX11_countOf_8 : decode cX11_countOf 8 = .ok (.iload_n 3, 1) := by decide +kernel
theorem dX11_countOf_9 : decode cX11_countOf 9 = .ok (.ifCond .le 15, 3) := by decide +kernel
theorem dX11_countOf_12 : decode cX11_countOf 12 = .ok (.iinc 2 1, 3) := by decide +kernel
theorem dX11_countOf_15 : decode cX11_countOf 15 = .ok (.aload_n 0, 1) := by decide +kernel
theorem dX11_countOf_16 : decode cX11_countOf 16 = .ok (.iload_n 3, 1) := by decide +kernel
theorem dX11_countOf_17 : decode cX11_countOf 17 = .ok (.invokevirtual 140, 3) := by decide +kernel
theorem dX11_countOf_20 : decode cX11_countOf 20 = .ok (.istore_n 3, 1) := by decide +kernel
theorem dX11_countOf_21 : decode cX11_countOf 21 = .ok (.goto (-13), 3) := by decide +kernel
theorem dX11_countOf_24 : decode cX11_countOf 24 = .ok (.iload_n 2, 1) := by decide +kernel
theorem dX11_countOf_25 : decode cX11_countOf 25 = .ok (.ireturn, 1) := by decide +kernel
theorem dX11_isNamed_0 : decode cX11_isNamed 0 = .ok (.lload_n 2, 1) := by decide +kernel
theorem dX11_isNamed_1 : decode cX11_isNamed 1 = .ok (.lstore 4, 2) := by decide +kernel
theorem dX11_isNamed_3 : decode cX11_isNamed 3 = .ok (.iload_n 1, 1) := by decide +kernel
theorem dX11_isNamed_4 : decode cX11_isNamed 4 = .ok (.iconst 1, 1) := by decide +kernel
theorem dX11_isNamed_5 : decode cX11_isNamed 5 = .ok (.iadd, 1) := by decide +kernel
theorem dX11_isNamed_6 : decode cX11_isNamed 6 = .ok (.istore 6, 2) := by decide +kernel
theorem dX11_isNamed_8 : decode cX11_isNamed 8 = .ok (.lload 4, 2) := by decide +kernel
theorem dX11_isNamed_10 : decode cX11_isNamed 10 = .ok (.lconst 0, 1) := by decide +kernel
theorem dX11_isNamed_11 : decode cX11_isNamed 11 = .ok (.lcmp, 1) := by decide +kernel
theorem dX11_isNamed_12 : decode cX11_isNamed 12 = .ok (.ifCond .le 33, 3) := by decide +kernel
theorem dX11_isNamed_15 : decode cX11_isNamed 15 = .ok (.aload_n 0, 1) := by decide +kernel
theorem dX11_isNamed_16 : decode cX11_isNamed 16 = .ok (.getfield 7, 3) := by decide +kernel
theorem dX11_isNamed_19 : decode cX11_isNamed 19 = .ok (.iload 6, 2) := by decide +kernel
theorem dX11_isNamed_21 : decode cX11_isNamed 21 = .ok (.iaload, 1) := by decide +kernel
theorem dX11_isNamed_22 : decode cX11_isNamed 22 = .ok (.lload 4, 2) := by decide +kernel
theorem dX11_isNamed_24 : decode cX11_isNamed 24 = .ok (.ldc2_w 143, 3) := by decide +kernel
theorem dX11_isNamed_27 : decode cX11_isNamed 27 = .ok (.land, 1) := by decide +kernel
theorem dX11_isNamed_28 : decode cX11_isNamed 28 = .ok (.l2i, 1) := by decide +kernel
theorem dX11_isNamed_29 : decode cX11_isNamed 29 = .ok (.if_icmp .ne 16, 3) := by decide +kernel
theorem dX11_isNamed_32 : decode cX11_isNamed 32 = .ok (.lload 4, 2) := by decide +kernel
theorem dX11_isNamed_34 : decode cX11_isNamed 34 = .ok (.bipush 8, 2) := by decide +kernel
theorem dX11_isNamed_36 : decode cX11_isNamed 36 = .ok (.lshr, 1) := by decide +kernel
theorem dX11_isNamed_37 : decode cX11_isNamed 37 = .ok (.lstore 4, 2) := by decide +kernel
theorem dX11_isNamed_39 : decode cX11_isNamed 39 = .ok (.iinc 6 1, 3) := by decide +kernel
theorem dX11_isNamed_42 : decode cX11_isNamed 42 = .ok (.goto (-34), 3) := by decide +kernel
theorem dX11_isNamed_45 : decode cX11_isNamed 45 = .ok (.lload 4, 2) := by decide +kernel
theorem dX11_isNamed_47 : decode cX11_isNamed 47 = .ok (.lconst 0, 1) := by decide +kernel
theorem dX11_isNamed_48 : decode cX11_isNamed 48 = .ok (.lcmp, 1) := by decide +kernel
theorem dX11_isNamed_49 : decode cX11_isNamed 49 = .ok (.ifCond .ne 17, 3) := by decide +kernel
theorem dX11_isNamed_52 : decode cX11_isNamed 52 = .ok (.aload_n 0, 1) := by decide +kernel
theorem dX11_isNamed_53 : decode cX11_isNamed 53 = .ok (.getfield 7, 3) := by decide +kernel
theorem dX11_isNamed_56 : decode cX11_isNamed 56 = .ok (.iload 6, 2) := by decide +kernel
theorem dX11_isNamed_58 : decode cX11_isNamed 58 = .ok (.iaload, 1) := by decide +kernel
theorem dX11_isNamed_59 : decode cX11_isNamed 59 = .ok (.ifCond .ne 7, 3) := by decide +kernel
theorem dX11_isNamed_62 : decode cX11_isNamed 62 = .ok (.iconst 1, 1) := by decide +kernel
theorem dX11_isNamed_63 : decode cX11_isNamed 63 = .ok (.goto 4, 3) := by decide +kernel
theorem dX11_isNamed_66 : decode cX11_isNamed 66 = .ok (.iconst 0, 1) := by decide +kernel
theorem dX11_isNamed_67 : decode cX11_isNamed 67 = .ok (.ireturn, 1) := by decide +kernel
theorem dX11_isDollar_0 : decode cX11_isDollar 0 = .ok (.aload_n 0, 1) := by decide +kernel
theorem dX11_isDollar_1 : decode cX11_isDollar 1 = .ok (.getfield 7, 3) := by decide +kernel
theorem dX11_isDollar_4 : decode cX11_isDollar 4 = .ok (.iload_n 1, 1) := by decide +kernel
theorem dX11_isDollar_5 : decode cX11_isDollar 5 = .ok (.iconst 1, 1) := by decide +kernel
theorem dX11_isDollar_6 : decode cX11_isDollar 6 = .ok (.iadd, 1) := by decide +kernel
theorem dX11_isDollar_7 : decode cX11_isDollar 7 = .ok (.iaload, 1) := by decide +kernel
theorem dX11_isDollar_8 : decode cX11_isDollar 8 = .ok (.bipush 36, 2) := by decide +kernel
theorem dX11_isDollar_10 : decode cX11_isDollar 10 = .ok (.if_icmp .ne 7, 3) := by decide +kernel
theorem dX11_isDollar_13 : decode cX11_isDollar 13 = .ok (.iconst 1, 1) := by decide +kernel
theorem dX11_isDollar_14 : decode cX11_isDollar 14 = .ok (.goto 4, 3) := by decide +kernel
theorem dX11_isDollar_17 : decode cX11_isDollar 17 = .ok (.iconst 0, 1) := by decide +kernel
theorem dX11_isDollar_18 : decode cX11_isDollar 18 = .ok (.ireturn, 1) := by decide +kernel
theorem dX11_isConditions_0 : decode cX11_isConditions 0 = .ok (.iload_n 1, 1) := by decide +kernel
theorem dX11_isConditions_1 : decode cX11_isConditions 1 = .ok (.iconst 3, 1) := by decide +kernel
theorem dX11_isConditions_2 : decode cX11_isConditions 2 = .ok (.if_icmp .ne 27, 3) := by decide +kernel
theorem dX11_isConditions_5 : decode cX11_isConditions 5 = .ok (.aload_n 0, 1) := by decide +kernel
theorem dX11_isConditions_6 : decode cX11_isConditions 6 = .ok (.iload_n 2, 1) := by decide +kernel
theorem dX11_isConditions_7 : decode cX11_isConditions 7 = .ok (.invokevirtual 137, 3) := by decide +kernel
theorem dX11_isConditions_10 : decode cX11_isConditions 10 = .ok (.ifCond .le 19, 3) := by decide +kernel
theorem dX11_isConditions_13 : decode cX11_isConditions 13 = .ok (.aload_n 0, 1) := by decide +kernel
theorem dX11_isConditions_14 : decode cX11_isConditions 14 = .ok (.aload_n 0, 1) := by decide +kernel
theorem dX11_isConditions_15 : decode cX11_isConditions 15 = .ok (.iload_n 2, 1) := by decide +kernel
theorem dX11_isConditions_16 : decode cX11_isConditions 16 = .ok (.invokevirtual 137, 3) := by decide +kernel
theorem dX11_isConditions_19 : decode cX11_isConditions 19 = .ok (.invokevirtual 145, 3) := by decide +kernel
theorem dX11_isConditions_22 : decode cX11_isConditions 22 = .ok (.ifCond .eq 7, 3) := by decide +kernel
theorem dX11_isConditions_25 : decode cX11_isConditions 25 = .ok (.iconst 1, 1) := by decide +kernel
theorem dX11_isConditions_26 : decode cX11_isConditions 26 = .ok (.goto 4, 3) := by decide +kernel
theorem dX11_isConditions_29 : decode cX11_isConditions 29 = .ok (.iconst 0, 1) := by decide +kernel
theorem dX11_isConditions_30 : decode cX11_isConditions 30 = .ok (.ireturn, 1) := by decide +kernel
theorem dX11_isAnd_0 : decode cX11_isAnd 0 = .ok (.aload_n 0, 1) := by decide +kernel
theorem dX11_isAnd_1 : decode cX11_isAnd 1 = .ok (.iload_n 1, 1) := by decide +kernel
theorem dX11_isAnd_2 : decode cX11_isAnd 2 = .ok (.ldc2_w 148, 3) := by decide +kernel
theorem dX11_isAnd_5 : decode cX11_isAnd 5 = .ok (.invokevirtual 150, 3) := by decide +kernel
theorem dX11_isAnd_8 : decode cX11_isAnd 8 = .ok (.ireturn, 1) := by decide +kernel
theorem dX11_isOr_0 : decode cX11_isOr 0 = .ok (.aload_n 0, 1) := by decide +kernel
theorem dX11_isOr_1 : decode cX11_isOr 1 = .ok (.iload_n 1, 1) := by decide +kernel
theorem dX11_isOr_2 : decode cX11_isOr 2 = .ok (.ldc2_w 154, 3) := by decide +kernel
theorem dX11_isOr_5 : decode cX11_isOr 5 = .ok (.invokevirtual 150, 3) := by decide +kernel
theorem dX11_isOr_8 : decode cX11_isOr 8 = .ok (.ireturn, 1) := by decide +kernel
theorem dX11_isNor_0 : decode cX11_isNor 0 = .ok (.aload_n 0, 1) := by decide +kernel
theorem dX11_isNor_1 : decode cX11_isNor 1 = .ok (.iload_n 1, 1) := by decide +kernel
theorem dX11_isNor_2 : decode cX11_isNor 2 = .ok (.ldc2_w 156, 3) := by decide +kernel
theorem dX11_isNor_5 : decode cX11_isNor 5 = .ok (.invokevirtual 150, 3) := by decide +kernel
theorem dX11_isNor_8 : decode cX11_isNor 8 = .ok (.ireturn, 1) := by decide +kernel
theorem dX11_isJoin_0 : decode cX11_isJoin 0 = .ok (.aload_n 0, 1) := by decide +kernel
theorem dX11_isJoin_1 : decode cX11_isJoin 1 = .ok (.iload_n 1, 1) := by decide +kernel
theorem dX11_isJoin_2 : decode cX11_isJoin 2 = .ok (.invokevirtual 158, 3) := by decide +kernel
theorem dX11_isJoin_5 : decode cX11_isJoin 5 = .ok (.ifCond .ne 19, 3) := by decide +kernel
theorem dX11_isJoin_8 : decode cX11_isJoin 8 = .ok (.aload_n 0, 1) := by decide +kernel
theorem dX11_isJoin_9 : decode cX11_isJoin 9 = .ok (.iload_n 1, 1) := by decide +kernel
theorem dX11_isJoin_10 : decode cX11_isJoin 10 = .ok (.invokevirtual 161, 3) := by decide +kernel
theorem dX11_isJoin_13 : decode cX11_isJoin 13 = .ok (.ifCond .ne 11, 3) := by decide +kernel
theorem dX11_isJoin_16 : decode cX11_isJoin 16 = .ok (.aload_n 0, 1) := by decide +kernel
theorem dX11_isJoin_17 : decode cX11_isJoin 17 = .ok (.iload_n 1, 1) := by decide +kernel
theorem dX11_isJoin_18 : decode cX11_isJoin 18 = .ok (.invokevirtual 164, 3) := by decide +kernel
theorem dX11_isJoin_21 : decode cX11_isJoin 21 = .ok (.ifCond .eq 7, 3) := by decide +kernel
theorem dX11_isJoin_24 : decode cX11_isJoin 24 = .ok (.iconst 1, 1) := by decide +kernel
theorem dX11_isJoin_25 : decode cX11_isJoin 25 = .ok (.goto 4, 3) := by decide +kernel
theorem dX11_isJoin_28 : decode cX11_isJoin 28 = .ok (.iconst 0, 1) := by decide +kernel
theorem dX11_isJoin_29 : decode cX11_isJoin 29 = .ok (.ireturn, 1) := by decide +kernel
theorem dX11_condition_0 : decode cX11_condition 0 = .ok (.aload_n 0, 1) := by decide +kernel
theorem dX11_condition_1 : decode cX11_condition 1 = .ok (.iload_n 1, 1) := by decide +kernel
theorem dX11_condition_2 : decode cX11_condition 2 = .ok (.ldc2_w 167, 3) := by decide +kernel
theorem dX11_condition_5 : decode cX11_condition 5 = .ok (.invokevirtual 150, 3) := by decide +kernel
theorem dX11_condition_8 : decode cX11_condition 8 = .ok (.ifCond .eq 5, 3) := by decide +kernel
theorem dX11_condition_11 : decode cX11_condition 11 = .ok (.iconst 1, 1) := by decide +kernel
theorem dX11_condition_12 : decode cX11_condition 12 = .ok (.ireturn, 1) := by decide +kernel
theorem dX11_condition_13 : decode cX11_condition 13 = .ok (.aload_n 0, 1) := by decide +kernel
theorem dX11_condition_14 : decode cX11_condition 14 = .ok (.iload_n 1, 1) := by decide +kernel
theorem dX11_condition_15 : decode cX11_condition 15 = .ok (.ldc2_w 169, 3) := by decide +kernel
theorem dX11_condition_18 : decode cX11_condition 18 = .ok (.invokevirtual 150, 3) := by decide +kernel
theorem dX11_condition_21 : decode cX11_condition 21 = .ok (.ifCond .eq 5, 3) := by decide +kernel
theorem dX11_condition_24 : decode cX11_condition 24 = .ok (.iconst 2, 1) := by decide +kernel
theorem dX11_condition_25 : decode cX11_condition 25 = .ok (.ireturn, 1) := by decide +kernel
theorem dX11_condition_26 : decode cX11_condition 26 = .ok (.aload_n 0, 1) := by decide +kernel
theorem dX11_condition_27 : decode cX11_condition 27 = .ok (.iload_n 1, 1) := by decide +kernel
theorem dX11_condition_28 : decode cX11_condition 28 = .ok (.ldc2_w 171, 3) := by decide +kernel
theorem dX11_condition_31 : decode cX11_condition 31 = .ok (.invokevirtual 150, 3) := by decide +kernel
theorem dX11_condition_34 : decode cX11_condition 34 = .ok (.ifCond .eq 5, 3) := by decide +kernel
theorem dX11_condition_37 : decode cX11_condition 37 = .ok (.iconst 3, 1) := by decide +kernel
theorem dX11_condition_38 : decode cX11_condition 38 = .ok (.ireturn, 1) := by decide +kernel
theorem dX11_condition_39 : decode cX11_condition 39 = .ok (.aload_n 0, 1) := by decide +kernel
theorem dX11_condition_40 : decode cX11_condition 40 = .ok (.iload_n 1, 1) := by decide +kernel
theorem dX11_condition_41 : decode cX11_condition 41 = .ok (.ldc2_w 173, 3) := by decide +kernel
theorem dX11_condition_44 : decode cX11_condition 44 = .ok (.invokevirtual 150, 3) := by decide +kernel
theorem dX11_condition_47 : decode cX11_condition 47 = .ok (.ifCond .eq 5, 3) := by decide +kernel
theorem dX11_condition_50 : decode cX11_condition 50 = .ok (.iconst 4, 1) := by decide +kernel
theorem dX11_condition_51 : decode cX11_condition 51 = .ok (.ireturn, 1) := by decide +kernel
theorem dX11_condition_52 : decode cX11_condition 52 = .ok (.aload_n 0, 1) := by decide +kernel
theorem dX11_condition_53 : decode cX11_condition 53 = .ok (.iload_n 1, 1) := by decide +kernel
theorem dX11_condition_54 : decode cX11_condition 54 = .ok (.ldc2_w 175, 3) := by decide +kernel
theorem dX11_condition_57 : decode cX11_condition 57 = .ok (.invokevirtual 150, 3) := by decide +kernel
theorem dX11_condition_60 : decode cX11_condition 60 = .ok (.ifCond .eq 5, 3) := by decide +kernel
theorem dX11_condition_63 : decode cX11_condition 63 = .ok (.iconst 5, 1) := by decide +kernel
theorem dX11_condition_64 : decode cX11_condition 64 = .ok (.ireturn, 1) := by decide +kernel
theorem dX11_condition_65 : decode cX11_condition 65 = .ok (.aload_n 0, 1) := by decide +kernel
theorem dX11_condition_66 : decode cX11_condition 66 = .ok (.iload_n 1, 1) := by decide +kernel
theorem dX11_condition_67 : decode cX11_condition 67 = .ok (.ldc2_w 177, 3) := by decide +kernel
theorem dX11_condition_70 : decode cX11_condition 70 = .ok (.invokevirtual 150, 3) := by decide +kernel
theorem dX11_condition_73 : decode cX11_condition 73 = .ok (.ifCond .eq 6, 3) := by decide +kernel
theorem dX11_condition_76 : decode cX11_condition 76 = .ok (.bipush 6, 2) := by decide +kernel
theorem dX11_condition_78 : decode cX11_condition 78 = .ok (.ireturn, 1) := by decide +kernel
theorem dX11_condition_79 : decode cX11_condition 79 = .ok (.aload_n 0, 1) := by decide +kernel
theorem dX11_condition_80 : decode cX11_condition 80 = .ok (.iload_n 1, 1) := by decide +kernel
theorem dX11_condition_81 : decode cX11_condition 81 = .ok (.ldc2_w 179, 3) := by decide +kernel
theorem dX11_condition_84 : decode cX11_condition 84 = .ok (.invokevirtual 150, 3) := by decide +kernel
theorem dX11_condition_87 : decode cX11_condition 87 = .ok (.ifCond .eq 6, 3) := by decide +kernel
theorem dX11_condition_90 : decode cX11_condition 90 = .ok (.bipush 7, 2) := by decide +kernel
theorem dX11_condition_92 : decode cX11_condition 92 = .ok (.ireturn, 1) := by decide +kernel
theorem dX11_condition_93 : decode cX11_condition 93 = .ok (.aload_n 0, 1) := by decide +kernel
theorem dX11_condition_94 : decode cX11_condition 94 = .ok (.iload_n 1, 1) := by decide +kernel
theorem dX11_condition_95 : decode cX11_condition 95 = .ok (.ldc2_w 181, 3) := by decide +kernel
theorem dX11_condition_98 : decode cX11_condition 98 = .ok (.invokevirtual 150, 3) := by decide +kernel
theorem dX11_condition_101 : decode cX11_condition 101 = .ok (.ifCond .eq 6, 3) := by decide +kernel
theorem dX11_condition_104 : decode cX11_condition 104 = .ok (.bipush 8, 2) := by decide +kernel
theorem dX11_condition_106 : decode cX11_condition 106 = .ok (.ireturn, 1) := by decide +kernel
theorem dX11_condition_107 : decode cX11_condition 107 = .ok (.aload_n 0, 1) := by decide +kernel
theorem dX11_condition_108 : decode cX11_condition 108 = .ok (.iload_n 1, 1) := by decide +kernel
theorem dX11_condition_109 : decode cX11_condition 109 = .ok (.ldc2_w 183, 3) := by decide +kernel
theorem dX11_condition_112 : decode cX11_condition 112 = .ok (.invokevirtual 150, 3) := by decide +kernel
theorem dX11_condition_115 : decode cX11_condition 115 = .ok (.ifCond .eq 6, 3) := by decide +kernel
theorem dX11_condition_118 : decode cX11_condition 118 = .ok (.bipush 9, 2) := by decide +kernel
theorem dX11_condition_120 : decode cX11_condition 120 = .ok (.ireturn, 1) := by decide +kernel
theorem dX11_condition_121 : decode cX11_condition 121 = .ok (.aload_n 0, 1) := by decide +kernel
theorem dX11_condition_122 : decode cX11_condition 122 = .ok (.iload_n 1, 1) := by decide +kernel
theorem dX11_condition_123 : decode cX11_condition 123 = .ok (.ldc2_w 185, 3) := by decide +kernel
theorem dX11_condition_126 : decode cX11_condition 126 = .ok (.invokevirtual 150, 3) := by decide +kernel
theorem dX11_condition_129 : decode cX11_condition 129 = .ok (.ifCond .eq 6, 3) := by decide +kernel
theorem dX11_condition_132 : decode cX11_condition 132 = .ok (.bipush 10, 2) := by decide +kernel
theorem dX11_condition_134 : decode cX11_condition 134 = .ok (.ireturn, 1) := by decide +kernel
theorem dX11_condition_135 : decode cX11_condition 135 = .ok (.aload_n 0, 1) := by decide +kernel
theorem dX11_condition_136 : decode cX11_condition 136 = .ok (.iload_n 1, 1) := by decide +kernel
theorem dX11_condition_137 : decode cX11_condition 137 = .ok (.ldc2_w 187, 3) := by decide +kernel
theorem dX11_condition_140 : decode cX11_condition 140 = .ok (.invokevirtual 150, 3) := by decide +kernel
theorem dX11_condition_143 : decode cX11_condition 143 = .ok (.ifCond .eq 6, 3) := by decide +kernel
theorem dX11_condition_146 : decode cX11_condition 146 = .ok (.bipush 11, 2) := by decide +kernel
theorem dX11_condition_148 : decode cX11_condition 148 = .ok (.ireturn, 1) := by decide +kernel
theorem dX11_condition_149 : decode cX11_condition 149 = .ok (.aload_n 0, 1) := by decide +kernel
theorem dX11_condition_150 : decode cX11_condition 150 = .ok (.iload_n 1, 1) := by decide +kernel
theorem dX11_condition_151 : decode cX11_condition 151 = .ok (.ldc2_w 189, 3) := by decide +kernel
theorem dX11_condition_154 : decode cX11_condition 154 = .ok (.invokevirtual 150, 3) := by decide +kernel
theorem dX11_condition_157 : decode cX11_condition 157 = .ok (.ifCond .eq 8, 3) := by decide +kernel
theorem dX11_condition_160 : decode cX11_condition 160 = .ok (.bipush 12, 2) := by decide +kernel
theorem dX11_condition_162 : decode cX11_condition 162 = .ok (.goto 4, 3) := by decide +kernel
theorem dX11_condition_165 : decode cX11_condition 165 = .ok (.iconst 0, 1) := by decide +kernel
theorem dX11_condition_166 : decode cX11_condition 166 = .ok (.ireturn, 1) := by decide +kernel
theorem dX11_say_0 : decode cX11_say 0 = .ok (.aload_n 0, 1) := by decide +kernel
theorem dX11_say_1 : decode cX11_say 1 = .ok (.getfield 191, 3) := by decide +kernel
theorem dX11_say_4 : decode cX11_say 4 = .ok (.ifCond .eq 4, 3) := by decide +kernel
theorem dX11_say_7 : decode cX11_say 7 = .ok (.return_, 1) := by decide +kernel
theorem dX11_say_8 : decode cX11_say 8 = .ok (.aload_n 0, 1) := by decide +kernel
theorem dX11_say_9 : decode cX11_say 9 = .ok (.iload_n 1, 1) := by decide +kernel
theorem dX11_say_10 : decode cX11_say 10 = .ok (.putfield 191, 3) := by decide +kernel
theorem dX11_say_13 : decode cX11_say 13 = .ok (.aload_n 0, 1) := by decide +kernel
theorem dX11_say_14 : decode cX11_say 14 = .ok (.iload_n 2, 1) := by decide +kernel
theorem dX11_say_15 : decode cX11_say 15 = .ok (.putfield 194, 3) := by decide +kernel
theorem dX11_say_18 : decode cX11_say 18 = .ok (.return_, 1) := by decide +kernel
theorem dX11_count_0 : decode cX11_count 0 = .ok (.aload_n 0, 1) := by decide +kernel
theorem dX11_count_1 : decode cX11_count 1 = .ok (.dup, 1) := by decide +kernel
theorem dX11_count_2 : decode cX11_count 2 = .ok (.getfield 197, 3) := by decide +kernel
theorem dX11_count_5 : decode cX11_count 5 = .ok (.iload_n 1, 1) := by decide +kernel
theorem dX11_count_6 : decode cX11_count 6 = .ok (.iadd, 1) := by decide +kernel
theorem dX11_count_7 : decode cX11_count 7 = .ok (.putfield 197, 3) := by decide +kernel
theorem dX11_count_10 : decode cX11_count 10 = .ok (.aload_n 0, 1) := by decide +kernel
theorem dX11_count_11 : decode cX11_count 11 = .ok (.getfield 197, 3) := by decide +kernel
theorem dX11_count_14 : decode cX11_count 14 = .ok (.bipush 100, 2) := by decide +kernel
theorem dX11_count_16 : decode cX11_count 16 = .ok (.if_icmp .le 9, 3) := by decide +kernel
theorem dX11_count_19 : decode cX11_count 19 = .ok (.aload_n 0, 1) := by decide +kernel
theorem dX11_count_20 : decode cX11_count 20 = .ok (.iconst 5, 1) := by decide +kernel
theorem dX11_count_21 : decode cX11_count 21 = .ok (.iload_n 2, 1) := by decide +kernel
theorem dX11_count_22 : decode cX11_count 22 = .ok (.invokevirtual 200, 3) := by decide +kernel
theorem dX11_count_25 : decode cX11_count 25 = .ok (.return_, 1) := by decide +kernel
theorem dX11_stepsOf_0 : decode cX11_stepsOf 0 = .ok (.iconst 1, 1) := by decide +kernel
theorem dX11_stepsOf_1 : decode cX11_stepsOf 1 = .ok (.istore_n 2, 1) := by decide +kernel
theorem dX11_stepsOf_2 : decode cX11_stepsOf 2 = .ok (.aload_n 0, 1) := by decide +kernel
theorem dX11_stepsOf_3 : decode cX11_stepsOf 3 = .ok (.iload_n 1, 1) := by decide +kernel
theorem dX11_stepsOf_4 : decode cX11_stepsOf 4 = .ok (.invokevirtual 125, 3) := by decide +kernel
theorem dX11_stepsOf_7 : decode cX11_stepsOf 7 = .ok (.istore_n 3, 1) := by decide +kernel
theorem dX11_stepsOf_8 : decode cX11_stepsOf 8 = .ok (.iconst 1, 1) := by decide +kernel
theorem dX11_stepsOf_9 : decode cX11_stepsOf 9 = .ok (.istore 4, 2) := by decide +kernel
theorem dX11_stepsOf_11 : decode cX11_stepsOf 11 = .ok (.iload_n 1, 1) := by decide +kernel
theorem dX11_stepsOf_12 : decode cX11_stepsOf 12 = .ok (.iconst 1, 1) := by decide +kernel
theorem dX11_stepsOf_13 : decode cX11_stepsOf 13 = .ok (.iadd, 1) := by decide +kernel
theorem dX11_stepsOf_14 : decode cX11_stepsOf 14 = .ok (.istore 5, 2) := by decide +kernel
theorem dX11_stepsOf_16 : decode cX11_stepsOf 16 = .ok (.iload 5, 2) := by decide +kernel
theorem dX11_stepsOf_18 : decode cX11_stepsOf 18 = .ok (.iload_n 3, 1) := by decide +kernel
theorem dX11_stepsOf_19 : decode cX11_stepsOf 19 = .ok (.if_icmp .gt 100, 3) := by decide +kernel
theorem dX11_stepsOf_22 : decode cX11_stepsOf 22 = .ok (.iload 5, 2) := by decide +kernel
theorem dX11_stepsOf_24 : decode cX11_stepsOf 24 = .ok (.iload_n 1, 1) := by decide +kernel
theorem dX11_stepsOf_25 : decode cX11_stepsOf 25 = .ok (.iconst 1, 1) := by decide +kernel
theorem dX11_stepsOf_26 : decode cX11_stepsOf 26 = .ok (.iadd, 1) := by decide +kernel
theorem dX11_stepsOf_27 : decode cX11_stepsOf 27 = .ok (.if_icmp .eq 17, 3) := by decide +kernel
theorem dX11_stepsOf_30 : decode cX11_stepsOf 30 = .ok (.aload_n 0, 1) := by decide +kernel
theorem dX11_stepsOf_31 : decode cX11_stepsOf 31 = .ok (.getfield 7, 3) := by decide +kernel
theorem dX11_stepsOf_34 : decode cX11_stepsOf 34 = .ok (.iload 5, 2) := by decide +kernel
theorem dX11_stepsOf_36 : decode cX11_stepsOf 36 = .ok (.iconst 1, 1) := by decide +kernel
theorem dX11_stepsOf_37 : decode cX11_stepsOf 37 = .ok (.isub, 1) := by decide +kernel
theorem dX11_stepsOf_38 : decode cX11_stepsOf 38 = .ok (.iaload, 1) := by decide +kernel
theorem dX11_stepsOf_39 : decode cX11_stepsOf 39 = .ok (.bipush 46, 2) := by decide +kernel
theorem dX11_stepsOf_41 : decode cX11_stepsOf 41 = .ok (.if_icmp .ne 7, 3) := by decide +kernel
theorem dX11_stepsOf_44 : decode cX11_stepsOf 44 = .ok (.iconst 1, 1) := by decide +kernel
theorem dX11_stepsOf_45 : decode cX11_stepsOf 45 = .ok (.goto 4, 3) := by decide +kernel
theorem dX11_stepsOf_48 : decode cX11_stepsOf 48 = .ok (.iconst 0, 1) := by decide +kernel
theorem dX11_stepsOf_49 : decode cX11_stepsOf 49 = .ok (.istore 6, 2) := by decide +kernel
theorem dX11_stepsOf_51 : decode cX11_stepsOf 51 = .ok (.iload 6, 2) := by decide +kernel
theorem dX11_stepsOf_53 : decode cX11_stepsOf 53 = .ok (.ifCond .eq 40, 3) := by decide +kernel
theorem dX11_stepsOf_56 : decode cX11_stepsOf 56 = .ok (.aload_n 0, 1) := by decide +kernel
theorem dX11_stepsOf_57 : decode cX11_stepsOf 57 = .ok (.getfield 7, 3) := by decide +kernel
theorem dX11_stepsOf_60 : decode cX11_stepsOf 60 = .ok (.iload 5, 2) := by decide +kernel
theorem dX11_stepsOf_62 : decode cX11_stepsOf 62 = .ok (.iaload, 1) := by decide +kernel
theorem dX11_stepsOf_63 : decode cX11_stepsOf 63 = .ok (.ifCond .eq 27, 3) := by decide +kernel
theorem dX11_stepsOf_66 : decode cX11_stepsOf 66 = .ok (.aload_n 0, 1) := by decide +kernel
theorem dX11_stepsOf_67 : decode cX11_stepsOf 67 = .ok (.getfield 7, 3) := by decide +kernel
theorem dX11_stepsOf_70 : decode cX11_stepsOf 70 = .ok (.iload 5, 2) := by decide +kernel
theorem dX11_stepsOf_72 : decode cX11_stepsOf 72 = .ok (.iaload, 1) := by decide +kernel
theorem dX11_stepsOf_73 : decode cX11_stepsOf 73 = .ok (.bipush 46, 2) := by decide +kernel
theorem dX11_stepsOf_75 : decode cX11_stepsOf 75 = .ok (.if_icmp .eq 15, 3) := by decide +kernel
theorem dX11_stepsOf_78 : decode cX11_stepsOf 78 = .ok (.aload_n 0, 1) := by decide +kernel
theorem dX11_stepsOf_79 : decode cX11_stepsOf 79 = .ok (.getfield 7, 3) := by decide +kernel
theorem dX11_stepsOf_82 : decode cX11_stepsOf 82 = .ok (.iload 5, 2) := by decide +kernel
theorem dX11_stepsOf_84 : decode cX11_stepsOf 84 = .ok (.iaload, 1) := by decide +kernel
theorem dX11_stepsOf_85 : decode cX11_stepsOf 85 = .ok (.bipush 36, 2) := by decide +kernel
theorem dX11_stepsOf_87 : decode cX11_stepsOf 87 = .ok (.if_icmp .ne 6, 3) := by decide +kernel
theorem dX11_stepsOf_90 : decode cX11_stepsOf 90 = .ok (.iconst 0, 1) := by decide +kernel
theorem dX11_stepsOf_91 : decode cX11_stepsOf 91 = .ok (.istore 4, 2) := by decide +kernel
theorem dX11_stepsOf_93 : decode cX11_stepsOf 93 = .ok (.iload_n 2, 1) := by decide +kernel
theorem dX11_stepsOf_94 : decode cX11_stepsOf 94 = .ok (.aload_n 0, 1) := by decide +kernel
theorem dX11_stepsOf_95 : decode cX11_stepsOf 95 = .ok (.getfield 7, 3) := by decide +kernel
theorem dX11_stepsOf_98 : decode cX11_stepsOf 98 = .ok (.iload 5, 2) := by decide +kernel
theorem dX11_stepsOf_100 : decode cX11_stepsOf 100 = .ok (.iaload, 1) := by decide +kernel
theorem dX11_stepsOf_101 : decode cX11_stepsOf 101 = .ok (.bipush 46, 2) := by decide +kernel
theorem dX11_stepsOf_103 : decode cX11_stepsOf 103 = .ok (.if_icmp .ne 7, 3) := by decide +kernel
theorem dX11_stepsOf_106 : decode cX11_stepsOf 106 = .ok (.iconst 1, 1) := by decide +kernel
theorem dX11_stepsOf_107 : decode cX11_stepsOf 107 = .ok (.goto 4, 3) := by decide +kernel
theorem dX11_stepsOf_110 : decode cX11_stepsOf 110 = .ok (.iconst 0, 1) := by decide +kernel
theorem dX11_stepsOf_111 : decode cX11_stepsOf 111 = .ok (.iadd, 1) := by decide +kernel
theorem dX11_stepsOf_112 : decode cX11_stepsOf 112 = .ok (.istore_n 2, 1) := by decide +kernel
theorem dX11_stepsOf_113 : decode cX11_stepsOf 113 = .ok (.iinc 5 1, 3) := by decide +kernel
theorem dX11_stepsOf_116 : decode cX11_stepsOf 116 = .ok (.goto (-100), 3) := by decide +kernel
theorem dX11_stepsOf_119 : decode cX11_stepsOf 119 = .ok (.iload 4, 2) := by decide +kernel
theorem dX11_stepsOf_121 : decode cX11_stepsOf 121 = .ok (.ifCond .eq 13, 3) := by decide +kernel
theorem dX11_stepsOf_124 : decode cX11_stepsOf 124 = .ok (.iload_n 2, 1) := by decide +kernel
theorem dX11_stepsOf_125 : decode cX11_stepsOf 125 = .ok (.bipush 9, 2) := by decide +kernel
theorem dX11_stepsOf_127 : decode cX11_stepsOf 127 = .ok (.if_icmp .ge 7, 3) := by decide +kernel
theorem dX11_stepsOf_130 : decode cX11_stepsOf 130 = .ok (.iload_n 2, 1) := by decide +kernel
theorem dX11_stepsOf_131 : decode cX11_stepsOf 131 = .ok (.goto 4, 3) := by decide +kernel
theorem dX11_stepsOf_134 : decode cX11_stepsOf 134 = .ok (.iconst 0, 1) := by decide +kernel
theorem dX11_stepsOf_135 : decode cX11_stepsOf 135 = .ok (.ireturn, 1) := by decide +kernel
theorem dX11_checkFilter_0 : decode cX11_checkFilter 0 = .ok (.aload_n 0, 1) := by decide +kernel
theorem dX11_checkFilter_1 : decode cX11_checkFilter 1 = .ok (.iload_n 1, 1) := by decide +kernel
theorem dX11_checkFilter_2 : decode cX11_checkFilter 2 = .ok (.invokevirtual 137, 3) := by decide +kernel
theorem dX11_checkFilter_5 : decode cX11_checkFilter 5 = .ok (.istore_n 2, 1) := by decide +kernel
theorem dX11_checkFilter_6 : decode cX11_checkFilter 6 = .ok (.iload_n 2, 1) := by decide +kernel
theorem dX11_checkFilter_7 : decode cX11_checkFilter 7 = .ok (.ifCond .le 40, 3) := by decide +kernel
theorem dX11_checkFilter_10 : decode cX11_checkFilter 10 = .ok (.aload_n 0, 1) := by decide +kernel
theorem dX11_checkFilter_11 : decode cX11_checkFilter 11 = .ok (.getfield 191, 3) := by decide +kernel
theorem dX11_checkFilter_14 : decode cX11_checkFilter 14 = .ok (.ifCond .ne 33, 3) := by decide +kernel
theorem dX11_checkFilter_17 : decode cX11_checkFilter 17 = .ok (.aload_n 0, 1) := by decide +kernel
theorem dX11_checkFilter_18 : decode cX11_checkFilter 18 = .ok (.iload_n 2, 1) := by decide +kernel
theorem dX11_checkFilter_19 : decode cX11_checkFilter 19 = .ok (.invokevirtual 145, 3) := by decide +kernel
theorem dX11_checkFilter_22 : decode cX11_checkFilter 22 = .ok (.ifCond .eq 11, 3) := by decide +kernel
theorem dX11_checkFilter_25 : decode cX11_checkFilter 25 = .ok (.aload_n 0, 1) := by decide +kernel
theorem dX11_checkFilter_26 : decode cX11_checkFilter 26 = .ok (.iload_n 2, 1) := by decide +kernel
theorem dX11_checkFilter_27 : decode cX11_checkFilter 27 = .ok (.invokevirtual 203, 3) := by decide +kernel
theorem dX11_checkFilter_30 : decode cX11_checkFilter 30 = .ok (.goto 8, 3) := by decide +kernel
theorem dX11_checkFilter_33 : decode cX11_checkFilter 33 = .ok (.aload_n 0, 1) := by decide +kernel
theorem dX11_checkFilter_34 : decode cX11_checkFilter 34 = .ok (.iload_n 2, 1) := by decide +kernel
theorem dX11_checkFilter_35 : decode cX11_checkFilter 35 = .ok (.invokevirtual 206, 3) := by decide +kernel
theorem dX11_checkFilter_38 : decode cX11_checkFilter 38 = .ok (.aload_n 0, 1) := by decide +kernel
theorem dX11_checkFilter_39 : decode cX11_checkFilter 39 = .ok (.iload_n 2, 1) := by decide +kernel
theorem dX11_checkFilter_40 : decode cX11_checkFilter 40 = .ok (.invokevirtual 140, 3) := by decide +kernel
theorem dX11_checkFilter_43 : decode cX11_checkFilter 43 = .ok (.istore_n 2, 1) := by decide +kernel
theorem dX11_checkFilter_44 : decode cX11_checkFilter 44 = .ok (.goto (-38), 3) := by decide +kernel
theorem dX11_checkFilter_47 : decode cX11_checkFilter 47 = .ok (.return_, 1) := by decide +kernel
theorem dX11_checkJoin_0 : decode cX11_checkJoin 0 = .ok (.aload_n 0, 1) := by decide +kernel
theorem dX11_checkJoin_1 : decode cX11_checkJoin 1 = .ok (.iload_n 1, 1) := by decide +kernel
theorem dX11_checkJoin_2 : decode cX11_checkJoin 2 = .ok (.invokevirtual 209, 3) := by decide +kernel
theorem dX11_checkJoin_5 : decode cX11_checkJoin 5 = .ok (.ifCond .ne 10, 3) := by decide +kernel
theorem dX11_checkJoin_8 : decode cX11_checkJoin 8 = .ok (.aload_n 0, 1) := by decide +kernel
theorem dX11_checkJoin_9 : decode cX11_checkJoin 9 = .ok (.iconst 1, 1) := by decide +kernel
theorem dX11_checkJoin_10 : decode cX11_checkJoin 10 = .ok (.iload_n 1, 1) := by decide +kernel
theorem dX11_checkJoin_11 : decode cX11_checkJoin 11 = .ok (.invokevirtual 200, 3) := by decide +kernel
theorem dX11_checkJoin_14 : decode cX11_checkJoin 14 = .ok (.return_, 1) := by decide +kernel
theorem dX11_checkJoin_15 : decode cX11_checkJoin 15 = .ok (.aload_n 0, 1) := by decide +kernel
theorem dX11_checkJoin_16 : decode cX11_checkJoin 16 = .ok (.getfield 7, 3) := by decide +kernel
theorem dX11_checkJoin_19 : decode cX11_checkJoin 19 = .ok (.iload_n 1, 1) := by decide +kernel
theorem dX11_checkJoin_20 : decode cX11_checkJoin 20 = .ok (.iaload, 1) := by decide +kernel
theorem dX11_checkJoin_21 : decode cX11_checkJoin 21 = .ok (.iconst 4, 1) := by decide +kernel
theorem dX11_checkJoin_22 : decode cX11_checkJoin 22 = .ok (.if_icmp .ne 15, 3) := by decide +kernel
theorem dX11_checkJoin_25 : decode cX11_checkJoin 25 = .ok (.aload_n 0, 1) := by decide +kernel
theorem dX11_checkJoin_26 : decode cX11_checkJoin 26 = .ok (.aload_n 0, 1) := by decide +kernel
theorem dX11_checkJoin_27 : decode cX11_checkJoin 27 = .ok (.iload_n 1, 1) := by decide +kernel
theorem dX11_checkJoin_28 : decode cX11_checkJoin 28 = .ok (.invokevirtual 131, 3) := by decide +kernel
theorem dX11_checkJoin_31 : decode cX11_checkJoin 31 = .ok (.invokevirtual 137, 3) := by decide +kernel
theorem dX11_checkJoin_34 : decode cX11_checkJoin 34 = .ok (.ifCond .ne 9, 3) := by decide +kernel
theorem dX11_checkJoin_37 : decode cX11_checkJoin 37 = .ok (.aload_n 0, 1) := by decide +kernel
theorem dX11_checkJoin_38 : decode cX11_checkJoin 38 = .ok (.iconst 2, 1) := by decide +kernel
theorem dX11_checkJoin_39 : decode cX11_checkJoin 39 = .ok (.iload_n 1, 1) := by decide +kernel
theorem dX11_checkJoin_40 : decode cX11_checkJoin 40 = .ok (.invokevirtual 200, 3) := by decide +kernel
theorem dX11_checkJoin_43 : decode cX11_checkJoin 43 = .ok (.aload_n 0, 1) := by decide +kernel
theorem dX11_checkJoin_44 : decode cX11_checkJoin 44 = .ok (.iconst 1, 1) := by decide +kernel
theorem dX11_checkJoin_45 : decode cX11_checkJoin 45 = .ok (.iload_n 1, 1) := by decide +kernel
theorem dX11_checkJoin_46 : decode cX11_checkJoin 46 = .ok (.invokevirtual 212, 3) := by decide +kernel
theorem dX11_checkJoin_49 : decode cX11_checkJoin 49 = .ok (.aload_n 0, 1) := by decide +kernel
theorem dX11_checkJoin_50 : decode cX11_checkJoin 50 = .ok (.getfield 191, 3) := by decide +kernel
theorem dX11_checkJoin_53 : decode cX11_checkJoin 53 = .ok (.ifCond .eq 4, 3) := by decide +kernel
theorem dX11_checkJoin_56 : decode cX11_checkJoin 56 = .ok (.return_, 1) := by decide +kernel
theorem dX11_checkJoin_57 : decode cX11_checkJoin 57 = .ok (.aload_n 0, 1) := by decide +kernel
theorem dX11_checkJoin_58 : decode cX11_checkJoin 58 = .ok (.aload_n 0, 1) := by decide +kernel
theorem dX11_checkJoin_59 : decode cX11_checkJoin 59 = .ok (.iload_n 1, 1) := by decide +kernel
theorem dX11_checkJoin_60 : decode cX11_checkJoin 60 = .ok (.invokevirtual 131, 3) := by decide +kernel
theorem dX11_checkJoin_63 : decode cX11_checkJoin 63 = .ok (.invokevirtual 137, 3) := by decide +kernel
theorem dX11_checkJoin_66 : decode cX11_checkJoin 66 = .ok (.istore_n 2, 1) := by decide +kernel
theorem dX11_checkJoin_67 : decode cX11_checkJoin 67 = .ok (.iload_n 2, 1) := by decide +kernel
theorem dX11_checkJoin_68 : decode cX11_checkJoin 68 = .ok (.ifCond .le 47, 3) := by decide +kernel
theorem dX11_checkJoin_71 : decode cX11_checkJoin 71 = .ok (.aload_n 0, 1) := by decide +kernel
theorem dX11_checkJoin_72 : decode cX11_checkJoin 72 = .ok (.getfield 191, 3) := by decide +kernel
theorem dX11_checkJoin_75 : decode cX11_checkJoin 75 = .ok (.ifCond .ne 40, 3) := by decide +kernel
theorem dX11_checkJoin_78 : decode cX11_checkJoin 78 = .ok (.aload_n 0, 1) := by decide +kernel
theorem dX11_checkJoin_79 : decode cX11_checkJoin 79 = .ok (.getfield 7, 3) := by decide +kernel
theorem dX11_checkJoin_82 : decode cX11_checkJoin 82 = .ok (.iload_n 2, 1) := by decide +kernel
theorem dX11_checkJoin_83 : decode cX11_checkJoin 83 = .ok (.iaload, 1) := by decide +kernel
theorem dX11_checkJoin_84 : decode cX11_checkJoin 84 = .ok (.iconst 3, 1) := by decide +kernel
theorem dX11_checkJoin_85 : decode cX11_checkJoin 85 = .ok (.if_icmp .eq 12, 3) := by decide +kernel
theorem dX11_checkJoin_88 : decode cX11_checkJoin 88 = .ok (.aload_n 0, 1) := by decide +kernel
theorem dX11_checkJoin_89 : decode cX11_checkJoin 89 = .ok (.iconst 2, 1) := by decide +kernel
theorem dX11_checkJoin_90 : decode cX11_checkJoin 90 = .ok (.iload_n 2, 1) := by decide +kernel
theorem dX11_checkJoin_91 : decode cX11_checkJoin 91 = .ok (.invokevirtual 200, 3) := by decide +kernel
theorem dX11_checkJoin_94 : decode cX11_checkJoin 94 = .ok (.goto 12, 3) := by decide +kernel
theorem dX11_checkJoin_97 : decode cX11_checkJoin 97 = .ok (.aload_n 0, 1) := by decide +kernel
theorem dX11_checkJoin_98 : decode cX11_checkJoin 98 = .ok (.aload_n 0, 1) := by decide +kernel
theorem dX11_checkJoin_99 : decode cX11_checkJoin 99 = .ok (.iload_n 2, 1) := by decide +kernel
theorem dX11_checkJoin_100 : decode cX11_checkJoin 100 = .ok (.invokevirtual 131, 3) := by decide +kernel
theorem dX11_checkJoin_103 : decode cX11_checkJoin 103 = .ok (.invokevirtual 215, 3) := by decide +kernel
theorem dX11_checkJoin_106 : decode cX11_checkJoin 106 = .ok (.aload_n 0, 1) := by decide +kernel
theorem dX11_checkJoin_107 : decode cX11_checkJoin 107 = .ok (.iload_n 2, 1) := by decide +kernel
theorem dX11_checkJoin_108 : decode cX11_checkJoin 108 = .ok (.invokevirtual 140, 3) := by decide +kernel
theorem dX11_checkJoin_111 : decode cX11_checkJoin 111 = .ok (.istore_n 2, 1) := by decide +kernel
theorem dX11_checkJoin_112 : decode cX11_checkJoin 112 = .ok (.goto (-45), 3) := by decide +kernel
theorem dX11_checkJoin_115 : decode cX11_checkJoin 115 = .ok (.return_, 1) := by decide +kernel
theorem dX11_checkPath_0 : decode cX11_checkPath 0 = .ok (.aload_n 0, 1) := by decide +kernel
theorem dX11_checkPath_1 : decode cX11_checkPath 1 = .ok (.iload_n 1, 1) := by decide +kernel
theorem dX11_checkPath_2 : decode cX11_checkPath 2 = .ok (.invokevirtual 218, 3) := by decide +kernel
theorem dX11_checkPath_5 : decode cX11_checkPath 5 = .ok (.istore_n 2, 1) := by decide +kernel
theorem dX11_checkPath_6 : decode cX11_checkPath 6 = .ok (.iload_n 2, 1) := by decide +kernel
theorem dX11_checkPath_7 : decode cX11_checkPath 7 = .ok (.ifCond .ne 9, 3) := by decide +kernel
theorem dX11_checkPath_10 : decode cX11_checkPath 10 = .ok (.aload_n 0, 1) := by decide +kernel
theorem dX11_checkPath_11 : decode cX11_checkPath 11 = .ok (.iconst 3, 1) := by decide +kernel
theorem dX11_checkPath_12 : decode cX11_checkPath 12 = .ok (.iload_n 1, 1) := by decide +kernel
theorem dX11_checkPath_13 : decode cX11_checkPath 13 = .ok (.invokevirtual 200, 3) := by decide +kernel
theorem dX11_checkPath_16 : decode cX11_checkPath 16 = .ok (.aload_n 0, 1) := by decide +kernel
theorem dX11_checkPath_17 : decode cX11_checkPath 17 = .ok (.dup, 1) := by decide +kernel
theorem dX11_checkPath_18 : decode cX11_checkPath 18 = .ok (.getfield 221, 3) := by decide +kernel
theorem dX11_checkPath_21 : decode cX11_checkPath 21 = .ok (.iconst 1, 1) := by decide +kernel
theorem dX11_checkPath_22 : decode cX11_checkPath 22 = .ok (.iadd, 1) := by decide +kernel
theorem dX11_checkPath_23 : decode cX11_checkPath 23 = .ok (.putfield 221, 3) := by decide +kernel
theorem dX11_checkPath_26 : decode cX11_checkPath 26 = .ok (.aload_n 0, 1) := by decide +kernel
theorem dX11_checkPath_27 : decode cX11_checkPath 27 = .ok (.dup, 1) := by decide +kernel
theorem dX11_checkPath_28 : decode cX11_checkPath 28 = .ok (.getfield 224, 3) := by decide +kernel
theorem dX11_checkPath_31 : decode cX11_checkPath 31 = .ok (.iload_n 2, 1) := by decide +kernel
theorem dX11_checkPath_32 : decode cX11_checkPath 32 = .ok (.iadd, 1) := by decide +kernel
theorem dX11_checkPath_33 : decode cX11_checkPath 33 = .ok (.putfield 224, 3) := by decide +kernel
theorem dX11_checkPath_36 : decode cX11_checkPath 36 = .ok (.aload_n 0, 1) := by decide +kernel
theorem dX11_checkPath_37 : decode cX11_checkPath 37 = .ok (.aload_n 0, 1) := by decide +kernel
theorem dX11_checkPath_38 : decode cX11_checkPath 38 = .ok (.getfield 7, 3) := by decide +kernel
theorem dX11_checkPath_41 : decode cX11_checkPath 41 = .ok (.iload_n 1, 1) := by decide +kernel
theorem dX11_checkPath_42 : decode cX11_checkPath 42 = .ok (.iaload, 1) := by decide +kernel
theorem dX11_checkPath_43 : decode cX11_checkPath 43 = .ok (.aload_n 0, 1) := by decide +kernel
theorem dX11_checkPath_44 : decode cX11_checkPath 44 = .ok (.iload_n 1, 1) := by decide +kernel
theorem dX11_checkPath_45 : decode cX11_checkPath 45 = .ok (.invokevirtual 131, 3) := by decide +kernel
theorem dX11_checkPath_48 : decode cX11_checkPath 48 = .ok (.invokevirtual 227, 3) := by decide +kernel
theorem dX11_checkPath_51 : decode cX11_checkPath 51 = .ok (.ifCond .ne 7, 3) := by decide +kernel
theorem dX11_checkPath_54 : decode cX11_checkPath 54 = .ok (.iconst 1, 1) := by decide +kernel
theorem dX11_checkPath_55 : decode cX11_checkPath 55 = .ok (.goto 4, 3) := by decide +kernel
theorem dX11_checkPath_58 : decode cX11_checkPath 58 = .ok (.iconst 0, 1) := by decide +kernel
theorem dX11_checkPath_59 : decode cX11_checkPath 59 = .ok (.istore_n 3, 1) := by decide +kernel
theorem dX11_checkPath_60 : decode cX11_checkPath 60 = .ok (.aload_n 0, 1) := by decide +kernel
theorem dX11_checkPath_61 : decode cX11_checkPath 61 = .ok (.iload_n 3, 1) := by decide +kernel
theorem dX11_checkPath_62 : decode cX11_checkPath 62 = .ok (.ifCond .eq 7, 3) := by decide +kernel
theorem dX11_checkPath_65 : decode cX11_checkPath 65 = .ok (.iconst 2, 1) := by decide +kernel
theorem dX11_checkPath_66 : decode cX11_checkPath 66 = .ok (.goto 4, 3) := by decide +kernel
theorem dX11_checkPath_69 : decode cX11_checkPath 69 = .ok (.iconst 1, 1) := by decide +kernel
theorem dX11_checkPath_70 : decode cX11_checkPath 70 = .ok (.iload_n 1, 1) := by decide +kernel
theorem dX11_checkPath_71 : decode cX11_checkPath 71 = .ok (.invokevirtual 212, 3) := by decide +kernel
theorem dX11_checkPath_74 : decode cX11_checkPath 74 = .ok (.iload_n 3, 1) := by decide +kernel
theorem dX11_checkPath_75 : decode cX11_checkPath 75 = .ok (.ifCond .ne 19, 3) := by decide +kernel
theorem dX11_checkPath_78 : decode cX11_checkPath 78 = .ok (.aload_n 0, 1) := by decide +kernel
theorem dX11_checkPath_79 : decode cX11_checkPath 79 = .ok (.getfield 191, 3) := by decide +kernel
theorem dX11_checkPath_82 : decode cX11_checkPath 82 = .ok (.ifCond .ne 12, 3) := by decide +kernel
theorem dX11_checkPath_85 : decode cX11_checkPath 85 = .ok (.aload_n 0, 1) := by decide +kernel
theorem dX11_checkPath_86 : decode cX11_checkPath 86 = .ok (.aload_n 0, 1) := by decide +kernel
theorem dX11_checkPath_87 : decode cX11_checkPath 87 = .ok (.iload_n 1, 1) := by decide +kernel
theorem dX11_checkPath_88 : decode cX11_checkPath 88 = .ok (.invokevirtual 131, 3) := by decide +kernel
theorem dX11_checkPath_91 : decode cX11_checkPath 91 = .ok (.invokevirtual 231, 3) := by decide +kernel
theorem dX11_checkPath_94 : decode cX11_checkPath 94 = .ok (.return_, 1) := by decide +kernel
theorem dX11_checkConditions_0 : decode cX11_checkConditions 0 = .ok (.aload_n 0, 1) := by decide +kernel
theorem dX11_checkConditions_1 : decode cX11_checkConditions 1 = .ok (.iload_n 1, 1) := by decide +kernel
theorem dX11_checkConditions_2 : decode cX11_checkConditions 2 = .ok (.invokevirtual 137, 3) := by decide +kernel
theorem dX11_checkConditions_5 : decode cX11_checkConditions 5 = .ok (.istore_n 2, 1) := by decide +kernel
theorem dX11_checkConditions_6 : decode cX11_checkConditions 6 = .ok (.iload_n 2, 1) := by decide +kernel
theorem dX11_checkConditions_7 : decode cX11_checkConditions 7 = .ok (.ifCond .le 129, 3) := by decide +kernel
theorem dX11_checkConditions_10 : decode cX11_checkConditions 10 = .ok (.aload_n 0, 1) := by decide +kernel
theorem dX11_checkConditions_11 : decode cX11_checkConditions 11 = .ok (.getfield 191, 3) := by decide +kernel
theorem dX11_checkConditions_14 : decode cX11_checkConditions 14 = .ok (.ifCond .ne 122, 3) := by decide +kernel
theorem dX11_checkConditions_17 : decode cX11_checkConditions 17 = .ok (.aload_n 0, 1) := by decide +kernel
theorem dX11_checkConditions_18 : decode cX11_checkConditions 18 = .ok (.iload_n 2, 1) := by decide +kernel
theorem dX11_checkConditions_19 : decode cX11_checkConditions 19 = .ok (.invokevirtual 234, 3) := by decide +kernel
theorem dX11_checkConditions_22 : decode cX11_checkConditions 22 = .ok (.istore_n 3, 1) := by decide +kernel
theorem dX11_checkConditions_23 : decode cX11_checkConditions 23 = .ok (.aload_n 0, 1) := by decide +kernel
theorem dX11_checkConditions_24 : decode cX11_checkConditions 24 = .ok (.iload_n 2, 1) := by decide +kernel
theorem dX11_checkConditions_25 : decode cX11_checkConditions 25 = .ok (.invokevirtual 131, 3) := by decide +kernel
theorem dX11_checkConditions_28 : decode cX11_checkConditions 28 = .ok (.istore 4, 2) := by decide +kernel
theorem dX11_checkConditions_30 : decode cX11_checkConditions 30 = .ok (.iload_n 3, 1) := by decide +kernel
theorem dX11_checkConditions_31 : decode cX11_checkConditions 31 = .ok (.ifCond .ne 12, 3) := by decide +kernel
theorem dX11_checkConditions_34 : decode cX11_checkConditions 34 = .ok (.aload_n 0, 1) := by decide +kernel
theorem dX11_checkConditions_35 : decode cX11_checkConditions 35 = .ok (.iconst 1, 1) := by decide +kernel
theorem dX11_checkConditions_36 : decode cX11_checkConditions 36 = .ok (.iload_n 2, 1) := by decide +kernel
theorem dX11_checkConditions_37 : decode cX11_checkConditions 37 = .ok (.invokevirtual 200, 3) := by decide +kernel
theorem dX11_checkConditions_40 : decode cX11_checkConditions 40 = .ok (.goto 25, 3) := by decide +kernel
theorem dX11_checkConditions_43 : decode cX11_checkConditions 43 = .ok (.aload_n 0, 1) := by decide +kernel
theorem dX11_checkConditions_44 : decode cX11_checkConditions 44 = .ok (.iload_n 3, 1) := by decide +kernel
theorem dX11_checkConditions_45 : decode cX11_checkConditions 45 = .ok (.aload_n 0, 1) := by decide +kernel
theorem dX11_checkConditions_46 : decode cX11_checkConditions 46 = .ok (.getfield 7, 3) := by decide +kernel
theorem dX11_checkConditions_49 : decode cX11_checkConditions 49 = .ok (.iload_n 2, 1) := by decide +kernel
theorem dX11_checkConditions_50 : decode cX11_checkConditions 50 = .ok (.iaload, 1) := by decide +kernel
theorem dX11_checkConditions_51 : decode cX11_checkConditions 51 = .ok (.iload 4, 2) := by decide +kernel
theorem dX11_checkConditions_53 : decode cX11_checkConditions 53 = .ok (.invokevirtual 237, 3) := by decide +kernel
theorem dX11_checkConditions_56 : decode cX11_checkConditions 56 = .ok (.ifCond .ne 9, 3) := by decide +kernel
theorem dX11_checkConditions_59 : decode cX11_checkConditions 59 = .ok (.aload_n 0, 1) := by decide +kernel
theorem dX11_checkConditions_60 : decode cX11_checkConditions 60 = .ok (.iconst 4, 1) := by decide +kernel
theorem dX11_checkConditions_61 : decode cX11_checkConditions 61 = .ok (.iload_n 2, 1) := by decide +kernel
theorem dX11_checkConditions_62 : decode cX11_checkConditions 62 = .ok (.invokevirtual 200, 3) := by decide +kernel
theorem dX11_checkConditions_65 : decode cX11_checkConditions 65 = .ok (.aload_n 0, 1) := by decide +kernel
theorem dX11_checkConditions_66 : decode cX11_checkConditions 66 = .ok (.iconst 1, 1) := by decide +kernel
theorem dX11_checkConditions_67 : decode cX11_checkConditions 67 = .ok (.iload_n 2, 1) := by decide +kernel
theorem dX11_checkConditions_68 : decode cX11_checkConditions 68 = .ok (.invokevirtual 212, 3) := by decide +kernel
theorem dX11_checkConditions_71 : decode cX11_checkConditions 71 = .ok (.aload_n 0, 1) := by decide +kernel
theorem dX11_checkConditions_72 : decode cX11_checkConditions 72 = .ok (.getfield 191, 3) := by decide +kernel
theorem dX11_checkConditions_75 : decode cX11_checkConditions 75 = .ok (.ifCond .ne 15, 3) := by decide +kernel
theorem dX11_checkConditions_78 : decode cX11_checkConditions 78 = .ok (.iload_n 3, 1) := by decide +kernel
theorem dX11_checkConditions_79 : decode cX11_checkConditions 79 = .ok (.bipush 12, 2) := by decide +kernel
theorem dX11_checkConditions_81 : decode cX11_checkConditions 81 = .ok (.if_icmp .ne 9, 3) := by decide +kernel
theorem dX11_checkConditions_84 : decode cX11_checkConditions 84 = .ok (.aload_n 0, 1) := by decide +kernel
theorem dX11_checkConditions_85 : decode cX11_checkConditions 85 = .ok (.iload 4, 2) := by decide +kernel
theorem dX11_checkConditions_87 : decode cX11_checkConditions 87 = .ok (.invokevirtual 231, 3) := by decide +kernel
theorem dX11_checkConditions_90 : decode cX11_checkConditions 90 = .ok (.aload_n 0, 1) := by decide +kernel
theorem dX11_checkConditions_91 : decode cX11_checkConditions 91 = .ok (.getfield 191, 3) := by decide +kernel
theorem dX11_checkConditions_94 : decode cX11_checkConditions 94 = .ok (.ifCond .ne 33, 3) := by decide +kernel
theorem dX11_checkConditions_97 : decode cX11_checkConditions 97 = .ok (.iload_n 3, 1) := by decide +kernel
theorem dX11_checkConditions_98 : decode cX11_checkConditions 98 = .ok (.bipush 11, 2) := by decide +kernel
theorem dX11_checkConditions_100 : decode cX11_checkConditions 100 = .ok (.if_icmp .ne 27, 3) := by decide +kernel
theorem dX11_checkConditions_103 : decode cX11_checkConditions 103 = .ok (.aload_n 0, 1) := by decide +kernel
theorem dX11_checkConditions_104 : decode cX11_checkConditions 104 = .ok (.iload 4, 2) := by decide +kernel
theorem dX11_checkConditions_106 : decode cX11_checkConditions 106 = .ok (.invokevirtual 240, 3) := by decide +kernel
theorem dX11_checkConditions_109 : decode cX11_checkConditions 109 = .ok (.ifCond .eq 12, 3) := by decide +kernel
theorem dX11_checkConditions_112 : decode cX11_checkConditions 112 = .ok (.aload_n 0, 1) := by decide +kernel
theorem dX11_checkConditions_113 : decode cX11_checkConditions 113 = .ok (.iload 4, 2) := by decide +kernel
theorem dX11_checkConditions_115 : decode cX11_checkConditions 115 = .ok (.invokevirtual 231, 3) := by decide +kernel
theorem dX11_checkConditions_118 : decode cX11_checkConditions 118 = .ok (.goto 9, 3) := by decide +kernel
theorem dX11_checkConditions_121 : decode cX11_checkConditions 121 = .ok (.aload_n 0, 1) := by decide +kernel
theorem dX11_checkConditions_122 : decode cX11_checkConditions 122 = .ok (.iload 4, 2) := by decide +kernel
theorem dX11_checkConditions_124 : decode cX11_checkConditions 124 = .ok (.invokevirtual 215, 3) := by decide +kernel
theorem dX11_checkConditions_127 : decode cX11_checkConditions 127 = .ok (.aload_n 0, 1) := by decide +kernel
theorem dX11_checkConditions_128 : decode cX11_checkConditions 128 = .ok (.iload_n 2, 1) := by decide +kernel
theorem dX11_checkConditions_129 : decode cX11_checkConditions 129 = .ok (.invokevirtual 140, 3) := by decide +kernel
theorem dX11_checkConditions_132 : decode cX11_checkConditions 132 = .ok (.istore_n 2, 1) := by decide +kernel
theorem dX11_checkConditions_133 : decode cX11_checkConditions 133 = .ok (.goto (-127), 3) := by decide +kernel
theorem dX11_checkConditions_136 : decode cX11_checkConditions 136 = .ok (.return_, 1) := by decide +kernel
theorem dX11_isRight_0 : decode cX11_isRight 0 = .ok (.iload_n 1, 1) := by decide +kernel
theorem dX11_isRight_1 : decode cX11_isRight 1 = .ok (.tableswitch 125 3 12 #[55, 55, 125, 125, 125, 125, 66, 78, 107, 118], 55) := by decide +kernel
theorem dX11_isRight_56 : decode cX11_isRight 56 = .ok (.iload_n 2, 1) := by decide +kernel
theorem dX11_isRight_57 : decode cX11_isRight 57 = .ok (.iconst 4, 1) := by decide +kernel
theorem dX11_isRight_58 : decode cX11_isRight 58 = .ok (.if_icmp .ne 7, 3) := by decide +kernel
theorem dX11_isRight_61 : decode cX11_isRight 61 = .ok (.iconst 1, 1) := by decide +kernel
theorem dX11_isRight_62 : decode cX11_isRight 62 = .ok (.goto 4, 3) := by decide +kernel
theorem dX11_isRight_65 : decode cX11_isRight 65 = .ok (.iconst 0, 1) := by decide +kernel
theorem dX11_isRight_66 : decode cX11_isRight 66 = .ok (.ireturn, 1) := by decide +kernel
theorem dX11_isRight_67 : decode cX11_isRight 67 = .ok (.iload_n 2, 1) := by decide +kernel
theorem dX11_isRight_68 : decode cX11_isRight 68 = .ok (.bipush 8, 2) := by decide +kernel
theorem dX11_isRight_70 : decode cX11_isRight 70 = .ok (.if_icmp .ne 7, 3) := by decide +kernel
theorem dX11_isRight_73 : decode cX11_isRight 73 = .ok (.iconst 1, 1) := by decide +kernel
theorem dX11_isRight_74 : decode cX11_isRight 74 = .ok (.goto 4, 3) := by decide +kernel
theorem dX11_isRight_77 : decode cX11_isRight 77 = .ok (.iconst 0, 1) := by decide +kernel
theorem dX11_isRight_78 : decode cX11_isRight 78 = .ok (.ireturn, 1) := by decide +kernel
theorem dX11_isRight_79 : decode cX11_isRight 79 = .ok (.iload_n 2, 1) := by decide +kernel
theorem dX11_isRight_80 : decode cX11_isRight 80 = .ok (.bipush 16, 2) := by decide +kernel
theorem dX11_isRight_82 : decode cX11_isRight 82 = .ok (.if_icmp .eq 9, 3) := by decide +kernel
theorem dX11_isRight_85 : decode cX11_isRight 85 = .ok (.iload_n 2, 1) := by decide +kernel
theorem dX11_isRight_86 : decode cX11_isRight 86 = .ok (.bipush 18, 2) := by decide +kernel
theorem dX11_isRight_88 : decode cX11_isRight 88 = .ok (.if_icmp .ne 18, 3) := by decide +kernel
theorem dX11_isRight_91 : decode cX11_isRight 91 = .ok (.aload_n 0, 1) := by decide +kernel
theorem dX11_isRight_92 : decode cX11_isRight 92 = .ok (.iload_n 2, 1) := by decide +kernel
theorem dX11_isRight_93 : decode cX11_isRight 93 = .ok (.iload_n 3, 1) := by decide +kernel
theorem dX11_isRight_94 : decode cX11_isRight 94 = .ok (.invokevirtual 243, 3) := by decide +kernel
theorem dX11_isRight_97 : decode cX11_isRight 97 = .ok (.lconst 0, 1) := by decide +kernel
theorem dX11_isRight_98 : decode cX11_isRight 98 = .ok (.lcmp, 1) := by decide +kernel
theorem dX11_isRight_99 : decode cX11_isRight 99 = .ok (.ifCond .lt 7, 3) := by decide +kernel
theorem dX11_isRight_102 : decode cX11_isRight 102 = .ok (.iconst 1, 1) := by decide +kernel
theorem dX11_isRight_103 : decode cX11_isRight 103 = .ok (.goto 4, 3) := by decide +kernel
theorem dX11_isRight_106 : decode cX11_isRight 106 = .ok (.iconst 0, 1) := by decide +kernel
theorem dX11_isRight_107 : decode cX11_isRight 107 = .ok (.ireturn, 1) := by decide +kernel
theorem dX11_isRight_108 : decode cX11_isRight 108 = .ok (.iload_n 2, 1) := by decide +kernel
theorem dX11_isRight_109 : decode cX11_isRight 109 = .ok (.iconst 3, 1) := by decide +kernel
theorem dX11_isRight_110 : decode cX11_isRight 110 = .ok (.if_icmp .ne 7, 3) := by decide +kernel
theorem dX11_isRight_113 : decode cX11_isRight 113 = .ok (.iconst 1, 1) := by decide +kernel
theorem dX11_isRight_114 : decode cX11_isRight 114 = .ok (.goto 4, 3) := by decide +kernel
theorem dX11_isRight_117 : decode cX11_isRight 117 = .ok (.iconst 0, 1) := by decide +kernel
theorem dX11_isRight_118 : decode cX11_isRight 118 = .ok (.ireturn, 1) := by decide +kernel
theorem dX11_isRight_119 : decode cX11_isRight 119 = .ok (.aload_n 0, 1) := by decide +kernel
theorem dX11_isRight_120 : decode cX11_isRight 120 = .ok (.iload_n 2, 1) := by decide +kernel
theorem dX11_isRight_121 : decode cX11_isRight 121 = .ok (.iload_n 3, 1) := by decide +kernel
theorem dX11_isRight_122 : decode cX11_isRight 122 = .ok (.invokevirtual 227, 3) := by decide +kernel
theorem dX11_isRight_125 : decode cX11_isRight 125 = .ok (.ireturn, 1) := by decide +kernel
theorem dX11_isRight_126 : decode cX11_isRight 126 = .ok (.iconst 1, 1) := by decide +kernel
theorem dX11_isRight_127 : decode cX11_isRight 127 = .ok (.ireturn, 1) := by decide +kernel
theorem dX11_asConditions_0 : decode cX11_asConditions 0 = .ok (.aload_n 0, 1) := by decide +kernel
theorem dX11_asConditions_1 : decode cX11_asConditions 1 = .ok (.iconst 3, 1) := by decide +kernel
theorem dX11_asConditions_2 : decode cX11_asConditions 2 = .ok (.iload_n 1, 1) := by decide +kernel
theorem dX11_asConditions_3 : decode cX11_asConditions 3 = .ok (.invokevirtual 227, 3) := by decide +kernel
theorem dX11_asConditions_6 : decode cX11_asConditions 6 = .ok (.ifCond .eq 19, 3) := by decide +kernel
theorem dX11_asConditions_9 : decode cX11_asConditions 9 = .ok (.aload_n 0, 1) := by decide +kernel
theorem dX11_asConditions_10 : decode cX11_asConditions 10 = .ok (.aload_n 0, 1) := by decide +kernel
theorem dX11_asConditions_11 : decode cX11_asConditions 11 = .ok (.iload_n 1, 1) := by decide +kernel
theorem dX11_asConditions_12 : decode cX11_asConditions 12 = .ok (.invokevirtual 137, 3) := by decide +kernel
theorem dX11_asConditions_15 : decode cX11_asConditions 15 = .ok (.invokevirtual 209, 3) := by decide +kernel
theorem dX11_asConditions_18 : decode cX11_asConditions 18 = .ok (.ifCond .ne 7, 3) := by decide +kernel
theorem dX11_asConditions_21 : decode cX11_asConditions 21 = .ok (.iconst 1, 1) := by decide +kernel
theorem dX11_asConditions_22 : decode cX11_asConditions 22 = .ok (.goto 4, 3) := by decide +kernel
theorem dX11_asConditions_25 : decode cX11_asConditions 25 = .ok (.iconst 0, 1) := by decide +kernel
theorem dX11_asConditions_26 : decode cX11_asConditions 26 = .ok (.ireturn, 1) := by decide +kernel
theorem dX11_number_0 : decode cX11_number 0 = .ok (.iload_n 1, 1) := by decide +kernel
theorem dX11_number_1 : decode cX11_number 1 = .ok (.bipush 8, 2) := by decide +kernel
theorem dX11_number_3 : decode cX11_number 3 = .ok (.if_icmp .ne 11, 3) := by decide +kernel
theorem dX11_number_6 : decode cX11_number 6 = .ok (.aload_n 0, 1) := by decide +kernel
theorem dX11_number_7 : decode cX11_number 7 = .ok (.getfield 7, 3) := by decide +kernel
theorem dX11_number_10 : decode cX11_number 10 = .ok (.iload_n 2, 1) := by decide +kernel
theorem dX11_number_11 : decode cX11_number 11 = .ok (.iaload, 1) := by decide +kernel
theorem dX11_number_12 : decode cX11_number 12 = .ok (.i2l, 1) := by decide +kernel
theorem dX11_number_13 : decode cX11_number 13 = .ok (.lreturn, 1) := by decide +kernel
theorem dX11_number_14 : decode cX11_number 14 = .ok (.iload_n 1, 1) := by decide +kernel
theorem dX11_number_15 : decode cX11_number 15 = .ok (.bipush 16, 2) := by decide +kernel
theorem dX11_number_17 : decode cX11_number 17 = .ok (.if_icmp .ne 10, 3) := by decide +kernel
theorem dX11_number_20 : decode cX11_number 20 = .ok (.aload_n 0, 1) := by decide +kernel
theorem dX11_number_21 : decode cX11_number 21 = .ok (.iload_n 2, 1) := by decide +kernel
theorem dX11_number_22 : decode cX11_number 22 = .ok (.invokevirtual 128, 3) := by decide +kernel
theorem dX11_number_25 : decode cX11_number 25 = .ok (.i2l, 1) := by decide +kernel
theorem dX11_number_26 : decode cX11_number 26 = .ok (.lreturn, 1) := by decide +kernel
theorem dX11_number_27 : decode cX11_number 27 = .ok (.lconst 0, 1) := by decide +kernel
theorem dX11_number_28 : decode cX11_number 28 = .ok (.lstore_n 3, 1) := by decide +kernel
theorem dX11_number_29 : decode cX11_number 29 = .ok (.bipush 7, 2) := by decide +kernel
theorem dX11_number_31 : decode cX11_number 31 = .ok (.istore 5, 2) := by decide +kernel
theorem dX11_number_33 : decode cX11_number 33 = .ok (.iload 5, 2) := by decide +kernel
theorem dX11_number_35 : decode cX11_number 35 = .ok (.ifCond .lt 25, 3) := by decide +kernel
theorem dX11_number_38 : decode cX11_number 38 = .ok (.lload_n 3, 1) := by decide +kernel
theorem dX11_number_39 : decode cX11_number 39 = .ok (.bipush 8, 2) := by decide +kernel
theorem dX11_number_41 : decode cX11_number 41 = .ok (.lshl, 1) := by decide +kernel
theorem dX11_number_42 : decode cX11_number 42 = .ok (.aload_n 0, 1) := by decide +kernel
theorem dX11_number_43 : decode cX11_number 43 = .ok (.getfield 7, 3) := by decide +kernel
theorem dX11_number_46 : decode cX11_number 46 = .ok (.iload_n 2, 1) := by decide +kernel
theorem dX11_number_47 : decode cX11_number 47 = .ok (.iload 5, 2) := by decide +kernel
theorem dX11_number_49 : decode cX11_number 49 = .ok (.iadd, 1) := by decide +kernel
theorem dX11_number_50 : decode cX11_number 50 = .ok (.iaload, 1) := by decide +kernel
theorem dX11_number_51 : decode cX11_number 51 = .ok (.i2l, 1) := by decide +kernel
theorem dX11_number_52 : decode cX11_number 52 = .ok (.lor, 1) := by decide +kernel
theorem dX11_number_53 : decode cX11_number 53 = .ok (.lstore_n 3, 1) := by decide +kernel
theorem dX11_number_54 : decode cX11_number 54 = .ok (.iinc 5 (-1), 3) := by decide +kernel
theorem dX11_number_57 : decode cX11_number 57 = .ok (.goto (-24), 3) := by decide +kernel
theorem dX11_number_60 : decode cX11_number 60 = .ok (.lload_n 3, 1) := by decide +kernel
theorem dX11_number_61 : decode cX11_number 61 = .ok (.lreturn, 1) := by decide +kernel
theorem dX11_classOf_0 : decode cX11_classOf 0 = .ok (.iload_n 0, 1) := by decide +kernel
theorem dX11_classOf_1 : decode cX11_classOf 1 = .ok (.tableswitch 96 2 18 #[87, 89, 91, 96, 96, 96, 93, 96, 83, 96, 96, 96, 96, 96, 85, 96, 85], 83) := by decide +kernel
theorem dX11_classOf_84 : decode cX11_classOf 84 = .ok (.iconst 1, 1) := by decide +kernel
theorem dX11_classOf_85 : decode cX11_classOf 85 = .ok (.ireturn, 1) := by decide +kernel
theorem dX11_classOf_86 : decode cX11_classOf 86 = .ok (.iconst 2, 1) := by decide +kernel
theorem dX11_classOf_87 : decode cX11_classOf 87 = .ok (.ireturn, 1) := by decide +kernel
theorem dX11_classOf_88 : decode cX11_classOf 88 = .ok (.iconst 3, 1) := by decide +kernel
theorem dX11_classOf_89 : decode cX11_classOf 89 = .ok (.ireturn, 1) := by decide +kernel
theorem dX11_classOf_90 : decode cX11_classOf 90 = .ok (.iconst 4, 1) := by decide +kernel
theorem dX11_classOf_91 : decode cX11_classOf 91 = .ok (.ireturn, 1) := by decide +kernel
theorem dX11_classOf_92 : decode cX11_classOf 92 = .ok (.iconst 5, 1) := by decide +kernel
theorem dX11_classOf_93 : decode cX11_classOf 93 = .ok (.ireturn, 1) := by decide +kernel
theorem dX11_classOf_94 : decode cX11_classOf 94 = .ok (.bipush 6, 2) := by decide +kernel
theorem dX11_classOf_96 : decode cX11_classOf 96 = .ok (.ireturn, 1) := by decide +kernel
theorem dX11_classOf_97 : decode cX11_classOf 97 = .ok (.iconst 0, 1) := by decide +kernel
theorem dX11_classOf_98 : decode cX11_classOf 98 = .ok (.ireturn, 1) := by decide +kernel
theorem dX11_orderBytes_0 : decode cX11_orderBytes 0 = .ok (.iconst 0, 1) := by decide +kernel
theorem dX11_orderBytes_1 : decode cX11_orderBytes 1 = .ok (.istore 5, 2) := by decide +kernel
theorem dX11_orderBytes_3 : decode cX11_orderBytes 3 = .ok (.iload 5, 2) := by decide +kernel
theorem dX11_orderBytes_5 : decode cX11_orderBytes 5 = .ok (.iload_n 2, 1) := by decide +kernel
theorem dX11_orderBytes_6 : decode cX11_orderBytes 6 = .ok (.if_icmp .ge 37, 3) := by decide +kernel
theorem dX11_orderBytes_9 : decode cX11_orderBytes 9 = .ok (.iload 5, 2) := by decide +kernel
theorem dX11_orderBytes_11 : decode cX11_orderBytes 11 = .ok (.iload 4, 2) := by decide +kernel
theorem dX11_orderBytes_13 : decode cX11_orderBytes 13 = .ok (.if_icmp .ge 30, 3) := by decide +kernel
theorem dX11_orderBytes_16 : decode cX11_orderBytes 16 = .ok (.aload_n 0, 1) := by decide +kernel
theorem dX11_orderBytes_17 : decode cX11_orderBytes 17 = .ok (.getfield 7, 3) := by decide +kernel
theorem dX11_orderBytes_20 : decode cX11_orderBytes 20 = .ok (.iload_n 1, 1) := by decide +kernel
theorem dX11_orderBytes_21 : decode cX11_orderBytes 21 = .ok (.iload 5, 2) := by decide +kernel
theorem dX11_orderBytes_23 : decode cX11_orderBytes 23 = .ok (.iadd, 1) := by decide +kernel
theorem dX11_orderBytes_24 : decode cX11_orderBytes 24 = .ok (.iaload, 1) := by decide +kernel
theorem dX11_orderBytes_25 : decode cX11_orderBytes 25 = .ok (.aload_n 0, 1) := by decide +kernel
theorem dX11_orderBytes_26 : decode cX11_orderBytes 26 = .ok (.getfield 7, 3) := by decide +kernel
theorem dX11_orderBytes_29 : decode cX11_orderBytes 29 = .ok (.iload_n 3, 1) := by decide +kernel
theorem dX11_orderBytes_30 : decode cX11_orderBytes 30 = .ok (.iload 5, 2) := by decide +kernel
theorem dX11_orderBytes_32 : decode cX11_orderBytes 32 = .ok (.iadd, 1) := by decide +kernel
theorem dX11_orderBytes_33 : decode cX11_orderBytes 33 = .ok (.iaload, 1) := by decide +kernel
theorem dX11_orderBytes_34 : decode cX11_orderBytes 34 = .ok (.if_icmp .ne 9, 3) := by decide +kernel
theorem dX11_orderBytes_37 : decode cX11_orderBytes 37 = .ok (.iinc 5 1, 3) := by decide +kernel
theorem dX11_orderBytes_40 : decode cX11_orderBytes 40 = .ok (.goto (-37), 3) := by decide +kernel
theorem dX11_orderBytes_43 : decode cX11_orderBytes 43 = .ok (.iload 5, 2) := by decide +kernel
theorem dX11_orderBytes_45 : decode cX11_orderBytes 45 = .ok (.iload_n 2, 1) := by decide +kernel
theorem dX11_orderBytes_46 : decode cX11_orderBytes 46 = .ok (.if_icmp .ge 37, 3) := by decide +kernel
theorem dX11_orderBytes_49 : decode cX11_orderBytes 49 = .ok (.iload 5, 2) := by decide +kernel
theorem dX11_orderBytes_51 : decode cX11_orderBytes 51 = .ok (.iload 4, 2) := by decide +kernel
theorem dX11_orderBytes_53 : decode cX11_orderBytes 53 = .ok (.if_icmp .ge 30, 3) := by decide +kernel
theorem dX11_orderBytes_56 : decode cX11_orderBytes 56 = .ok (.aload_n 0, 1) := by decide +kernel
theorem dX11_orderBytes_57 : decode cX11_orderBytes 57 = .ok (.getfield 7, 3) := by decide +kernel
theorem dX11_orderBytes_60 : decode cX11_orderBytes 60 = .ok (.iload_n 1, 1) := by decide +kernel
theorem dX11_orderBytes_61 : decode cX11_orderBytes 61 = .ok (.iload 5, 2) := by decide +kernel
theorem dX11_orderBytes_63 : decode cX11_orderBytes 63 = .ok (.iadd, 1) := by decide +kernel
theorem dX11_orderBytes_64 : decode cX11_orderBytes 64 = .ok (.iaload, 1) := by decide +kernel
theorem dX11_orderBytes_65 : decode cX11_orderBytes 65 = .ok (.aload_n 0, 1) := by decide +kernel
theorem dX11_orderBytes_66 : decode cX11_orderBytes 66 = .ok (.getfield 7, 3) := by decide +kernel
theorem dX11_orderBytes_69 : decode cX11_orderBytes 69 = .ok (.iload_n 3, 1) := by decide +kernel
theorem dX11_orderBytes_70 : decode cX11_orderBytes 70 = .ok (.iload 5, 2) := by decide +kernel
theorem dX11_orderBytes_72 : decode cX11_orderBytes 72 = .ok (.iadd, 1) := by decide +kernel
theorem dX11_orderBytes_73 : decode cX11_orderBytes 73 = .ok (.iaload, 1) := by decide +kernel
theorem dX11_orderBytes_74 : decode cX11_orderBytes 74 = .ok (.if_icmp .ge 7, 3) := by decide +kernel
theorem dX11_orderBytes_77 : decode cX11_orderBytes 77 = .ok (.iconst (-1), 1) := by decide +kernel
theorem dX11_orderBytes_78 : decode cX11_orderBytes 78 = .ok (.goto 4, 3) := by decide +kernel
theorem dX11_orderBytes_81 : decode cX11_orderBytes 81 = .ok (.iconst 1, 1) := by decide +kernel
theorem dX11_orderBytes_82 : decode cX11_orderBytes 82 = .ok (.ireturn, 1) := by decide +kernel
theorem dX11_orderBytes_83 : decode cX11_orderBytes 83 = .ok (.iload_n 2, 1) := by decide +kernel
theorem dX11_orderBytes_84 : decode cX11_orderBytes 84 = .ok (.iload 4, 2) := by decide +kernel
theorem dX11_orderBytes_86 : decode cX11_orderBytes 86 = .ok (.if_icmp .ge 7, 3) := by decide +kernel
theorem dX11_orderBytes_89 : decode cX11_orderBytes 89 = .ok (.iconst (-1), 1) := by decide +kernel
theorem dX11_orderBytes_90 : decode cX11_orderBytes 90 = .ok (.goto 14, 3) := by decide +kernel
theorem dX11_orderBytes_93 : decode cX11_orderBytes 93 = .ok (.iload_n 2, 1) := by decide +kernel
theorem dX11_orderBytes_94 : decode cX11_orderBytes 94 = .ok (.iload 4, 2) := by decide +kernel
theorem dX11_orderBytes_96 : decode cX11_orderBytes 96 = .ok (.if_icmp .le 7, 3) := by decide +kernel
theorem dX11_orderBytes_99 : decode cX11_orderBytes 99 = .ok (.iconst 1, 1) := by decide +kernel
theorem dX11_orderBytes_100 : decode cX11_orderBytes 100 = .ok (.goto 4, 3) := by decide +kernel
theorem dX11_orderBytes_103 : decode cX11_orderBytes 103 = .ok (.iconst 0, 1) := by decide +kernel
theorem dX11_orderBytes_104 : decode cX11_orderBytes 104 = .ok (.ireturn, 1) := by decide +kernel
theorem dX11_order_0 : decode cX11_order 0 = .ok (.iload_n 1, 1) := by decide +kernel
theorem dX11_order_1 : decode cX11_order 1 = .ok (.invokestatic 246, 3) := by decide +kernel
theorem dX11_order_4 : decode cX11_order 4 = .ok (.istore 5, 2) := by decide +kernel
theorem dX11_order_6 : decode cX11_order 6 = .ok (.iload 5, 2) := by decide +kernel
theorem dX11_order_8 : decode cX11_order 8 = .ok (.iload_n 3, 1) := by decide +kernel
theorem dX11_order_9 : decode cX11_order 9 = .ok (.invokestatic 246, 3) := by decide +kernel
theorem dX11_order_12 : decode cX11_order 12 = .ok (.if_icmp .eq 18, 3) := by decide +kernel
theorem dX11_order_15 : decode cX11_order 15 = .ok (.iload 5, 2) := by decide +kernel
theorem dX11_order_17 : decode cX11_order 17 = .ok (.iload_n 3, 1) := by decide +kernel
theorem dX11_order_18 : decode cX11_order 18 = .ok (.invokestatic 246, 3) := by decide +kernel
theorem dX11_order_21 : decode cX11_order 21 = .ok (.if_icmp .ge 7, 3) := by decide +kernel
theorem dX11_order_24 : decode cX11_order 24 = .ok (.iconst (-1), 1) := by decide +kernel
theorem dX11_order_25 : decode cX11_order 25 = .ok (.goto 4, 3) := by decide +kernel
theorem dX11_order_28 : decode cX11_order 28 = .ok (.iconst 1, 1) := by decide +kernel
theorem dX11_order_29 : decode cX11_order 29 = .ok (.ireturn, 1) := by decide +kernel
theorem dX11_order_30 : decode cX11_order 30 = .ok (.iload 5, 2) := by decide +kernel
theorem dX11_order_32 : decode cX11_order 32 = .ok (.iconst 2, 1) := by decide +kernel
theorem dX11_order_33 : decode cX11_order 33 = .ok (.if_icmp .eq 10, 3) := by decide +kernel
theorem dX11_order_36 : decode cX11_order 36 = .ok (.iload 5, 2) := by decide +kernel
theorem dX11_order_38 : decode cX11_order 38 = .ok (.bipush 6, 2) := by decide +kernel
theorem dX11_order_40 : decode cX11_order 40 = .ok (.if_icmp .ne 46, 3) := by decide +kernel
theorem dX11_order_43 : decode cX11_order 43 = .ok (.aload_n 0, 1) := by decide +kernel
theorem dX11_order_44 : decode cX11_order 44 = .ok (.iload_n 1, 1) := by decide +kernel
theorem dX11_order_45 : decode cX11_order 45 = .ok (.iload_n 2, 1) := by decide +kernel
theorem dX11_order_46 : decode cX11_order 46 = .ok (.invokevirtual 243, 3) := by decide +kernel
theorem dX11_order_49 : decode cX11_order 49 = .ok (.lstore 6, 2) := by decide +kernel
theorem dX11_order_51 : decode cX11_order 51 = .ok (.aload_n 0, 1) := by decide +kernel
theorem dX11_order_52 : decode cX11_order 52 = .ok (.iload_n 3, 1) := by decide +kernel
theorem dX11_order_53 : decode cX11_order 53 = .ok (.iload 4, 2) := by decide +kernel
theorem dX11_order_55 : decode cX11_order 55 = .ok (.invokevirtual 243, 3) := by decide +kernel
theorem dX11_order_58 : decode cX11_order 58 = .ok (.lstore 8, 2) := by decide +kernel
theorem dX11_order_60 : decode cX11_order 60 = .ok (.lload 6, 2) := by decide +kernel
theorem dX11_order_62 : decode cX11_order 62 = .ok (.lload 8, 2) := by decide +kernel
theorem dX11_order_64 : decode cX11_order 64 = .ok (.lcmp, 1) := by decide +kernel
theorem dX11_order_65 : decode cX11_order 65 = .ok (.ifCond .ge 7, 3) := by decide +kernel
theorem dX11_order_68 : decode cX11_order 68 = .ok (.iconst (-1), 1) := by decide +kernel
theorem dX11_order_69 : decode cX11_order 69 = .ok (.goto 16, 3) := by decide +kernel
theorem dX11_order_72 : decode cX11_order 72 = .ok (.lload 6, 2) := by decide +kernel
theorem dX11_order_74 : decode cX11_order 74 = .ok (.lload 8, 2) := by decide +kernel
theorem dX11_order_76 : decode cX11_order 76 = .ok (.lcmp, 1) := by decide +kernel
theorem dX11_order_77 : decode cX11_order 77 = .ok (.ifCond .le 7, 3) := by decide +kernel
theorem dX11_order_80 : decode cX11_order 80 = .ok (.iconst 1, 1) := by decide +kernel
theorem dX11_order_81 : decode cX11_order 81 = .ok (.goto 4, 3) := by decide +kernel
theorem dX11_order_84 : decode cX11_order 84 = .ok (.iconst 0, 1) := by decide +kernel
theorem dX11_order_85 : decode cX11_order 85 = .ok (.ireturn, 1) := by decide +kernel
theorem dX11_order_86 : decode cX11_order 86 = .ok (.iload 5, 2) := by decide +kernel
theorem dX11_order_88 : decode cX11_order 88 = .ok (.iconst 3, 1) := by decide +kernel
theorem dX11_order_89 : decode cX11_order 89 = .ok (.if_icmp .ne 30, 3) := by decide +kernel
theorem dX11_order_92 : decode cX11_order 92 = .ok (.aload_n 0, 1) := by decide +kernel
theorem dX11_order_93 : decode cX11_order 93 = .ok (.iload_n 2, 1) := by decide +kernel
theorem dX11_order_94 : decode cX11_order 94 = .ok (.iconst 4, 1) := by decide +kernel
theorem dX11_order_95 : decode cX11_order 95 = .ok (.iadd, 1) := by decide +kernel
theorem dX11_order_96 : decode cX11_order 96 = .ok (.aload_n 0, 1) := by decide +kernel
theorem dX11_order_97 : decode cX11_order 97 = .ok (.iload_n 2, 1) := by decide +kernel
theorem dX11_order_98 : decode cX11_order 98 = .ok (.invokevirtual 128, 3) := by decide +kernel
theorem dX11_order_101 : decode cX11_order 101 = .ok (.iconst 1, 1) := by decide +kernel
theorem dX11_order_102 : decode cX11_order 102 = .ok (.isub, 1) := by decide +kernel
theorem dX11_order_103 : decode cX11_order 103 = .ok (.iload 4, 2) := by decide +kernel
theorem dX11_order_105 : decode cX11_order 105 = .ok (.iconst 4, 1) := by decide +kernel
theorem dX11_order_106 : decode cX11_order 106 = .ok (.iadd, 1) := by decide +kernel
theorem dX11_order_107 : decode cX11_order 107 = .ok (.aload_n 0, 1) := by decide +kernel
theorem dX11_order_108 : decode cX11_order 108 = .ok (.iload 4, 2) := by decide +kernel
theorem dX11_order_110 : decode cX11_order 110 = .ok (.invokevirtual 128, 3) := by decide +kernel
theorem dX11_order_113 : decode cX11_order 113 = .ok (.iconst 1, 1) := by decide +kernel
theorem dX11_order_114 : decode cX11_order 114 = .ok (.isub, 1) := by decide +kernel
theorem dX11_order_115 : decode cX11_order 115 = .ok (.invokevirtual 249, 3) := by decide +kernel
theorem dX11_order_118 : decode cX11_order 118 = .ok (.ireturn, 1) := by decide +kernel
theorem dX11_order_119 : decode cX11_order 119 = .ok (.iload 5, 2) := by decide +kernel
theorem dX11_order_121 : decode cX11_order 121 = .ok (.iconst 4, 1) := by decide +kernel
theorem dX11_order_122 : decode cX11_order 122 = .ok (.if_icmp .eq 9, 3) := by decide +kernel
theorem dX11_order_125 : decode cX11_order 125 = .ok (.iload 5, 2) := by decide +kernel
theorem dX11_order_127 : decode cX11_order 127 = .ok (.iconst 5, 1) := by decide +kernel
theorem dX11_order_128 : decode cX11_order 128 = .ok (.if_icmp .ne 24, 3) := by decide +kernel
theorem dX11_order_131 : decode cX11_order 131 = .ok (.aload_n 0, 1) := by decide +kernel
theorem dX11_order_132 : decode cX11_order 132 = .ok (.iload_n 2, 1) := by decide +kernel
theorem dX11_order_133 : decode cX11_order 133 = .ok (.iload 4, 2) := by decide +kernel
theorem dX11_order_135 : decode cX11_order 135 = .ok (.iload 5, 2) := by decide +kernel
theorem dX11_order_137 : decode cX11_order 137 = .ok (.iconst 4, 1) := by decide +kernel
theorem dX11_order_138 : decode cX11_order 138 = .ok (.if_icmp .ne 7, 3) := by decide +kernel
theorem dX11_order_141 : decode cX11_order 141 = .ok (.iconst 1, 1) := by decide +kernel
theorem dX11_order_142 : decode cX11_order 142 = .ok (.goto 4, 3) := by decide +kernel
theorem dX11_order_145 : decode cX11_order 145 = .ok (.iconst 0, 1) := by decide +kernel
theorem dX11_order_146 : decode cX11_order 146 = .ok (.invokevirtual 253, 3) := by decide +kernel
theorem dX11_order_149 : decode cX11_order 149 = .ok (.goto 4, 3) := by decide +kernel
theorem dX11_order_152 : decode cX11_order 152 = .ok (.iconst 0, 1) := by decide +kernel
theorem dX11_order_153 : decode cX11_order 153 = .ok (.ireturn, 1) := by decide +kernel
theorem dX11_orderBoxes_0 : decode cX11_orderBoxes 0 = .ok (.aload_n 0, 1) := by decide +kernel
theorem dX11_orderBoxes_1 : decode cX11_orderBoxes 1 = .ok (.iload_n 1, 1) := by decide +kernel
theorem dX11_orderBoxes_2 : decode cX11_orderBoxes 2 = .ok (.invokevirtual 137, 3) := by decide +kernel
theorem dX11_orderBoxes_5 : decode cX11_orderBoxes 5 = .ok (.istore 4, 2) := by decide +kernel
theorem dX11_orderBoxes_7 : decode cX11_orderBoxes 7 = .ok (.aload_n 0, 1) := by decide +kernel
theorem dX11_orderBoxes_8 : decode cX11_orderBoxes 8 = .ok (.iload_n 2, 1) := by decide +kernel
theorem dX11_orderBoxes_9 : decode cX11_orderBoxes 9 = .ok (.invokevirtual 137, 3) := by decide +kernel
theorem dX11_orderBoxes_12 : decode cX11_orderBoxes 12 = .ok (.istore 5, 2) := by decide +kernel
theorem dX11_orderBoxes_14 : decode cX11_orderBoxes 14 = .ok (.iload 4, 2) := by decide +kernel
theorem dX11_orderBoxes_16 : decode cX11_orderBoxes 16 = .ok (.ifCond .le 156, 3) := by decide +kernel
theorem dX11_orderBoxes_19 : decode cX11_orderBoxes 19 = .ok (.iload 5, 2) := by decide +kernel
theorem dX11_orderBoxes_21 : decode cX11_orderBoxes 21 = .ok (.ifCond .le 151, 3) := by decide +kernel
theorem dX11_orderBoxes_24 : decode cX11_orderBoxes 24 = .ok (.iload_n 3, 1) := by decide +kernel
theorem dX11_orderBoxes_25 : decode cX11_orderBoxes 25 = .ok (.ifCond .eq 27, 3) := by decide +kernel
theorem dX11_orderBoxes_28 : decode cX11_orderBoxes 28 = .ok (.aload_n 0, 1) := by decide +kernel
theorem dX11_orderBoxes_29 : decode cX11_orderBoxes 29 = .ok (.getfield 7, 3) := by decide +kernel
theorem dX11_orderBoxes_32 : decode cX11_orderBoxes 32 = .ok (.iload 4, 2) := by decide +kernel
theorem dX11_orderBoxes_34 : decode cX11_orderBoxes 34 = .ok (.iaload, 1) := by decide +kernel
theorem dX11_orderBoxes_35 : decode cX11_orderBoxes 35 = .ok (.invokestatic 246, 3) := by decide +kernel
theorem dX11_orderBoxes_38 : decode cX11_orderBoxes 38 = .ok (.aload_n 0, 1) := by decide +kernel
theorem dX11_orderBoxes_39 : decode cX11_orderBoxes 39 = .ok (.getfield 7, 3) := by decide +kernel
theorem dX11_orderBoxes_42 : decode cX11_orderBoxes 42 = .ok (.iload 5, 2) := by decide +kernel
theorem dX11_orderBoxes_44 : decode cX11_orderBoxes 44 = .ok (.iaload, 1) := by decide +kernel
theorem dX11_orderBoxes_45 : decode cX11_orderBoxes 45 = .ok (.invokestatic 246, 3) := by decide +kernel
theorem dX11_orderBoxes_48 : decode cX11_orderBoxes 48 = .ok (.isub, 1) := by decide +kernel
theorem dX11_orderBoxes_49 : decode cX11_orderBoxes 49 = .ok (.goto 4, 3) := by decide +kernel
theorem dX11_orderBoxes_52 : decode cX11_orderBoxes 52 = .ok (.iconst 0, 1) := by decide +kernel
theorem dX11_orderBoxes_53 : decode cX11_orderBoxes 53 = .ok (.istore 6, 2) := by decide +kernel
theorem dX11_orderBoxes_55 : decode cX11_orderBoxes 55 = .ok (.iload 6, 2) := by decide +kernel
theorem dX11_orderBoxes_57 : decode cX11_orderBoxes 57 = .ok (.ifCond .ne 43, 3) := by decide +kernel
theorem dX11_orderBoxes_60 : decode cX11_orderBoxes 60 = .ok (.iload_n 3, 1) := by decide +kernel
theorem dX11_orderBoxes_61 : decode cX11_orderBoxes 61 = .ok (.ifCond .eq 39, 3) := by decide +kernel
theorem dX11_orderBoxes_64 : decode cX11_orderBoxes 64 = .ok (.aload_n 0, 1) := by decide +kernel
theorem dX11_orderBoxes_65 : decode cX11_orderBoxes 65 = .ok (.iload 4, 2) := by decide +kernel
theorem dX11_orderBoxes_67 : decode cX11_orderBoxes 67 = .ok (.iconst 1, 1) := by decide +kernel
theorem dX11_orderBoxes_68 : decode cX11_orderBoxes 68 = .ok (.iadd, 1) := by decide +kernel
theorem dX11_orderBoxes_69 : decode cX11_orderBoxes 69 = .ok (.aload_n 0, 1) := by decide +kernel
theorem dX11_orderBoxes_70 : decode cX11_orderBoxes 70 = .ok (.iload 4, 2) := by decide +kernel
theorem dX11_orderBoxes_72 : decode cX11_orderBoxes 72 = .ok (.invokevirtual 125, 3) := by decide +kernel
theorem dX11_orderBoxes_75 : decode cX11_orderBoxes 75 = .ok (.iload 4, 2) := by decide +kernel
theorem dX11_orderBoxes_77 : decode cX11_orderBoxes 77 = .ok (.isub, 1) := by decide +kernel
theorem dX11_orderBoxes_78 : decode cX11_orderBoxes 78 = .ok (.iconst 1, 1) := by decide +kernel
theorem dX11_orderBoxes_79 : decode cX11_orderBoxes 79 = .ok (.isub, 1) := by decide +kernel
theorem dX11_orderBoxes_80 : decode cX11_orderBoxes 80 = .ok (.iload 5, 2) := by decide +kernel
theorem dX11_orderBoxes_82 : decode cX11_orderBoxes 82 = .ok (.iconst 1, 1) := by decide +kernel
theorem dX11_orderBoxes_83 : decode cX11_orderBoxes 83 = .ok (.iadd, 1) := by decide +kernel
theorem dX11_orderBoxes_84 : decode cX11_orderBoxes 84 = .ok (.aload_n 0, 1) := by decide +kernel
theorem dX11_orderBoxes_85 : decode cX11_orderBoxes 85 = .ok (.iload 5, 2) := by decide +kernel
theorem dX11_orderBoxes_87 : decode cX11_orderBoxes 87 = .ok (.invokevirtual 125, 3) := by decide +kernel
theorem dX11_orderBoxes_90 : decode cX11_orderBoxes 90 = .ok (.iload 5, 2) := by decide +kernel
theorem dX11_orderBoxes_92 : decode cX11_orderBoxes 92 = .ok (.isub, 1) := by decide +kernel
theorem dX11_orderBoxes_93 : decode cX11_orderBoxes 93 = .ok (.iconst 1, 1) := by decide +kernel
theorem dX11_orderBoxes_94 : decode cX11_orderBoxes 94 = .ok (.isub, 1) := by decide +kernel
theorem dX11_orderBoxes_95 : decode cX11_orderBoxes 95 = .ok (.invokevirtual 249, 3) := by decide +kernel
theorem dX11_orderBoxes_98 : decode cX11_orderBoxes 98 = .ok (.istore 6, 2) := by decide +kernel
theorem dX11_orderBoxes_100 : decode cX11_orderBoxes 100 = .ok (.iload 6, 2) := by decide +kernel
theorem dX11_orderBoxes_102 : decode cX11_orderBoxes 102 = .ok (.ifCond .ne 35, 3) := by decide +kernel
theorem dX11_orderBoxes_105 : decode cX11_orderBoxes 105 = .ok (.aload_n 0, 1) := by decide +kernel
theorem dX11_orderBoxes_106 : decode cX11_orderBoxes 106 = .ok (.aload_n 0, 1) := by decide +kernel
theorem dX11_orderBoxes_107 : decode cX11_orderBoxes 107 = .ok (.getfield 7, 3) := by decide +kernel
theorem dX11_orderBoxes_110 : decode cX11_orderBoxes 110 = .ok (.iload 4, 2) := by decide +kernel
theorem dX11_orderBoxes_112 : decode cX11_orderBoxes 112 = .ok (.iaload, 1) := by decide +kernel
theorem dX11_orderBoxes_113 : decode cX11_orderBoxes 113 = .ok (.aload_n 0, 1) := by decide +kernel
theorem dX11_orderBoxes_114 : decode cX11_orderBoxes 114 = .ok (.iload 4, 2) := by decide +kernel
theorem dX11_orderBoxes_116 : decode cX11_orderBoxes 116 = .ok (.invokevirtual 131, 3) := by decide +kernel
theorem dX11_orderBoxes_119 : decode cX11_orderBoxes 119 = .ok (.aload_n 0, 1) := by decide +kernel
theorem dX11_orderBoxes_120 : decode cX11_orderBoxes 120 = .ok (.getfield 7, 3) := by decide +kernel
theorem dX11_orderBoxes_123 : decode cX11_orderBoxes 123 = .ok (.iload 5, 2) := by decide +kernel
theorem dX11_orderBoxes_125 : decode cX11_orderBoxes 125 = .ok (.iaload, 1) := by decide +kernel
theorem dX11_orderBoxes_126 : decode cX11_orderBoxes 126 = .ok (.aload_n 0, 1) := by decide +kernel
theorem dX11_orderBoxes_127 : decode cX11_orderBoxes 127 = .ok (.iload 5, 2) := by decide +kernel
theorem dX11_orderBoxes_129 : decode cX11_orderBoxes 129 = .ok (.invokevirtual 131, 3) := by decide +kernel
theorem dX11_orderBoxes_132 : decode cX11_orderBoxes 132 = .ok (.invokevirtual 257, 3) := by decide +kernel
theorem dX11_orderBoxes_135 : decode cX11_orderBoxes 135 = .ok (.istore 6, 2) := by decide +kernel
theorem dX11_orderBoxes_137 : decode cX11_orderBoxes 137 = .ok (.iload 6, 2) := by decide +kernel
theorem dX11_orderBoxes_139 : decode cX11_orderBoxes 139 = .ok (.ifCond .eq 14, 3) := by decide +kernel
theorem dX11_orderBoxes_142 : decode cX11_orderBoxes 142 = .ok (.iload 6, 2) := by decide +kernel
theorem dX11_orderBoxes_144 : decode cX11_orderBoxes 144 = .ok (.ifCond .ge 7, 3) := by decide +kernel
theorem dX11_orderBoxes_147 : decode cX11_orderBoxes 147 = .ok (.iconst (-1), 1) := by decide +kernel
theorem dX11_orderBoxes_148 : decode cX11_orderBoxes 148 = .ok (.goto 4, 3) := by decide +kernel
theorem dX11_orderBoxes_151 : decode cX11_orderBoxes 151 = .ok (.iconst 1, 1) := by decide +kernel
theorem dX11_orderBoxes_152 : decode cX11_orderBoxes 152 = .ok (.ireturn, 1) := by decide +kernel
theorem dX11_orderBoxes_153 : decode cX11_orderBoxes 153 = .ok (.aload_n 0, 1) := by decide +kernel
theorem dX11_orderBoxes_154 : decode cX11_orderBoxes 154 = .ok (.iload 4, 2) := by decide +kernel
theorem dX11_orderBoxes_156 : decode cX11_orderBoxes 156 = .ok (.invokevirtual 140, 3) := by decide +kernel
theorem dX11_orderBoxes_159 : decode cX11_orderBoxes 159 = .ok (.istore 4, 2) := by decide +kernel
theorem dX11_orderBoxes_161 : decode cX11_orderBoxes 161 = .ok (.aload_n 0, 1) := by decide +kernel
theorem dX11_orderBoxes_162 : decode cX11_orderBoxes 162 = .ok (.iload 5, 2) := by decide +kernel
theorem dX11_orderBoxes_164 : decode cX11_orderBoxes 164 = .ok (.invokevirtual 140, 3) := by decide +kernel
theorem dX11_orderBoxes_167 : decode cX11_orderBoxes 167 = .ok (.istore 5, 2) := by decide +kernel
theorem dX11_orderBoxes_169 : decode cX11_orderBoxes 169 = .ok (.goto (-155), 3) := by decide +kernel
theorem dX11_orderBoxes_172 : decode cX11_orderBoxes 172 = .ok (.iload 4, 2) := by decide +kernel
theorem dX11_orderBoxes_174 : decode cX11_orderBoxes 174 = .ok (.ifCond .le 7, 3) := by decide +kernel
theorem dX11_orderBoxes_177 : decode cX11_orderBoxes 177 = .ok (.iconst 1, 1) := by decide +kernel
theorem dX11_orderBoxes_178 : decode cX11_orderBoxes 178 = .ok (.goto 13, 3) := by decide +kernel
theorem dX11_orderBoxes_181 : decode cX11_orderBoxes 181 = .ok (.iload 5, 2) := by decide +kernel
theorem dX11_orderBoxes_183 : decode cX11_orderBoxes 183 = .ok (.ifCond .le 7, 3) := by decide +kernel
theorem dX11_orderBoxes_186 : decode cX11_orderBoxes 186 = .ok (.iconst (-1), 1) := by decide +kernel
theorem dX11_orderBoxes_187 : decode cX11_orderBoxes 187 = .ok (.goto 4, 3) := by decide +kernel
theorem dX11_orderBoxes_190 : decode cX11_orderBoxes 190 = .ok (.iconst 0, 1) := by decide +kernel
theorem dX11_orderBoxes_191 : decode cX11_orderBoxes 191 = .ok (.ireturn, 1) := by decide +kernel
theorem dX11_isEqual_0 : decode cX11_isEqual 0 = .ok (.iload_n 1, 1) := by decide +kernel
theorem dX11_isEqual_1 : decode cX11_isEqual 1 = .ok (.ifCond .ne 15, 3) := by decide +kernel
theorem dX11_isEqual_4 : decode cX11_isEqual 4 = .ok (.iload_n 3, 1) := by decide +kernel
theorem dX11_isEqual_5 : decode cX11_isEqual 5 = .ok (.bipush 10, 2) := by decide +kernel
theorem dX11_isEqual_7 : decode cX11_isEqual 7 = .ok (.if_icmp .ne 7, 3) := by decide +kernel
theorem dX11_isEqual_10 : decode cX11_isEqual 10 = .ok (.iconst 1, 1) := by decide +kernel
theorem dX11_isEqual_11 : decode cX11_isEqual 11 = .ok (.goto 4, 3) := by decide +kernel
theorem dX11_isEqual_14 : decode cX11_isEqual 14 = .ok (.iconst 0, 1) := by decide +kernel
theorem dX11_isEqual_15 : decode cX11_isEqual 15 = .ok (.ireturn, 1) := by decide +kernel
theorem dX11_isEqual_16 : decode cX11_isEqual 16 = .ok (.aload_n 0, 1) := by decide +kernel
theorem dX11_isEqual_17 : decode cX11_isEqual 17 = .ok (.iload_n 1, 1) := by decide +kernel
theorem dX11_isEqual_18 : decode cX11_isEqual 18 = .ok (.iload_n 2, 1) := by decide +kernel
theorem dX11_isEqual_19 : decode cX11_isEqual 19 = .ok (.iload_n 3, 1) := by decide +kernel
theorem dX11_isEqual_20 : decode cX11_isEqual 20 = .ok (.iload 4, 2) := by decide +kernel
theorem dX11_isEqual_22 : decode cX11_isEqual 22 = .ok (.invokevirtual 257, 3) := by decide +kernel
theorem dX11_isEqual_25 : decode cX11_isEqual 25 = .ok (.ifCond .ne 5, 3) := by decide +kernel
theorem dX11_isEqual_28 : decode cX11_isEqual 28 = .ok (.iconst 1, 1) := by decide +kernel
theorem dX11_isEqual_29 : decode cX11_isEqual 29 = .ok (.ireturn, 1) := by decide +kernel
theorem dX11_isEqual_30 : decode cX11_isEqual 30 = .ok (.iconst 0, 1) := by decide +kernel
theorem dX11_isEqual_31 : decode cX11_isEqual 31 = .ok (.istore 5, 2) := by decide +kernel
theorem dX11_isEqual_33 : decode cX11_isEqual 33 = .ok (.iload_n 1, 1) := by decide +kernel
theorem dX11_isEqual_34 : decode cX11_isEqual 34 = .ok (.iconst 4, 1) := by decide +kernel
theorem dX11_isEqual_35 : decode cX11_isEqual 35 = .ok (.if_icmp .ne 61, 3) := by decide +kernel
theorem dX11_isEqual_38 : decode cX11_isEqual 38 = .ok (.aload_n 0, 1) := by decide +kernel
theorem dX11_isEqual_39 : decode cX11_isEqual 39 = .ok (.iload_n 2, 1) := by decide +kernel
theorem dX11_isEqual_40 : decode cX11_isEqual 40 = .ok (.invokevirtual 137, 3) := by decide +kernel
theorem dX11_isEqual_43 : decode cX11_isEqual 43 = .ok (.istore 6, 2) := by decide +kernel
theorem dX11_isEqual_45 : decode cX11_isEqual 45 = .ok (.iload 6, 2) := by decide +kernel
theorem dX11_isEqual_47 : decode cX11_isEqual 47 = .ok (.ifCond .le 49, 3) := by decide +kernel
theorem dX11_isEqual_50 : decode cX11_isEqual 50 = .ok (.iload 5, 2) := by decide +kernel
theorem dX11_isEqual_52 : decode cX11_isEqual 52 = .ok (.ifCond .ne 44, 3) := by decide +kernel
theorem dX11_isEqual_55 : decode cX11_isEqual 55 = .ok (.aload_n 0, 1) := by decide +kernel
theorem dX11_isEqual_56 : decode cX11_isEqual 56 = .ok (.aload_n 0, 1) := by decide +kernel
theorem dX11_isEqual_57 : decode cX11_isEqual 57 = .ok (.getfield 7, 3) := by decide +kernel
theorem dX11_isEqual_60 : decode cX11_isEqual 60 = .ok (.iload 6, 2) := by decide +kernel
theorem dX11_isEqual_62 : decode cX11_isEqual 62 = .ok (.iaload, 1) := by decide +kernel
theorem dX11_isEqual_63 : decode cX11_isEqual 63 = .ok (.aload_n 0, 1) := by decide +kernel
theorem dX11_isEqual_64 : decode cX11_isEqual 64 = .ok (.iload 6, 2) := by decide +kernel
theorem dX11_isEqual_66 : decode cX11_isEqual 66 = .ok (.invokevirtual 131, 3) := by decide +kernel
theorem dX11_isEqual_69 : decode cX11_isEqual 69 = .ok (.iload_n 3, 1) := by decide +kernel
theorem dX11_isEqual_70 : decode cX11_isEqual 70 = .ok (.iload 4, 2) := by decide +kernel
theorem dX11_isEqual_72 : decode cX11_isEqual 72 = .ok (.invokevirtual 257, 3) := by decide +kernel
theorem dX11_isEqual_75 : decode cX11_isEqual 75 = .ok (.ifCond .ne 7, 3) := by decide +kernel
theorem dX11_isEqual_78 : decode cX11_isEqual 78 = .ok (.iconst 1, 1) := by decide +kernel
theorem dX11_isEqual_79 : decode cX11_isEqual 79 = .ok (.goto 4, 3) := by decide +kernel
theorem dX11_isEqual_82 : decode cX11_isEqual 82 = .ok (.iconst 0, 1) := by decide +kernel
theorem dX11_isEqual_83 : decode cX11_isEqual 83 = .ok (.istore 5, 2) := by decide +kernel
theorem dX11_isEqual_85 : decode cX11_isEqual 85 = .ok (.aload_n 0, 1) := by decide +kernel
theorem dX11_isEqual_86 : decode cX11_isEqual 86 = .ok (.iload 6, 2) := by decide +kernel
theorem dX11_isEqual_88 : decode cX11_isEqual 88 = .ok (.invokevirtual 140, 3) := by decide +kernel
theorem dX11_isEqual_91 : decode cX11_isEqual 91 = .ok (.istore 6, 2) := by decide +kernel
theorem dX11_isEqual_93 : decode cX11_isEqual 93 = .ok (.goto (-48), 3) := by decide +kernel
theorem dX11_isEqual_96 : decode cX11_isEqual 96 = .ok (.iload 5, 2) := by decide +kernel
theorem dX11_isEqual_98 : decode cX11_isEqual 98 = .ok (.ireturn, 1) := by decide +kernel
theorem dX11_stands_0 : decode cX11_stands 0 = .ok (.iload_n 2, 1) := by decide +kernel
theorem dX11_stands_1 : decode cX11_stands 1 = .ok (.invokestatic 246, 3) := by decide +kernel
theorem dX11_stands_4 : decode cX11_stands 4 = .ok (.iload 4, 2) := by decide +kernel
theorem dX11_stands_6 : decode cX11_stands 6 = .ok (.invokestatic 246, 3) := by decide +kernel
theorem dX11_stands_9 : decode cX11_stands 9 = .ok (.if_icmp .eq 5, 3) := by decide +kernel
theorem dX11_stands_12 : decode cX11_stands 12 = .ok (.iconst 0, 1) := by decide +kernel
theorem dX11_stands_13 : decode cX11_stands 13 = .ok (.ireturn, 1) := by decide +kernel
theorem dX11_stands_14 : decode cX11_stands 14 = .ok (.aload_n 0, 1) := by decide +kernel
theorem dX11_stands_15 : decode cX11_stands 15 = .ok (.iload_n 2, 1) := by decide +kernel
theorem dX11_stands_16 : decode cX11_stands 16 = .ok (.iload_n 3, 1) := by decide +kernel
theorem dX11_stands_17 : decode cX11_stands 17 = .ok (.iload 4, 2) := by decide +kernel
theorem dX11_stands_19 : decode cX11_stands 19 = .ok (.iload 5, 2) := by decide +kernel
theorem dX11_stands_21 : decode cX11_stands 21 = .ok (.invokevirtual 257, 3) := by decide +kernel
theorem dX11_stands_24 : decode cX11_stands 24 = .ok (.istore 6, 2) := by decide +kernel
theorem dX11_stands_26 : decode cX11_stands 26 = .ok (.iload_n 1, 1) := by decide +kernel
theorem dX11_stands_27 : decode cX11_stands 27 = .ok (.iconst 5, 1) := by decide +kernel
theorem dX11_stands_28 : decode cX11_stands 28 = .ok (.if_icmp .ne 16, 3) := by decide +kernel
theorem dX11_stands_31 : decode cX11_stands 31 = .ok (.iload 6, 2) := by decide +kernel
theorem dX11_stands_33 : decode cX11_stands 33 = .ok (.ifCond .ge 7, 3) := by decide +kernel
theorem dX11_stands_36 : decode cX11_stands 36 = .ok (.iconst 1, 1) := by decide +kernel
theorem dX11_stands_37 : decode cX11_stands 37 = .ok (.goto 55, 3) := by decide +kernel
theorem dX11_stands_40 : decode cX11_stands 40 = .ok (.iconst 0, 1) := by decide +kernel
theorem dX11_stands_41 : decode cX11_stands 41 = .ok (.goto 51, 3) := by decide +kernel
theorem dX11_stands_44 : decode cX11_stands 44 = .ok (.iload_n 1, 1) := by decide +kernel
theorem dX11_stands_45 : decode cX11_stands 45 = .ok (.bipush 6, 2) := by decide +kernel
theorem dX11_stands_47 : decode cX11_stands 47 = .ok (.if_icmp .ne 16, 3) := by decide +kernel
theorem dX11_stands_50 : decode cX11_stands 50 = .ok (.iload 6, 2) := by decide +kernel
theorem dX11_stands_52 : decode cX11_stands 52 = .ok (.ifCond .gt 7, 3) := by decide +kernel
theorem dX11_stands_55 : decode cX11_stands 55 = .ok (.iconst 1, 1) := by decide +kernel
theorem dX11_stands_56 : decode cX11_stands 56 = .ok (.goto 36, 3) := by decide +kernel
theorem dX11_stands_59 : decode cX11_stands 59 = .ok (.iconst 0, 1) := by decide +kernel
theorem dX11_stands_60 : decode cX11_stands 60 = .ok (.goto 32, 3) := by decide +kernel
theorem dX11_stands_63 : decode cX11_stands 63 = .ok (.iload_n 1, 1) := by decide +kernel
theorem dX11_stands_64 : decode cX11_stands 64 = .ok (.bipush 7, 2) := by decide +kernel
theorem dX11_stands_66 : decode cX11_stands 66 = .ok (.if_icmp .ne 16, 3) := by decide +kernel
theorem dX11_stands_69 : decode cX11_stands 69 = .ok (.iload 6, 2) := by decide +kernel
theorem dX11_stands_71 : decode cX11_stands 71 = .ok (.ifCond .le 7, 3) := by decide +kernel
theorem dX11_stands_74 : decode cX11_stands 74 = .ok (.iconst 1, 1) := by decide +kernel
theorem dX11_stands_75 : decode cX11_stands 75 = .ok (.goto 17, 3) := by decide +kernel
theorem dX11_stands_78 : decode cX11_stands 78 = .ok (.iconst 0, 1) := by decide +kernel
theorem dX11_stands_79 : decode cX11_stands 79 = .ok (.goto 13, 3) := by decide +kernel
theorem dX11_stands_82 : decode cX11_stands 82 = .ok (.iload 6, 2) := by decide +kernel
theorem dX11_stands_84 : decode cX11_stands 84 = .ok (.ifCond .lt 7, 3) := by decide +kernel
theorem dX11_stands_87 : decode cX11_stands 87 = .ok (.iconst 1, 1) := by decide +kernel
theorem dX11_stands_88 : decode cX11_stands 88 = .ok (.goto 4, 3) := by decide +kernel
theorem dX11_stands_91 : decode cX11_stands 91 = .ok (.iconst 0, 1) := by decide +kernel
theorem dX11_stands_92 : decode cX11_stands 92 = .ok (.ireturn, 1) := by decide +kernel
theorem dX11_isSo_0 : decode cX11_isSo 0 = .ok (.iload_n 2, 1) := by decide +kernel
theorem dX11_isSo_1 : decode cX11_isSo 1 = .ok (.ifCond .ne 28, 3) := by decide +kernel
theorem dX11_isSo_4 : decode cX11_isSo 4 = .ok (.iload 4, 2) := by decide +kernel
theorem dX11_isSo_6 : decode cX11_isSo 6 = .ok (.bipush 10, 2) := by decide +kernel
theorem dX11_isSo_8 : decode cX11_isSo 8 = .ok (.if_icmp .ne 19, 3) := by decide +kernel
theorem dX11_isSo_11 : decode cX11_isSo 11 = .ok (.iload_n 1, 1) := by decide +kernel
theorem dX11_isSo_12 : decode cX11_isSo 12 = .ok (.bipush 6, 2) := by decide +kernel
theorem dX11_isSo_14 : decode cX11_isSo 14 = .ok (.if_icmp .eq 9, 3) := by decide +kernel
theorem dX11_isSo_17 : decode cX11_isSo 17 = .ok (.iload_n 1, 1) := by decide +kernel
theorem dX11_isSo_18 : decode cX11_isSo 18 = .ok (.bipush 8, 2) := by decide +kernel
theorem dX11_isSo_20 : decode cX11_isSo 20 = .ok (.if_icmp .ne 7, 3) := by decide +kernel
theorem dX11_isSo_23 : decode cX11_isSo 23 = .ok (.iconst 1, 1) := by decide +kernel
theorem dX11_isSo_24 : decode cX11_isSo 24 = .ok (.goto 4, 3) := by decide +kernel
theorem dX11_isSo_27 : decode cX11_isSo 27 = .ok (.iconst 0, 1) := by decide +kernel
theorem dX11_isSo_28 : decode cX11_isSo 28 = .ok (.ireturn, 1) := by decide +kernel
theorem dX11_isSo_29 : decode cX11_isSo 29 = .ok (.aload_n 0, 1) := by decide +kernel
theorem dX11_isSo_30 : decode cX11_isSo 30 = .ok (.iload_n 1, 1) := by decide +kernel
theorem dX11_isSo_31 : decode cX11_isSo 31 = .ok (.iload_n 2, 1) := by decide +kernel
theorem dX11_isSo_32 : decode cX11_isSo 32 = .ok (.iload_n 3, 1) := by decide +kernel
theorem dX11_isSo_33 : decode cX11_isSo 33 = .ok (.iload 4, 2) := by decide +kernel
theorem dX11_isSo_35 : decode cX11_isSo 35 = .ok (.iload 5, 2) := by decide +kernel
theorem dX11_isSo_37 : decode cX11_isSo 37 = .ok (.invokevirtual 260, 3) := by decide +kernel
theorem dX11_isSo_40 : decode cX11_isSo 40 = .ok (.istore 6, 2) := by decide +kernel
theorem dX11_isSo_42 : decode cX11_isSo 42 = .ok (.iload_n 2, 1) := by decide +kernel
theorem dX11_isSo_43 : decode cX11_isSo 43 = .ok (.iconst 4, 1) := by decide +kernel
theorem dX11_isSo_44 : decode cX11_isSo 44 = .ok (.if_icmp .ne 55, 3) := by decide +kernel
theorem dX11_isSo_47 : decode cX11_isSo 47 = .ok (.aload_n 0, 1) := by decide +kernel
theorem dX11_isSo_48 : decode cX11_isSo 48 = .ok (.iload_n 3, 1) := by decide +kernel
theorem dX11_isSo_49 : decode cX11_isSo 49 = .ok (.invokevirtual 137, 3) := by decide +kernel
theorem dX11_isSo_52 : decode cX11_isSo 52 = .ok (.istore 7, 2) := by decide +kernel
theorem dX11_isSo_54 : decode cX11_isSo 54 = .ok (.iload 7, 2) := by decide +kernel
theorem dX11_isSo_56 : decode cX11_isSo 56 = .ok (.ifCond .le 43, 3) := by decide +kernel
theorem dX11_isSo_59 : decode cX11_isSo 59 = .ok (.iload 6, 2) := by decide +kernel
theorem dX11_isSo_61 : decode cX11_isSo 61 = .ok (.ifCond .ne 38, 3) := by decide +kernel
theorem dX11_isSo_64 : decode cX11_isSo 64 = .ok (.aload_n 0, 1) := by decide +kernel
theorem dX11_isSo_65 : decode cX11_isSo 65 = .ok (.iload_n 1, 1) := by decide +kernel
theorem dX11_isSo_66 : decode cX11_isSo 66 = .ok (.aload_n 0, 1) := by decide +kernel
theorem dX11_isSo_67 : decode cX11_isSo 67 = .ok (.getfield 7, 3) := by decide +kernel
theorem dX11_isSo_70 : decode cX11_isSo 70 = .ok (.iload 7, 2) := by decide +kernel
theorem dX11_isSo_72 : decode cX11_isSo 72 = .ok (.iaload, 1) := by decide +kernel
theorem dX11_isSo_73 : decode cX11_isSo 73 = .ok (.aload_n 0, 1) := by decide +kernel
theorem dX11_isSo_74 : decode cX11_isSo 74 = .ok (.iload 7, 2) := by decide +kernel
theorem dX11_isSo_76 : decode cX11_isSo 76 = .ok (.invokevirtual 131, 3) := by decide +kernel
theorem dX11_isSo_79 : decode cX11_isSo 79 = .ok (.iload 4, 2) := by decide +kernel
theorem dX11_isSo_81 : decode cX11_isSo 81 = .ok (.iload 5, 2) := by decide +kernel
theorem dX11_isSo_83 : decode cX11_isSo 83 = .ok (.invokevirtual 260, 3) := by decide +kernel
theorem dX11_isSo_86 : decode cX11_isSo 86 = .ok (.istore 6, 2) := by decide +kernel
theorem dX11_isSo_88 : decode cX11_isSo 88 = .ok (.aload_n 0, 1) := by decide +kernel
theorem dX11_isSo_89 : decode cX11_isSo 89 = .ok (.iload 7, 2) := by decide +kernel
theorem dX11_isSo_91 : decode cX11_isSo 91 = .ok (.invokevirtual 140, 3) := by decide +kernel
theorem dX11_isSo_94 : decode cX11_isSo 94 = .ok (.istore 7, 2) := by decide +kernel
theorem dX11_isSo_96 : decode cX11_isSo 96 = .ok (.goto (-42), 3) := by decide +kernel
theorem dX11_isSo_99 : decode cX11_isSo 99 = .ok (.iload 6, 2) := by decide +kernel
theorem dX11_isSo_101 : decode cX11_isSo 101 = .ok (.ireturn, 1) := by decide +kernel
theorem dX11_hasItem_0 : decode cX11_hasItem 0 = .ok (.aload_n 0, 1) := by decide +kernel
theorem dX11_hasItem_1 : decode cX11_hasItem 1 = .ok (.iload_n 2, 1) := by decide +kernel
theorem dX11_hasItem_2 : decode cX11_hasItem 2 = .ok (.invokevirtual 240, 3) := by decide +kernel
theorem dX11_hasItem_5 : decode cX11_hasItem 5 = .ok (.istore_n 3, 1) := by decide +kernel
theorem dX11_hasItem_6 : decode cX11_hasItem 6 = .ok (.aload_n 0, 1) := by decide +kernel
theorem dX11_hasItem_7 : decode cX11_hasItem 7 = .ok (.iload_n 1, 1) := by decide +kernel
theorem dX11_hasItem_8 : decode cX11_hasItem 8 = .ok (.invokevirtual 137, 3) := by decide +kernel
theorem dX11_hasItem_11 : decode cX11_hasItem 11 = .ok (.istore 4, 2) := by decide +kernel
theorem dX11_hasItem_13 : decode cX11_hasItem 13 = .ok (.iload 4, 2) := by decide +kernel
theorem dX11_hasItem_15 : decode cX11_hasItem 15 = .ok (.ifCond .le 70, 3) := by decide +kernel
theorem dX11_hasItem_18 : decode cX11_hasItem 18 = .ok (.iload_n 3, 1) := by decide +kernel
theorem dX11_hasItem_19 : decode cX11_hasItem 19 = .ok (.ifCond .eq 28, 3) := by decide +kernel
theorem dX11_hasItem_22 : decode cX11_hasItem 22 = .ok (.aload_n 0, 1) := by decide +kernel
theorem dX11_hasItem_23 : decode cX11_hasItem 23 = .ok (.iload_n 2, 1) := by decide +kernel
theorem dX11_hasItem_24 : decode cX11_hasItem 24 = .ok (.iconst 0, 1) := by decide +kernel
theorem dX11_hasItem_25 : decode cX11_hasItem 25 = .ok (.aload_n 0, 1) := by decide +kernel
theorem dX11_hasItem_26 : decode cX11_hasItem 26 = .ok (.getfield 7, 3) := by decide +kernel
theorem dX11_hasItem_29 : decode cX11_hasItem 29 = .ok (.iload 4, 2) := by decide +kernel
theorem dX11_hasItem_31 : decode cX11_hasItem 31 = .ok (.iaload, 1) := by decide +kernel
theorem dX11_hasItem_32 : decode cX11_hasItem 32 = .ok (.aload_n 0, 1) := by decide +kernel
theorem dX11_hasItem_33 : decode cX11_hasItem 33 = .ok (.iload 4, 2) := by decide +kernel
theorem dX11_hasItem_35 : decode cX11_hasItem 35 = .ok (.invokevirtual 131, 3) := by decide +kernel
theorem dX11_hasItem_38 : decode cX11_hasItem 38 = .ok (.invokevirtual 264, 3) := by decide +kernel
theorem dX11_hasItem_41 : decode cX11_hasItem 41 = .ok (.ifCond .eq 33, 3) := by decide +kernel
theorem dX11_hasItem_44 : decode cX11_hasItem 44 = .ok (.goto 28, 3) := by decide +kernel
theorem dX11_hasItem_47 : decode cX11_hasItem 47 = .ok (.aload_n 0, 1) := by decide +kernel
theorem dX11_hasItem_48 : decode cX11_hasItem 48 = .ok (.getfield 7, 3) := by decide +kernel
theorem dX11_hasItem_51 : decode cX11_hasItem 51 = .ok (.iload 4, 2) := by decide +kernel
theorem dX11_hasItem_53 : decode cX11_hasItem 53 = .ok (.iaload, 1) := by decide +kernel
theorem dX11_hasItem_54 : decode cX11_hasItem 54 = .ok (.iconst 3, 1) := by decide +kernel
theorem dX11_hasItem_55 : decode cX11_hasItem 55 = .ok (.if_icmp .ne 19, 3) := by decide +kernel
theorem dX11_hasItem_58 : decode cX11_hasItem 58 = .ok (.aload_n 0, 1) := by decide +kernel
theorem dX11_hasItem_59 : decode cX11_hasItem 59 = .ok (.iload_n 2, 1) := by decide +kernel
theorem dX11_hasItem_60 : decode cX11_hasItem 60 = .ok (.aload_n 0, 1) := by decide +kernel
theorem dX11_hasItem_61 : decode cX11_hasItem 61 = .ok (.iload 4, 2) := by decide +kernel
theorem dX11_hasItem_63 : decode cX11_hasItem 63 = .ok (.invokevirtual 131, 3) := by decide +kernel
theorem dX11_hasItem_66 : decode cX11_hasItem 66 = .ok (.invokevirtual 268, 3) := by decide +kernel
theorem dX11_hasItem_69 : decode cX11_hasItem 69 = .ok (.ifCond .eq 5, 3) := by decide +kernel
theorem dX11_hasItem_72 : decode cX11_hasItem 72 = .ok (.iconst 1, 1) := by decide +kernel
theorem dX11_hasItem_73 : decode cX11_hasItem 73 = .ok (.ireturn, 1) := by decide +kernel
theorem dX11_hasItem_74 : decode cX11_hasItem 74 = .ok (.aload_n 0, 1) := by decide +kernel
theorem dX11_hasItem_75 : decode cX11_hasItem 75 = .ok (.iload 4, 2) := by decide +kernel
theorem dX11_hasItem_77 : decode cX11_hasItem 77 = .ok (.invokevirtual 140, 3) := by decide +kernel
theorem dX11_hasItem_80 : decode cX11_hasItem 80 = .ok (.istore 4, 2) := by decide +kernel
theorem dX11_hasItem_82 : decode cX11_hasItem 82 = .ok (.goto (-69), 3) := by decide +kernel
theorem dX11_hasItem_85 : decode cX11_hasItem 85 = .ok (.iconst 0, 1) := by decide +kernel
theorem dX11_hasItem_86 : decode cX11_hasItem 86 = .ok (.ireturn, 1) := by decide +kernel
theorem dX11_does_0 : decode cX11_does 0 = .ok (.aload_n 0, 1) := by decide +kernel
theorem dX11_does_1 : decode cX11_does 1 = .ok (.iload_n 1, 1) := by decide +kernel
theorem dX11_does_2 : decode cX11_does 2 = .ok (.invokevirtual 234, 3) := by decide +kernel
theorem dX11_does_5 : decode cX11_does 5 = .ok (.istore 4, 2) := by decide +kernel
theorem dX11_does_7 : decode cX11_does 7 = .ok (.aload_n 0, 1) := by decide +kernel
theorem dX11_does_8 : decode cX11_does 8 = .ok (.getfield 7, 3) := by decide +kernel
theorem dX11_does_11 : decode cX11_does 11 = .ok (.iload_n 1, 1) := by decide +kernel
theorem dX11_does_12 : decode cX11_does 12 = .ok (.iaload, 1) := by decide +kernel
theorem dX11_does_13 : decode cX11_does 13 = .ok (.istore 5, 2) := by decide +kernel
theorem dX11_does_15 : decode cX11_does 15 = .ok (.aload_n 0, 1) := by decide +kernel
theorem dX11_does_16 : decode cX11_does 16 = .ok (.iload_n 1, 1) := by decide +kernel
theorem dX11_does_17 : decode cX11_does 17 = .ok (.invokevirtual 131, 3) := by decide +kernel
theorem dX11_does_20 : decode cX11_does 20 = .ok (.istore 6, 2) := by decide +kernel
theorem dX11_does_22 : decode cX11_does 22 = .ok (.iload 4, 2) := by decide +kernel
theorem dX11_does_24 : decode cX11_does 24 = .ok (.iconst 3, 1) := by decide +kernel
theorem dX11_does_25 : decode cX11_does 25 = .ok (.if_icmp .ge 14, 3) := by decide +kernel
theorem dX11_does_28 : decode cX11_does 28 = .ok (.aload_n 0, 1) := by decide +kernel
theorem dX11_does_29 : decode cX11_does 29 = .ok (.iload_n 2, 1) := by decide +kernel
theorem dX11_does_30 : decode cX11_does 30 = .ok (.iload_n 3, 1) := by decide +kernel
theorem dX11_does_31 : decode cX11_does 31 = .ok (.iload 5, 2) := by decide +kernel
theorem dX11_does_33 : decode cX11_does 33 = .ok (.iload 6, 2) := by decide +kernel
theorem dX11_does_35 : decode cX11_does 35 = .ok (.invokevirtual 271, 3) := by decide +kernel
theorem dX11_does_38 : decode cX11_does 38 = .ok (.ireturn, 1) := by decide +kernel
theorem dX11_does_39 : decode cX11_does 39 = .ok (.iload 4, 2) := by decide +kernel
theorem dX11_does_41 : decode cX11_does 41 = .ok (.iconst 5, 1) := by decide +kernel
theorem dX11_does_42 : decode cX11_does 42 = .ok (.if_icmp .ge 59, 3) := by decide +kernel
theorem dX11_does_45 : decode cX11_does 45 = .ok (.iconst 0, 1) := by decide +kernel
theorem dX11_does_46 : decode cX11_does 46 = .ok (.istore 7, 2) := by decide +kernel
theorem dX11_does_48 : decode cX11_does 48 = .ok (.aload_n 0, 1) := by decide +kernel
theorem dX11_does_49 : decode cX11_does 49 = .ok (.iload 6, 2) := by decide +kernel
theorem dX11_does_51 : decode cX11_does 51 = .ok (.invokevirtual 137, 3) := by decide +kernel
theorem dX11_does_54 : decode cX11_does 54 = .ok (.istore 8, 2) := by decide +kernel
theorem dX11_does_56 : decode cX11_does 56 = .ok (.iload 8, 2) := by decide +kernel
theorem dX11_does_58 : decode cX11_does 58 = .ok (.ifCond .le 40, 3) := by decide +kernel
theorem dX11_does_61 : decode cX11_does 61 = .ok (.iload 7, 2) := by decide +kernel
theorem dX11_does_63 : decode cX11_does 63 = .ok (.ifCond .ne 35, 3) := by decide +kernel
theorem dX11_does_66 : decode cX11_does 66 = .ok (.aload_n 0, 1) := by decide +kernel
theorem dX11_does_67 : decode cX11_does 67 = .ok (.iload_n 2, 1) := by decide +kernel
theorem dX11_does_68 : decode cX11_does 68 = .ok (.iload_n 3, 1) := by decide +kernel
theorem dX11_does_69 : decode cX11_does 69 = .ok (.aload_n 0, 1) := by decide +kernel
theorem dX11_does_70 : decode cX11_does 70 = .ok (.getfield 7, 3) := by decide +kernel
theorem dX11_does_73 : decode cX11_does 73 = .ok (.iload 8, 2) := by decide +kernel
theorem dX11_does_75 : decode cX11_does 75 = .ok (.iaload, 1) := by decide +kernel
theorem dX11_does_76 : decode cX11_does 76 = .ok (.aload_n 0, 1) := by decide +kernel
theorem dX11_does_77 : decode cX11_does 77 = .ok (.iload 8, 2) := by decide +kernel
theorem dX11_does_79 : decode cX11_does 79 = .ok (.invokevirtual 131, 3) := by decide +kernel
theorem dX11_does_82 : decode cX11_does 82 = .ok (.invokevirtual 271, 3) := by decide +kernel
theorem dX11_does_85 : decode cX11_does 85 = .ok (.istore 7, 2) := by decide +kernel
theorem dX11_does_87 : decode cX11_does 87 = .ok (.aload_n 0, 1) := by decide +kernel
theorem dX11_does_88 : decode cX11_does 88 = .ok (.iload 8, 2) := by decide +kernel
theorem dX11_does_90 : decode cX11_does 90 = .ok (.invokevirtual 140, 3) := by decide +kernel
theorem dX11_does_93 : decode cX11_does 93 = .ok (.istore 8, 2) := by decide +kernel
theorem dX11_does_95 : decode cX11_does 95 = .ok (.goto (-39), 3) := by decide +kernel
theorem dX11_does_98 : decode cX11_does 98 = .ok (.iload 7, 2) := by decide +kernel
theorem dX11_does_100 : decode cX11_does 100 = .ok (.ireturn, 1) := by decide +kernel
theorem dX11_does_101 : decode cX11_does 101 = .ok (.iload 4, 2) := by decide +kernel
theorem dX11_does_103 : decode cX11_does 103 = .ok (.bipush 9, 2) := by decide +kernel
theorem dX11_does_105 : decode cX11_does 105 = .ok (.if_icmp .ge 16, 3) := by decide +kernel
theorem dX11_does_108 : decode cX11_does 108 = .ok (.aload_n 0, 1) := by decide +kernel
theorem dX11_does_109 : decode cX11_does 109 = .ok (.iload 4, 2) := by decide +kernel
theorem dX11_does_111 : decode cX11_does 111 = .ok (.iload_n 2, 1) := by decide +kernel
theorem dX11_does_112 : decode cX11_does 112 = .ok (.iload_n 3, 1) := by decide +kernel
theorem dX11_does_113 : decode cX11_does 113 = .ok (.iload 5, 2) := by decide +kernel
theorem dX11_does_115 : decode cX11_does 115 = .ok (.iload 6, 2) := by decide +kernel
theorem dX11_does_117 : decode cX11_does 117 = .ok (.invokevirtual 274, 3) := by decide +kernel
theorem dX11_does_120 : decode cX11_does 120 = .ok (.ireturn, 1) := by decide +kernel
theorem dX11_does_121 : decode cX11_does 121 = .ok (.iload 4, 2) := by decide +kernel
theorem dX11_does_123 : decode cX11_does 123 = .ok (.bipush 9, 2) := by decide +kernel
theorem dX11_does_125 : decode cX11_does 125 = .ok (.if_icmp .ne 13, 3) := by decide +kernel
theorem dX11_does_128 : decode cX11_does 128 = .ok (.iload_n 2, 1) := by decide +kernel
theorem dX11_does_129 : decode cX11_does 129 = .ok (.ifCond .eq 7, 3) := by decide +kernel
theorem dX11_does_132 : decode cX11_does 132 = .ok (.iconst 1, 1) := by decide +kernel
theorem dX11_does_133 : decode cX11_does 133 = .ok (.goto 4, 3) := by decide +kernel
theorem dX11_does_136 : decode cX11_does 136 = .ok (.iconst 0, 1) := by decide +kernel
theorem dX11_does_137 : decode cX11_does 137 = .ok (.ireturn, 1) := by decide +kernel
theorem dX11_does_138 : decode cX11_does 138 = .ok (.iload_n 2, 1) := by decide +kernel
theorem dX11_does_139 : decode cX11_does 139 = .ok (.iconst 4, 1) := by decide +kernel
theorem dX11_does_140 : decode cX11_does 140 = .ok (.if_icmp .ne 45, 3) := by decide +kernel
theorem dX11_does_143 : decode cX11_does 143 = .ok (.iload 4, 2) := by decide +kernel
theorem dX11_does_145 : decode cX11_does 145 = .ok (.bipush 10, 2) := by decide +kernel
theorem dX11_does_147 : decode cX11_does 147 = .ok (.if_icmp .ne 24, 3) := by decide +kernel
theorem dX11_does_150 : decode cX11_does 150 = .ok (.aload_n 0, 1) := by decide +kernel
theorem dX11_does_151 : decode cX11_does 151 = .ok (.iload_n 3, 1) := by decide +kernel
theorem dX11_does_152 : decode cX11_does 152 = .ok (.invokevirtual 277, 3) := by decide +kernel
theorem dX11_does_155 : decode cX11_does 155 = .ok (.i2l, 1) := by decide +kernel
theorem dX11_does_156 : decode cX11_does 156 = .ok (.aload_n 0, 1) := by decide +kernel
theorem dX11_does_157 : decode cX11_does 157 = .ok (.iload 5, 2) := by decide +kernel
theorem dX11_does_159 : decode cX11_does 159 = .ok (.iload 6, 2) := by decide +kernel
theorem dX11_does_161 : decode cX11_does 161 = .ok (.invokevirtual 243, 3) := by decide +kernel
theorem dX11_does_164 : decode cX11_does 164 = .ok (.lcmp, 1) := by decide +kernel
theorem dX11_does_165 : decode cX11_does 165 = .ok (.ifCond .ne 20, 3) := by decide +kernel
theorem dX11_does_168 : decode cX11_does 168 = .ok (.goto 13, 3) := by decide +kernel
theorem dX11_does_171 : decode cX11_does 171 = .ok (.aload_n 0, 1) := by decide +kernel
theorem dX11_does_172 : decode cX11_does 172 = .ok (.iload_n 3, 1) := by decide +kernel
theorem dX11_does_173 : decode cX11_does 173 = .ok (.iload 6, 2) := by decide +kernel
theorem dX11_does_175 : decode cX11_does 175 = .ok (.invokevirtual 280, 3) := by decide +kernel
theorem dX11_does_178 : decode cX11_does 178 = .ok (.ifCond .eq 7, 3) := by decide +kernel
theorem dX11_does_181 : decode cX11_does 181 = .ok (.iconst 1, 1) := by decide +kernel
theorem dX11_does_182 : decode cX11_does 182 = .ok (.goto 4, 3) := by decide +kernel
theorem dX11_does_185 : decode cX11_does 185 = .ok (.iconst 0, 1) := by decide +kernel
theorem dX11_does_186 : decode cX11_does 186 = .ok (.ireturn, 1) := by decide +kernel
theorem dX11_some_0 : decode cX11_some 0 = .ok (.iload_n 3, 1) := by decide +kernel
theorem dX11_some_1 : decode cX11_some 1 = .ok (.ifCond .ne 44, 3) := by decide +kernel
theorem dX11_some_4 : decode cX11_some 4 = .ok (.aload_n 0, 1) := by decide +kernel
theorem dX11_some_5 : decode cX11_some 5 = .ok (.iconst 1, 1) := by decide +kernel
theorem dX11_some_6 : decode cX11_some 6 = .ok (.putfield 283, 3) := by decide +kernel
theorem dX11_some_9 : decode cX11_some 9 = .ok (.iload_n 1, 1) := by decide +kernel
theorem dX11_some_10 : decode cX11_some 10 = .ok (.ifCond .le 15, 3) := by decide +kernel
theorem dX11_some_13 : decode cX11_some 13 = .ok (.aload_n 0, 1) := by decide +kernel
theorem dX11_some_14 : decode cX11_some 14 = .ok (.iload_n 1, 1) := by decide +kernel
theorem dX11_some_15 : decode cX11_some 15 = .ok (.iload 4, 2) := by decide +kernel
theorem dX11_some_17 : decode cX11_some 17 = .ok (.iload 5, 2) := by decide +kernel
theorem dX11_some_19 : decode cX11_some 19 = .ok (.invokevirtual 287, 3) := by decide +kernel
theorem dX11_some_22 : decode cX11_some 22 = .ok (.goto 22, 3) := by decide +kernel
theorem dX11_some_25 : decode cX11_some 25 = .ok (.aload_n 0, 1) := by decide +kernel
theorem dX11_some_26 : decode cX11_some 26 = .ok (.iload 4, 2) := by decide +kernel
theorem dX11_some_28 : decode cX11_some 28 = .ok (.iload 5, 2) := by decide +kernel
theorem dX11_some_30 : decode cX11_some 30 = .ok (.aload_n 0, 1) := by decide +kernel
theorem dX11_some_31 : decode cX11_some 31 = .ok (.getfield 7, 3) := by decide +kernel
theorem dX11_some_34 : decode cX11_some 34 = .ok (.iload_n 2, 1) := by decide +kernel
theorem dX11_some_35 : decode cX11_some 35 = .ok (.iaload, 1) := by decide +kernel
theorem dX11_some_36 : decode cX11_some 36 = .ok (.aload_n 0, 1) := by decide +kernel
theorem dX11_some_37 : decode cX11_some 37 = .ok (.iload_n 2, 1) := by decide +kernel
theorem dX11_some_38 : decode cX11_some 38 = .ok (.invokevirtual 131, 3) := by decide +kernel
theorem dX11_some_41 : decode cX11_some 41 = .ok (.invokevirtual 271, 3) := by decide +kernel
theorem dX11_some_44 : decode cX11_some 44 = .ok (.ireturn, 1) := by decide +kernel
theorem dX11_some_45 : decode cX11_some 45 = .ok (.iload 4, 2) := by decide +kernel
theorem dX11_some_47 : decode cX11_some 47 = .ok (.iconst 3, 1) := by decide +kernel
theorem dX11_some_48 : decode cX11_some 48 = .ok (.if_icmp .eq 19, 3) := by decide +kernel
theorem dX11_some_51 : decode cX11_some 51 = .ok (.iload 4, 2) := by decide +kernel
theorem dX11_some_53 : decode cX11_some 53 = .ok (.iconst 4, 1) := by decide +kernel
theorem dX11_some_54 : decode cX11_some 54 = .ok (.if_icmp .eq 13, 3) := by decide +kernel
theorem dX11_some_57 : decode cX11_some 57 = .ok (.aload_n 0, 1) := by decide +kernel
theorem dX11_some_58 : decode cX11_some 58 = .ok (.iload_n 1, 1) := by decide +kernel
theorem dX11_some_59 : decode cX11_some 59 = .ok (.iload_n 2, 1) := by decide +kernel
theorem dX11_some_60 : decode cX11_some 60 = .ok (.iconst 0, 1) := by decide +kernel
theorem dX11_some_61 : decode cX11_some 61 = .ok (.iconst 0, 1) := by decide +kernel
theorem dX11_some_62 : decode cX11_some 62 = .ok (.iconst 0, 1) := by decide +kernel
theorem dX11_some_63 : decode cX11_some 63 = .ok (.invokevirtual 290, 3) := by decide +kernel
theorem dX11_some_66 : decode cX11_some 66 = .ok (.ireturn, 1) := by decide +kernel
theorem dX11_some_67 : decode cX11_some 67 = .ok (.iconst 0, 1) := by decide +kernel
theorem dX11_some_68 : decode cX11_some 68 = .ok (.istore 6, 2) := by decide +kernel
theorem dX11_some_70 : decode cX11_some 70 = .ok (.aload_n 0, 1) := by decide +kernel
theorem dX11_some_71 : decode cX11_some 71 = .ok (.iload 5, 2) := by decide +kernel
theorem dX11_some_73 : decode cX11_some 73 = .ok (.invokevirtual 137, 3) := by decide +kernel
theorem dX11_some_76 : decode cX11_some 76 = .ok (.istore 7, 2) := by decide +kernel
theorem dX11_some_78 : decode cX11_some 78 = .ok (.iload 7, 2) := by decide +kernel
theorem dX11_some_80 : decode cX11_some 80 = .ok (.ifCond .le 37, 3) := by decide +kernel
theorem dX11_some_83 : decode cX11_some 83 = .ok (.iload 6, 2) := by decide +kernel
theorem dX11_some_85 : decode cX11_some 85 = .ok (.ifCond .ne 32, 3) := by decide +kernel
theorem dX11_some_88 : decode cX11_some 88 = .ok (.aload_n 0, 1) := by decide +kernel
theorem dX11_some_89 : decode cX11_some 89 = .ok (.iload_n 3, 1) := by decide +kernel
theorem dX11_some_90 : decode cX11_some 90 = .ok (.iload 7, 2) := by decide +kernel
theorem dX11_some_92 : decode cX11_some 92 = .ok (.invokevirtual 293, 3) := by decide +kernel
theorem dX11_some_95 : decode cX11_some 95 = .ok (.ifCond .eq 8, 3) := by decide +kernel
theorem dX11_some_98 : decode cX11_some 98 = .ok (.iload 7, 2) := by decide +kernel
theorem dX11_some_100 : decode cX11_some 100 = .ok (.goto 4, 3) := by decide +kernel
theorem dX11_some_103 : decode cX11_some 103 = .ok (.iconst 0, 1) := by decide +kernel
theorem dX11_some_104 : decode cX11_some 104 = .ok (.istore 6, 2) := by decide +kernel
theorem dX11_some_106 : decode cX11_some 106 = .ok (.aload_n 0, 1) := by decide +kernel
theorem dX11_some_107 : decode cX11_some 107 = .ok (.iload 7, 2) := by decide +kernel
theorem dX11_some_109 : decode cX11_some 109 = .ok (.invokevirtual 140, 3) := by decide +kernel
theorem dX11_some_112 : decode cX11_some 112 = .ok (.istore 7, 2) := by decide +kernel
theorem dX11_some_114 : decode cX11_some 114 = .ok (.goto (-36), 3) := by decide +kernel
theorem dX11_some_117 : decode cX11_some 117 = .ok (.iload 4, 2) := by decide +kernel
theorem dX11_some_119 : decode cX11_some 119 = .ok (.iconst 3, 1) := by decide +kernel
theorem dX11_some_120 : decode cX11_some 120 = .ok (.if_icmp .ne 45, 3) := by decide +kernel
theorem dX11_some_123 : decode cX11_some 123 = .ok (.iload 6, 2) := by decide +kernel
theorem dX11_some_125 : decode cX11_some 125 = .ok (.ifCond .le 30, 3) := by decide +kernel
theorem dX11_some_128 : decode cX11_some 128 = .ok (.aload_n 0, 1) := by decide +kernel
theorem dX11_some_129 : decode cX11_some 129 = .ok (.iload_n 1, 1) := by decide +kernel
theorem dX11_some_130 : decode cX11_some 130 = .ok (.iload_n 2, 1) := by decide +kernel
theorem dX11_some_131 : decode cX11_some 131 = .ok (.aload_n 0, 1) := by decide +kernel
theorem dX11_some_132 : decode cX11_some 132 = .ok (.iload_n 3, 1) := by decide +kernel
theorem dX11_some_133 : decode cX11_some 133 = .ok (.invokevirtual 296, 3) := by decide +kernel
theorem dX11_some_136 : decode cX11_some 136 = .ok (.aload_n 0, 1) := by decide +kernel
theorem dX11_some_137 : decode cX11_some 137 = .ok (.getfield 7, 3) := by decide +kernel
theorem dX11_some_140 : decode cX11_some 140 = .ok (.iload 6, 2) := by decide +kernel
theorem dX11_some_142 : decode cX11_some 142 = .ok (.iaload, 1) := by decide +kernel
theorem dX11_some_143 : decode cX11_some 143 = .ok (.aload_n 0, 1) := by decide +kernel
theorem dX11_some_144 : decode cX11_some 144 = .ok (.iload 6, 2) := by decide +kernel
theorem dX11_some_146 : decode cX11_some 146 = .ok (.invokevirtual 131, 3) := by decide +kernel
theorem dX11_some_149 : decode cX11_some 149 = .ok (.invokevirtual 290, 3) := by decide +kernel
theorem dX11_some_152 : decode cX11_some 152 = .ok (.goto 12, 3) := by decide +kernel
theorem dX11_some_155 : decode cX11_some 155 = .ok (.aload_n 0, 1) := by decide +kernel
theorem dX11_some_156 : decode cX11_some 156 = .ok (.iload_n 1, 1) := by decide +kernel
theorem dX11_some_157 : decode cX11_some 157 = .ok (.iload_n 2, 1) := by decide +kernel
theorem dX11_some_158 : decode cX11_some 158 = .ok (.iconst 0, 1) := by decide +kernel
theorem dX11_some_159 : decode cX11_some 159 = .ok (.iconst 0, 1) := by decide +kernel
theorem dX11_some_160 : decode cX11_some 160 = .ok (.iconst 0, 1) := by decide +kernel
theorem dX11_some_161 : decode cX11_some 161 = .ok (.invokevirtual 290, 3) := by decide +kernel
theorem dX11_some_164 : decode cX11_some 164 = .ok (.ireturn, 1) := by decide +kernel
theorem dX11_some_165 : decode cX11_some 165 = .ok (.iload 6, 2) := by decide +kernel
theorem dX11_some_167 : decode cX11_some 167 = .ok (.ifCond .le 32, 3) := by decide +kernel
theorem dX11_some_170 : decode cX11_some 170 = .ok (.aload_n 0, 1) := by decide +kernel
theorem dX11_some_171 : decode cX11_some 171 = .ok (.iload_n 1, 1) := by decide +kernel
theorem dX11_some_172 : decode cX11_some 172 = .ok (.iload_n 2, 1) := by decide +kernel
theorem dX11_some_173 : decode cX11_some 173 = .ok (.aload_n 0, 1) := by decide +kernel
theorem dX11_some_174 : decode cX11_some 174 = .ok (.iload_n 3, 1) := by decide +kernel
theorem dX11_some_175 : decode cX11_some 175 = .ok (.invokevirtual 296, 3) := by decide +kernel
theorem dX11_some_178 : decode cX11_some 178 = .ok (.aload_n 0, 1) := by decide +kernel
theorem dX11_some_179 : decode cX11_some 179 = .ok (.getfield 7, 3) := by decide +kernel
theorem dX11_some_182 : decode cX11_some 182 = .ok (.iload 6, 2) := by decide +kernel
theorem dX11_some_184 : decode cX11_some 184 = .ok (.iaload, 1) := by decide +kernel
theorem dX11_some_185 : decode cX11_some 185 = .ok (.aload_n 0, 1) := by decide +kernel
theorem dX11_some_186 : decode cX11_some 186 = .ok (.iload 6, 2) := by decide +kernel
theorem dX11_some_188 : decode cX11_some 188 = .ok (.invokevirtual 131, 3) := by decide +kernel
theorem dX11_some_191 : decode cX11_some 191 = .ok (.invokevirtual 290, 3) := by decide +kernel
theorem dX11_some_194 : decode cX11_some 194 = .ok (.ifCond .eq 5, 3) := by decide +kernel
theorem dX11_some_197 : decode cX11_some 197 = .ok (.iconst 1, 1) := by decide +kernel
theorem dX11_some_198 : decode cX11_some 198 = .ok (.ireturn, 1) := by decide +kernel
theorem dX11_some_199 : decode cX11_some 199 = .ok (.aload_n 0, 1) := by decide +kernel
theorem dX11_some_200 : decode cX11_some 200 = .ok (.iload 5, 2) := by decide +kernel
theorem dX11_some_202 : decode cX11_some 202 = .ok (.invokevirtual 137, 3) := by decide +kernel
theorem dX11_some_205 : decode cX11_some 205 = .ok (.istore 7, 2) := by decide +kernel
theorem dX11_some_207 : decode cX11_some 207 = .ok (.iload 7, 2) := by decide +kernel
theorem dX11_some_209 : decode cX11_some 209 = .ok (.ifCond .le 44, 3) := by decide +kernel
theorem dX11_some_212 : decode cX11_some 212 = .ok (.aload_n 0, 1) := by decide +kernel
theorem dX11_some_213 : decode cX11_some 213 = .ok (.getfield 7, 3) := by decide +kernel
theorem dX11_some_216 : decode cX11_some 216 = .ok (.iload 7, 2) := by decide +kernel
theorem dX11_some_218 : decode cX11_some 218 = .ok (.iaload, 1) := by decide +kernel
theorem dX11_some_219 : decode cX11_some 219 = .ok (.iconst 3, 1) := by decide +kernel
theorem dX11_some_220 : decode cX11_some 220 = .ok (.if_icmp .ne 22, 3) := by decide +kernel
theorem dX11_some_223 : decode cX11_some 223 = .ok (.aload_n 0, 1) := by decide +kernel
theorem dX11_some_224 : decode cX11_some 224 = .ok (.iload_n 1, 1) := by decide +kernel
theorem dX11_some_225 : decode cX11_some 225 = .ok (.iload_n 2, 1) := by decide +kernel
theorem dX11_some_226 : decode cX11_some 226 = .ok (.iload_n 3, 1) := by decide +kernel
theorem dX11_some_227 : decode cX11_some 227 = .ok (.iconst 3, 1) := by decide +kernel
theorem dX11_some_228 : decode cX11_some 228 = .ok (.aload_n 0, 1) := by decide +kernel
theorem dX11_some_229 : decode cX11_some 229 = .ok (.iload 7, 2) := by decide +kernel
theorem dX11_some_231 : decode cX11_some 231 = .ok (.invokevirtual 131, 3) := by decide +kernel
theorem dX11_some_234 : decode cX11_some 234 = .ok (.invokevirtual 290, 3) := by decide +kernel
theorem dX11_some_237 : decode cX11_some 237 = .ok (.ifCond .eq 5, 3) := by decide +kernel
theorem dX11_some_240 : decode cX11_some 240 = .ok (.iconst 1, 1) := by decide +kernel
theorem dX11_some_241 : decode cX11_some 241 = .ok (.ireturn, 1) := by decide +kernel
theorem dX11_some_242 : decode cX11_some 242 = .ok (.aload_n 0, 1) := by decide +kernel
theorem dX11_some_243 : decode cX11_some 243 = .ok (.iload 7, 2) := by decide +kernel
theorem dX11_some_245 : decode cX11_some 245 = .ok (.invokevirtual 140, 3) := by decide +kernel
theorem dX11_some_248 : decode cX11_some 248 = .ok (.istore 7, 2) := by decide +kernel
theorem dX11_some_250 : decode cX11_some 250 = .ok (.goto (-43), 3) := by decide +kernel
theorem dX11_some_253 : decode cX11_some 253 = .ok (.iconst 0, 1) := by decide +kernel
theorem dX11_some_254 : decode cX11_some 254 = .ok (.ireturn, 1) := by decide +kernel
theorem dX11_isStep_0 : decode cX11_isStep 0 = .ok (.iconst 0, 1) := by decide +kernel
theorem dX11_isStep_1 : decode cX11_isStep 1 = .ok (.istore_n 3, 1) := by decide +kernel
theorem dX11_isStep_2 : decode cX11_isStep 2 = .ok (.aload_n 0, 1) := by decide +kernel
theorem dX11_isStep_3 : decode cX11_isStep 3 = .ok (.getfield 7, 3) := by decide +kernel
theorem dX11_isStep_6 : decode cX11_isStep 6 = .ok (.iload_n 2, 1) := by decide +kernel
theorem dX11_isStep_7 : decode cX11_isStep 7 = .ok (.iconst 1, 1) := by decide +kernel
theorem dX11_isStep_8 : decode cX11_isStep 8 = .ok (.iadd, 1) := by decide +kernel
theorem dX11_isStep_9 : decode cX11_isStep 9 = .ok (.iload_n 3, 1) := by decide +kernel
theorem dX11_isStep_10 : decode cX11_isStep 10 = .ok (.iadd, 1) := by decide +kernel
theorem dX11_isStep_11 : decode cX11_isStep 11 = .ok (.iaload, 1) := by decide +kernel
theorem dX11_isStep_12 : decode cX11_isStep 12 = .ok (.ifCond .eq 43, 3) := by decide +kernel
theorem dX11_isStep_15 : decode cX11_isStep 15 = .ok (.aload_n 0, 1) := by decide +kernel
theorem dX11_isStep_16 : decode cX11_isStep 16 = .ok (.getfield 7, 3) := by decide +kernel
theorem dX11_isStep_19 : decode cX11_isStep 19 = .ok (.iload_n 2, 1) := by decide +kernel
theorem dX11_isStep_20 : decode cX11_isStep 20 = .ok (.iconst 1, 1) := by decide +kernel
theorem dX11_isStep_21 : decode cX11_isStep 21 = .ok (.iadd, 1) := by decide +kernel
theorem dX11_isStep_22 : decode cX11_isStep 22 = .ok (.iload_n 3, 1) := by decide +kernel
theorem dX11_isStep_23 : decode cX11_isStep 23 = .ok (.iadd, 1) := by decide +kernel
theorem dX11_isStep_24 : decode cX11_isStep 24 = .ok (.iaload, 1) := by decide +kernel
theorem dX11_isStep_25 : decode cX11_isStep 25 = .ok (.aload_n 0, 1) := by decide +kernel
theorem dX11_isStep_26 : decode cX11_isStep 26 = .ok (.getfield 7, 3) := by decide +kernel
theorem dX11_isStep_29 : decode cX11_isStep 29 = .ok (.iload_n 1, 1) := by decide +kernel
theorem dX11_isStep_30 : decode cX11_isStep 30 = .ok (.iload_n 3, 1) := by decide +kernel
theorem dX11_isStep_31 : decode cX11_isStep 31 = .ok (.iadd, 1) := by decide +kernel
theorem dX11_isStep_32 : decode cX11_isStep 32 = .ok (.iaload, 1) := by decide +kernel
theorem dX11_isStep_33 : decode cX11_isStep 33 = .ok (.if_icmp .ne 22, 3) := by decide +kernel
theorem dX11_isStep_36 : decode cX11_isStep 36 = .ok (.aload_n 0, 1) := by decide +kernel
theorem dX11_isStep_37 : decode cX11_isStep 37 = .ok (.getfield 7, 3) := by decide +kernel
theorem dX11_isStep_40 : decode cX11_isStep 40 = .ok (.iload_n 1, 1) := by decide +kernel
theorem dX11_isStep_41 : decode cX11_isStep 41 = .ok (.iload_n 3, 1) := by decide +kernel
theorem dX11_isStep_42 : decode cX11_isStep 42 = .ok (.iadd, 1) := by decide +kernel
theorem dX11_isStep_43 : decode cX11_isStep 43 = .ok (.iaload, 1) := by decide +kernel
theorem dX11_isStep_44 : decode cX11_isStep 44 = .ok (.bipush 46, 2) := by decide +kernel
theorem dX11_isStep_46 : decode cX11_isStep 46 = .ok (.if_icmp .eq 9, 3) := by decide +kernel
theorem dX11_isStep_49 : decode cX11_isStep 49 = .ok (.iinc 3 1, 3) := by decide +kernel
theorem dX11_isStep_52 : decode cX11_isStep 52 = .ok (.goto (-50), 3) := by decide +kernel
theorem dX11_isStep_55 : decode cX11_isStep 55 = .ok (.aload_n 0, 1) := by decide +kernel
theorem dX11_isStep_56 : decode cX11_isStep 56 = .ok (.getfield 7, 3) := by decide +kernel
theorem dX11_isStep_59 : decode cX11_isStep 59 = .ok (.iload_n 2, 1) := by decide +kernel
theorem dX11_isStep_60 : decode cX11_isStep 60 = .ok (.iconst 1, 1) := by decide +kernel
theorem dX11_isStep_61 : decode cX11_isStep 61 = .ok (.iadd, 1) := by decide +kernel
theorem dX11_isStep_62 : decode cX11_isStep 62 = .ok (.iload_n 3, 1) := by decide +kernel
theorem dX11_isStep_63 : decode cX11_isStep 63 = .ok (.iadd, 1) := by decide +kernel
theorem dX11_isStep_64 : decode cX11_isStep 64 = .ok (.iaload, 1) := by decide +kernel
theorem dX11_isStep_65 : decode cX11_isStep 65 = .ok (.ifCond .ne 31, 3) := by decide +kernel
theorem dX11_isStep_68 : decode cX11_isStep 68 = .ok (.aload_n 0, 1) := by decide +kernel
theorem dX11_isStep_69 : decode cX11_isStep 69 = .ok (.getfield 7, 3) := by decide +kernel
theorem dX11_isStep_72 : decode cX11_isStep 72 = .ok (.iload_n 1, 1) := by decide +kernel
theorem dX11_isStep_73 : decode cX11_isStep 73 = .ok (.iload_n 3, 1) := by decide +kernel
theorem dX11_isStep_74 : decode cX11_isStep 74 = .ok (.iadd, 1) := by decide +kernel
theorem dX11_isStep_75 : decode cX11_isStep 75 = .ok (.iaload, 1) := by decide +kernel
theorem dX11_isStep_76 : decode cX11_isStep 76 = .ok (.ifCond .eq 16, 3) := by decide +kernel
theorem dX11_isStep_79 : decode cX11_isStep 79 = .ok (.aload_n 0, 1) := by decide +kernel
theorem dX11_isStep_80 : decode cX11_isStep 80 = .ok (.getfield 7, 3) := by decide +kernel
theorem dX11_isStep_83 : decode cX11_isStep 83 = .ok (.iload_n 1, 1) := by decide +kernel
theorem dX11_isStep_84 : decode cX11_isStep 84 = .ok (.iload_n 3, 1) := by decide +kernel
theorem dX11_isStep_85 : decode cX11_isStep 85 = .ok (.iadd, 1) := by decide +kernel
theorem dX11_isStep_86 : decode cX11_isStep 86 = .ok (.iaload, 1) := by decide +kernel
theorem dX11_isStep_87 : decode cX11_isStep 87 = .ok (.bipush 46, 2) := by decide +kernel
theorem dX11_isStep_89 : decode cX11_isStep 89 = .ok (.if_icmp .ne 7, 3) := by decide +kernel
theorem dX11_isStep_92 : decode cX11_isStep 92 = .ok (.iconst 1, 1) := by decide +kernel
theorem dX11_isStep_93 : decode cX11_isStep 93 = .ok (.goto 4, 3) := by decide +kernel
theorem dX11_isStep_96 : decode cX11_isStep 96 = .ok (.iconst 0, 1) := by decide +kernel
theorem dX11_isStep_97 : decode cX11_isStep 97 = .ok (.ireturn, 1) := by decide +kernel
theorem dX11_nextStep_0 : decode cX11_nextStep 0 = .ok (.iload_n 1, 1) := by decide +kernel
theorem dX11_nextStep_1 : decode cX11_nextStep 1 = .ok (.istore_n 2, 1) := by decide +kernel
theorem dX11_nextStep_2 : decode cX11_nextStep 2 = .ok (.aload_n 0, 1) := by decide +kernel
theorem dX11_nextStep_3 : decode cX11_nextStep 3 = .ok (.getfield 7, 3) := by decide +kernel
theorem dX11_nextStep_6 : decode cX11_nextStep 6 = .ok (.iload_n 2, 1) := by decide +kernel
theorem dX11_nextStep_7 : decode cX11_nextStep 7 = .ok (.iaload, 1) := by decide +kernel
theorem dX11_nextStep_8 : decode cX11_nextStep 8 = .ok (.ifCond .eq 20, 3) := by decide +kernel
theorem dX11_nextStep_11 : decode cX11_nextStep 11 = .ok (.aload_n 0, 1) := by decide +kernel
theorem dX11_nextStep_12 : decode cX11_nextStep 12 = .ok (.getfield 7, 3) := by decide +kernel
theorem dX11_nextStep_15 : decode cX11_nextStep 15 = .ok (.iload_n 2, 1) := by decide +kernel
theorem dX11_nextStep_16 : decode cX11_nextStep 16 = .ok (.iaload, 1) := by decide +kernel
theorem dX11_nextStep_17 : decode cX11_nextStep 17 = .ok (.bipush 46, 2) := by decide +kernel
theorem dX11_nextStep_19 : decode cX11_nextStep 19 = .ok (.if_icmp .eq 9, 3) := by decide +kernel
theorem dX11_nextStep_22 : decode cX11_nextStep 22 = .ok (.iinc 2 1, 3) := by decide +kernel
theorem dX11_nextStep_25 : decode cX11_nextStep 25 = .ok (.goto (-23), 3) := by decide +kernel
theorem dX11_nextStep_28 : decode cX11_nextStep 28 = .ok (.aload_n 0, 1) := by decide +kernel
theorem dX11_nextStep_29 : decode cX11_nextStep 29 = .ok (.getfield 7, 3) := by decide +kernel
theorem dX11_nextStep_32 : decode cX11_nextStep 32 = .ok (.iload_n 2, 1) := by decide +kernel
theorem dX11_nextStep_33 : decode cX11_nextStep 33 = .ok (.iaload, 1) := by decide +kernel
theorem dX11_nextStep_34 : decode cX11_nextStep 34 = .ok (.ifCond .ne 7, 3) := by decide +kernel
theorem dX11_nextStep_37 : decode cX11_nextStep 37 = .ok (.iconst 0, 1) := by decide +kernel
theorem dX11_nextStep_38 : decode cX11_nextStep 38 = .ok (.goto 6, 3) := by decide +kernel
theorem dX11_nextStep_41 : decode cX11_nextStep 41 = .ok (.iload_n 2, 1) := by decide +kernel
theorem dX11_nextStep_42 : decode cX11_nextStep 42 = .ok (.iconst 1, 1) := by decide +kernel
theorem dX11_nextStep_43 : decode cX11_nextStep 43 = .ok (.iadd, 1) := by decide +kernel
theorem dX11_nextStep_44 : decode cX11_nextStep 44 = .ok (.ireturn, 1) := by decide +kernel
theorem dX11_any_0 : decode cX11_any 0 = .ok (.aload_n 0, 1) := by decide +kernel
theorem dX11_any_1 : decode cX11_any 1 = .ok (.getfield 283, 3) := by decide +kernel
theorem dX11_any_4 : decode cX11_any 4 = .ok (.istore 6, 2) := by decide +kernel
theorem dX11_any_6 : decode cX11_any 6 = .ok (.aload_n 0, 1) := by decide +kernel
theorem dX11_any_7 : decode cX11_any 7 = .ok (.iconst 0, 1) := by decide +kernel
theorem dX11_any_8 : decode cX11_any 8 = .ok (.putfield 283, 3) := by decide +kernel
theorem dX11_any_11 : decode cX11_any 11 = .ok (.aload_n 0, 1) := by decide +kernel
theorem dX11_any_12 : decode cX11_any 12 = .ok (.iload_n 1, 1) := by decide +kernel
theorem dX11_any_13 : decode cX11_any 13 = .ok (.iload_n 2, 1) := by decide +kernel
theorem dX11_any_14 : decode cX11_any 14 = .ok (.iload_n 3, 1) := by decide +kernel
theorem dX11_any_15 : decode cX11_any 15 = .ok (.iload 4, 2) := by decide +kernel
theorem dX11_any_17 : decode cX11_any 17 = .ok (.iload 5, 2) := by decide +kernel
theorem dX11_any_19 : decode cX11_any 19 = .ok (.invokevirtual 290, 3) := by decide +kernel
theorem dX11_any_22 : decode cX11_any 22 = .ok (.istore 7, 2) := by decide +kernel
theorem dX11_any_24 : decode cX11_any 24 = .ok (.iload 7, 2) := by decide +kernel
theorem dX11_any_26 : decode cX11_any 26 = .ok (.ifCond .ne 21, 3) := by decide +kernel
theorem dX11_any_29 : decode cX11_any 29 = .ok (.aload_n 0, 1) := by decide +kernel
theorem dX11_any_30 : decode cX11_any 30 = .ok (.getfield 283, 3) := by decide +kernel
theorem dX11_any_33 : decode cX11_any 33 = .ok (.ifCond .ne 14, 3) := by decide +kernel
theorem dX11_any_36 : decode cX11_any 36 = .ok (.aload_n 0, 1) := by decide +kernel
theorem dX11_any_37 : decode cX11_any 37 = .ok (.iload_n 1, 1) := by decide +kernel
theorem dX11_any_38 : decode cX11_any 38 = .ok (.iload_n 2, 1) := by decide +kernel
theorem dX11_any_39 : decode cX11_any 39 = .ok (.iconst 0, 1) := by decide +kernel
theorem dX11_any_40 : decode cX11_any 40 = .ok (.iconst 0, 1) := by decide +kernel
theorem dX11_any_41 : decode cX11_any 41 = .ok (.iconst 0, 1) := by decide +kernel
theorem dX11_any_42 : decode cX11_any 42 = .ok (.invokevirtual 290, 3) := by decide +kernel
theorem dX11_any_45 : decode cX11_any 45 = .ok (.istore 7, 2) := by decide +kernel
theorem dX11_any_47 : decode cX11_any 47 = .ok (.aload_n 0, 1) := by decide +kernel
theorem dX11_any_48 : decode cX11_any 48 = .ok (.iload 6, 2) := by decide +kernel
theorem dX11_any_50 : decode cX11_any 50 = .ok (.putfield 283, 3) := by decide +kernel
theorem dX11_any_53 : decode cX11_any 53 = .ok (.iload 7, 2) := by decide +kernel
theorem dX11_any_55 : decode cX11_any 55 = .ok (.ireturn, 1) := by decide +kernel
theorem dX11_holdsOne_0 : decode cX11_holdsOne 0 = .ok (.aload_n 0, 1) := by decide +kernel
theorem dX11_holdsOne_1 : decode cX11_holdsOne 1 = .ok (.iload_n 1, 1) := by decide +kernel
theorem dX11_holdsOne_2 : decode cX11_holdsOne 2 = .ok (.invokevirtual 234, 3) := by decide +kernel
theorem dX11_holdsOne_5 : decode cX11_holdsOne 5 = .ok (.istore 5, 2) := by decide +kernel
theorem dX11_holdsOne_7 : decode cX11_holdsOne 7 = .ok (.iload 5, 2) := by decide +kernel
theorem dX11_holdsOne_9 : decode cX11_holdsOne 9 = .ok (.bipush 12, 2) := by decide +kernel
theorem dX11_holdsOne_11 : decode cX11_holdsOne 11 = .ok (.if_icmp .ne 25, 3) := by decide +kernel
theorem dX11_holdsOne_14 : decode cX11_holdsOne 14 = .ok (.aload_n 0, 1) := by decide +kernel
theorem dX11_holdsOne_15 : decode cX11_holdsOne 15 = .ok (.aload_n 0, 1) := by decide +kernel
theorem dX11_holdsOne_16 : decode cX11_holdsOne 16 = .ok (.iload_n 1, 1) := by decide +kernel
theorem dX11_holdsOne_17 : decode cX11_holdsOne 17 = .ok (.invokevirtual 131, 3) := by decide +kernel
theorem dX11_holdsOne_20 : decode cX11_holdsOne 20 = .ok (.iload_n 2, 1) := by decide +kernel
theorem dX11_holdsOne_21 : decode cX11_holdsOne 21 = .ok (.iload_n 3, 1) := by decide +kernel
theorem dX11_holdsOne_22 : decode cX11_holdsOne 22 = .ok (.iload 4, 2) := by decide +kernel
theorem dX11_holdsOne_24 : decode cX11_holdsOne 24 = .ok (.invokevirtual 264, 3) := by decide +kernel
theorem dX11_holdsOne_27 : decode cX11_holdsOne 27 = .ok (.ifCond .ne 7, 3) := by decide +kernel
theorem dX11_holdsOne_30 : decode cX11_holdsOne 30 = .ok (.iconst 1, 1) := by decide +kernel
theorem dX11_holdsOne_31 : decode cX11_holdsOne 31 = .ok (.goto 4, 3) := by decide +kernel
theorem dX11_holdsOne_34 : decode cX11_holdsOne 34 = .ok (.iconst 0, 1) := by decide +kernel
theorem dX11_holdsOne_35 : decode cX11_holdsOne 35 = .ok (.ireturn, 1) := by decide +kernel
theorem dX11_holdsOne_36 : decode cX11_holdsOne 36 = .ok (.iload 5, 2) := by decide +kernel
theorem dX11_holdsOne_38 : decode cX11_holdsOne 38 = .ok (.bipush 9, 2) := by decide +kernel
theorem dX11_holdsOne_40 : decode cX11_holdsOne 40 = .ok (.if_icmp .ne 41, 3) := by decide +kernel
theorem dX11_holdsOne_43 : decode cX11_holdsOne 43 = .ok (.aload_n 0, 1) := by decide +kernel
theorem dX11_holdsOne_44 : decode cX11_holdsOne 44 = .ok (.iload_n 1, 1) := by decide +kernel
theorem dX11_holdsOne_45 : decode cX11_holdsOne 45 = .ok (.iconst 0, 1) := by decide +kernel
theorem dX11_holdsOne_46 : decode cX11_holdsOne 46 = .ok (.iload_n 2, 1) := by decide +kernel
theorem dX11_holdsOne_47 : decode cX11_holdsOne 47 = .ok (.iload_n 3, 1) := by decide +kernel
theorem dX11_holdsOne_48 : decode cX11_holdsOne 48 = .ok (.iload 4, 2) := by decide +kernel
theorem dX11_holdsOne_50 : decode cX11_holdsOne 50 = .ok (.invokevirtual 299, 3) := by decide +kernel
theorem dX11_holdsOne_53 : decode cX11_holdsOne 53 = .ok (.aload_n 0, 1) := by decide +kernel
theorem dX11_holdsOne_54 : decode cX11_holdsOne 54 = .ok (.getfield 7, 3) := by decide +kernel
theorem dX11_holdsOne_57 : decode cX11_holdsOne 57 = .ok (.aload_n 0, 1) := by decide +kernel
theorem dX11_holdsOne_58 : decode cX11_holdsOne 58 = .ok (.iload_n 1, 1) := by decide +kernel
theorem dX11_holdsOne_59 : decode cX11_holdsOne 59 = .ok (.invokevirtual 131, 3) := by decide +kernel
theorem dX11_holdsOne_62 : decode cX11_holdsOne 62 = .ok (.iaload, 1) := by decide +kernel
theorem dX11_holdsOne_63 : decode cX11_holdsOne 63 = .ok (.iconst 1, 1) := by decide +kernel
theorem dX11_holdsOne_64 : decode cX11_holdsOne 64 = .ok (.if_icmp .ne 7, 3) := by decide +kernel
theorem dX11_holdsOne_67 : decode cX11_holdsOne 67 = .ok (.iconst 1, 1) := by decide +kernel
theorem dX11_holdsOne_68 : decode cX11_holdsOne 68 = .ok (.goto 4, 3) := by decide +kernel
theorem dX11_holdsOne_71 : decode cX11_holdsOne 71 = .ok (.iconst 0, 1) := by decide +kernel
theorem dX11_holdsOne_72 : decode cX11_holdsOne 72 = .ok (.if_icmp .ne 7, 3) := by decide +kernel
theorem dX11_holdsOne_75 : decode cX11_holdsOne 75 = .ok (.iconst 1, 1) := by decide +kernel
theorem dX11_holdsOne_76 : decode cX11_holdsOne 76 = .ok (.goto 4, 3) := by decide +kernel
theorem dX11_holdsOne_79 : decode cX11_holdsOne 79 = .ok (.iconst 0, 1) := by decide +kernel
theorem dX11_holdsOne_80 : decode cX11_holdsOne 80 = .ok (.ireturn, 1) := by decide +kernel
theorem dX11_holdsOne_81 : decode cX11_holdsOne 81 = .ok (.aload_n 0, 1) := by decide +kernel
theorem dX11_holdsOne_82 : decode cX11_holdsOne 82 = .ok (.iload_n 1, 1) := by decide +kernel
theorem dX11_holdsOne_83 : decode cX11_holdsOne 83 = .ok (.iconst 0, 1) := by decide +kernel
theorem dX11_holdsOne_84 : decode cX11_holdsOne 84 = .ok (.iload_n 2, 1) := by decide +kernel
theorem dX11_holdsOne_85 : decode cX11_holdsOne 85 = .ok (.iload_n 3, 1) := by decide +kernel
theorem dX11_holdsOne_86 : decode cX11_holdsOne 86 = .ok (.iload 4, 2) := by decide +kernel
theorem dX11_holdsOne_88 : decode cX11_holdsOne 88 = .ok (.invokevirtual 299, 3) := by decide +kernel
theorem dX11_holdsOne_91 : decode cX11_holdsOne 91 = .ok (.iload 5, 2) := by decide +kernel
theorem dX11_holdsOne_93 : decode cX11_holdsOne 93 = .ok (.iconst 2, 1) := by decide +kernel
theorem dX11_holdsOne_94 : decode cX11_holdsOne 94 = .ok (.if_icmp .eq 9, 3) := by decide +kernel
theorem dX11_holdsOne_97 : decode cX11_holdsOne 97 = .ok (.iload 5, 2) := by decide +kernel
theorem dX11_holdsOne_99 : decode cX11_holdsOne 99 = .ok (.iconst 4, 1) := by decide +kernel
theorem dX11_holdsOne_100 : decode cX11_holdsOne 100 = .ok (.if_icmp .ne 7, 3) := by decide +kernel
theorem dX11_holdsOne_103 : decode cX11_holdsOne 103 = .ok (.iconst 1, 1) := by decide +kernel
theorem dX11_holdsOne_104 : decode cX11_holdsOne 104 = .ok (.goto 4, 3) := by decide +kernel
theorem dX11_holdsOne_107 : decode cX11_holdsOne 107 = .ok (.iconst 0, 1) := by decide +kernel
theorem dX11_holdsOne_108 : decode cX11_holdsOne 108 = .ok (.if_icmp .eq 7, 3) := by decide +kernel
theorem dX11_holdsOne_111 : decode cX11_holdsOne 111 = .ok (.iconst 1, 1) := by decide +kernel
theorem dX11_holdsOne_112 : decode cX11_holdsOne 112 = .ok (.goto 4, 3) := by decide +kernel
theorem dX11_holdsOne_115 : decode cX11_holdsOne 115 = .ok (.iconst 0, 1) := by decide +kernel
theorem dX11_holdsOne_116 : decode cX11_holdsOne 116 = .ok (.ireturn, 1) := by decide +kernel
theorem dX11_all_0 : decode cX11_all 0 = .ok (.aload_n 0, 1) := by decide +kernel
theorem dX11_all_1 : decode cX11_all 1 = .ok (.iload_n 1, 1) := by decide +kernel
theorem dX11_all_2 : decode cX11_all 2 = .ok (.invokevirtual 137, 3) := by decide +kernel
theorem dX11_all_5 : decode cX11_all 5 = .ok (.istore 5, 2) := by decide +kernel
theorem dX11_all_7 : decode cX11_all 7 = .ok (.iload 5, 2) := by decide +kernel
theorem dX11_all_9 : decode cX11_all 9 = .ok (.ifCond .le 29, 3) := by decide +kernel
theorem dX11_all_12 : decode cX11_all 12 = .ok (.aload_n 0, 1) := by decide +kernel
theorem dX11_all_13 : decode cX11_all 13 = .ok (.iload 5, 2) := by decide +kernel
theorem dX11_all_15 : decode cX11_all 15 = .ok (.iload_n 2, 1) := by decide +kernel
theorem dX11_all_16 : decode cX11_all 16 = .ok (.iload_n 3, 1) := by decide +kernel
theorem dX11_all_17 : decode cX11_all 17 = .ok (.iload 4, 2) := by decide +kernel
theorem dX11_all_19 : decode cX11_all 19 = .ok (.invokevirtual 302, 3) := by decide +kernel
theorem dX11_all_22 : decode cX11_all 22 = .ok (.ifCond .ne 5, 3) := by decide +kernel
theorem dX11_all_25 : decode cX11_all 25 = .ok (.iconst 0, 1) := by decide +kernel
theorem dX11_all_26 : decode cX11_all 26 = .ok (.ireturn, 1) := by decide +kernel
theorem dX11_all_27 : decode cX11_all 27 = .ok (.aload_n 0, 1) := by decide +kernel
theorem dX11_all_28 : decode cX11_all 28 = .ok (.iload 5, 2) := by decide +kernel
theorem dX11_all_30 : decode cX11_all 30 = .ok (.invokevirtual 140, 3) := by decide +kernel
theorem dX11_all_33 : decode cX11_all 33 = .ok (.istore 5, 2) := by decide +kernel
theorem dX11_all_35 : decode cX11_all 35 = .ok (.goto (-28), 3) := by decide +kernel
theorem dX11_all_38 : decode cX11_all 38 = .ok (.iconst 1, 1) := by decide +kernel
theorem dX11_all_39 : decode cX11_all 39 = .ok (.ireturn, 1) := by decide +kernel
theorem dX11_elementHolds_0 : decode cX11_elementHolds 0 = .ok (.aload_n 0, 1) := by decide +kernel
theorem dX11_elementHolds_1 : decode cX11_elementHolds 1 = .ok (.iload_n 1, 1) := by decide +kernel
theorem dX11_elementHolds_2 : decode cX11_elementHolds 2 = .ok (.invokevirtual 145, 3) := by decide +kernel
theorem dX11_elementHolds_5 : decode cX11_elementHolds 5 = .ok (.ifCond .eq 79, 3) := by decide +kernel
theorem dX11_elementHolds_8 : decode cX11_elementHolds 8 = .ok (.aload_n 0, 1) := by decide +kernel
theorem dX11_elementHolds_9 : decode cX11_elementHolds 9 = .ok (.iload_n 1, 1) := by decide +kernel
theorem dX11_elementHolds_10 : decode cX11_elementHolds 10 = .ok (.invokevirtual 158, 3) := by decide +kernel
theorem dX11_elementHolds_13 : decode cX11_elementHolds 13 = .ok (.ifCond .ne 7, 3) := by decide +kernel
theorem dX11_elementHolds_16 : decode cX11_elementHolds 16 = .ok (.iconst 1, 1) := by decide +kernel
theorem dX11_elementHolds_17 : decode cX11_elementHolds 17 = .ok (.goto 4, 3) := by decide +kernel
theorem dX11_elementHolds_20 : decode cX11_elementHolds 20 = .ok (.iconst 0, 1) := by decide +kernel
theorem dX11_elementHolds_21 : decode cX11_elementHolds 21 = .ok (.istore_n 3, 1) := by decide +kernel
theorem dX11_elementHolds_22 : decode cX11_elementHolds 22 = .ok (.aload_n 0, 1) := by decide +kernel
theorem dX11_elementHolds_23 : decode cX11_elementHolds 23 = .ok (.aload_n 0, 1) := by decide +kernel
theorem dX11_elementHolds_24 : decode cX11_elementHolds 24 = .ok (.iload_n 1, 1) := by decide +kernel
theorem dX11_elementHolds_25 : decode cX11_elementHolds 25 = .ok (.invokevirtual 131, 3) := by decide +kernel
theorem dX11_elementHolds_28 : decode cX11_elementHolds 28 = .ok (.invokevirtual 137, 3) := by decide +kernel
theorem dX11_elementHolds_31 : decode cX11_elementHolds 31 = .ok (.istore 4, 2) := by decide +kernel
theorem dX11_elementHolds_33 : decode cX11_elementHolds 33 = .ok (.iload 4, 2) := by decide +kernel
theorem dX11_elementHolds_35 : decode cX11_elementHolds 35 = .ok (.ifCond .le 35, 3) := by decide +kernel
theorem dX11_elementHolds_38 : decode cX11_elementHolds 38 = .ok (.aload_n 0, 1) := by decide +kernel
theorem dX11_elementHolds_39 : decode cX11_elementHolds 39 = .ok (.aload_n 0, 1) := by decide +kernel
theorem dX11_elementHolds_40 : decode cX11_elementHolds 40 = .ok (.iload 4, 2) := by decide +kernel
theorem dX11_elementHolds_42 : decode cX11_elementHolds 42 = .ok (.invokevirtual 131, 3) := by decide +kernel
theorem dX11_elementHolds_45 : decode cX11_elementHolds 45 = .ok (.iload_n 2, 1) := by decide +kernel
theorem dX11_elementHolds_46 : decode cX11_elementHolds 46 = .ok (.invokevirtual 268, 3) := by decide +kernel
theorem dX11_elementHolds_49 : decode cX11_elementHolds 49 = .ok (.iload_n 3, 1) := by decide +kernel
theorem dX11_elementHolds_50 : decode cX11_elementHolds 50 = .ok (.if_icmp .ne 9, 3) := by decide +kernel
theorem dX11_elementHolds_53 : decode cX11_elementHolds 53 = .ok (.aload_n 0, 1) := by decide +kernel
theorem dX11_elementHolds_54 : decode cX11_elementHolds 54 = .ok (.iload_n 1, 1) := by decide +kernel
theorem dX11_elementHolds_55 : decode cX11_elementHolds 55 = .ok (.invokevirtual 161, 3) := by decide +kernel
theorem dX11_elementHolds_58 : decode cX11_elementHolds 58 = .ok (.ireturn, 1) := by decide +kernel
theorem dX11_elementHolds_59 : decode cX11_elementHolds 59 = .ok (.aload_n 0, 1) := by decide +kernel
theorem dX11_elementHolds_60 : decode cX11_elementHolds 60 = .ok (.iload 4, 2) := by decide +kernel
theorem dX11_elementHolds_62 : decode cX11_elementHolds 62 = .ok (.invokevirtual 140, 3) := by decide +kernel
theorem dX11_elementHolds_65 : decode cX11_elementHolds 65 = .ok (.istore 4, 2) := by decide +kernel
theorem dX11_elementHolds_67 : decode cX11_elementHolds 67 = .ok (.goto (-34), 3) := by decide +kernel
theorem dX11_elementHolds_70 : decode cX11_elementHolds 70 = .ok (.aload_n 0, 1) := by decide +kernel
theorem dX11_elementHolds_71 : decode cX11_elementHolds 71 = .ok (.iload_n 1, 1) := by decide +kernel
theorem dX11_elementHolds_72 : decode cX11_elementHolds 72 = .ok (.invokevirtual 161, 3) := by decide +kernel
theorem dX11_elementHolds_75 : decode cX11_elementHolds 75 = .ok (.ifCond .ne 7, 3) := by decide +kernel
theorem dX11_elementHolds_78 : decode cX11_elementHolds 78 = .ok (.iconst 1, 1) := by decide +kernel
theorem dX11_elementHolds_79 : decode cX11_elementHolds 79 = .ok (.goto 4, 3) := by decide +kernel
theorem dX11_elementHolds_82 : decode cX11_elementHolds 82 = .ok (.iconst 0, 1) := by decide +kernel
theorem dX11_elementHolds_83 : decode cX11_elementHolds 83 = .ok (.ireturn, 1) := by decide +kernel
theorem dX11_elementHolds_84 : decode cX11_elementHolds 84 = .ok (.aload_n 0, 1) := by decide +kernel
theorem dX11_elementHolds_85 : decode cX11_elementHolds 85 = .ok (.aload_n 0, 1) := by decide +kernel
theorem dX11_elementHolds_86 : decode cX11_elementHolds 86 = .ok (.getfield 7, 3) := by decide +kernel
theorem dX11_elementHolds_89 : decode cX11_elementHolds 89 = .ok (.iload_n 1, 1) := by decide +kernel
theorem dX11_elementHolds_90 : decode cX11_elementHolds 90 = .ok (.iaload, 1) := by decide +kernel
theorem dX11_elementHolds_91 : decode cX11_elementHolds 91 = .ok (.aload_n 0, 1) := by decide +kernel
theorem dX11_elementHolds_92 : decode cX11_elementHolds 92 = .ok (.iload_n 1, 1) := by decide +kernel
theorem dX11_elementHolds_93 : decode cX11_elementHolds 93 = .ok (.invokevirtual 131, 3) := by decide +kernel
theorem dX11_elementHolds_96 : decode cX11_elementHolds 96 = .ok (.invokevirtual 227, 3) := by decide +kernel
theorem dX11_elementHolds_99 : decode cX11_elementHolds 99 = .ok (.ifCond .eq 18, 3) := by decide +kernel
theorem dX11_elementHolds_102 : decode cX11_elementHolds 102 = .ok (.aload_n 0, 1) := by decide +kernel
theorem dX11_elementHolds_103 : decode cX11_elementHolds 103 = .ok (.aload_n 0, 1) := by decide +kernel
theorem dX11_elementHolds_104 : decode cX11_elementHolds 104 = .ok (.iload_n 1, 1) := by decide +kernel
theorem dX11_elementHolds_105 : decode cX11_elementHolds 105 = .ok (.invokevirtual 131, 3) := by decide +kernel
theorem dX11_elementHolds_108 : decode cX11_elementHolds 108 = .ok (.iload_n 1, 1) := by decide +kernel
theorem dX11_elementHolds_109 : decode cX11_elementHolds 109 = .ok (.iconst 1, 1) := by decide +kernel
theorem dX11_elementHolds_110 : decode cX11_elementHolds 110 = .ok (.iadd, 1) := by decide +kernel
theorem dX11_elementHolds_111 : decode cX11_elementHolds 111 = .ok (.iconst 3, 1) := by decide +kernel
theorem dX11_elementHolds_112 : decode cX11_elementHolds 112 = .ok (.iload_n 2, 1) := by decide +kernel
theorem dX11_elementHolds_113 : decode cX11_elementHolds 113 = .ok (.invokevirtual 264, 3) := by decide +kernel
theorem dX11_elementHolds_116 : decode cX11_elementHolds 116 = .ok (.ireturn, 1) := by decide +kernel
theorem dX11_elementHolds_117 : decode cX11_elementHolds 117 = .ok (.aload_n 0, 1) := by decide +kernel
theorem dX11_elementHolds_118 : decode cX11_elementHolds 118 = .ok (.iconst 0, 1) := by decide +kernel
theorem dX11_elementHolds_119 : decode cX11_elementHolds 119 = .ok (.iload_n 1, 1) := by decide +kernel
theorem dX11_elementHolds_120 : decode cX11_elementHolds 120 = .ok (.iload_n 1, 1) := by decide +kernel
theorem dX11_elementHolds_121 : decode cX11_elementHolds 121 = .ok (.iconst 1, 1) := by decide +kernel
theorem dX11_elementHolds_122 : decode cX11_elementHolds 122 = .ok (.iadd, 1) := by decide +kernel
theorem dX11_elementHolds_123 : decode cX11_elementHolds 123 = .ok (.iconst 3, 1) := by decide +kernel
theorem dX11_elementHolds_124 : decode cX11_elementHolds 124 = .ok (.iload_n 2, 1) := by decide +kernel
theorem dX11_elementHolds_125 : decode cX11_elementHolds 125 = .ok (.invokevirtual 299, 3) := by decide +kernel
theorem dX11_elementHolds_128 : decode cX11_elementHolds 128 = .ok (.ireturn, 1) := by decide +kernel
theorem dX11_filterHolds_0 : decode cX11_filterHolds 0 = .ok (.aload_n 0, 1) := by decide +kernel
theorem dX11_filterHolds_1 : decode cX11_filterHolds 1 = .ok (.iload_n 1, 1) := by decide +kernel
theorem dX11_filterHolds_2 : decode cX11_filterHolds 2 = .ok (.invokevirtual 137, 3) := by decide +kernel
theorem dX11_filterHolds_5 : decode cX11_filterHolds 5 = .ok (.istore_n 3, 1) := by decide +kernel
theorem dX11_filterHolds_6 : decode cX11_filterHolds 6 = .ok (.iload_n 3, 1) := by decide +kernel
theorem dX11_filterHolds_7 : decode cX11_filterHolds 7 = .ok (.ifCond .le 23, 3) := by decide +kernel
theorem dX11_filterHolds_10 : decode cX11_filterHolds 10 = .ok (.aload_n 0, 1) := by decide +kernel
theorem dX11_filterHolds_11 : decode cX11_filterHolds 11 = .ok (.iload_n 3, 1) := by decide +kernel
theorem dX11_filterHolds_12 : decode cX11_filterHolds 12 = .ok (.iload_n 2, 1) := by decide +kernel
theorem dX11_filterHolds_13 : decode cX11_filterHolds 13 = .ok (.invokevirtual 305, 3) := by decide +kernel
theorem dX11_filterHolds_16 : decode cX11_filterHolds 16 = .ok (.ifCond .ne 5, 3) := by decide +kernel
theorem dX11_filterHolds_19 : decode cX11_filterHolds 19 = .ok (.iconst 0, 1) := by decide +kernel
theorem dX11_filterHolds_20 : decode cX11_filterHolds 20 = .ok (.ireturn, 1) := by decide +kernel
theorem dX11_filterHolds_21 : decode cX11_filterHolds 21 = .ok (.aload_n 0, 1) := by decide +kernel
theorem dX11_filterHolds_22 : decode cX11_filterHolds 22 = .ok (.iload_n 3, 1) := by decide +kernel
theorem dX11_filterHolds_23 : decode cX11_filterHolds 23 = .ok (.invokevirtual 140, 3) := by decide +kernel
theorem dX11_filterHolds_26 : decode cX11_filterHolds 26 = .ok (.istore_n 3, 1) := by decide +kernel
theorem dX11_filterHolds_27 : decode cX11_filterHolds 27 = .ok (.goto (-21), 3) := by decide +kernel
theorem dX11_filterHolds_30 : decode cX11_filterHolds 30 = .ok (.iconst 1, 1) := by decide +kernel
theorem dX11_filterHolds_31 : decode cX11_filterHolds 31 = .ok (.ireturn, 1) := by decide +kernel
theorem dX11_isFour_0 : decode cX11_isFour 0 = .ok (.iload_n 0, 1) := by decide +kernel
theorem dX11_isFour_1 : decode cX11_isFour 1 = .ok (.ifCond .lt 12, 3) := by decide +kernel
theorem dX11_isFour_4 : decode cX11_isFour 4 = .ok (.iload_n 0, 1) := by decide +kernel
theorem dX11_isFour_5 : decode cX11_isFour 5 = .ok (.iconst 4, 1) := by decide +kernel
theorem dX11_isFour_6 : decode cX11_isFour 6 = .ok (.if_icmp .ge 7, 3) := by decide +kernel
theorem dX11_isFour_9 : decode cX11_isFour 9 = .ok (.iconst 1, 1) := by decide +kernel
theorem dX11_isFour_10 : decode cX11_isFour 10 = .ok (.goto 4, 3) := by decide +kernel
theorem dX11_isFour_13 : decode cX11_isFour 13 = .ok (.iconst 0, 1) := by decide +kernel
theorem dX11_isFour_14 : decode cX11_isFour 14 = .ok (.ireturn, 1) := by decide +kernel
theorem dX11_read_0 : decode cX11_read 0 = .ok (.iload_n 1, 1) := by decide +kernel
theorem dX11_read_1 : decode cX11_read 1 = .ok (.invokestatic 308, 3) := by decide +kernel
theorem dX11_read_4 : decode cX11_read 4 = .ok (.ifCond .eq 15, 3) := by decide +kernel
theorem dX11_read_7 : decode cX11_read 7 = .ok (.iload_n 2, 1) := by decide +kernel
theorem dX11_read_8 : decode cX11_read 8 = .ok (.ifCond .lt 11, 3) := by decide +kernel
theorem dX11_read_11 : decode cX11_read 11 = .ok (.iload_n 2, 1) := by decide +kernel
theorem dX11_read_12 : decode cX11_read 12 = .ok (.aload_n 0, 1) := by decide +kernel
theorem dX11_read_13 : decode cX11_read 13 = .ok (.getfield 53, 3) := by decide +kernel
theorem dX11_read_16 : decode cX11_read 16 = .ok (.if_icmp .le 6, 3) := by decide +kernel
theorem dX11_read_19 : decode cX11_read 19 = .ok (.bipush (-2), 2) := by decide +kernel
theorem dX11_read_21 : decode cX11_read 21 = .ok (.ireturn, 1) := by decide +kernel
theorem dX11_read_22 : decode cX11_read 22 = .ok (.aload_n 0, 1) := by decide +kernel
theorem dX11_read_23 : decode cX11_read 23 = .ok (.iconst 0, 1) := by decide +kernel
theorem dX11_read_24 : decode cX11_read 24 = .ok (.putfield 53, 3) := by decide +kernel
theorem dX11_read_27 : decode cX11_read 27 = .ok (.aload_n 0, 1) := by decide +kernel
theorem dX11_read_28 : decode cX11_read 28 = .ok (.iload_n 2, 1) := by decide +kernel
theorem dX11_read_29 : decode cX11_read 29 = .ok (.invokevirtual 311, 3) := by decide +kernel
theorem dX11_read_32 : decode cX11_read 32 = .ok (.ifCond .ne 5, 3) := by decide +kernel
theorem dX11_read_35 : decode cX11_read 35 = .ok (.iconst (-1), 1) := by decide +kernel
theorem dX11_read_36 : decode cX11_read 36 = .ok (.ireturn, 1) := by decide +kernel
theorem dX11_read_37 : decode cX11_read 37 = .ok (.iconst 0, 1) := by decide +kernel
theorem dX11_read_38 : decode cX11_read 38 = .ok (.istore_n 3, 1) := by decide +kernel
theorem dX11_read_39 : decode cX11_read 39 = .ok (.iload_n 3, 1) := by decide +kernel
theorem dX11_read_40 : decode cX11_read 40 = .ok (.iload_n 2, 1) := by decide +kernel
theorem dX11_read_41 : decode cX11_read 41 = .ok (.if_icmp .ge 27, 3) := by decide +kernel
theorem dX11_read_44 : decode cX11_read 44 = .ok (.aload_n 0, 1) := by decide +kernel
theorem dX11_read_45 : decode cX11_read 45 = .ok (.getfield 7, 3) := by decide +kernel
theorem dX11_read_48 : decode cX11_read 48 = .ok (.sipush 2000, 3) := by decide +kernel
theorem dX11_read_51 : decode cX11_read 51 = .ok (.iload_n 1, 1) := by decide +kernel
theorem dX11_read_52 : decode cX11_read 52 = .ok (.imul, 1) := by decide +kernel
theorem dX11_read_53 : decode cX11_read 53 = .ok (.iload_n 3, 1) := by decide +kernel
theorem dX11_read_54 : decode cX11_read 54 = .ok (.iadd, 1) := by decide +kernel
theorem dX11_read_55 : decode cX11_read 55 = .ok (.aload_n 0, 1) := by decide +kernel
theorem dX11_read_56 : decode cX11_read 56 = .ok (.getfield 26, 3) := by decide +kernel
theorem dX11_read_59 : decode cX11_read 59 = .ok (.iload_n 3, 1) := by decide +kernel
theorem dX11_read_60 : decode cX11_read 60 = .ok (.iaload, 1) := by decide +kernel
theorem dX11_read_61 : decode cX11_read 61 = .ok (.iastore, 1) := by decide +kernel
theorem dX11_read_62 : decode cX11_read 62 = .ok (.iinc 3 1, 3) := by decide +kernel
theorem dX11_read_65 : decode cX11_read 65 = .ok (.goto (-26), 3) := by decide +kernel
theorem dX11_read_68 : decode cX11_read 68 = .ok (.iconst 0, 1) := by decide +kernel
theorem dX11_read_69 : decode cX11_read 69 = .ok (.ireturn, 1) := by decide +kernel
theorem dX11_filter_0 : decode cX11_filter 0 = .ok (.iload_n 1, 1) := by decide +kernel
theorem dX11_filter_1 : decode cX11_filter 1 = .ok (.invokestatic 308, 3) := by decide +kernel
theorem dX11_filter_4 : decode cX11_filter 4 = .ok (.ifCond .eq 15, 3) := by decide +kernel
theorem dX11_filter_7 : decode cX11_filter 7 = .ok (.iload_n 2, 1) := by decide +kernel
theorem dX11_filter_8 : decode cX11_filter 8 = .ok (.ifCond .lt 11, 3) := by decide +kernel
theorem dX11_filter_11 : decode cX11_filter 11 = .ok (.iload_n 2, 1) := by decide +kernel
theorem dX11_filter_12 : decode cX11_filter 12 = .ok (.aload_n 0, 1) := by decide +kernel
theorem dX11_filter_13 : decode cX11_filter 13 = .ok (.getfield 53, 3) := by decide +kernel
theorem dX11_filter_16 : decode cX11_filter 16 = .ok (.if_icmp .le 6, 3) := by decide +kernel
theorem dX11_filter_19 : decode cX11_filter 19 = .ok (.bipush (-2), 2) := by decide +kernel
theorem dX11_filter_21 : decode cX11_filter 21 = .ok (.ireturn, 1) := by decide +kernel
theorem dX11_filter_22 : decode cX11_filter 22 = .ok (.aload_n 0, 1) := by decide +kernel
theorem dX11_filter_23 : decode cX11_filter 23 = .ok (.iconst 0, 1) := by decide +kernel
theorem dX11_filter_24 : decode cX11_filter 24 = .ok (.putfield 53, 3) := by decide +kernel
theorem dX11_filter_27 : decode cX11_filter 27 = .ok (.aload_n 0, 1) := by decide +kernel
theorem dX11_filter_28 : decode cX11_filter 28 = .ok (.iconst (-1), 1) := by decide +kernel
theorem dX11_filter_29 : decode cX11_filter 29 = .ok (.putfield 13, 3) := by decide +kernel
theorem dX11_filter_32 : decode cX11_filter 32 = .ok (.aload_n 0, 1) := by decide +kernel
theorem dX11_filter_33 : decode cX11_filter 33 = .ok (.iload_n 2, 1) := by decide +kernel
theorem dX11_filter_34 : decode cX11_filter 34 = .ok (.invokevirtual 311, 3) := by decide +kernel
theorem dX11_filter_37 : decode cX11_filter 37 = .ok (.ifCond .ne 5, 3) := by decide +kernel
theorem dX11_filter_40 : decode cX11_filter 40 = .ok (.iconst (-1), 1) := by decide +kernel
theorem dX11_filter_41 : decode cX11_filter 41 = .ok (.ireturn, 1) := by decide +kernel
theorem dX11_filter_42 : decode cX11_filter 42 = .ok (.aload_n 0, 1) := by decide +kernel
theorem dX11_filter_43 : decode cX11_filter 43 = .ok (.iconst 0, 1) := by decide +kernel
theorem dX11_filter_44 : decode cX11_filter 44 = .ok (.putfield 191, 3) := by decide +kernel
theorem dX11_filter_47 : decode cX11_filter 47 = .ok (.aload_n 0, 1) := by decide +kernel
theorem dX11_filter_48 : decode cX11_filter 48 = .ok (.iconst 0, 1) := by decide +kernel
theorem dX11_filter_49 : decode cX11_filter 49 = .ok (.putfield 197, 3) := by decide +kernel
theorem dX11_filter_52 : decode cX11_filter 52 = .ok (.aload_n 0, 1) := by decide +kernel
theorem dX11_filter_53 : decode cX11_filter 53 = .ok (.iconst 0, 1) := by decide +kernel
theorem dX11_filter_54 : decode cX11_filter 54 = .ok (.putfield 221, 3) := by decide +kernel
theorem dX11_filter_57 : decode cX11_filter 57 = .ok (.aload_n 0, 1) := by decide +kernel
theorem dX11_filter_58 : decode cX11_filter 58 = .ok (.iconst 0, 1) := by decide +kernel
theorem dX11_filter_59 : decode cX11_filter 59 = .ok (.putfield 224, 3) := by decide +kernel
theorem dX11_filter_62 : decode cX11_filter 62 = .ok (.aload_n 0, 1) := by decide +kernel
theorem dX11_filter_63 : decode cX11_filter 63 = .ok (.sipush 16000, 3) := by decide +kernel
theorem dX11_filter_66 : decode cX11_filter 66 = .ok (.invokevirtual 215, 3) := by decide +kernel
theorem dX11_filter_69 : decode cX11_filter 69 = .ok (.aload_n 0, 1) := by decide +kernel
theorem dX11_filter_70 : decode cX11_filter 70 = .ok (.getfield 191, 3) := by decide +kernel
theorem dX11_filter_73 : decode cX11_filter 73 = .ok (.ifCond .le 20, 3) := by decide +kernel
theorem dX11_filter_76 : decode cX11_filter 76 = .ok (.aload_n 0, 1) := by decide +kernel
theorem dX11_filter_77 : decode cX11_filter 77 = .ok (.aload_n 0, 1) := by decide +kernel
theorem dX11_filter_78 : decode cX11_filter 78 = .ok (.getfield 194, 3) := by decide +kernel
theorem dX11_filter_81 : decode cX11_filter 81 = .ok (.sipush 16000, 3) := by decide +kernel
theorem dX11_filter_84 : decode cX11_filter 84 = .ok (.isub, 1) := by decide +kernel
theorem dX11_filter_85 : decode cX11_filter 85 = .ok (.putfield 13, 3) := by decide +kernel
theorem dX11_filter_88 : decode cX11_filter 88 = .ok (.aload_n 0, 1) := by decide +kernel
theorem dX11_filter_89 : decode cX11_filter 89 = .ok (.getfield 191, 3) := by decide +kernel
theorem dX11_filter_92 : decode cX11_filter 92 = .ok (.ireturn, 1) := by decide +kernel
theorem dX11_filter_93 : decode cX11_filter 93 = .ok (.iconst 0, 1) := by decide +kernel
theorem dX11_filter_94 : decode cX11_filter 94 = .ok (.istore_n 3, 1) := by decide +kernel
theorem dX11_filter_95 : decode cX11_filter 95 = .ok (.iload_n 3, 1) := by decide +kernel
theorem dX11_filter_96 : decode cX11_filter 96 = .ok (.iload_n 2, 1) := by decide +kernel
theorem dX11_filter_97 : decode cX11_filter 97 = .ok (.if_icmp .ge 31, 3) := by decide +kernel
theorem dX11_filter_100 : decode cX11_filter 100 = .ok (.aload_n 0, 1) := by decide +kernel
theorem dX11_filter_101 : decode cX11_filter 101 = .ok (.getfield 7, 3) := by decide +kernel
theorem dX11_filter_104 : decode cX11_filter 104 = .ok (.sipush 8000, 3) := by decide +kernel
theorem dX11_filter_107 : decode cX11_filter 107 = .ok (.sipush 2000, 3) := by decide +kernel
theorem dX11_filter_110 : decode cX11_filter 110 = .ok (.iload_n 1, 1) := by decide +kernel
theorem dX11_filter_111 : decode cX11_filter 111 = .ok (.imul, 1) := by decide +kernel
theorem dX11_filter_112 : decode cX11_filter 112 = .ok (.iadd, 1) := by decide +kernel
theorem dX11_filter_113 : decode cX11_filter 113 = .ok (.iload_n 3, 1) := by decide +kernel
theorem dX11_filter_114 : decode cX11_filter 114 = .ok (.iadd, 1) := by decide +kernel
theorem dX11_filter_115 : decode cX11_filter 115 = .ok (.aload_n 0, 1) := by decide +kernel
theorem dX11_filter_116 : decode cX11_filter 116 = .ok (.getfield 26, 3) := by decide +kernel
theorem dX11_filter_119 : decode cX11_filter 119 = .ok (.iload_n 3, 1) := by decide +kernel
theorem dX11_filter_120 : decode cX11_filter 120 = .ok (.iaload, 1) := by decide +kernel
theorem dX11_filter_121 : decode cX11_filter 121 = .ok (.iastore, 1) := by decide +kernel
theorem dX11_filter_122 : decode cX11_filter 122 = .ok (.iinc 3 1, 3) := by decide +kernel
theorem dX11_filter_125 : decode cX11_filter 125 = .ok (.goto (-30), 3) := by decide +kernel
theorem dX11_filter_128 : decode cX11_filter 128 = .ok (.aload_n 0, 1) := by decide +kernel
theorem dX11_filter_129 : decode cX11_filter 129 = .ok (.getfield 17, 3) := by decide +kernel
theorem dX11_filter_132 : decode cX11_filter 132 = .ok (.iload_n 1, 1) := by decide +kernel
theorem dX11_filter_133 : decode cX11_filter 133 = .ok (.aload_n 0, 1) := by decide +kernel
theorem dX11_filter_134 : decode cX11_filter 134 = .ok (.getfield 197, 3) := by decide +kernel
theorem dX11_filter_137 : decode cX11_filter 137 = .ok (.iastore, 1) := by decide +kernel
theorem dX11_filter_138 : decode cX11_filter 138 = .ok (.aload_n 0, 1) := by decide +kernel
theorem dX11_filter_139 : decode cX11_filter 139 = .ok (.getfield 20, 3) := by decide +kernel
theorem dX11_filter_142 : decode cX11_filter 142 = .ok (.iload_n 1, 1) := by decide +kernel
theorem dX11_filter_143 : decode cX11_filter 143 = .ok (.aload_n 0, 1) := by decide +kernel
theorem dX11_filter_144 : decode cX11_filter 144 = .ok (.getfield 221, 3) := by decide +kernel
theorem dX11_filter_147 : decode cX11_filter 147 = .ok (.iastore, 1) := by decide +kernel
theorem dX11_filter_148 : decode cX11_filter 148 = .ok (.aload_n 0, 1) := by decide +kernel
theorem dX11_filter_149 : decode cX11_filter 149 = .ok (.getfield 23, 3) := by decide +kernel
theorem dX11_filter_152 : decode cX11_filter 152 = .ok (.iload_n 1, 1) := by decide +kernel
theorem dX11_filter_153 : decode cX11_filter 153 = .ok (.aload_n 0, 1) := by decide +kernel
theorem dX11_filter_154 : decode cX11_filter 154 = .ok (.getfield 224, 3) := by decide +kernel
theorem dX11_filter_157 : decode cX11_filter 157 = .ok (.iastore, 1) := by decide +kernel
theorem dX11_filter_158 : decode cX11_filter 158 = .ok (.iconst 0, 1) := by decide +kernel
theorem dX11_filter_159 : decode cX11_filter 159 = .ok (.ireturn, 1) := by decide +kernel
theorem dX11_place_0 : decode cX11_place 0 = .ok (.aload_n 0, 1) := by decide +kernel
theorem dX11_place_1 : decode cX11_place 1 = .ok (.getfield 13, 3) := by decide +kernel
theorem dX11_place_4 : decode cX11_place 4 = .ok (.ireturn, 1) := by decide +kernel
theorem dX11_many_0 : decode cX11_many 0 = .ok (.iload_n 1, 1) := by decide +kernel
theorem dX11_many_1 : decode cX11_many 1 = .ok (.invokestatic 308, 3) := by decide +kernel
theorem dX11_many_4 : decode cX11_many 4 = .ok (.ifCond .eq 12, 3) := by decide +kernel
theorem dX11_many_7 : decode cX11_many 7 = .ok (.iload_n 2, 1) := by decide +kernel
theorem dX11_many_8 : decode cX11_many 8 = .ok (.ifCond .lt 8, 3) := by decide +kernel
theorem dX11_many_11 : decode cX11_many 11 = .ok (.iload_n 2, 1) := by decide +kernel
theorem dX11_many_12 : decode cX11_many 12 = .ok (.iconst 3, 1) := by decide +kernel
theorem dX11_many_13 : decode cX11_many 13 = .ok (.if_icmp .le 5, 3) := by decide +kernel
theorem dX11_many_16 : decode cX11_many 16 = .ok (.iconst (-1), 1) := by decide +kernel
theorem dX11_many_17 : decode cX11_many 17 = .ok (.ireturn, 1) := by decide +kernel
theorem dX11_many_18 : decode cX11_many 18 = .ok (.iload_n 2, 1) := by decide +kernel
theorem dX11_many_19 : decode cX11_many 19 = .ok (.ifCond .ne 19, 3) := by decide +kernel
theorem dX11_many_22 : decode cX11_many 22 = .ok (.aload_n 0, 1) := by decide +kernel
theorem dX11_many_23 : decode cX11_many 23 = .ok (.sipush 8000, 3) := by decide +kernel
theorem dX11_many_26 : decode cX11_many 26 = .ok (.sipush 2000, 3) := by decide +kernel
theorem dX11_many_29 : decode cX11_many 29 = .ok (.iload_n 1, 1) := by decide +kernel
theorem dX11_many_30 : decode cX11_many 30 = .ok (.imul, 1) := by decide +kernel
theorem dX11_many_31 : decode cX11_many 31 = .ok (.iadd, 1) := by decide +kernel
theorem dX11_many_32 : decode cX11_many 32 = .ok (.invokevirtual 277, 3) := by decide +kernel
theorem dX11_many_35 : decode cX11_many 35 = .ok (.goto 37, 3) := by decide +kernel
theorem dX11_many_38 : decode cX11_many 38 = .ok (.iload_n 2, 1) := by decide +kernel
theorem dX11_many_39 : decode cX11_many 39 = .ok (.iconst 1, 1) := by decide +kernel
theorem dX11_many_40 : decode cX11_many 40 = .ok (.if_icmp .ne 12, 3) := by decide +kernel
theorem dX11_many_43 : decode cX11_many 43 = .ok (.aload_n 0, 1) := by decide +kernel
theorem dX11_many_44 : decode cX11_many 44 = .ok (.getfield 17, 3) := by decide +kernel
theorem dX11_many_47 : decode cX11_many 47 = .ok (.iload_n 1, 1) := by decide +kernel
theorem dX11_many_48 : decode cX11_many 48 = .ok (.iaload, 1) := by decide +kernel
theorem dX11_many_49 : decode cX11_many 49 = .ok (.goto 23, 3) := by decide +kernel
theorem dX11_many_52 : decode cX11_many 52 = .ok (.iload_n 2, 1) := by decide +kernel
theorem dX11_many_53 : decode cX11_many 53 = .ok (.iconst 2, 1) := by decide +kernel
theorem dX11_many_54 : decode cX11_many 54 = .ok (.if_icmp .ne 12, 3) := by decide +kernel
theorem dX11_many_57 : decode cX11_many 57 = .ok (.aload_n 0, 1) := by decide +kernel
theorem dX11_many_58 : decode cX11_many 58 = .ok (.getfield 20, 3) := by decide +kernel
theorem dX11_many_61 : decode cX11_many 61 = .ok (.iload_n 1, 1) := by decide +kernel
theorem dX11_many_62 : decode cX11_many 62 = .ok (.iaload, 1) := by decide +kernel
theorem dX11_many_63 : decode cX11_many 63 = .ok (.goto 9, 3) := by decide +kernel
theorem dX11_many_66 : decode cX11_many 66 = .ok (.aload_n 0, 1) := by decide +kernel
theorem dX11_many_67 : decode cX11_many 67 = .ok (.getfield 23, 3) := by decide +kernel
theorem dX11_many_70 : decode cX11_many 70 = .ok (.iload_n 1, 1) := by decide +kernel
theorem dX11_many_71 : decode cX11_many 71 = .ok (.iaload, 1) := by decide +kernel
theorem dX11_many_72 : decode cX11_many 72 = .ok (.ireturn, 1) := by decide +kernel
theorem dX11_holds_0 : decode cX11_holds 0 = .ok (.iload_n 1, 1) := by decide +kernel
theorem dX11_holds_1 : decode cX11_holds 1 = .ok (.invokestatic 308, 3) := by decide +kernel
theorem dX11_holds_4 : decode cX11_holds 4 = .ok (.ifCond .eq 10, 3) := by decide +kernel
theorem dX11_holds_7 : decode cX11_holds 7 = .ok (.iload_n 2, 1) := by decide +kernel
theorem dX11_holds_8 : decode cX11_holds 8 = .ok (.invokestatic 308, 3) := by decide +kernel
theorem dX11_holds_11 : decode cX11_holds 11 = .ok (.ifCond .ne 7, 3) := by decide +kernel
theorem dX11_holds_14 : decode cX11_holds 14 = .ok (.iconst (-1), 1) := by decide +kernel
theorem dX11_holds_15 : decode cX11_holds 15 = .ok (.goto 29, 3) := by decide +kernel
theorem dX11_holds_18 : decode cX11_holds 18 = .ok (.aload_n 0, 1) := by decide +kernel
theorem dX11_holds_19 : decode cX11_holds 19 = .ok (.sipush 8000, 3) := by decide +kernel
theorem dX11_holds_22 : decode cX11_holds 22 = .ok (.sipush 2000, 3) := by decide +kernel
theorem dX11_holds_25 : decode cX11_holds 25 = .ok (.iload_n 1, 1) := by decide +kernel
theorem dX11_holds_26 : decode cX11_holds 26 = .ok (.imul, 1) := by decide +kernel
theorem dX11_holds_27 : decode cX11_holds 27 = .ok (.iadd, 1) := by decide +kernel
theorem dX11_holds_28 : decode cX11_holds 28 = .ok (.sipush 2000, 3) := by decide +kernel
theorem dX11_holds_31 : decode cX11_holds 31 = .ok (.iload_n 2, 1) := by decide +kernel
theorem dX11_holds_32 : decode cX11_holds 32 = .ok (.imul, 1) := by decide +kernel
theorem dX11_holds_33 : decode cX11_holds 33 = .ok (.invokevirtual 268, 3) := by decide +kernel
theorem dX11_holds_36 : decode cX11_holds 36 = .ok (.ifCond .eq 7, 3) := by decide +kernel
theorem dX11_holds_39 : decode cX11_holds 39 = .ok (.iconst 1, 1) := by decide +kernel
theorem dX11_holds_40 : decode cX11_holds 40 = .ok (.goto 4, 3) := by decide +kernel
theorem dX11_holds_43 : decode cX11_holds 43 = .ok (.iconst 0, 1) := by decide +kernel
theorem dX11_holds_44 : decode cX11_holds 44 = .ok (.ireturn, 1) := by decide +kernel
theorem dX11_fails_0 : decode cX11_fails 0 = .ok (.iload_n 1, 1) := by decide +kernel
theorem dX11_fails_1 : decode cX11_fails 1 = .ok (.invokestatic 308, 3) := by decide +kernel
theorem dX11_fails_4 : decode cX11_fails 4 = .ok (.ifCond .eq 10, 3) := by decide +kernel
theorem dX11_fails_7 : decode cX11_fails 7 = .ok (.iload_n 2, 1) := by decide +kernel
theorem dX11_fails_8 : decode cX11_fails 8 = .ok (.invokestatic 308, 3) := by decide +kernel
theorem dX11_fails_11 : decode cX11_fails 11 = .ok (.ifCond .ne 6, 3) := by decide +kernel
theorem dX11_fails_14 : decode cX11_fails 14 = .ok (.bipush (-2), 2) := by decide +kernel
theorem dX11_fails_16 : decode cX11_fails 16 = .ok (.ireturn, 1) := by decide +kernel
theorem dX11_fails_17 : decode cX11_fails 17 = .ok (.iconst 0, 1) := by decide +kernel
theorem dX11_fails_18 : decode cX11_fails 18 = .ok (.istore_n 3, 1) := by decide +kernel
theorem dX11_fails_19 : decode cX11_fails 19 = .ok (.aload_n 0, 1) := by decide +kernel
theorem dX11_fails_20 : decode cX11_fails 20 = .ok (.sipush 8000, 3) := by decide +kernel
theorem dX11_fails_23 : decode cX11_fails 23 = .ok (.sipush 2000, 3) := by decide +kernel
theorem dX11_fails_26 : decode cX11_fails 26 = .ok (.iload_n 1, 1) := by decide +kernel
theorem dX11_fails_27 : decode cX11_fails 27 = .ok (.imul, 1) := by decide +kernel
theorem dX11_fails_28 : decode cX11_fails 28 = .ok (.iadd, 1) := by decide +kernel
theorem dX11_fails_29 : decode cX11_fails 29 = .ok (.invokevirtual 137, 3) := by decide +kernel
theorem dX11_fails_32 : decode cX11_fails 32 = .ok (.istore 4, 2) := by decide +kernel
theorem dX11_fails_34 : decode cX11_fails 34 = .ok (.iload 4, 2) := by decide +kernel
theorem dX11_fails_36 : decode cX11_fails 36 = .ok (.ifCond .le 33, 3) := by decide +kernel
theorem dX11_fails_39 : decode cX11_fails 39 = .ok (.aload_n 0, 1) := by decide +kernel
theorem dX11_fails_40 : decode cX11_fails 40 = .ok (.iload 4, 2) := by decide +kernel
theorem dX11_fails_42 : decode cX11_fails 42 = .ok (.sipush 2000, 3) := by decide +kernel
theorem dX11_fails_45 : decode cX11_fails 45 = .ok (.iload_n 2, 1) := by decide +kernel
theorem dX11_fails_46 : decode cX11_fails 46 = .ok (.imul, 1) := by decide +kernel
theorem dX11_fails_47 : decode cX11_fails 47 = .ok (.invokevirtual 305, 3) := by decide +kernel
theorem dX11_fails_50 : decode cX11_fails 50 = .ok (.ifCond .ne 5, 3) := by decide +kernel
theorem dX11_fails_53 : decode cX11_fails 53 = .ok (.iload_n 3, 1) := by decide +kernel
theorem dX11_fails_54 : decode cX11_fails 54 = .ok (.ireturn, 1) := by decide +kernel
theorem dX11_fails_55 : decode cX11_fails 55 = .ok (.iinc 3 1, 3) := by decide +kernel
theorem dX11_fails_58 : decode cX11_fails 58 = .ok (.aload_n 0, 1) := by decide +kernel
theorem dX11_fails_59 : decode cX11_fails 59 = .ok (.iload 4, 2) := by decide +kernel
theorem dX11_fails_61 : decode cX11_fails 61 = .ok (.invokevirtual 140, 3) := by decide +kernel
theorem dX11_fails_64 : decode cX11_fails 64 = .ok (.istore 4, 2) := by decide +kernel
theorem dX11_fails_66 : decode cX11_fails 66 = .ok (.goto (-32), 3) := by decide +kernel
theorem dX11_fails_69 : decode cX11_fails 69 = .ok (.iconst (-1), 1) := by decide +kernel
theorem dX11_fails_70 : decode cX11_fails 70 = .ok (.ireturn, 1) := by decide +kernel
theorem dX11_which_0 : decode cX11_which 0 = .ok (.iload_n 1, 1) := by decide +kernel
theorem dX11_which_1 : decode cX11_which 1 = .ok (.invokestatic 308, 3) := by decide +kernel
theorem dX11_which_4 : decode cX11_which 4 = .ok (.ifCond .ne 5, 3) := by decide +kernel
theorem dX11_which_7 : decode cX11_which 7 = .ok (.iconst (-1), 1) := by decide +kernel
theorem dX11_which_8 : decode cX11_which 8 = .ok (.ireturn, 1) := by decide +kernel
theorem dX11_which_9 : decode cX11_which 9 = .ok (.iconst 0, 1) := by decide +kernel
theorem dX11_which_10 : decode cX11_which 10 = .ok (.istore_n 2, 1) := by decide +kernel
theorem dX11_which_11 : decode cX11_which 11 = .ok (.iconst 0, 1) := by decide +kernel
theorem dX11_which_12 : decode cX11_which 12 = .ok (.istore_n 3, 1) := by decide +kernel
theorem dX11_which_13 : decode cX11_which 13 = .ok (.iload_n 3, 1) := by decide +kernel
theorem dX11_which_14 : decode cX11_which 14 = .ok (.iconst 4, 1) := by decide +kernel
theorem dX11_which_15 : decode cX11_which 15 = .ok (.if_icmp .ge 40, 3) := by decide +kernel
theorem dX11_which_18 : decode cX11_which 18 = .ok (.iload_n 2, 1) := by decide +kernel
theorem dX11_which_19 : decode cX11_which 19 = .ok (.aload_n 0, 1) := by decide +kernel
theorem dX11_which_20 : decode cX11_which 20 = .ok (.sipush 8000, 3) := by decide +kernel
theorem dX11_which_23 : decode cX11_which 23 = .ok (.sipush 2000, 3) := by decide +kernel
theorem dX11_which_26 : decode cX11_which 26 = .ok (.iload_n 1, 1) := by decide +kernel
theorem dX11_which_27 : decode cX11_which 27 = .ok (.imul, 1) := by decide +kernel
theorem dX11_which_28 : decode cX11_which 28 = .ok (.iadd, 1) := by decide +kernel
theorem dX11_which_29 : decode cX11_which 29 = .ok (.sipush 2000, 3) := by decide +kernel
theorem dX11_which_32 : decode cX11_which 32 = .ok (.iload_n 3, 1) := by decide +kernel
theorem dX11_which_33 : decode cX11_which 33 = .ok (.imul, 1) := by decide +kernel
theorem dX11_which_34 : decode cX11_which 34 = .ok (.invokevirtual 268, 3) := by decide +kernel
theorem dX11_which_37 : decode cX11_which 37 = .ok (.ifCond .eq 9, 3) := by decide +kernel
theorem dX11_which_40 : decode cX11_which 40 = .ok (.iconst 1, 1) := by decide +kernel
theorem dX11_which_41 : decode cX11_which 41 = .ok (.iload_n 3, 1) := by decide +kernel
theorem dX11_which_42 : decode cX11_which 42 = .ok (.ishl, 1) := by decide +kernel
theorem dX11_which_43 : decode cX11_which 43 = .ok (.goto 4, 3) := by decide +kernel
theorem dX11_which_46 : decode cX11_which 46 = .ok (.iconst 0, 1) := by decide +kernel
theorem dX11_which_47 : decode cX11_which 47 = .ok (.ior, 1) := by decide +kernel
theorem dX11_which_48 : decode cX11_which 48 = .ok (.istore_n 2, 1) := by decide +kernel
theorem dX11_which_49 : decode cX11_which 49 = .ok (.iinc 3 1, 3) := by decide +kernel
theorem dX11_which_52 : decode cX11_which 52 = .ok (.goto (-39), 3) := by decide +kernel
theorem dX11_which_55 : decode cX11_which 55 = .ok (.iload_n 2, 1) := by decide +kernel
theorem dX11_which_56 : decode cX11_which 56 = .ok (.ireturn, 1) := by decide +kernel
end
section
theorem dJ6_compare_7cf53_0 : decode cJ6_compare_7cf53 0 = .ok (.iload_n 0, 1) := by decide +kernel
theorem dJ6_compare_7cf53_1 : decode cJ6_compare_7cf53 1 = .ok (.iload_n 1, 1) := by decide +kernel
theorem dJ6_compare_7cf53_2 : decode cJ6_compare_7cf53 2 = .ok (.if_icmp .ge 7, 3) := by decide +kernel
theorem dJ6_compare_7cf53_5 : decode cJ6_compare_7cf53 5 = .ok (.iconst (-1), 1) := by decide +kernel
theorem dJ6_compare_7cf53_6 : decode cJ6_compare_7cf53 6 = .ok (.goto 13, 3) := by decide +kernel
theorem dJ6_compare_7cf53_9 : decode cJ6_compare_7cf53 9 = .ok (.iload_n 0, 1) := by decide +kernel
theorem dJ6_compare_7cf53_10 : decode cJ6_compare_7cf53 10 = .ok (.iload_n 1, 1) := by decide +kernel
theorem dJ6_compare_7cf53_11 : decode cJ6_compare_7cf53 11 = .ok (.if_icmp .ne 7, 3) := by decide +kernel
theorem dJ6_compare_7cf53_14 : decode cJ6_compare_7cf53 14 = .ok (.iconst 0, 1) := by decide +kernel
theorem dJ6_compare_7cf53_15 : decode cJ6_compare_7cf53 15 = .ok (.goto 4, 3) := by decide +kernel
theorem dJ6_compare_7cf53_18 : decode cJ6_compare_7cf53 18 = .ok (.iconst 1, 1) := by decide +kernel
theorem dJ6_compare_7cf53_19 : decode cJ6_compare_7cf53 19 = .ok (.ireturn, 1) := by decide +kernel
theorem dJ13_compare_74951_0 : decode cJ13_compare_74951 0 = .ok (.lload_n 0, 1) := by decide +kernel
theorem dJ13_compare_74951_1 : decode cJ13_compare_74951 1 = .ok (.lload_n 2, 1) := by decide +kernel
theorem dJ13_compare_74951_2 : decode cJ13_compare_74951 2 = .ok (.lcmp, 1) := by decide +kernel
theorem dJ13_compare_74951_3 : decode cJ13_compare_74951 3 = .ok (.ifCond .ge 7, 3) := by decide +kernel
theorem dJ13_compare_74951_6 : decode cJ13_compare_74951 6 = .ok (.iconst (-1), 1) := by decide +kernel
theorem dJ13_compare_74951_7 : decode cJ13_compare_74951 7 = .ok (.goto 14, 3) := by decide +kernel
theorem dJ13_compare_74951_10 : decode cJ13_compare_74951 10 = .ok (.lload_n 0, 1) := by decide +kernel
theorem dJ13_compare_74951_11 : decode cJ13_compare_74951 11 = .ok (.lload_n 2, 1) := by decide +kernel
theorem dJ13_compare_74951_12 : decode cJ13_compare_74951 12 = .ok (.lcmp, 1) := by decide +kernel
theorem dJ13_compare_74951_13 : decode cJ13_compare_74951 13 = .ok (.ifCond .ne 7, 3) := by decide +kernel
theorem dJ13_compare_74951_16 : decode cJ13_compare_74951 16 = .ok (.iconst 0, 1) := by decide +kernel
theorem dJ13_compare_74951_17 : decode cJ13_compare_74951 17 = .ok (.goto 4, 3) := by decide +kernel
theorem dJ13_compare_74951_20 : decode cJ13_compare_74951 20 = .ok (.iconst 1, 1) := by decide +kernel
theorem dJ13_compare_74951_21 : decode cJ13_compare_74951 21 = .ok (.ireturn, 1) := by decide +kernel
theorem dJ9_max_7cf53_0 : decode cJ9_max_7cf53 0 = .ok (.iload_n 0, 1) := by decide +kernel
theorem dJ9_max_7cf53_1 : decode cJ9_max_7cf53 1 = .ok (.iload_n 1, 1) := by decide +kernel
theorem dJ9_max_7cf53_2 : decode cJ9_max_7cf53 2 = .ok (.if_icmp .lt 7, 3) := by decide +kernel
theorem dJ9_max_7cf53_5 : decode cJ9_max_7cf53 5 = .ok (.iload_n 0, 1) := by decide +kernel
theorem dJ9_max_7cf53_6 : decode cJ9_max_7cf53 6 = .ok (.goto 4, 3) := by decide +kernel
theorem dJ9_max_7cf53_9 : decode cJ9_max_7cf53 9 = .ok (.iload_n 1, 1) := by decide +kernel
theorem dJ9_max_7cf53_10 : decode cJ9_max_7cf53 10 = .ok (.ireturn, 1) := by decide +kernel
theorem dJ9_min_7cf53_0 : decode cJ9_min_7cf53 0 = .ok (.iload_n 0, 1) := by decide +kernel
theorem dJ9_min_7cf53_1 : decode cJ9_min_7cf53 1 = .ok (.iload_n 1, 1) := by decide +kernel
theorem dJ9_min_7cf53_2 : decode cJ9_min_7cf53 2 = .ok (.if_icmp .gt 7, 3) := by decide +kernel
theorem dJ9_min_7cf53_5 : decode cJ9_min_7cf53 5 = .ok (.iload_n 0, 1) := by decide +kernel
theorem dJ9_min_7cf53_6 : decode cJ9_min_7cf53 6 = .ok (.goto 4, 3) := by decide +kernel
theorem dJ9_min_7cf53_9 : decode cJ9_min_7cf53 9 = .ok (.iload_n 1, 1) := by decide +kernel
theorem dJ9_min_7cf53_10 : decode cJ9_min_7cf53 10 = .ok (.ireturn, 1) := by decide +kernel
theorem dJ0_init_905df_0 : decode cJ0_init_905df 0 = .ok (.aload_n 0, 1) := by decide +kernel
theorem dJ0_init_905df_1 : decode cJ0_init_905df 1 = .ok (.aload_n 1, 1) := by decide +kernel
theorem dJ0_init_905df_2 : decode cJ0_init_905df 2 = .ok (.iconst 0, 1) := by decide +kernel
theorem dJ0_init_905df_3 : decode cJ0_init_905df 3 = .ok (.aload_n 1, 1) := by decide +kernel
theorem dJ0_init_905df_4 : decode cJ0_init_905df 4 = .ok (.arraylength, 1) := by decide +kernel
theorem dJ0_init_905df_5 : decode cJ0_init_905df 5 = .ok (.aconst_null, 1) := by decide +kernel
theorem dJ0_init_905df_6 : decode cJ0_init_905df 6 = .ok (.invokespecial 27, 3) := by decide +kernel
theorem dJ0_init_905df_9 : decode cJ0_init_905df 9 = .ok (.return_, 1) := by decide +kernel
theorem dJ0_length_8abf5_0 : decode cJ0_length_8abf5 0 = .ok (.aload_n 0, 1) := by decide +kernel
theorem dJ0_length_8abf5_1 : decode cJ0_length_8abf5 1 = .ok (.getfield 9, 3) := by decide +kernel
theorem dJ0_length_8abf5_4 : decode cJ0_length_8abf5 4 = .ok (.arraylength, 1) := by decide +kernel
theorem dJ0_length_8abf5_5 : decode cJ0_length_8abf5 5 = .ok (.aload_n 0, 1) := by decide +kernel
theorem dJ0_length_8abf5_6 : decode cJ0_length_8abf5 6 = .ok (.invokevirtual 335, 3) := by decide +kernel
theorem dJ0_length_8abf5_9 : decode cJ0_length_8abf5 9 = .ok (.ishr, 1) := by decide +kernel
theorem dJ0_length_8abf5_10 : decode cJ0_length_8abf5 10 = .ok (.ireturn, 1) := by decide +kernel
theorem dJ0_isEmpty_aae02_0 : decode cJ0_isEmpty_aae02 0 = .ok (.aload_n 0, 1) := by decide +kernel
theorem dJ0_isEmpty_aae02_1 : decode cJ0_isEmpty_aae02 1 = .ok (.getfield 9, 3) := by decide +kernel
theorem dJ0_isEmpty_aae02_4 : decode cJ0_isEmpty_aae02 4 = .ok (.arraylength, 1) := by decide +kernel
theorem dJ0_isEmpty_aae02_5 : decode cJ0_isEmpty_aae02 5 = .ok (.ifCond .ne 7, 3) := by decide +kernel
theorem dJ0_isEmpty_aae02_8 : decode cJ0_isEmpty_aae02 8 = .ok (.iconst 1, 1) := by decide +kernel
theorem dJ0_isEmpty_aae02_9 : decode cJ0_isEmpty_aae02 9 = .ok (.goto 4, 3) := by decide +kernel
theorem dJ0_isEmpty_aae02_12 : decode cJ0_isEmpty_aae02 12 = .ok (.iconst 0, 1) := by decide +kernel
theorem dJ0_isEmpty_aae02_13 : decode cJ0_isEmpty_aae02 13 = .ok (.ireturn, 1) := by decide +kernel
theorem dJ0_charAt_5068e_0 : decode cJ0_charAt_5068e 0 = .ok (.aload_n 0, 1) := by decide +kernel
theorem dJ0_charAt_5068e_1 : decode cJ0_charAt_5068e 1 = .ok (.invokevirtual 492, 3) := by decide +kernel
theorem dJ0_charAt_5068e_4 : decode cJ0_charAt_5068e 4 = .ok (.ifCond .eq 12, 3) := by decide +kernel
theorem dJ0_charAt_5068e_7 : decode cJ0_charAt_5068e 7 = .ok (.aload_n 0, 1) := by decide +kernel
theorem dJ0_charAt_5068e_8 : decode cJ0_charAt_5068e 8 = .ok (.getfield 9, 3) := by decide +kernel
theorem dJ0_charAt_5068e_11 : decode cJ0_charAt_5068e 11 = .ok (.iload_n 1, 1) := by decide +kernel
theorem dJ0_charAt_5068e_12 : decode cJ0_charAt_5068e 12 = .ok (.invokestatic 495, 3) := by decide +kernel
theorem dJ0_charAt_5068e_15 : decode cJ0_charAt_5068e 15 = .ok (.ireturn, 1) := by decide +kernel
theorem dJ0_charAt_5068e_16 : decode cJ0_charAt_5068e 16 = .ok (.aload_n 0, 1) := by decide +kernel
theorem dJ0_charAt_5068e_17 : decode cJ0_charAt_5068e 17 = .ok (.getfield 9, 3) := by decide +kernel
theorem dJ0_charAt_5068e_20 : decode cJ0_charAt_5068e 20 = .ok (.iload_n 1, 1) := by decide +kernel
theorem dJ0_charAt_5068e_21 : decode cJ0_charAt_5068e 21 = .ok (.invokestatic 498, 3) := by decide +kernel
theorem dJ0_charAt_5068e_24 : decode cJ0_charAt_5068e 24 = .ok (.ireturn, 1) := by decide +kernel
theorem dJ0_equals_9ea2d_0 : decode cJ0_equals_9ea2d 0 = .ok (.aload_n 0, 1) := by decide +kernel
theorem dJ0_equals_9ea2d_1 : decode cJ0_equals_9ea2d 1 = .ok (.aload_n 1, 1) := by decide +kernel
theorem dJ0_equals_9ea2d_2 : decode cJ0_equals_9ea2d 2 = .ok (.if_acmp .ne 5, 3) := by decide +kernel
theorem dJ0_equals_9ea2d_5 : decode cJ0_equals_9ea2d 5 = .ok (.iconst 1, 1) := by decide +kernel
theorem dJ0_equals_9ea2d_6 : decode cJ0_equals_9ea2d 6 = .ok (.ireturn, 1) := by decide +kernel
theorem dJ0_equals_9ea2d_7 : decode cJ0_equals_9ea2d 7 = .ok (.aload_n 1, 1) := by decide +kernel
theorem dJ0_equals_9ea2d_8 : decode cJ0_equals_9ea2d 8 = .ok (.instanceof 10, 3) := by decide +kernel
theorem dJ0_equals_9ea2d_11 : decode cJ0_equals_9ea2d 11 = .ok (.ifCond .eq 43, 3) := by decide +kernel
theorem dJ0_equals_9ea2d_14 : decode cJ0_equals_9ea2d 14 = .ok (.aload_n 1, 1) := by decide +kernel
theorem dJ0_equals_9ea2d_15 : decode cJ0_equals_9ea2d 15 = .ok (.checkcast 10, 3) := by decide +kernel
theorem dJ0_equals_9ea2d_18 : decode cJ0_equals_9ea2d 18 = .ok (.astore_n 2, 1) := by decide +kernel
theorem dJ0_equals_9ea2d_19 : decode cJ0_equals_9ea2d 19 = .ok (.getstatic 38, 3) := by decide +kernel
theorem dJ0_equals_9ea2d_22 : decode cJ0_equals_9ea2d 22 = .ok (.ifCond .eq 14, 3) := by decide +kernel
theorem dJ0_equals_9ea2d_25 : decode cJ0_equals_9ea2d 25 = .ok (.aload_n 0, 1) := by decide +kernel
theorem dJ0_equals_9ea2d_26 : decode cJ0_equals_9ea2d 26 = .ok (.getfield 15, 3) := by decide +kernel
theorem dJ0_equals_9ea2d_29 : decode cJ0_equals_9ea2d 29 = .ok (.aload_n 2, 1) := by decide +kernel
theorem dJ0_equals_9ea2d_30 : decode cJ0_equals_9ea2d 30 = .ok (.getfield 15, 3) := by decide +kernel
theorem dJ0_equals_9ea2d_33 : decode cJ0_equals_9ea2d 33 = .ok (.if_icmp .ne 21, 3) := by decide +kernel
theorem dJ0_equals_9ea2d_36 : decode cJ0_equals_9ea2d 36 = .ok (.aload_n 0, 1) := by decide +kernel
theorem dJ0_equals_9ea2d_37 : decode cJ0_equals_9ea2d 37 = .ok (.getfield 9, 3) := by decide +kernel
theorem dJ0_equals_9ea2d_40 : decode cJ0_equals_9ea2d 40 = .ok (.aload_n 2, 1) := by decide +kernel
theorem dJ0_equals_9ea2d_41 : decode cJ0_equals_9ea2d 41 = .ok (.getfield 9, 3) := by decide +kernel
theorem dJ0_equals_9ea2d_44 : decode cJ0_equals_9ea2d 44 = .ok (.invokestatic 541, 3) := by decide +kernel
theorem dJ0_equals_9ea2d_47 : decode cJ0_equals_9ea2d 47 = .ok (.ifCond .eq 7, 3) := by decide +kernel
theorem dJ0_equals_9ea2d_50 : decode cJ0_equals_9ea2d 50 = .ok (.iconst 1, 1) := by decide +kernel
theorem dJ0_equals_9ea2d_51 : decode cJ0_equals_9ea2d 51 = .ok (.goto 4, 3) := by decide +kernel
theorem dJ0_equals_9ea2d_54 : decode cJ0_equals_9ea2d 54 = .ok (.iconst 0, 1) := by decide +kernel
theorem dJ0_equals_9ea2d_55 : decode cJ0_equals_9ea2d 55 = .ok (.ireturn, 1) := by decide +kernel
theorem dJ0_substring_37a41_0 : decode cJ0_substring_37a41 0 = .ok (.aload_n 0, 1) := by decide +kernel
theorem dJ0_substring_37a41_1 : decode cJ0_substring_37a41 1 = .ok (.invokevirtual 505, 3) := by decide +kernel
theorem dJ0_substring_37a41_4 : decode cJ0_substring_37a41 4 = .ok (.istore_n 3, 1) := by decide +kernel
theorem dJ0_substring_37a41_5 : decode cJ0_substring_37a41 5 = .ok (.iload_n 1, 1) := by decide +kernel
theorem dJ0_substring_37a41_6 : decode cJ0_substring_37a41 6 = .ok (.iload_n 2, 1) := by decide +kernel
theorem dJ0_substring_37a41_7 : decode cJ0_substring_37a41 7 = .ok (.iload_n 3, 1) := by decide +kernel
theorem dJ0_substring_37a41_8 : decode cJ0_substring_37a41 8 = .ok (.invokestatic 521, 3) := by decide +kernel
theorem dJ0_substring_37a41_11 : decode cJ0_substring_37a41 11 = .ok (.iload_n 1, 1) := by decide +kernel
theorem dJ0_substring_37a41_12 : decode cJ0_substring_37a41 12 = .ok (.ifCond .ne 10, 3) := by decide +kernel
theorem dJ0_substring_37a41_15 : decode cJ0_substring_37a41 15 = .ok (.iload_n 2, 1) := by decide +kernel
theorem dJ0_substring_37a41_16 : decode cJ0_substring_37a41 16 = .ok (.iload_n 3, 1) := by decide +kernel
theorem dJ0_substring_37a41_17 : decode cJ0_substring_37a41 17 = .ok (.if_icmp .ne 5, 3) := by decide +kernel
theorem dJ0_substring_37a41_20 : decode cJ0_substring_37a41 20 = .ok (.aload_n 0, 1) := by decide +kernel
theorem dJ0_substring_37a41_21 : decode cJ0_substring_37a41 21 = .ok (.areturn, 1) := by decide +kernel
theorem dJ0_substring_37a41_22 : decode cJ0_substring_37a41 22 = .ok (.iload_n 2, 1) := by decide +kernel
theorem dJ0_substring_37a41_23 : decode cJ0_substring_37a41 23 = .ok (.iload_n 1, 1) := by decide +kernel
theorem dJ0_substring_37a41_24 : decode cJ0_substring_37a41 24 = .ok (.isub, 1) := by decide +kernel
theorem dJ0_substring_37a41_25 : decode cJ0_substring_37a41 25 = .ok (.istore 4, 2) := by decide +kernel
theorem dJ0_substring_37a41_27 : decode cJ0_substring_37a41 27 = .ok (.aload_n 0, 1) := by decide +kernel
theorem dJ0_substring_37a41_28 : decode cJ0_substring_37a41 28 = .ok (.invokevirtual 492, 3) := by decide +kernel
theorem dJ0_substring_37a41_31 : decode cJ0_substring_37a41 31 = .ok (.ifCond .eq 16, 3) := by decide +kernel
theorem dJ0_substring_37a41_34 : decode cJ0_substring_37a41 34 = .ok (.aload_n 0, 1) := by decide +kernel
theorem dJ0_substring_37a41_35 : decode cJ0_substring_37a41 35 = .ok (.getfield 9, 3) := by decide +kernel
theorem dJ0_substring_37a41_38 : decode cJ0_substring_37a41 38 = .ok (.iload_n 1, 1) := by decide +kernel
theorem dJ0_substring_37a41_39 : decode cJ0_substring_37a41 39 = .ok (.iload 4, 2) := by decide +kernel
theorem dJ0_substring_37a41_41 : decode cJ0_substring_37a41 41 = .ok (.invokestatic 685, 3) := by decide +kernel
theorem dJ0_substring_37a41_44 : decode cJ0_substring_37a41 44 = .ok (.goto 13, 3) := by decide +kernel
theorem dJ0_substring_37a41_47 : decode cJ0_substring_37a41 47 = .ok (.aload_n 0, 1) := by decide +kernel
theorem dJ0_substring_37a41_48 : decode cJ0_substring_37a41 48 = .ok (.getfield 9, 3) := by decide +kernel
theorem dJ0_substring_37a41_51 : decode cJ0_substring_37a41 51 = .ok (.iload_n 1, 1) := by decide +kernel
theorem dJ0_substring_37a41_52 : decode cJ0_substring_37a41 52 = .ok (.iload 4, 2) := by decide +kernel
theorem dJ0_substring_37a41_54 : decode cJ0_substring_37a41 54 = .ok (.invokestatic 689, 3) := by decide +kernel
theorem dJ0_substring_37a41_57 : decode cJ0_substring_37a41 57 = .ok (.areturn, 1) := by decide +kernel
theorem dJ0_init_bb550_0 : decode cJ0_init_bb550 0 = .ok (.aload_n 0, 1) := by decide +kernel
theorem dJ0_init_bb550_1 : decode cJ0_init_bb550 1 = .ok (.invokespecial 1, 3) := by decide +kernel
theorem dJ0_init_bb550_4 : decode cJ0_init_bb550 4 = .ok (.iload_n 3, 1) := by decide +kernel
theorem dJ0_init_bb550_5 : decode cJ0_init_bb550 5 = .ok (.ifCond .ne 22, 3) := by decide +kernel
theorem dJ0_init_bb550_8 : decode cJ0_init_bb550 8 = .ok (.aload_n 0, 1) := by decide +kernel
theorem dJ0_init_bb550_9 : decode cJ0_init_bb550 9 = .ok (.ldc 7, 2) := by decide +kernel
theorem dJ0_init_bb550_11 : decode cJ0_init_bb550 11 = .ok (.getfield 9, 3) := by decide +kernel
theorem dJ0_init_bb550_14 : decode cJ0_init_bb550 14 = .ok (.putfield 9, 3) := by decide +kernel
theorem dJ0_init_bb550_17 : decode cJ0_init_bb550 17 = .ok (.aload_n 0, 1) := by decide +kernel
theorem dJ0_init_bb550_18 : decode cJ0_init_bb550 18 = .ok (.ldc 7, 2) := by decide +kernel
theorem dJ0_init_bb550_20 : decode cJ0_init_bb550 20 = .ok (.getfield 15, 3) := by decide +kernel
theorem dJ0_init_bb550_23 : decode cJ0_init_bb550 23 = .ok (.putfield 15, 3) := by decide +kernel
theorem dJ0_init_bb550_26 : decode cJ0_init_bb550 26 = .ok (.return_, 1) := by decide +kernel
theorem dJ0_init_bb550_27 : decode cJ0_init_bb550 27 = .ok (.getstatic 38, 3) := by decide +kernel
theorem dJ0_init_bb550_30 : decode cJ0_init_bb550 30 = .ok (.ifCond .eq 28, 3) := by decide +kernel
theorem dJ0_init_bb550_33 : decode cJ0_init_bb550 33 = .ok (.aload_n 1, 1) := by decide +kernel
theorem dJ0_init_bb550_34 : decode cJ0_init_bb550 34 = .ok (.iload_n 2, 1) := by decide +kernel
theorem dJ0_init_bb550_35 : decode cJ0_init_bb550 35 = .ok (.iload_n 3, 1) := by decide +kernel
theorem dJ0_init_bb550_36 : decode cJ0_init_bb550 36 = .ok (.invokestatic 177, 3) := by decide +kernel
theorem dJ0_init_bb550_39 : decode cJ0_init_bb550 39 = .ok (.astore 5, 2) := by decide +kernel
theorem dJ0_init_bb550_41 : decode cJ0_init_bb550 41 = .ok (.aload_n 0, 1) := by decide +kernel
theorem dJ0_init_bb550_42 : decode cJ0_init_bb550 42 = .ok (.aload 5, 2) := by decide +kernel
theorem dJ0_init_bb550_44 : decode cJ0_init_bb550 44 = .ok (.iload_n 3, 1) := by decide +kernel
theorem dJ0_init_bb550_45 : decode cJ0_init_bb550 45 = .ok (.invokestatic 47, 3) := by decide +kernel
theorem dJ0_init_bb550_48 : decode cJ0_init_bb550 48 = .ok (.putfield 15, 3) := by decide +kernel
theorem dJ0_init_bb550_51 : decode cJ0_init_bb550 51 = .ok (.aload_n 0, 1) := by decide +kernel
theorem dJ0_init_bb550_52 : decode cJ0_init_bb550 52 = .ok (.aload 5, 2) := by decide +kernel
theorem dJ0_init_bb550_54 : decode cJ0_init_bb550 54 = .ok (.putfield 9, 3) := by decide +kernel
theorem dJ0_init_bb550_57 : decode cJ0_init_bb550 57 = .ok (.return_, 1) := by decide +kernel
theorem dJ0_init_bb550_58 : decode cJ0_init_bb550 58 = .ok (.aload_n 0, 1) := by decide +kernel
theorem dJ0_init_bb550_59 : decode cJ0_init_bb550 59 = .ok (.iconst 1, 1) := by decide +kernel
theorem dJ0_init_bb550_60 : decode cJ0_init_bb550 60 = .ok (.putfield 15, 3) := by decide +kernel
theorem dJ0_init_bb550_63 : decode cJ0_init_bb550 63 = .ok (.aload_n 0, 1) := by decide +kernel
theorem dJ0_init_bb550_64 : decode cJ0_init_bb550 64 = .ok (.aload_n 1, 1) := by decide +kernel
theorem dJ0_init_bb550_65 : decode cJ0_init_bb550 65 = .ok (.iload_n 2, 1) := by decide +kernel
theorem dJ0_init_bb550_66 : decode cJ0_init_bb550 66 = .ok (.iload_n 3, 1) := by decide +kernel
theorem dJ0_init_bb550_67 : decode cJ0_init_bb550 67 = .ok (.invokestatic 180, 3) := by decide +kernel
theorem dJ0_init_bb550_70 : decode cJ0_init_bb550 70 = .ok (.putfield 9, 3) := by decide +kernel
theorem dJ0_init_bb550_73 : decode cJ0_init_bb550 73 = .ok (.return_, 1) := by decide +kernel
theorem dJ0_init_031fb_0 : decode cJ0_init_031fb 0 = .ok (.aload_n 0, 1) := by decide +kernel
theorem dJ0_init_031fb_1 : decode cJ0_init_031fb 1 = .ok (.invokespecial 1, 3) := by decide +kernel
theorem dJ0_init_031fb_4 : decode cJ0_init_031fb 4 = .ok (.aload_n 0, 1) := by decide +kernel
theorem dJ0_init_031fb_5 : decode cJ0_init_031fb 5 = .ok (.aload_n 1, 1) := by decide +kernel
theorem dJ0_init_031fb_6 : decode cJ0_init_031fb 6 = .ok (.putfield 9, 3) := by decide +kernel
theorem dJ0_init_031fb_9 : decode cJ0_init_031fb 9 = .ok (.aload_n 0, 1) := by decide +kernel
theorem dJ0_init_031fb_10 : decode cJ0_init_031fb 10 = .ok (.iload_n 2, 1) := by decide +kernel
theorem dJ0_init_031fb_11 : decode cJ0_init_031fb 11 = .ok (.putfield 15, 3) := by decide +kernel
theorem dJ0_init_031fb_14 : decode cJ0_init_031fb 14 = .ok (.return_, 1) := by decide +kernel
theorem dJ0_coder_7d493_0 : decode cJ0_coder_7d493 0 = .ok (.getstatic 38, 3) := by decide +kernel
theorem dJ0_coder_7d493_3 : decode cJ0_coder_7d493 3 = .ok (.ifCond .eq 10, 3) := by decide +kernel
theorem dJ0_coder_7d493_6 : decode cJ0_coder_7d493 6 = .ok (.aload_n 0, 1) := by decide +kernel
theorem dJ0_coder_7d493_7 : decode cJ0_coder_7d493 7 = .ok (.getfield 15, 3) := by decide +kernel
theorem dJ0_coder_7d493_10 : decode cJ0_coder_7d493 10 = .ok (.goto 4, 3) := by decide +kernel
theorem dJ0_coder_7d493_13 : decode cJ0_coder_7d493 13 = .ok (.iconst 1, 1) := by decide +kernel
theorem dJ0_coder_7d493_14 : decode cJ0_coder_7d493 14 = .ok (.ireturn, 1) := by decide +kernel
theorem dJ0_isLatin1_aae02_0 : decode cJ0_isLatin1_aae02 0 = .ok (.getstatic 38, 3) := by decide +kernel
theorem dJ0_isLatin1_aae02_3 : decode cJ0_isLatin1_aae02 3 = .ok (.ifCond .eq 14, 3) := by decide +kernel
theorem dJ0_isLatin1_aae02_6 : decode cJ0_isLatin1_aae02 6 = .ok (.aload_n 0, 1) := by decide +kernel
theorem dJ0_isLatin1_aae02_7 : decode cJ0_isLatin1_aae02 7 = .ok (.getfield 15, 3) := by decide +kernel
theorem dJ0_isLatin1_aae02_10 : decode cJ0_isLatin1_aae02 10 = .ok (.ifCond .ne 7, 3) := by decide +kernel
theorem dJ0_isLatin1_aae02_13 : decode cJ0_isLatin1_aae02 13 = .ok (.iconst 1, 1) := by decide +kernel
theorem dJ0_isLatin1_aae02_14 : decode cJ0_isLatin1_aae02 14 = .ok (.goto 4, 3) := by decide +kernel
theorem dJ0_isLatin1_aae02_17 : decode cJ0_isLatin1_aae02 17 = .ok (.iconst 0, 1) := by decide +kernel
theorem dJ0_isLatin1_aae02_18 : decode cJ0_isLatin1_aae02 18 = .ok (.ireturn, 1) := by decide +kernel
theorem dJ0_checkIndex_df160_0 : decode cJ0_checkIndex_df160 0 = .ok (.iload_n 0, 1) := by decide +kernel
theorem dJ0_checkIndex_df160_1 : decode cJ0_checkIndex_df160 1 = .ok (.iload_n 1, 1) := by decide +kernel
theorem dJ0_checkIndex_df160_2 : decode cJ0_checkIndex_df160 2 = .ok (.getstatic 1053, 3) := by decide +kernel
theorem dJ0_checkIndex_df160_5 : decode cJ0_checkIndex_df160 5 = .ok (.invokestatic 1059, 3) := by decide +kernel
theorem dJ0_checkIndex_df160_8 : decode cJ0_checkIndex_df160 8 = .ok (.pop, 1) := by decide +kernel
theorem dJ0_checkIndex_df160_9 : decode cJ0_checkIndex_df160 9 = .ok (.return_, 1) := by decide +kernel
theorem dJ0_checkBoundsOffCount_cabcc_0 : decode cJ0_checkBoundsOffCount_cabcc 0 = .ok (.iload_n 0, 1) := by decide +kernel
theorem dJ0_checkBoundsOffCount_cabcc_1 : decode cJ0_checkBoundsOffCount_cabcc 1 = .ok (.iload_n 1, 1) := by decide +kernel
theorem dJ0_checkBoundsOffCount_cabcc_2 : decode cJ0_checkBoundsOffCount_cabcc 2 = .ok (.iload_n 2, 1) := by decide +kernel
theorem dJ0_checkBoundsOffCount_cabcc_3 : decode cJ0_checkBoundsOffCount_cabcc 3 = .ok (.getstatic 1053, 3) := by decide +kernel
theorem dJ0_checkBoundsOffCount_cabcc_6 : decode cJ0_checkBoundsOffCount_cabcc 6 = .ok (.invokestatic 1065, 3) := by decide +kernel
theorem dJ0_checkBoundsOffCount_cabcc_9 : decode cJ0_checkBoundsOffCount_cabcc 9 = .ok (.ireturn, 1) := by decide +kernel
theorem dJ0_checkBoundsBeginEnd_23922_0 : decode cJ0_checkBoundsBeginEnd_23922 0 = .ok (.iload_n 0, 1) := by decide +kernel
theorem dJ0_checkBoundsBeginEnd_23922_1 : decode cJ0_checkBoundsBeginEnd_23922 1 = .ok (.iload_n 1, 1) := by decide +kernel
theorem dJ0_checkBoundsBeginEnd_23922_2 : decode cJ0_checkBoundsBeginEnd_23922 2 = .ok (.iload_n 2, 1) := by decide +kernel
theorem dJ0_checkBoundsBeginEnd_23922_3 : decode cJ0_checkBoundsBeginEnd_23922 3 = .ok (.getstatic 1053, 3) := by decide +kernel
theorem dJ0_checkBoundsBeginEnd_23922_6 : decode cJ0_checkBoundsBeginEnd_23922 6 = .ok (.invokestatic 1062, 3) := by decide +kernel
theorem dJ0_checkBoundsBeginEnd_23922_9 : decode cJ0_checkBoundsBeginEnd_23922 9 = .ok (.pop, 1) := by decide +kernel
theorem dJ0_checkBoundsBeginEnd_23922_10 : decode cJ0_checkBoundsBeginEnd_23922 10 = .ok (.return_, 1) := by decide +kernel
theorem dJ1_charAt_3b067_0 : decode cJ1_charAt_3b067 0 = .ok (.iload_n 1, 1) := by decide +kernel
theorem dJ1_charAt_3b067_1 : decode cJ1_charAt_3b067 1 = .ok (.aload_n 0, 1) := by decide +kernel
theorem dJ1_charAt_3b067_2 : decode cJ1_charAt_3b067 2 = .ok (.arraylength, 1) := by decide +kernel
theorem dJ1_charAt_3b067_3 : decode cJ1_charAt_3b067 3 = .ok (.invokestatic 9, 3) := by decide +kernel
theorem dJ1_charAt_3b067_6 : decode cJ1_charAt_3b067 6 = .ok (.aload_n 0, 1) := by decide +kernel
theorem dJ1_charAt_3b067_7 : decode cJ1_charAt_3b067 7 = .ok (.iload_n 1, 1) := by decide +kernel
theorem dJ1_charAt_3b067_8 : decode cJ1_charAt_3b067 8 = .ok (.baload, 1) := by decide +kernel
theorem dJ1_charAt_3b067_9 : decode cJ1_charAt_3b067 9 = .ok (.sipush 255, 3) := by decide +kernel
theorem dJ1_charAt_3b067_12 : decode cJ1_charAt_3b067 12 = .ok (.iand, 1) := by decide +kernel
theorem dJ1_charAt_3b067_13 : decode cJ1_charAt_3b067 13 = .ok (.i2c, 1) := by decide +kernel
theorem dJ1_charAt_3b067_14 : decode cJ1_charAt_3b067 14 = .ok (.ireturn, 1) := by decide +kernel
theorem dJ1_equals_b5fdf_0 : decode cJ1_equals_b5fdf 0 = .ok (.aload_n 0, 1) := by decide +kernel
theorem dJ1_equals_b5fdf_1 : decode cJ1_equals_b5fdf 1 = .ok (.arraylength, 1) := by decide +kernel
theorem dJ1_equals_b5fdf_2 : decode cJ1_equals_b5fdf 2 = .ok (.aload_n 1, 1) := by decide +kernel
theorem dJ1_equals_b5fdf_3 : decode cJ1_equals_b5fdf 3 = .ok (.arraylength, 1) := by decide +kernel
theorem dJ1_equals_b5fdf_4 : decode cJ1_equals_b5fdf 4 = .ok (.if_icmp .ne 30, 3) := by decide +kernel
theorem dJ1_equals_b5fdf_7 : decode cJ1_equals_b5fdf 7 = .ok (.iconst 0, 1) := by decide +kernel
theorem dJ1_equals_b5fdf_8 : decode cJ1_equals_b5fdf 8 = .ok (.istore_n 2, 1) := by decide +kernel
theorem dJ1_equals_b5fdf_9 : decode cJ1_equals_b5fdf 9 = .ok (.iload_n 2, 1) := by decide +kernel
theorem dJ1_equals_b5fdf_10 : decode cJ1_equals_b5fdf 10 = .ok (.aload_n 0, 1) := by decide +kernel
theorem dJ1_equals_b5fdf_11 : decode cJ1_equals_b5fdf 11 = .ok (.arraylength, 1) := by decide +kernel
theorem dJ1_equals_b5fdf_12 : decode cJ1_equals_b5fdf 12 = .ok (.if_icmp .ge 20, 3) := by decide +kernel
theorem dJ1_equals_b5fdf_15 : decode cJ1_equals_b5fdf 15 = .ok (.aload_n 0, 1) := by decide +kernel
theorem dJ1_equals_b5fdf_16 : decode cJ1_equals_b5fdf 16 = .ok (.iload_n 2, 1) := by decide +kernel
theorem dJ1_equals_b5fdf_17 : decode cJ1_equals_b5fdf 17 = .ok (.baload, 1) := by decide +kernel
theorem dJ1_equals_b5fdf_18 : decode cJ1_equals_b5fdf 18 = .ok (.aload_n 1, 1) := by decide +kernel
theorem dJ1_equals_b5fdf_19 : decode cJ1_equals_b5fdf 19 = .ok (.iload_n 2, 1) := by decide +kernel
theorem dJ1_equals_b5fdf_20 : decode cJ1_equals_b5fdf 20 = .ok (.baload, 1) := by decide +kernel
theorem dJ1_equals_b5fdf_21 : decode cJ1_equals_b5fdf 21 = .ok (.if_icmp .eq 5, 3) := by decide +kernel
theorem dJ1_equals_b5fdf_24 : decode cJ1_equals_b5fdf 24 = .ok (.iconst 0, 1) := by decide +kernel
theorem dJ1_equals_b5fdf_25 : decode cJ1_equals_b5fdf 25 = .ok (.ireturn, 1) := by decide +kernel
theorem dJ1_equals_b5fdf_26 : decode cJ1_equals_b5fdf 26 = .ok (.iinc 2 1, 3) := by decide +kernel
theorem dJ1_equals_b5fdf_29 : decode cJ1_equals_b5fdf 29 = .ok (.goto (-20), 3) := by decide +kernel
theorem dJ1_equals_b5fdf_32 : decode cJ1_equals_b5fdf 32 = .ok (.iconst 1, 1) := by decide +kernel
theorem dJ1_equals_b5fdf_33 : decode cJ1_equals_b5fdf 33 = .ok (.ireturn, 1) := by decide +kernel
theorem dJ1_equals_b5fdf_34 : decode cJ1_equals_b5fdf 34 = .ok (.iconst 0, 1) := by decide +kernel
theorem dJ1_equals_b5fdf_35 : decode cJ1_equals_b5fdf 35 = .ok (.ireturn, 1) := by decide +kernel
theorem dJ1_newString_b4f7a_0 : decode cJ1_newString_b4f7a 0 = .ok (.iload_n 2, 1) := by decide +kernel
theorem dJ1_newString_b4f7a_1 : decode cJ1_newString_b4f7a 1 = .ok (.ifCond .ne 6, 3) := by decide +kernel
theorem dJ1_newString_b4f7a_4 : decode cJ1_newString_b4f7a 4 = .ok (.ldc 151, 2) := by decide +kernel
theorem dJ1_newString_b4f7a_6 : decode cJ1_newString_b4f7a 6 = .ok (.areturn, 1) := by decide +kernel
theorem dJ1_newString_b4f7a_7 : decode cJ1_newString_b4f7a 7 = .ok (.new 1, 3) := by decide +kernel
theorem dJ1_newString_b4f7a_10 : decode cJ1_newString_b4f7a 10 = .ok (.dup, 1) := by decide +kernel
theorem dJ1_newString_b4f7a_11 : decode cJ1_newString_b4f7a 11 = .ok (.aload_n 0, 1) := by decide +kernel
theorem dJ1_newString_b4f7a_12 : decode cJ1_newString_b4f7a 12 = .ok (.iload_n 1, 1) := by decide +kernel
theorem dJ1_newString_b4f7a_13 : decode cJ1_newString_b4f7a 13 = .ok (.iload_n 1, 1) := by decide +kernel
theorem dJ1_newString_b4f7a_14 : decode cJ1_newString_b4f7a 14 = .ok (.iload_n 2, 1) := by decide +kernel
theorem dJ1_newString_b4f7a_15 : decode cJ1_newString_b4f7a 15 = .ok (.iadd, 1) := by decide +kernel
theorem dJ1_newString_b4f7a_16 : decode cJ1_newString_b4f7a 16 = .ok (.invokestatic 232, 3) := by decide +kernel
theorem dJ1_newString_b4f7a_19 : decode cJ1_newString_b4f7a 19 = .ok (.iconst 0, 1) := by decide +kernel
theorem dJ1_newString_b4f7a_20 : decode cJ1_newString_b4f7a 20 = .ok (.invokespecial 112, 3) := by decide +kernel
theorem dJ1_newString_b4f7a_23 : decode cJ1_newString_b4f7a 23 = .ok (.areturn, 1) := by decide +kernel
theorem dJ2_newBytesFor_77867_0 : decode cJ2_newBytesFor_77867 0 = .ok (.iload_n 0, 1) := by decide +kernel
theorem dJ2_newBytesFor_77867_1 : decode cJ2_newBytesFor_77867 1 = .ok (.invokestatic 11, 3) := by decide +kernel
theorem dJ2_newBytesFor_77867_4 : decode cJ2_newBytesFor_77867 4 = .ok (.newarray .byte, 2) := by decide +kernel
theorem dJ2_newBytesFor_77867_6 : decode cJ2_newBytesFor_77867 6 = .ok (.areturn, 1) := by decide +kernel
theorem dJ2_newBytesLength_0f7a4_0 : decode cJ2_newBytesLength_0f7a4 0 = .ok (.iload_n 0, 1) := by decide +kernel
theorem dJ2_newBytesLength_0f7a4_1 : decode cJ2_newBytesLength_0f7a4 1 = .ok (.ifCond .ge 11, 3) := by decide +kernel
theorem dJ2_newBytesLength_0f7a4_4 : decode cJ2_newBytesLength_0f7a4 4 = .ok (.new 17, 3) := by decide +kernel
theorem dJ2_newBytesLength_0f7a4_7 : decode cJ2_newBytesLength_0f7a4 7 = .ok (.dup, 1) := by decide +kernel
theorem dJ2_newBytesLength_0f7a4_8 : decode cJ2_newBytesLength_0f7a4 8 = .ok (.invokespecial 19, 3) := by decide +kernel
theorem dJ2_newBytesLength_0f7a4_11 : decode cJ2_newBytesLength_0f7a4 11 = .ok (.athrow, 1) := by decide +kernel
theorem dJ2_newBytesLength_0f7a4_12 : decode cJ2_newBytesLength_0f7a4 12 = .ok (.iload_n 0, 1) := by decide +kernel
theorem dJ2_newBytesLength_0f7a4_13 : decode cJ2_newBytesLength_0f7a4 13 = .ok (.ldc 20, 2) := by decide +kernel
theorem dJ2_newBytesLength_0f7a4_15 : decode cJ2_newBytesLength_0f7a4 15 = .ok (.if_icmp .lt 40, 3) := by decide +kernel
theorem dJ2_newBytesLength_0f7a4_18 : decode cJ2_newBytesLength_0f7a4 18 = .ok (.new 21, 3) := by decide +kernel
theorem dJ2_newBytesLength_0f7a4_21 : decode cJ2_newBytesLength_0f7a4 21 = .ok (.dup, 1) := by decide +kernel
theorem dJ2_newBytesLength_0f7a4_22 : decode cJ2_newBytesLength_0f7a4 22 = .ok (.new 23, 3) := by decide +kernel
theorem dJ2_newBytesLength_0f7a4_25 : decode cJ2_newBytesLength_0f7a4 25 = .ok (.dup, 1) := by decide +kernel
theorem dJ2_newBytesLength_0f7a4_26 : decode cJ2_newBytesLength_0f7a4 26 = .ok (.invokespecial 25, 3) := by decide +kernel
theorem dJ2_newBytesLength_0f7a4_29 : decode cJ2_newBytesLength_0f7a4 29 = .ok (.ldc 26, 2) := by decide +kernel
theorem dJ2_newBytesLength_0f7a4_31 : decode cJ2_newBytesLength_0f7a4 31 = .ok (.invokevirtual 28, 3) := by decide +kernel
theorem dJ2_newBytesLength_0f7a4_34 : decode cJ2_newBytesLength_0f7a4 34 = .ok (.iload_n 0, 1) := by decide +kernel
theorem dJ2_newBytesLength_0f7a4_35 : decode cJ2_newBytesLength_0f7a4 35 = .ok (.invokevirtual 32, 3) := by decide +kernel
theorem dJ2_newBytesLength_0f7a4_38 : decode cJ2_newBytesLength_0f7a4 38 = .ok (.ldc 35, 2) := by decide +kernel
theorem dJ2_newBytesLength_0f7a4_40 : decode cJ2_newBytesLength_0f7a4 40 = .ok (.invokevirtual 28, 3) := by decide +kernel
theorem dJ2_newBytesLength_0f7a4_43 : decode cJ2_newBytesLength_0f7a4 43 = .ok (.ldc 20, 2) := by decide +kernel
theorem dJ2_newBytesLength_0f7a4_45 : decode cJ2_newBytesLength_0f7a4 45 = .ok (.invokevirtual 32, 3) := by decide +kernel
theorem dJ2_newBytesLength_0f7a4_48 : decode cJ2_newBytesLength_0f7a4 48 = .ok (.invokevirtual 37, 3) := by decide +kernel
theorem dJ2_newBytesLength_0f7a4_51 : decode cJ2_newBytesLength_0f7a4 51 = .ok (.invokespecial 41, 3) := by decide +kernel
theorem dJ2_newBytesLength_0f7a4_54 : decode cJ2_newBytesLength_0f7a4 54 = .ok (.athrow, 1) := by decide +kernel
theorem dJ2_newBytesLength_0f7a4_55 : decode cJ2_newBytesLength_0f7a4 55 = .ok (.iload_n 0, 1) := by decide +kernel
theorem dJ2_newBytesLength_0f7a4_56 : decode cJ2_newBytesLength_0f7a4 56 = .ok (.iconst 1, 1) := by decide +kernel
theorem dJ2_newBytesLength_0f7a4_57 : decode cJ2_newBytesLength_0f7a4 57 = .ok (.ishl, 1) := by decide +kernel
theorem dJ2_newBytesLength_0f7a4_58 : decode cJ2_newBytesLength_0f7a4 58 = .ok (.ireturn, 1) := by decide +kernel
theorem dJ2_putChar_b72d1_0 : decode cJ2_putChar_b72d1 0 = .ok (.getstatic 44, 3) := by decide +kernel
theorem dJ2_putChar_b72d1_3 : decode cJ2_putChar_b72d1 3 = .ok (.ifCond .ne 25, 3) := by decide +kernel
theorem dJ2_putChar_b72d1_6 : decode cJ2_putChar_b72d1 6 = .ok (.iload_n 1, 1) := by decide +kernel
theorem dJ2_putChar_b72d1_7 : decode cJ2_putChar_b72d1 7 = .ok (.ifCond .lt 11, 3) := by decide +kernel
theorem dJ2_putChar_b72d1_10 : decode cJ2_putChar_b72d1 10 = .ok (.iload_n 1, 1) := by decide +kernel
theorem dJ2_putChar_b72d1_11 : decode cJ2_putChar_b72d1 11 = .ok (.aload_n 0, 1) := by decide +kernel
theorem dJ2_putChar_b72d1_12 : decode cJ2_putChar_b72d1 12 = .ok (.invokestatic 48, 3) := by decide +kernel
theorem dJ2_putChar_b72d1_15 : decode cJ2_putChar_b72d1 15 = .ok (.if_icmp .lt 13, 3) := by decide +kernel
theorem dJ2_putChar_b72d1_18 : decode cJ2_putChar_b72d1 18 = .ok (.new 52, 3) := by decide +kernel
theorem dJ2_putChar_b72d1_21 : decode cJ2_putChar_b72d1 21 = .ok (.dup, 1) := by decide +kernel
theorem dJ2_putChar_b72d1_22 : decode cJ2_putChar_b72d1 22 = .ok (.ldc 54, 2) := by decide +kernel
theorem dJ2_putChar_b72d1_24 : decode cJ2_putChar_b72d1 24 = .ok (.invokespecial 56, 3) := by decide +kernel
theorem dJ2_putChar_b72d1_27 : decode cJ2_putChar_b72d1 27 = .ok (.athrow, 1) := by decide +kernel
theorem dJ2_putChar_b72d1_28 : decode cJ2_putChar_b72d1 28 = .ok (.iload_n 1, 1) := by decide +kernel
theorem dJ2_putChar_b72d1_29 : decode cJ2_putChar_b72d1 29 = .ok (.iconst 1, 1) := by decide +kernel
theorem dJ2_putChar_b72d1_30 : decode cJ2_putChar_b72d1 30 = .ok (.ishl, 1) := by decide +kernel
theorem dJ2_putChar_b72d1_31 : decode cJ2_putChar_b72d1 31 = .ok (.istore_n 1, 1) := by decide +kernel
theorem dJ2_putChar_b72d1_32 : decode cJ2_putChar_b72d1 32 = .ok (.aload_n 0, 1) := by decide +kernel
theorem dJ2_putChar_b72d1_33 : decode cJ2_putChar_b72d1 33 = .ok (.iload_n 1, 1) := by decide +kernel
theorem dJ2_putChar_b72d1_34 : decode cJ2_putChar_b72d1 34 = .ok (.iinc 1 1, 3) := by decide +kernel
theorem dJ2_putChar_b72d1_37 : decode cJ2_putChar_b72d1 37 = .ok (.iload_n 2, 1) := by decide +kernel
theorem dJ2_putChar_b72d1_38 : decode cJ2_putChar_b72d1 38 = .ok (.getstatic 59, 3) := by decide +kernel
theorem dJ2_putChar_b72d1_41 : decode cJ2_putChar_b72d1 41 = .ok (.ishr, 1) := by decide +kernel
theorem dJ2_putChar_b72d1_42 : decode cJ2_putChar_b72d1 42 = .ok (.i2b, 1) := by decide +kernel
theorem dJ2_putChar_b72d1_43 : decode cJ2_putChar_b72d1 43 = .ok (.bastore, 1) := by decide +kernel
theorem dJ2_putChar_b72d1_44 : decode cJ2_putChar_b72d1 44 = .ok (.aload_n 0, 1) := by decide +kernel
theorem dJ2_putChar_b72d1_45 : decode cJ2_putChar_b72d1 45 = .ok (.iload_n 1, 1) := by decide +kernel
theorem dJ2_putChar_b72d1_46 : decode cJ2_putChar_b72d1 46 = .ok (.iload_n 2, 1) := by decide +kernel
theorem dJ2_putChar_b72d1_47 : decode cJ2_putChar_b72d1 47 = .ok (.getstatic 63, 3) := by decide +kernel
theorem dJ2_putChar_b72d1_50 : decode cJ2_putChar_b72d1 50 = .ok (.ishr, 1) := by decide +kernel
theorem dJ2_putChar_b72d1_51 : decode cJ2_putChar_b72d1 51 = .ok (.i2b, 1) := by decide +kernel
theorem dJ2_putChar_b72d1_52 : decode cJ2_putChar_b72d1 52 = .ok (.bastore, 1) := by decide +kernel
theorem dJ2_putChar_b72d1_53 : decode cJ2_putChar_b72d1 53 = .ok (.return_, 1) := by decide +kernel
theorem dJ2_getChar_3b067_0 : decode cJ2_getChar_3b067 0 = .ok (.getstatic 44, 3) := by decide +kernel
theorem dJ2_getChar_3b067_3 : decode cJ2_getChar_3b067 3 = .ok (.ifCond .ne 25, 3) := by decide +kernel
theorem dJ2_getChar_3b067_6 : decode cJ2_getChar_3b067 6 = .ok (.iload_n 1, 1) := by decide +kernel
theorem dJ2_getChar_3b067_7 : decode cJ2_getChar_3b067 7 = .ok (.ifCond .lt 11, 3) := by decide +kernel
theorem dJ2_getChar_3b067_10 : decode cJ2_getChar_3b067 10 = .ok (.iload_n 1, 1) := by decide +kernel
theorem dJ2_getChar_3b067_11 : decode cJ2_getChar_3b067 11 = .ok (.aload_n 0, 1) := by decide +kernel
theorem dJ2_getChar_3b067_12 : decode cJ2_getChar_3b067 12 = .ok (.invokestatic 48, 3) := by decide +kernel
theorem dJ2_getChar_3b067_15 : decode cJ2_getChar_3b067 15 = .ok (.if_icmp .lt 13, 3) := by decide +kernel
theorem dJ2_getChar_3b067_18 : decode cJ2_getChar_3b067 18 = .ok (.new 52, 3) := by decide +kernel
theorem dJ2_getChar_3b067_21 : decode cJ2_getChar_3b067 21 = .ok (.dup, 1) := by decide +kernel
theorem dJ2_getChar_3b067_22 : decode cJ2_getChar_3b067 22 = .ok (.ldc 54, 2) := by decide +kernel
theorem dJ2_getChar_3b067_24 : decode cJ2_getChar_3b067 24 = .ok (.invokespecial 56, 3) := by decide +kernel
theorem dJ2_getChar_3b067_27 : decode cJ2_getChar_3b067 27 = .ok (.athrow, 1) := by decide +kernel
theorem dJ2_getChar_3b067_28 : decode cJ2_getChar_3b067 28 = .ok (.iload_n 1, 1) := by decide +kernel
theorem dJ2_getChar_3b067_29 : decode cJ2_getChar_3b067 29 = .ok (.iconst 1, 1) := by decide +kernel
theorem dJ2_getChar_3b067_30 : decode cJ2_getChar_3b067 30 = .ok (.ishl, 1) := by decide +kernel
theorem dJ2_getChar_3b067_31 : decode cJ2_getChar_3b067 31 = .ok (.istore_n 1, 1) := by decide +kernel
theorem dJ2_getChar_3b067_32 : decode cJ2_getChar_3b067 32 = .ok (.aload_n 0, 1) := by decide +kernel
theorem dJ2_getChar_3b067_33 : decode cJ2_getChar_3b067 33 = .ok (.iload_n 1, 1) := by decide +kernel
theorem dJ2_getChar_3b067_34 : decode cJ2_getChar_3b067 34 = .ok (.iinc 1 1, 3) := by decide +kernel
theorem dJ2_getChar_3b067_37 : decode cJ2_getChar_3b067 37 = .ok (.baload, 1) := by decide +kernel
theorem dJ2_getChar_3b067_38 : decode cJ2_getChar_3b067 38 = .ok (.sipush 255, 3) := by decide +kernel
theorem dJ2_getChar_3b067_41 : decode cJ2_getChar_3b067 41 = .ok (.iand, 1) := by decide +kernel
theorem dJ2_getChar_3b067_42 : decode cJ2_getChar_3b067 42 = .ok (.getstatic 59, 3) := by decide +kernel
theorem dJ2_getChar_3b067_45 : decode cJ2_getChar_3b067 45 = .ok (.ishl, 1) := by decide +kernel
theorem dJ2_getChar_3b067_46 : decode cJ2_getChar_3b067 46 = .ok (.aload_n 0, 1) := by decide +kernel
theorem dJ2_getChar_3b067_47 : decode cJ2_getChar_3b067 47 = .ok (.iload_n 1, 1) := by decide +kernel
theorem dJ2_getChar_3b067_48 : decode cJ2_getChar_3b067 48 = .ok (.baload, 1) := by decide +kernel
theorem dJ2_getChar_3b067_49 : decode cJ2_getChar_3b067 49 = .ok (.sipush 255, 3) := by decide +kernel
theorem dJ2_getChar_3b067_52 : decode cJ2_getChar_3b067 52 = .ok (.iand, 1) := by decide +kernel
theorem dJ2_getChar_3b067_53 : decode cJ2_getChar_3b067 53 = .ok (.getstatic 63, 3) := by decide +kernel
theorem dJ2_getChar_3b067_56 : decode cJ2_getChar_3b067 56 = .ok (.ishl, 1) := by decide +kernel
theorem dJ2_getChar_3b067_57 : decode cJ2_getChar_3b067 57 = .ok (.ior, 1) := by decide +kernel
theorem dJ2_getChar_3b067_58 : decode cJ2_getChar_3b067 58 = .ok (.i2c, 1) := by decide +kernel
theorem dJ2_getChar_3b067_59 : decode cJ2_getChar_3b067 59 = .ok (.ireturn, 1) := by decide +kernel
theorem dJ2_length_9d52b_0 : decode cJ2_length_9d52b 0 = .ok (.aload_n 0, 1) := by decide +kernel
theorem dJ2_length_9d52b_1 : decode cJ2_length_9d52b 1 = .ok (.arraylength, 1) := by decide +kernel
theorem dJ2_length_9d52b_2 : decode cJ2_length_9d52b 2 = .ok (.iconst 1, 1) := by decide +kernel
theorem dJ2_length_9d52b_3 : decode cJ2_length_9d52b 3 = .ok (.ishr, 1) := by decide +kernel
theorem dJ2_length_9d52b_4 : decode cJ2_length_9d52b 4 = .ok (.ireturn, 1) := by decide +kernel
theorem dJ2_toBytes_dfd3c_0 : decode cJ2_toBytes_dfd3c 0 = .ok (.iload_n 2, 1) := by decide +kernel
theorem dJ2_toBytes_dfd3c_1 : decode cJ2_toBytes_dfd3c 1 = .ok (.invokestatic 107, 3) := by decide +kernel
theorem dJ2_toBytes_dfd3c_4 : decode cJ2_toBytes_dfd3c 4 = .ok (.astore_n 3, 1) := by decide +kernel
theorem dJ2_toBytes_dfd3c_5 : decode cJ2_toBytes_dfd3c 5 = .ok (.iconst 0, 1) := by decide +kernel
theorem dJ2_toBytes_dfd3c_6 : decode cJ2_toBytes_dfd3c 6 = .ok (.istore 4, 2) := by decide +kernel
theorem dJ2_toBytes_dfd3c_8 : decode cJ2_toBytes_dfd3c 8 = .ok (.iload 4, 2) := by decide +kernel
theorem dJ2_toBytes_dfd3c_10 : decode cJ2_toBytes_dfd3c 10 = .ok (.iload_n 2, 1) := by decide +kernel
theorem dJ2_toBytes_dfd3c_11 : decode cJ2_toBytes_dfd3c 11 = .ok (.if_icmp .ge 21, 3) := by decide +kernel
theorem dJ2_toBytes_dfd3c_14 : decode cJ2_toBytes_dfd3c 14 = .ok (.aload_n 3, 1) := by decide +kernel
theorem dJ2_toBytes_dfd3c_15 : decode cJ2_toBytes_dfd3c 15 = .ok (.iload 4, 2) := by decide +kernel
theorem dJ2_toBytes_dfd3c_17 : decode cJ2_toBytes_dfd3c 17 = .ok (.aload_n 0, 1) := by decide +kernel
theorem dJ2_toBytes_dfd3c_18 : decode cJ2_toBytes_dfd3c 18 = .ok (.iload_n 1, 1) := by decide +kernel
theorem dJ2_toBytes_dfd3c_19 : decode cJ2_toBytes_dfd3c 19 = .ok (.caload, 1) := by decide +kernel
theorem dJ2_toBytes_dfd3c_20 : decode cJ2_toBytes_dfd3c 20 = .ok (.invokestatic 111, 3) := by decide +kernel
theorem dJ2_toBytes_dfd3c_23 : decode cJ2_toBytes_dfd3c 23 = .ok (.iinc 1 1, 3) := by decide +kernel
theorem dJ2_toBytes_dfd3c_26 : decode cJ2_toBytes_dfd3c 26 = .ok (.iinc 4 1, 3) := by decide +kernel
theorem dJ2_toBytes_dfd3c_29 : decode cJ2_toBytes_dfd3c 29 = .ok (.goto (-21), 3) := by decide +kernel
theorem dJ2_toBytes_dfd3c_32 : decode cJ2_toBytes_dfd3c 32 = .ok (.aload_n 3, 1) := by decide +kernel
theorem dJ2_toBytes_dfd3c_33 : decode cJ2_toBytes_dfd3c 33 = .ok (.areturn, 1) := by decide +kernel
theorem dJ2_coderFromArrayLen_85cad_0 : decode cJ2_coderFromArrayLen_85cad 0 = .ok (.iload_n 1, 1) := by decide +kernel
theorem dJ2_coderFromArrayLen_85cad_1 : decode cJ2_coderFromArrayLen_85cad 1 = .ok (.aload_n 0, 1) := by decide +kernel
theorem dJ2_coderFromArrayLen_85cad_2 : decode cJ2_coderFromArrayLen_85cad 2 = .ok (.arraylength, 1) := by decide +kernel
theorem dJ2_coderFromArrayLen_85cad_3 : decode cJ2_coderFromArrayLen_85cad 3 = .ok (.isub, 1) := by decide +kernel
theorem dJ2_coderFromArrayLen_85cad_4 : decode cJ2_coderFromArrayLen_85cad 4 = .ok (.bipush 31, 2) := by decide +kernel
theorem dJ2_coderFromArrayLen_85cad_6 : decode cJ2_coderFromArrayLen_85cad 6 = .ok (.iushr, 1) := by decide +kernel
theorem dJ2_coderFromArrayLen_85cad_7 : decode cJ2_coderFromArrayLen_85cad 7 = .ok (.i2b, 1) := by decide +kernel
theorem dJ2_coderFromArrayLen_85cad_8 : decode cJ2_coderFromArrayLen_85cad 8 = .ok (.ireturn, 1) := by decide +kernel
theorem dJ2_compress_dfd3c_0 : decode cJ2_compress_dfd3c 0 = .ok (.iload_n 2, 1) := by decide +kernel
theorem dJ2_compress_dfd3c_1 : decode cJ2_compress_dfd3c 1 = .ok (.newarray .byte, 2) := by decide +kernel
theorem dJ2_compress_dfd3c_3 : decode cJ2_compress_dfd3c 3 = .ok (.astore_n 3, 1) := by decide +kernel
theorem dJ2_compress_dfd3c_4 : decode cJ2_compress_dfd3c 4 = .ok (.aload_n 0, 1) := by decide +kernel
theorem dJ2_compress_dfd3c_5 : decode cJ2_compress_dfd3c 5 = .ok (.iload_n 1, 1) := by decide +kernel
theorem dJ2_compress_dfd3c_6 : decode cJ2_compress_dfd3c 6 = .ok (.aload_n 3, 1) := by decide +kernel
theorem dJ2_compress_dfd3c_7 : decode cJ2_compress_dfd3c 7 = .ok (.iconst 0, 1) := by decide +kernel
theorem dJ2_compress_dfd3c_8 : decode cJ2_compress_dfd3c 8 = .ok (.iload_n 2, 1) := by decide +kernel
theorem dJ2_compress_dfd3c_9 : decode cJ2_compress_dfd3c 9 = .ok (.invokestatic 115, 3) := by decide +kernel
theorem dJ2_compress_dfd3c_12 : decode cJ2_compress_dfd3c 12 = .ok (.istore 4, 2) := by decide +kernel
theorem dJ2_compress_dfd3c_14 : decode cJ2_compress_dfd3c 14 = .ok (.iload 4, 2) := by decide +kernel
theorem dJ2_compress_dfd3c_16 : decode cJ2_compress_dfd3c 16 = .ok (.iload_n 2, 1) := by decide +kernel
theorem dJ2_compress_dfd3c_17 : decode cJ2_compress_dfd3c 17 = .ok (.if_icmp .eq 40, 3) := by decide +kernel
theorem dJ2_compress_dfd3c_20 : decode cJ2_compress_dfd3c 20 = .ok (.aload_n 0, 1) := by decide +kernel
theorem dJ2_compress_dfd3c_21 : decode cJ2_compress_dfd3c 21 = .ok (.iload_n 1, 1) := by decide +kernel
theorem dJ2_compress_dfd3c_22 : decode cJ2_compress_dfd3c 22 = .ok (.iload_n 2, 1) := by decide +kernel
theorem dJ2_compress_dfd3c_23 : decode cJ2_compress_dfd3c 23 = .ok (.invokestatic 119, 3) := by decide +kernel
theorem dJ2_compress_dfd3c_26 : decode cJ2_compress_dfd3c 26 = .ok (.astore 5, 2) := by decide +kernel
theorem dJ2_compress_dfd3c_28 : decode cJ2_compress_dfd3c 28 = .ok (.aload 5, 2) := by decide +kernel
theorem dJ2_compress_dfd3c_30 : decode cJ2_compress_dfd3c 30 = .ok (.iload 4, 2) := by decide +kernel
theorem dJ2_compress_dfd3c_32 : decode cJ2_compress_dfd3c 32 = .ok (.invokestatic 71, 3) := by decide +kernel
theorem dJ2_compress_dfd3c_35 : decode cJ2_compress_dfd3c 35 = .ok (.sipush 255, 3) := by decide +kernel
theorem dJ2_compress_dfd3c_38 : decode cJ2_compress_dfd3c 38 = .ok (.if_icmp .gt 16, 3) := by decide +kernel
theorem dJ2_compress_dfd3c_41 : decode cJ2_compress_dfd3c 41 = .ok (.aload 5, 2) := by decide +kernel
theorem dJ2_compress_dfd3c_43 : decode cJ2_compress_dfd3c 43 = .ok (.iconst 0, 1) := by decide +kernel
theorem dJ2_compress_dfd3c_44 : decode cJ2_compress_dfd3c 44 = .ok (.aload_n 3, 1) := by decide +kernel
theorem dJ2_compress_dfd3c_45 : decode cJ2_compress_dfd3c 45 = .ok (.iconst 0, 1) := by decide +kernel
theorem dJ2_compress_dfd3c_46 : decode cJ2_compress_dfd3c 46 = .ok (.iload_n 2, 1) := by decide +kernel
theorem dJ2_compress_dfd3c_47 : decode cJ2_compress_dfd3c 47 = .ok (.invokestatic 123, 3) := by decide +kernel
theorem dJ2_compress_dfd3c_50 : decode cJ2_compress_dfd3c 50 = .ok (.iload_n 2, 1) := by decide +kernel
theorem dJ2_compress_dfd3c_51 : decode cJ2_compress_dfd3c 51 = .ok (.if_icmp .eq 6, 3) := by decide +kernel
theorem dJ2_compress_dfd3c_54 : decode cJ2_compress_dfd3c 54 = .ok (.aload 5, 2) := by decide +kernel
theorem dJ2_compress_dfd3c_56 : decode cJ2_compress_dfd3c 56 = .ok (.areturn, 1) := by decide +kernel
theorem dJ2_compress_dfd3c_57 : decode cJ2_compress_dfd3c 57 = .ok (.aload_n 3, 1) := by decide +kernel
theorem dJ2_compress_dfd3c_58 : decode cJ2_compress_dfd3c 58 = .ok (.areturn, 1) := by decide +kernel
theorem dJ2_compress_39247_0 : decode cJ2_compress_39247 0 = .ok (.iload_n 2, 1) := by decide +kernel
theorem dJ2_compress_39247_1 : decode cJ2_compress_39247 1 = .ok (.newarray .byte, 2) := by decide +kernel
theorem dJ2_compress_39247_3 : decode cJ2_compress_39247 3 = .ok (.astore_n 3, 1) := by decide +kernel
theorem dJ2_compress_39247_4 : decode cJ2_compress_39247 4 = .ok (.aload_n 0, 1) := by decide +kernel
theorem dJ2_compress_39247_5 : decode cJ2_compress_39247 5 = .ok (.iload_n 1, 1) := by decide +kernel
theorem dJ2_compress_39247_6 : decode cJ2_compress_39247 6 = .ok (.aload_n 3, 1) := by decide +kernel
theorem dJ2_compress_39247_7 : decode cJ2_compress_39247 7 = .ok (.iconst 0, 1) := by decide +kernel
theorem dJ2_compress_39247_8 : decode cJ2_compress_39247 8 = .ok (.iload_n 2, 1) := by decide +kernel
theorem dJ2_compress_39247_9 : decode cJ2_compress_39247 9 = .ok (.invokestatic 123, 3) := by decide +kernel
theorem dJ2_compress_39247_12 : decode cJ2_compress_39247 12 = .ok (.istore 4, 2) := by decide +kernel
theorem dJ2_compress_39247_14 : decode cJ2_compress_39247 14 = .ok (.iload 4, 2) := by decide +kernel
theorem dJ2_compress_39247_16 : decode cJ2_compress_39247 16 = .ok (.iload_n 2, 1) := by decide +kernel
theorem dJ2_compress_39247_17 : decode cJ2_compress_39247 17 = .ok (.if_icmp .eq 47, 3) := by decide +kernel
theorem dJ2_compress_39247_20 : decode cJ2_compress_39247 20 = .ok (.aload_n 0, 1) := by decide +kernel
theorem dJ2_compress_39247_21 : decode cJ2_compress_39247 21 = .ok (.iload_n 1, 1) := by decide +kernel
theorem dJ2_compress_39247_22 : decode cJ2_compress_39247 22 = .ok (.iconst 1, 1) := by decide +kernel
theorem dJ2_compress_39247_23 : decode cJ2_compress_39247 23 = .ok (.ishl, 1) := by decide +kernel
theorem dJ2_compress_39247_24 : decode cJ2_compress_39247 24 = .ok (.iload_n 1, 1) := by decide +kernel
theorem dJ2_compress_39247_25 : decode cJ2_compress_39247 25 = .ok (.iload_n 2, 1) := by decide +kernel
theorem dJ2_compress_39247_26 : decode cJ2_compress_39247 26 = .ok (.iadd, 1) := by decide +kernel
theorem dJ2_compress_39247_27 : decode cJ2_compress_39247 27 = .ok (.invokestatic 11, 3) := by decide +kernel
theorem dJ2_compress_39247_30 : decode cJ2_compress_39247 30 = .ok (.invokestatic 126, 3) := by decide +kernel
theorem dJ2_compress_39247_33 : decode cJ2_compress_39247 33 = .ok (.astore 5, 2) := by decide +kernel
theorem dJ2_compress_39247_35 : decode cJ2_compress_39247 35 = .ok (.aload 5, 2) := by decide +kernel
theorem dJ2_compress_39247_37 : decode cJ2_compress_39247 37 = .ok (.iload 4, 2) := by decide +kernel
theorem dJ2_compress_39247_39 : decode cJ2_compress_39247 39 = .ok (.invokestatic 71, 3) := by decide +kernel
theorem dJ2_compress_39247_42 : decode cJ2_compress_39247 42 = .ok (.sipush 255, 3) := by decide +kernel
theorem dJ2_compress_39247_45 : decode cJ2_compress_39247 45 = .ok (.if_icmp .gt 16, 3) := by decide +kernel
theorem dJ2_compress_39247_48 : decode cJ2_compress_39247 48 = .ok (.aload 5, 2) := by decide +kernel
theorem dJ2_compress_39247_50 : decode cJ2_compress_39247 50 = .ok (.iconst 0, 1) := by decide +kernel
theorem dJ2_compress_39247_51 : decode cJ2_compress_39247 51 = .ok (.aload_n 3, 1) := by decide +kernel
theorem dJ2_compress_39247_52 : decode cJ2_compress_39247 52 = .ok (.iconst 0, 1) := by decide +kernel
theorem dJ2_compress_39247_53 : decode cJ2_compress_39247 53 = .ok (.iload_n 2, 1) := by decide +kernel
theorem dJ2_compress_39247_54 : decode cJ2_compress_39247 54 = .ok (.invokestatic 123, 3) := by decide +kernel
theorem dJ2_compress_39247_57 : decode cJ2_compress_39247 57 = .ok (.iload_n 2, 1) := by decide +kernel
theorem dJ2_compress_39247_58 : decode cJ2_compress_39247 58 = .ok (.if_icmp .eq 6, 3) := by decide +kernel
theorem dJ2_compress_39247_61 : decode cJ2_compress_39247 61 = .ok (.aload 5, 2) := by decide +kernel
theorem dJ2_compress_39247_63 : decode cJ2_compress_39247 63 = .ok (.areturn, 1) := by decide +kernel
theorem dJ2_compress_39247_64 : decode cJ2_compress_39247 64 = .ok (.aload_n 3, 1) := by decide +kernel
theorem dJ2_compress_39247_65 : decode cJ2_compress_39247 65 = .ok (.areturn, 1) := by decide +kernel
theorem dJ2_compress_fe38e_0 : decode cJ2_compress_fe38e 0 = .ok (.iconst 0, 1) := by decide +kernel
theorem dJ2_compress_fe38e_1 : decode cJ2_compress_fe38e 1 = .ok (.istore 5, 2) := by decide +kernel
theorem dJ2_compress_fe38e_3 : decode cJ2_compress_fe38e 3 = .ok (.iload 5, 2) := by decide +kernel
theorem dJ2_compress_fe38e_5 : decode cJ2_compress_fe38e 5 = .ok (.iload 4, 2) := by decide +kernel
theorem dJ2_compress_fe38e_7 : decode cJ2_compress_fe38e 7 = .ok (.if_icmp .ge 37, 3) := by decide +kernel
theorem dJ2_compress_fe38e_10 : decode cJ2_compress_fe38e 10 = .ok (.aload_n 0, 1) := by decide +kernel
theorem dJ2_compress_fe38e_11 : decode cJ2_compress_fe38e 11 = .ok (.iload_n 1, 1) := by decide +kernel
theorem dJ2_compress_fe38e_12 : decode cJ2_compress_fe38e 12 = .ok (.caload, 1) := by decide +kernel
theorem dJ2_compress_fe38e_13 : decode cJ2_compress_fe38e 13 = .ok (.istore 6, 2) := by decide +kernel
theorem dJ2_compress_fe38e_15 : decode cJ2_compress_fe38e 15 = .ok (.iload 6, 2) := by decide +kernel
theorem dJ2_compress_fe38e_17 : decode cJ2_compress_fe38e 17 = .ok (.sipush 255, 3) := by decide +kernel
theorem dJ2_compress_fe38e_20 : decode cJ2_compress_fe38e 20 = .ok (.if_icmp .le 6, 3) := by decide +kernel
theorem dJ2_compress_fe38e_23 : decode cJ2_compress_fe38e 23 = .ok (.iload 5, 2) := by decide +kernel
theorem dJ2_compress_fe38e_25 : decode cJ2_compress_fe38e 25 = .ok (.ireturn, 1) := by decide +kernel
theorem dJ2_compress_fe38e_26 : decode cJ2_compress_fe38e 26 = .ok (.aload_n 2, 1) := by decide +kernel
theorem dJ2_compress_fe38e_27 : decode cJ2_compress_fe38e 27 = .ok (.iload_n 3, 1) := by decide +kernel
theorem dJ2_compress_fe38e_28 : decode cJ2_compress_fe38e 28 = .ok (.iload 6, 2) := by decide +kernel
theorem dJ2_compress_fe38e_30 : decode cJ2_compress_fe38e 30 = .ok (.i2b, 1) := by decide +kernel
theorem dJ2_compress_fe38e_31 : decode cJ2_compress_fe38e 31 = .ok (.bastore, 1) := by decide +kernel
theorem dJ2_compress_fe38e_32 : decode cJ2_compress_fe38e 32 = .ok (.iinc 1 1, 3) := by decide +kernel
theorem dJ2_compress_fe38e_35 : decode cJ2_compress_fe38e 35 = .ok (.iinc 3 1, 3) := by decide +kernel
theorem dJ2_compress_fe38e_38 : decode cJ2_compress_fe38e 38 = .ok (.iinc 5 1, 3) := by decide +kernel
theorem dJ2_compress_fe38e_41 : decode cJ2_compress_fe38e 41 = .ok (.goto (-38), 3) := by decide +kernel
theorem dJ2_compress_fe38e_44 : decode cJ2_compress_fe38e 44 = .ok (.iload 4, 2) := by decide +kernel
theorem dJ2_compress_fe38e_46 : decode cJ2_compress_fe38e 46 = .ok (.ireturn, 1) := by decide +kernel
theorem dJ2_compress_5af95_0 : decode cJ2_compress_5af95 0 = .ok (.iload_n 1, 1) := by decide +kernel
theorem dJ2_compress_5af95_1 : decode cJ2_compress_5af95 1 = .ok (.iload 4, 2) := by decide +kernel
theorem dJ2_compress_5af95_3 : decode cJ2_compress_5af95 3 = .ok (.aload_n 0, 1) := by decide +kernel
theorem dJ2_compress_5af95_4 : decode cJ2_compress_5af95 4 = .ok (.invokestatic 173, 3) := by decide +kernel
theorem dJ2_compress_5af95_7 : decode cJ2_compress_5af95 7 = .ok (.iconst 0, 1) := by decide +kernel
theorem dJ2_compress_5af95_8 : decode cJ2_compress_5af95 8 = .ok (.istore 5, 2) := by decide +kernel
theorem dJ2_compress_5af95_10 : decode cJ2_compress_5af95 10 = .ok (.iload 5, 2) := by decide +kernel
theorem dJ2_compress_5af95_12 : decode cJ2_compress_5af95 12 = .ok (.iload 4, 2) := by decide +kernel
theorem dJ2_compress_5af95_14 : decode cJ2_compress_5af95 14 = .ok (.if_icmp .ge 39, 3) := by decide +kernel
theorem dJ2_compress_5af95_17 : decode cJ2_compress_5af95 17 = .ok (.aload_n 0, 1) := by decide +kernel
theorem dJ2_compress_5af95_18 : decode cJ2_compress_5af95 18 = .ok (.iload_n 1, 1) := by decide +kernel
theorem dJ2_compress_5af95_19 : decode cJ2_compress_5af95 19 = .ok (.invokestatic 71, 3) := by decide +kernel
theorem dJ2_compress_5af95_22 : decode cJ2_compress_5af95 22 = .ok (.istore 6, 2) := by decide +kernel
theorem dJ2_compress_5af95_24 : decode cJ2_compress_5af95 24 = .ok (.iload 6, 2) := by decide +kernel
theorem dJ2_compress_5af95_26 : decode cJ2_compress_5af95 26 = .ok (.sipush 255, 3) := by decide +kernel
theorem dJ2_compress_5af95_29 : decode cJ2_compress_5af95 29 = .ok (.if_icmp .le 6, 3) := by decide +kernel
theorem dJ2_compress_5af95_32 : decode cJ2_compress_5af95 32 = .ok (.iload 5, 2) := by decide +kernel
theorem dJ2_compress_5af95_34 : decode cJ2_compress_5af95 34 = .ok (.ireturn, 1) := by decide +kernel
theorem dJ2_compress_5af95_35 : decode cJ2_compress_5af95 35 = .ok (.aload_n 2, 1) := by decide +kernel
theorem dJ2_compress_5af95_36 : decode cJ2_compress_5af95 36 = .ok (.iload_n 3, 1) := by decide +kernel
theorem dJ2_compress_5af95_37 : decode cJ2_compress_5af95 37 = .ok (.iload 6, 2) := by decide +kernel
theorem dJ2_compress_5af95_39 : decode cJ2_compress_5af95 39 = .ok (.i2b, 1) := by decide +kernel
theorem dJ2_compress_5af95_40 : decode cJ2_compress_5af95 40 = .ok (.bastore, 1) := by decide +kernel
theorem dJ2_compress_5af95_41 : decode cJ2_compress_5af95 41 = .ok (.iinc 1 1, 3) := by decide +kernel
theorem dJ2_compress_5af95_44 : decode cJ2_compress_5af95 44 = .ok (.iinc 3 1, 3) := by decide +kernel
theorem dJ2_compress_5af95_47 : decode cJ2_compress_5af95 47 = .ok (.iinc 5 1, 3) := by decide +kernel
theorem dJ2_compress_5af95_50 : decode cJ2_compress_5af95 50 = .ok (.goto (-40), 3) := by decide +kernel
theorem dJ2_compress_5af95_53 : decode cJ2_compress_5af95 53 = .ok (.iload 4, 2) := by decide +kernel
theorem dJ2_compress_5af95_55 : decode cJ2_compress_5af95 55 = .ok (.ireturn, 1) := by decide +kernel
theorem dJ2_newString_b4f7a_0 : decode cJ2_newString_b4f7a 0 = .ok (.iload_n 2, 1) := by decide +kernel
theorem dJ2_newString_b4f7a_1 : decode cJ2_newString_b4f7a 1 = .ok (.ifCond .ne 7, 3) := by decide +kernel
theorem dJ2_newString_b4f7a_4 : decode cJ2_newString_b4f7a 4 = .ok (.ldc_w 295, 3) := by decide +kernel
theorem dJ2_newString_b4f7a_7 : decode cJ2_newString_b4f7a 7 = .ok (.areturn, 1) := by decide +kernel
theorem dJ2_newString_b4f7a_8 : decode cJ2_newString_b4f7a 8 = .ok (.getstatic 251, 3) := by decide +kernel
theorem dJ2_newString_b4f7a_11 : decode cJ2_newString_b4f7a 11 = .ok (.ifCond .eq 28, 3) := by decide +kernel
theorem dJ2_newString_b4f7a_14 : decode cJ2_newString_b4f7a 14 = .ok (.aload_n 0, 1) := by decide +kernel
theorem dJ2_newString_b4f7a_15 : decode cJ2_newString_b4f7a 15 = .ok (.iload_n 1, 1) := by decide +kernel
theorem dJ2_newString_b4f7a_16 : decode cJ2_newString_b4f7a 16 = .ok (.iload_n 2, 1) := by decide +kernel
theorem dJ2_newString_b4f7a_17 : decode cJ2_newString_b4f7a 17 = .ok (.invokestatic 257, 3) := by decide +kernel
theorem dJ2_newString_b4f7a_20 : decode cJ2_newString_b4f7a 20 = .ok (.astore_n 3, 1) := by decide +kernel
theorem dJ2_newString_b4f7a_21 : decode cJ2_newString_b4f7a 21 = .ok (.aload_n 3, 1) := by decide +kernel
theorem dJ2_newString_b4f7a_22 : decode cJ2_newString_b4f7a 22 = .ok (.iload_n 2, 1) := by decide +kernel
theorem dJ2_newString_b4f7a_23 : decode cJ2_newString_b4f7a 23 = .ok (.invokestatic 259, 3) := by decide +kernel
theorem dJ2_newString_b4f7a_26 : decode cJ2_newString_b4f7a 26 = .ok (.istore 4, 2) := by decide +kernel
theorem dJ2_newString_b4f7a_28 : decode cJ2_newString_b4f7a 28 = .ok (.new 3, 3) := by decide +kernel
theorem dJ2_newString_b4f7a_31 : decode cJ2_newString_b4f7a 31 = .ok (.dup, 1) := by decide +kernel
theorem dJ2_newString_b4f7a_32 : decode cJ2_newString_b4f7a 32 = .ok (.aload_n 3, 1) := by decide +kernel
theorem dJ2_newString_b4f7a_33 : decode cJ2_newString_b4f7a 33 = .ok (.iload 4, 2) := by decide +kernel
theorem dJ2_newString_b4f7a_35 : decode cJ2_newString_b4f7a 35 = .ok (.invokespecial 263, 3) := by decide +kernel
theorem dJ2_newString_b4f7a_38 : decode cJ2_newString_b4f7a 38 = .ok (.areturn, 1) := by decide +kernel
theorem dJ2_newString_b4f7a_39 : decode cJ2_newString_b4f7a 39 = .ok (.iload_n 1, 1) := by decide +kernel
theorem dJ2_newString_b4f7a_40 : decode cJ2_newString_b4f7a 40 = .ok (.iload_n 2, 1) := by decide +kernel
theorem dJ2_newString_b4f7a_41 : decode cJ2_newString_b4f7a 41 = .ok (.iadd, 1) := by decide +kernel
theorem dJ2_newString_b4f7a_42 : decode cJ2_newString_b4f7a 42 = .ok (.istore_n 3, 1) := by decide +kernel
theorem dJ2_newString_b4f7a_43 : decode cJ2_newString_b4f7a 43 = .ok (.new 3, 3) := by decide +kernel
theorem dJ2_newString_b4f7a_46 : decode cJ2_newString_b4f7a 46 = .ok (.dup, 1) := by decide +kernel
theorem dJ2_newString_b4f7a_47 : decode cJ2_newString_b4f7a 47 = .ok (.aload_n 0, 1) := by decide +kernel
theorem dJ2_newString_b4f7a_48 : decode cJ2_newString_b4f7a 48 = .ok (.iload_n 1, 1) := by decide +kernel
theorem dJ2_newString_b4f7a_49 : decode cJ2_newString_b4f7a 49 = .ok (.iconst 1, 1) := by decide +kernel
theorem dJ2_newString_b4f7a_50 : decode cJ2_newString_b4f7a 50 = .ok (.ishl, 1) := by decide +kernel
theorem dJ2_newString_b4f7a_51 : decode cJ2_newString_b4f7a 51 = .ok (.iload_n 3, 1) := by decide +kernel
theorem dJ2_newString_b4f7a_52 : decode cJ2_newString_b4f7a 52 = .ok (.iconst 1, 1) := by decide +kernel
theorem dJ2_newString_b4f7a_53 : decode cJ2_newString_b4f7a 53 = .ok (.ishl, 1) := by decide +kernel
theorem dJ2_newString_b4f7a_54 : decode cJ2_newString_b4f7a 54 = .ok (.invokestatic 126, 3) := by decide +kernel
theorem dJ2_newString_b4f7a_57 : decode cJ2_newString_b4f7a 57 = .ok (.iconst 1, 1) := by decide +kernel
theorem dJ2_newString_b4f7a_58 : decode cJ2_newString_b4f7a 58 = .ok (.invokespecial 263, 3) := by decide +kernel
theorem dJ2_newString_b4f7a_61 : decode cJ2_newString_b4f7a 61 = .ok (.areturn, 1) := by decide +kernel
theorem dJ2_charAt_3b067_0 : decode cJ2_charAt_3b067 0 = .ok (.iload_n 1, 1) := by decide +kernel
theorem dJ2_charAt_3b067_1 : decode cJ2_charAt_3b067 1 = .ok (.aload_n 0, 1) := by decide +kernel
theorem dJ2_charAt_3b067_2 : decode cJ2_charAt_3b067 2 = .ok (.invokestatic 67, 3) := by decide +kernel
theorem dJ2_charAt_3b067_5 : decode cJ2_charAt_3b067 5 = .ok (.aload_n 0, 1) := by decide +kernel
theorem dJ2_charAt_3b067_6 : decode cJ2_charAt_3b067 6 = .ok (.iload_n 1, 1) := by decide +kernel
theorem dJ2_charAt_3b067_7 : decode cJ2_charAt_3b067 7 = .ok (.invokestatic 71, 3) := by decide +kernel
theorem dJ2_charAt_3b067_10 : decode cJ2_charAt_3b067 10 = .ok (.ireturn, 1) := by decide +kernel
theorem dJ2_checkIndex_2214a_0 : decode cJ2_checkIndex_2214a 0 = .ok (.iload_n 0, 1) := by decide +kernel
theorem dJ2_checkIndex_2214a_1 : decode cJ2_checkIndex_2214a 1 = .ok (.aload_n 1, 1) := by decide +kernel
theorem dJ2_checkIndex_2214a_2 : decode cJ2_checkIndex_2214a 2 = .ok (.invokestatic 48, 3) := by decide +kernel
theorem dJ2_checkIndex_2214a_5 : decode cJ2_checkIndex_2214a 5 = .ok (.invokestatic 414, 3) := by decide +kernel
theorem dJ2_checkIndex_2214a_8 : decode cJ2_checkIndex_2214a 8 = .ok (.return_, 1) := by decide +kernel
theorem dJ2_checkBoundsOffCount_d044e_0 : decode cJ2_checkBoundsOffCount_d044e 0 = .ok (.iload_n 0, 1) := by decide +kernel
theorem dJ2_checkBoundsOffCount_d044e_1 : decode cJ2_checkBoundsOffCount_d044e 1 = .ok (.iload_n 1, 1) := by decide +kernel
theorem dJ2_checkBoundsOffCount_d044e_2 : decode cJ2_checkBoundsOffCount_d044e 2 = .ok (.aload_n 2, 1) := by decide +kernel
theorem dJ2_checkBoundsOffCount_d044e_3 : decode cJ2_checkBoundsOffCount_d044e 3 = .ok (.invokestatic 48, 3) := by decide +kernel
theorem dJ2_checkBoundsOffCount_d044e_6 : decode cJ2_checkBoundsOffCount_d044e 6 = .ok (.invokestatic 419, 3) := by decide +kernel
theorem dJ2_checkBoundsOffCount_d044e_9 : decode cJ2_checkBoundsOffCount_d044e 9 = .ok (.pop, 1) := by decide +kernel
theorem dJ2_checkBoundsOffCount_d044e_10 : decode cJ2_checkBoundsOffCount_d044e 10 = .ok (.return_, 1) := by decide +kernel
theorem dJ7_checkLength_df160_0 : decode cJ7_checkLength_df160 0 = .ok (.iload_n 1, 1) := by decide +kernel
theorem dJ7_checkLength_df160_1 : decode cJ7_checkLength_df160 1 = .ok (.iload_n 0, 1) := by decide +kernel
theorem dJ7_checkLength_df160_2 : decode cJ7_checkLength_df160 2 = .ok (.if_icmp .ge 35, 3) := by decide +kernel
theorem dJ7_checkLength_df160_5 : decode cJ7_checkLength_df160 5 = .ok (.new 43, 3) := by decide +kernel
theorem dJ7_checkLength_df160_8 : decode cJ7_checkLength_df160 8 = .ok (.dup, 1) := by decide +kernel
theorem dJ7_checkLength_df160_9 : decode cJ7_checkLength_df160 9 = .ok (.new 45, 3) := by decide +kernel
theorem dJ7_checkLength_df160_12 : decode cJ7_checkLength_df160 12 = .ok (.dup, 1) := by decide +kernel
theorem dJ7_checkLength_df160_13 : decode cJ7_checkLength_df160 13 = .ok (.invokespecial 47, 3) := by decide +kernel
theorem dJ7_checkLength_df160_16 : decode cJ7_checkLength_df160 16 = .ok (.iload_n 0, 1) := by decide +kernel
theorem dJ7_checkLength_df160_17 : decode cJ7_checkLength_df160 17 = .ok (.invokevirtual 54, 3) := by decide +kernel
theorem dJ7_checkLength_df160_20 : decode cJ7_checkLength_df160 20 = .ok (.ldc_w 337, 3) := by decide +kernel
theorem dJ7_checkLength_df160_23 : decode cJ7_checkLength_df160 23 = .ok (.invokevirtual 50, 3) := by decide +kernel
theorem dJ7_checkLength_df160_26 : decode cJ7_checkLength_df160 26 = .ok (.iload_n 1, 1) := by decide +kernel
theorem dJ7_checkLength_df160_27 : decode cJ7_checkLength_df160 27 = .ok (.invokevirtual 54, 3) := by decide +kernel
theorem dJ7_checkLength_df160_30 : decode cJ7_checkLength_df160 30 = .ok (.invokevirtual 61, 3) := by decide +kernel
theorem dJ7_checkLength_df160_33 : decode cJ7_checkLength_df160 33 = .ok (.invokespecial 65, 3) := by decide +kernel
theorem dJ7_checkLength_df160_36 : decode cJ7_checkLength_df160 36 = .ok (.athrow, 1) := by decide +kernel
theorem dJ7_checkLength_df160_37 : decode cJ7_checkLength_df160 37 = .ok (.return_, 1) := by decide +kernel
theorem dJ7_copyOfRange_39247_0 : decode cJ7_copyOfRange_39247 0 = .ok (.iload_n 1, 1) := by decide +kernel
theorem dJ7_copyOfRange_39247_1 : decode cJ7_copyOfRange_39247 1 = .ok (.ifCond .ne 9, 3) := by decide +kernel
theorem dJ7_copyOfRange_39247_4 : decode cJ7_copyOfRange_39247 4 = .ok (.iload_n 2, 1) := by decide +kernel
theorem dJ7_copyOfRange_39247_5 : decode cJ7_copyOfRange_39247 5 = .ok (.aload_n 0, 1) := by decide +kernel
theorem dJ7_copyOfRange_39247_6 : decode cJ7_copyOfRange_39247 6 = .ok (.arraylength, 1) := by decide +kernel
theorem dJ7_copyOfRange_39247_7 : decode cJ7_copyOfRange_39247 7 = .ok (.if_icmp .eq 10, 3) := by decide +kernel
theorem dJ7_copyOfRange_39247_10 : decode cJ7_copyOfRange_39247 10 = .ok (.aload_n 0, 1) := by decide +kernel
theorem dJ7_copyOfRange_39247_11 : decode cJ7_copyOfRange_39247 11 = .ok (.iload_n 1, 1) := by decide +kernel
theorem dJ7_copyOfRange_39247_12 : decode cJ7_copyOfRange_39247 12 = .ok (.iload_n 2, 1) := by decide +kernel
theorem dJ7_copyOfRange_39247_13 : decode cJ7_copyOfRange_39247 13 = .ok (.invokestatic 339, 3) := by decide +kernel
theorem dJ7_copyOfRange_39247_16 : decode cJ7_copyOfRange_39247 16 = .ok (.areturn, 1) := by decide +kernel
theorem dJ7_copyOfRange_39247_17 : decode cJ7_copyOfRange_39247 17 = .ok (.aload_n 0, 1) := by decide +kernel
theorem dJ7_copyOfRange_39247_18 : decode cJ7_copyOfRange_39247 18 = .ok (.invokevirtual 310, 3) := by decide +kernel
theorem dJ7_copyOfRange_39247_21 : decode cJ7_copyOfRange_39247 21 = .ok (.checkcast 311, 3) := by decide +kernel
theorem dJ7_copyOfRange_39247_24 : decode cJ7_copyOfRange_39247 24 = .ok (.areturn, 1) := by decide +kernel
theorem dJ7_copyOfRangeByte_39247_0 : decode cJ7_copyOfRangeByte_39247 0 = .ok (.iload_n 1, 1) := by decide +kernel
theorem dJ7_copyOfRangeByte_39247_1 : decode cJ7_copyOfRangeByte_39247 1 = .ok (.iload_n 2, 1) := by decide +kernel
theorem dJ7_copyOfRangeByte_39247_2 : decode cJ7_copyOfRangeByte_39247 2 = .ok (.invokestatic 343, 3) := by decide +kernel
theorem dJ7_copyOfRangeByte_39247_5 : decode cJ7_copyOfRangeByte_39247 5 = .ok (.iload_n 2, 1) := by decide +kernel
theorem dJ7_copyOfRangeByte_39247_6 : decode cJ7_copyOfRangeByte_39247 6 = .ok (.iload_n 1, 1) := by decide +kernel
theorem dJ7_copyOfRangeByte_39247_7 : decode cJ7_copyOfRangeByte_39247 7 = .ok (.isub, 1) := by decide +kernel
theorem dJ7_copyOfRangeByte_39247_8 : decode cJ7_copyOfRangeByte_39247 8 = .ok (.istore_n 3, 1) := by decide +kernel
theorem dJ7_copyOfRangeByte_39247_9 : decode cJ7_copyOfRangeByte_39247 9 = .ok (.iload_n 3, 1) := by decide +kernel
theorem dJ7_copyOfRangeByte_39247_10 : decode cJ7_copyOfRangeByte_39247 10 = .ok (.newarray .byte, 2) := by decide +kernel
theorem dJ7_copyOfRangeByte_39247_12 : decode cJ7_copyOfRangeByte_39247 12 = .ok (.astore 4, 2) := by decide +kernel
theorem dJ7_copyOfRangeByte_39247_14 : decode cJ7_copyOfRangeByte_39247 14 = .ok (.aload_n 0, 1) := by decide +kernel
theorem dJ7_copyOfRangeByte_39247_15 : decode cJ7_copyOfRangeByte_39247 15 = .ok (.iload_n 1, 1) := by decide +kernel
theorem dJ7_copyOfRangeByte_39247_16 : decode cJ7_copyOfRangeByte_39247 16 = .ok (.aload 4, 2) := by decide +kernel
theorem dJ7_copyOfRangeByte_39247_18 : decode cJ7_copyOfRangeByte_39247 18 = .ok (.iconst 0, 1) := by decide +kernel
theorem dJ7_copyOfRangeByte_39247_19 : decode cJ7_copyOfRangeByte_39247 19 = .ok (.aload_n 0, 1) := by decide +kernel
theorem dJ7_copyOfRangeByte_39247_20 : decode cJ7_copyOfRangeByte_39247 20 = .ok (.arraylength, 1) := by decide +kernel
theorem dJ7_copyOfRangeByte_39247_21 : decode cJ7_copyOfRangeByte_39247 21 = .ok (.iload_n 1, 1) := by decide +kernel
theorem dJ7_copyOfRangeByte_39247_22 : decode cJ7_copyOfRangeByte_39247 22 = .ok (.isub, 1) := by decide +kernel
theorem dJ7_copyOfRangeByte_39247_23 : decode cJ7_copyOfRangeByte_39247 23 = .ok (.iload_n 3, 1) := by decide +kernel
theorem dJ7_copyOfRangeByte_39247_24 : decode cJ7_copyOfRangeByte_39247 24 = .ok (.invokestatic 304, 3) := by decide +kernel
theorem dJ7_copyOfRangeByte_39247_27 : decode cJ7_copyOfRangeByte_39247 27 = .ok (.invokestatic 150, 3) := by decide +kernel
theorem dJ7_copyOfRangeByte_39247_30 : decode cJ7_copyOfRangeByte_39247 30 = .ok (.aload 4, 2) := by decide +kernel
theorem dJ7_copyOfRangeByte_39247_32 : decode cJ7_copyOfRangeByte_39247 32 = .ok (.areturn, 1) := by decide +kernel
theorem dJ3_checkIndex_8e157_0 : decode cJ3_checkIndex_8e157 0 = .ok (.iload_n 0, 1) := by decide +kernel
theorem dJ3_checkIndex_8e157_1 : decode cJ3_checkIndex_8e157 1 = .ok (.ifCond .lt 8, 3) := by decide +kernel
theorem dJ3_checkIndex_8e157_4 : decode cJ3_checkIndex_8e157 4 = .ok (.iload_n 0, 1) := by decide +kernel
theorem dJ3_checkIndex_8e157_5 : decode cJ3_checkIndex_8e157 5 = .ok (.iload_n 1, 1) := by decide +kernel
theorem dJ3_checkIndex_8e157_6 : decode cJ3_checkIndex_8e157 6 = .ok (.if_icmp .lt 10, 3) := by decide +kernel
theorem dJ3_checkIndex_8e157_9 : decode cJ3_checkIndex_8e157 9 = .ok (.aload_n 2, 1) := by decide +kernel
theorem dJ3_checkIndex_8e157_10 : decode cJ3_checkIndex_8e157 10 = .ok (.iload_n 0, 1) := by decide +kernel
theorem dJ3_checkIndex_8e157_11 : decode cJ3_checkIndex_8e157 11 = .ok (.iload_n 1, 1) := by decide +kernel
theorem dJ3_checkIndex_8e157_12 : decode cJ3_checkIndex_8e157 12 = .ok (.invokestatic 95, 3) := by decide +kernel
theorem dJ3_checkIndex_8e157_15 : decode cJ3_checkIndex_8e157 15 = .ok (.athrow, 1) := by decide +kernel
theorem dJ3_checkIndex_8e157_16 : decode cJ3_checkIndex_8e157 16 = .ok (.iload_n 0, 1) := by decide +kernel
theorem dJ3_checkIndex_8e157_17 : decode cJ3_checkIndex_8e157 17 = .ok (.ireturn, 1) := by decide +kernel
theorem dJ3_checkFromToIndex_8c36e_0 : decode cJ3_checkFromToIndex_8c36e 0 = .ok (.iload_n 0, 1) := by decide +kernel
theorem dJ3_checkFromToIndex_8c36e_1 : decode cJ3_checkFromToIndex_8c36e 1 = .ok (.ifCond .lt 13, 3) := by decide +kernel
theorem dJ3_checkFromToIndex_8c36e_4 : decode cJ3_checkFromToIndex_8c36e 4 = .ok (.iload_n 0, 1) := by decide +kernel
theorem dJ3_checkFromToIndex_8c36e_5 : decode cJ3_checkFromToIndex_8c36e 5 = .ok (.iload_n 1, 1) := by decide +kernel
theorem dJ3_checkFromToIndex_8c36e_6 : decode cJ3_checkFromToIndex_8c36e 6 = .ok (.if_icmp .gt 8, 3) := by decide +kernel
theorem dJ3_checkFromToIndex_8c36e_9 : decode cJ3_checkFromToIndex_8c36e 9 = .ok (.iload_n 1, 1) := by decide +kernel
theorem dJ3_checkFromToIndex_8c36e_10 : decode cJ3_checkFromToIndex_8c36e 10 = .ok (.iload_n 2, 1) := by decide +kernel
theorem dJ3_checkFromToIndex_8c36e_11 : decode cJ3_checkFromToIndex_8c36e 11 = .ok (.if_icmp .le 11, 3) := by decide +kernel
theorem dJ3_checkFromToIndex_8c36e_14 : decode cJ3_checkFromToIndex_8c36e 14 = .ok (.aload_n 3, 1) := by decide +kernel
theorem dJ3_checkFromToIndex_8c36e_15 : decode cJ3_checkFromToIndex_8c36e 15 = .ok (.iload_n 0, 1) := by decide +kernel
theorem dJ3_checkFromToIndex_8c36e_16 : decode cJ3_checkFromToIndex_8c36e 16 = .ok (.iload_n 1, 1) := by decide +kernel
theorem dJ3_checkFromToIndex_8c36e_17 : decode cJ3_checkFromToIndex_8c36e 17 = .ok (.iload_n 2, 1) := by decide +kernel
theorem dJ3_checkFromToIndex_8c36e_18 : decode cJ3_checkFromToIndex_8c36e 18 = .ok (.invokestatic 99, 3) := by decide +kernel
theorem dJ3_checkFromToIndex_8c36e_21 : decode cJ3_checkFromToIndex_8c36e 21 = .ok (.athrow, 1) := by decide +kernel
theorem dJ3_checkFromToIndex_8c36e_22 : decode cJ3_checkFromToIndex_8c36e 22 = .ok (.iload_n 0, 1) := by decide +kernel
theorem dJ3_checkFromToIndex_8c36e_23 : decode cJ3_checkFromToIndex_8c36e 23 = .ok (.ireturn, 1) := by decide +kernel
theorem dJ3_checkFromIndexSize_8c36e_0 : decode cJ3_checkFromIndexSize_8c36e 0 = .ok (.iload_n 2, 1) := by decide +kernel
theorem dJ3_checkFromIndexSize_8c36e_1 : decode cJ3_checkFromIndexSize_8c36e 1 = .ok (.iload_n 0, 1) := by decide +kernel
theorem dJ3_checkFromIndexSize_8c36e_2 : decode cJ3_checkFromIndexSize_8c36e 2 = .ok (.ior, 1) := by decide +kernel
theorem dJ3_checkFromIndexSize_8c36e_3 : decode cJ3_checkFromIndexSize_8c36e 3 = .ok (.iload_n 1, 1) := by decide +kernel
theorem dJ3_checkFromIndexSize_8c36e_4 : decode cJ3_checkFromIndexSize_8c36e 4 = .ok (.ior, 1) := by decide +kernel
theorem dJ3_checkFromIndexSize_8c36e_5 : decode cJ3_checkFromIndexSize_8c36e 5 = .ok (.ifCond .lt 10, 3) := by decide +kernel
theorem dJ3_checkFromIndexSize_8c36e_8 : decode cJ3_checkFromIndexSize_8c36e 8 = .ok (.iload_n 1, 1) := by decide +kernel
theorem dJ3_checkFromIndexSize_8c36e_9 : decode cJ3_checkFromIndexSize_8c36e 9 = .ok (.iload_n 2, 1) := by decide +kernel
theorem dJ3_checkFromIndexSize_8c36e_10 : decode cJ3_checkFromIndexSize_8c36e 10 = .ok (.iload_n 0, 1) := by decide +kernel
theorem dJ3_checkFromIndexSize_8c36e_11 : decode cJ3_checkFromIndexSize_8c36e 11 = .ok (.isub, 1) := by decide +kernel
theorem dJ3_checkFromIndexSize_8c36e_12 : decode cJ3_checkFromIndexSize_8c36e 12 = .ok (.if_icmp .le 11, 3) := by decide +kernel
theorem dJ3_checkFromIndexSize_8c36e_15 : decode cJ3_checkFromIndexSize_8c36e 15 = .ok (.aload_n 3, 1) := by decide +kernel
theorem dJ3_checkFromIndexSize_8c36e_16 : decode cJ3_checkFromIndexSize_8c36e 16 = .ok (.iload_n 0, 1) := by decide +kernel
theorem dJ3_checkFromIndexSize_8c36e_17 : decode cJ3_checkFromIndexSize_8c36e 17 = .ok (.iload_n 1, 1) := by decide +kernel
theorem dJ3_checkFromIndexSize_8c36e_18 : decode cJ3_checkFromIndexSize_8c36e 18 = .ok (.iload_n 2, 1) := by decide +kernel
theorem dJ3_checkFromIndexSize_8c36e_19 : decode cJ3_checkFromIndexSize_8c36e 19 = .ok (.invokestatic 103, 3) := by decide +kernel
theorem dJ3_checkFromIndexSize_8c36e_22 : decode cJ3_checkFromIndexSize_8c36e 22 = .ok (.athrow, 1) := by decide +kernel
theorem dJ3_checkFromIndexSize_8c36e_23 : decode cJ3_checkFromIndexSize_8c36e 23 = .ok (.iload_n 0, 1) := by decide +kernel
theorem dJ3_checkFromIndexSize_8c36e_24 : decode cJ3_checkFromIndexSize_8c36e 24 = .ok (.ireturn, 1) := by decide +kernel
end
section
theorem dL_law_0 : decode cL_law 0 = .ok (.new 7, 3) := by decide +kernel
theorem dL_law_3 : decode cL_law 3 = .ok (.dup, 1) := by decide +kernel
theorem dL_law_4 : decode cL_law 4 = .ok (.invokespecial 9, 3) := by decide +kernel
theorem dL_law_7 : decode cL_law 7 = .ok (.astore_n 1, 1) := by decide +kernel
theorem dL_law_8 : decode cL_law 8 = .ok (.new 10, 3) := by decide +kernel
theorem dL_law_11 : decode cL_law 11 = .ok (.dup, 1) := by decide +kernel
theorem dL_law_12 : decode cL_law 12 = .ok (.invokespecial 12, 3) := by decide +kernel
theorem dL_law_15 : decode cL_law 15 = .ok (.astore_n 2, 1) := by decide +kernel
theorem dL_law_16 : decode cL_law 16 = .ok (.iconst 0, 1) := by decide +kernel
theorem dL_law_17 : decode cL_law 17 = .ok (.istore_n 3, 1) := by decide +kernel
theorem dL_law_18 : decode cL_law 18 = .ok (.iload_n 3, 1) := by decide +kernel
theorem dL_law_19 : decode cL_law 19 = .ok (.aload_n 0, 1) := by decide +kernel
theorem dL_law_20 : decode cL_law 20 = .ok (.arraylength, 1) := by decide +kernel
theorem dL_law_21 : decode cL_law 21 = .ok (.bipush 6, 2) := by decide +kernel
theorem dL_law_23 : decode cL_law 23 = .ok (.isub, 1) := by decide +kernel
theorem dL_law_24 : decode cL_law 24 = .ok (.if_icmp .gt 326, 3) := by decide +kernel
theorem dL_law_27 : decode cL_law 27 = .ok (.aload_n 0, 1) := by decide +kernel
theorem dL_law_28 : decode cL_law 28 = .ok (.iload_n 3, 1) := by decide +kernel
theorem dL_law_29 : decode cL_law 29 = .ok (.iaload, 1) := by decide +kernel
theorem dL_law_30 : decode cL_law 30 = .ok (.bipush 7, 2) := by decide +kernel
theorem dL_law_32 : decode cL_law 32 = .ok (.iand, 1) := by decide +kernel
theorem dL_law_33 : decode cL_law 33 = .ok (.tableswitch 311 0 7 #[47, 110, 143, 176, 189, 222, 255, 288], 47) := by decide +kernel
theorem dL_law_80 : decode cL_law 80 = .ok (.aload_n 1, 1) := by decide +kernel
theorem dL_law_81 : decode cL_law 81 = .ok (.aload_n 0, 1) := by decide +kernel
theorem dL_law_82 : decode cL_law 82 = .ok (.iload_n 3, 1) := by decide +kernel
theorem dL_law_83 : decode cL_law 83 = .ok (.iconst 1, 1) := by decide +kernel
theorem dL_law_84 : decode cL_law 84 = .ok (.iadd, 1) := by decide +kernel
theorem dL_law_85 : decode cL_law 85 = .ok (.iaload, 1) := by decide +kernel
theorem dL_law_86 : decode cL_law 86 = .ok (.aload_n 0, 1) := by decide +kernel
theorem dL_law_87 : decode cL_law 87 = .ok (.iload_n 3, 1) := by decide +kernel
theorem dL_law_88 : decode cL_law 88 = .ok (.iconst 2, 1) := by decide +kernel
theorem dL_law_89 : decode cL_law 89 = .ok (.iadd, 1) := by decide +kernel
theorem dL_law_90 : decode cL_law 90 = .ok (.iaload, 1) := by decide +kernel
theorem dL_law_91 : decode cL_law 91 = .ok (.aload_n 0, 1) := by decide +kernel
theorem dL_law_92 : decode cL_law 92 = .ok (.iload_n 3, 1) := by decide +kernel
theorem dL_law_93 : decode cL_law 93 = .ok (.iconst 3, 1) := by decide +kernel
theorem dL_law_94 : decode cL_law 94 = .ok (.iadd, 1) := by decide +kernel
theorem dL_law_95 : decode cL_law 95 = .ok (.iaload, 1) := by decide +kernel
theorem dL_law_96 : decode cL_law 96 = .ok (.aload_n 0, 1) := by decide +kernel
theorem dL_law_97 : decode cL_law 97 = .ok (.iload_n 3, 1) := by decide +kernel
theorem dL_law_98 : decode cL_law 98 = .ok (.iconst 4, 1) := by decide +kernel
theorem dL_law_99 : decode cL_law 99 = .ok (.iadd, 1) := by decide +kernel
theorem dL_law_100 : decode cL_law 100 = .ok (.iaload, 1) := by decide +kernel
theorem dL_law_101 : decode cL_law 101 = .ok (.aload_n 0, 1) := by decide +kernel
theorem dL_law_102 : decode cL_law 102 = .ok (.iload_n 3, 1) := by decide +kernel
theorem dL_law_103 : decode cL_law 103 = .ok (.iconst 5, 1) := by decide +kernel
theorem dL_law_104 : decode cL_law 104 = .ok (.iadd, 1) := by decide +kernel
theorem dL_law_105 : decode cL_law 105 = .ok (.iaload, 1) := by decide +kernel
theorem dL_law_106 : decode cL_law 106 = .ok (.invokevirtual 13, 3) := by decide +kernel
theorem dL_law_109 : decode cL_law 109 = .ok (.aload_n 2, 1) := by decide +kernel
theorem dL_law_110 : decode cL_law 110 = .ok (.aload_n 0, 1) := by decide +kernel
theorem dL_law_111 : decode cL_law 111 = .ok (.iload_n 3, 1) := by decide +kernel
theorem dL_law_112 : decode cL_law 112 = .ok (.iconst 1, 1) := by decide +kernel
theorem dL_law_113 : decode cL_law 113 = .ok (.iadd, 1) := by decide +kernel
theorem dL_law_114 : decode cL_law 114 = .ok (.iaload, 1) := by decide +kernel
theorem dL_law_115 : decode cL_law 115 = .ok (.aload_n 0, 1) := by decide +kernel
theorem dL_law_116 : decode cL_law 116 = .ok (.iload_n 3, 1) := by decide +kernel
theorem dL_law_117 : decode cL_law 117 = .ok (.iconst 2, 1) := by decide +kernel
theorem dL_law_118 : decode cL_law 118 = .ok (.iadd, 1) := by decide +kernel
theorem dL_law_119 : decode cL_law 119 = .ok (.iaload, 1) := by decide +kernel
theorem dL_law_120 : decode cL_law 120 = .ok (.aload_n 0, 1) := by decide +kernel
theorem dL_law_121 : decode cL_law 121 = .ok (.iload_n 3, 1) := by decide +kernel
theorem dL_law_122 : decode cL_law 122 = .ok (.iconst 3, 1) := by decide +kernel
theorem dL_law_123 : decode cL_law 123 = .ok (.iadd, 1) := by decide +kernel
theorem dL_law_124 : decode cL_law 124 = .ok (.iaload, 1) := by decide +kernel
theorem dL_law_125 : decode cL_law 125 = .ok (.aload_n 0, 1) := by decide +kernel
theorem dL_law_126 : decode cL_law 126 = .ok (.iload_n 3, 1) := by decide +kernel
theorem dL_law_127 : decode cL_law 127 = .ok (.iconst 4, 1) := by decide +kernel
theorem dL_law_128 : decode cL_law 128 = .ok (.iadd, 1) := by decide +kernel
theorem dL_law_129 : decode cL_law 129 = .ok (.iaload, 1) := by decide +kernel
theorem dL_law_130 : decode cL_law 130 = .ok (.aload_n 0, 1) := by decide +kernel
theorem dL_law_131 : decode cL_law 131 = .ok (.iload_n 3, 1) := by decide +kernel
theorem dL_law_132 : decode cL_law 132 = .ok (.iconst 5, 1) := by decide +kernel
theorem dL_law_133 : decode cL_law 133 = .ok (.iadd, 1) := by decide +kernel
theorem dL_law_134 : decode cL_law 134 = .ok (.iaload, 1) := by decide +kernel
theorem dL_law_135 : decode cL_law 135 = .ok (.invokevirtual 17, 3) := by decide +kernel
theorem dL_law_138 : decode cL_law 138 = .ok (.if_icmp .eq 206, 3) := by decide +kernel
theorem dL_law_141 : decode cL_law 141 = .ok (.iconst 0, 1) := by decide +kernel
theorem dL_law_142 : decode cL_law 142 = .ok (.ireturn, 1) := by decide +kernel
theorem dL_law_143 : decode cL_law 143 = .ok (.aload_n 1, 1) := by decide +kernel
theorem dL_law_144 : decode cL_law 144 = .ok (.aload_n 0, 1) := by decide +kernel
theorem dL_law_145 : decode cL_law 145 = .ok (.iload_n 3, 1) := by decide +kernel
theorem dL_law_146 : decode cL_law 146 = .ok (.iconst 1, 1) := by decide +kernel
theorem dL_law_147 : decode cL_law 147 = .ok (.iadd, 1) := by decide +kernel
theorem dL_law_148 : decode cL_law 148 = .ok (.iaload, 1) := by decide +kernel
theorem dL_law_149 : decode cL_law 149 = .ok (.aload_n 0, 1) := by decide +kernel
theorem dL_law_150 : decode cL_law 150 = .ok (.iload_n 3, 1) := by decide +kernel
theorem dL_law_151 : decode cL_law 151 = .ok (.iconst 2, 1) := by decide +kernel
theorem dL_law_152 : decode cL_law 152 = .ok (.iadd, 1) := by decide +kernel
theorem dL_law_153 : decode cL_law 153 = .ok (.iaload, 1) := by decide +kernel
theorem dL_law_154 : decode cL_law 154 = .ok (.invokevirtual 18, 3) := by decide +kernel
theorem dL_law_157 : decode cL_law 157 = .ok (.aload_n 2, 1) := by decide +kernel
theorem dL_law_158 : decode cL_law 158 = .ok (.aload_n 0, 1) := by decide +kernel
theorem dL_law_159 : decode cL_law 159 = .ok (.iload_n 3, 1) := by decide +kernel
theorem dL_law_160 : decode cL_law 160 = .ok (.iconst 1, 1) := by decide +kernel
theorem dL_law_161 : decode cL_law 161 = .ok (.iadd, 1) := by decide +kernel
theorem dL_law_162 : decode cL_law 162 = .ok (.iaload, 1) := by decide +kernel
theorem dL_law_163 : decode cL_law 163 = .ok (.aload_n 0, 1) := by decide +kernel
theorem dL_law_164 : decode cL_law 164 = .ok (.iload_n 3, 1) := by decide +kernel
theorem dL_law_165 : decode cL_law 165 = .ok (.iconst 2, 1) := by decide +kernel
theorem dL_law_166 : decode cL_law 166 = .ok (.iadd, 1) := by decide +kernel
theorem dL_law_167 : decode cL_law 167 = .ok (.iaload, 1) := by decide +kernel
theorem dL_law_168 : decode cL_law 168 = .ok (.invokevirtual 22, 3) := by decide +kernel
theorem dL_law_171 : decode cL_law 171 = .ok (.if_icmp .eq 173, 3) := by decide +kernel
theorem dL_law_174 : decode cL_law 174 = .ok (.iconst 0, 1) := by decide +kernel
theorem dL_law_175 : decode cL_law 175 = .ok (.ireturn, 1) := by decide +kernel
theorem dL_law_176 : decode cL_law 176 = .ok (.aload_n 1, 1) := by decide +kernel
theorem dL_law_177 : decode cL_law 177 = .ok (.aload_n 0, 1) := by decide +kernel
theorem dL_law_178 : decode cL_law 178 = .ok (.iload_n 3, 1) := by decide +kernel
theorem dL_law_179 : decode cL_law 179 = .ok (.iconst 1, 1) := by decide +kernel
theorem dL_law_180 : decode cL_law 180 = .ok (.iadd, 1) := by decide +kernel
theorem dL_law_181 : decode cL_law 181 = .ok (.iaload, 1) := by decide +kernel
theorem dL_law_182 : decode cL_law 182 = .ok (.aload_n 0, 1) := by decide +kernel
theorem dL_law_183 : decode cL_law 183 = .ok (.iload_n 3, 1) := by decide +kernel
theorem dL_law_184 : decode cL_law 184 = .ok (.iconst 2, 1) := by decide +kernel
theorem dL_law_185 : decode cL_law 185 = .ok (.iadd, 1) := by decide +kernel
theorem dL_law_186 : decode cL_law 186 = .ok (.iaload, 1) := by decide +kernel
theorem dL_law_187 : decode cL_law 187 = .ok (.invokevirtual 23, 3) := by decide +kernel
theorem dL_law_190 : decode cL_law 190 = .ok (.aload_n 2, 1) := by decide +kernel
theorem dL_law_191 : decode cL_law 191 = .ok (.aload_n 0, 1) := by decide +kernel
theorem dL_law_192 : decode cL_law 192 = .ok (.iload_n 3, 1) := by decide +kernel
theorem dL_law_193 : decode cL_law 193 = .ok (.iconst 1, 1) := by decide +kernel
theorem dL_law_194 : decode cL_law 194 = .ok (.iadd, 1) := by decide +kernel
theorem dL_law_195 : decode cL_law 195 = .ok (.iaload, 1) := by decide +kernel
theorem dL_law_196 : decode cL_law 196 = .ok (.aload_n 0, 1) := by decide +kernel
theorem dL_law_197 : decode cL_law 197 = .ok (.iload_n 3, 1) := by decide +kernel
theorem dL_law_198 : decode cL_law 198 = .ok (.iconst 2, 1) := by decide +kernel
theorem dL_law_199 : decode cL_law 199 = .ok (.iadd, 1) := by decide +kernel
theorem dL_law_200 : decode cL_law 200 = .ok (.iaload, 1) := by decide +kernel
theorem dL_law_201 : decode cL_law 201 = .ok (.invokevirtual 26, 3) := by decide +kernel
theorem dL_law_204 : decode cL_law 204 = .ok (.if_icmp .eq 140, 3) := by decide +kernel
theorem dL_law_207 : decode cL_law 207 = .ok (.iconst 0, 1) := by decide +kernel
theorem dL_law_208 : decode cL_law 208 = .ok (.ireturn, 1) := by decide +kernel
theorem dL_law_209 : decode cL_law 209 = .ok (.aload_n 1, 1) := by decide +kernel
theorem dL_law_210 : decode cL_law 210 = .ok (.invokevirtual 27, 3) := by decide +kernel
theorem dL_law_213 : decode cL_law 213 = .ok (.aload_n 2, 1) := by decide +kernel
theorem dL_law_214 : decode cL_law 214 = .ok (.invokevirtual 31, 3) := by decide +kernel
theorem dL_law_217 : decode cL_law 217 = .ok (.if_icmp .eq 127, 3) := by decide +kernel
theorem dL_law_220 : decode cL_law 220 = .ok (.iconst 0, 1) := by decide +kernel
theorem dL_law_221 : decode cL_law 221 = .ok (.ireturn, 1) := by decide +kernel
theorem dL_law_222 : decode cL_law 222 = .ok (.aload_n 1, 1) := by decide +kernel
theorem dL_law_223 : decode cL_law 223 = .ok (.aload_n 0, 1) := by decide +kernel
theorem dL_law_224 : decode cL_law 224 = .ok (.iload_n 3, 1) := by decide +kernel
theorem dL_law_225 : decode cL_law 225 = .ok (.iconst 1, 1) := by decide +kernel
theorem dL_law_226 : decode cL_law 226 = .ok (.iadd, 1) := by decide +kernel
theorem dL_law_227 : decode cL_law 227 = .ok (.iaload, 1) := by decide +kernel
theorem dL_law_228 : decode cL_law 228 = .ok (.aload_n 0, 1) := by decide +kernel
theorem dL_law_229 : decode cL_law 229 = .ok (.iload_n 3, 1) := by decide +kernel
theorem dL_law_230 : decode cL_law 230 = .ok (.iconst 2, 1) := by decide +kernel
theorem dL_law_231 : decode cL_law 231 = .ok (.iadd, 1) := by decide +kernel
theorem dL_law_232 : decode cL_law 232 = .ok (.iaload, 1) := by decide +kernel
theorem dL_law_233 : decode cL_law 233 = .ok (.invokevirtual 32, 3) := by decide +kernel
theorem dL_law_236 : decode cL_law 236 = .ok (.aload_n 2, 1) := by decide +kernel
theorem dL_law_237 : decode cL_law 237 = .ok (.aload_n 0, 1) := by decide +kernel
theorem dL_law_238 : decode cL_law 238 = .ok (.iload_n 3, 1) := by decide +kernel
theorem dL_law_239 : decode cL_law 239 = .ok (.iconst 1, 1) := by decide +kernel
theorem dL_law_240 : decode cL_law 240 = .ok (.iadd, 1) := by decide +kernel
theorem dL_law_241 : decode cL_law 241 = .ok (.iaload, 1) := by decide +kernel
theorem dL_law_242 : decode cL_law 242 = .ok (.aload_n 0, 1) := by decide +kernel
theorem dL_law_243 : decode cL_law 243 = .ok (.iload_n 3, 1) := by decide +kernel
theorem dL_law_244 : decode cL_law 244 = .ok (.iconst 2, 1) := by decide +kernel
theorem dL_law_245 : decode cL_law 245 = .ok (.iadd, 1) := by decide +kernel
theorem dL_law_246 : decode cL_law 246 = .ok (.iaload, 1) := by decide +kernel
theorem dL_law_247 : decode cL_law 247 = .ok (.invokevirtual 35, 3) := by decide +kernel
theorem dL_law_250 : decode cL_law 250 = .ok (.if_icmp .eq 94, 3) := by decide +kernel
theorem dL_law_253 : decode cL_law 253 = .ok (.iconst 0, 1) := by decide +kernel
theorem dL_law_254 : decode cL_law 254 = .ok (.ireturn, 1) := by decide +kernel
theorem dL_law_255 : decode cL_law 255 = .ok (.aload_n 1, 1) := by decide +kernel
theorem dL_law_256 : decode cL_law 256 = .ok (.aload_n 0, 1) := by decide +kernel
theorem dL_law_257 : decode cL_law 257 = .ok (.iload_n 3, 1) := by decide +kernel
theorem dL_law_258 : decode cL_law 258 = .ok (.iconst 1, 1) := by decide +kernel
theorem dL_law_259 : decode cL_law 259 = .ok (.iadd, 1) := by decide +kernel
theorem dL_law_260 : decode cL_law 260 = .ok (.iaload, 1) := by decide +kernel
theorem dL_law_261 : decode cL_law 261 = .ok (.aload_n 0, 1) := by decide +kernel
theorem dL_law_262 : decode cL_law 262 = .ok (.iload_n 3, 1) := by decide +kernel
theorem dL_law_263 : decode cL_law 263 = .ok (.iconst 2, 1) := by decide +kernel
theorem dL_law_264 : decode cL_law 264 = .ok (.iadd, 1) := by decide +kernel
theorem dL_law_265 : decode cL_law 265 = .ok (.iaload, 1) := by decide +kernel
theorem dL_law_266 : decode cL_law 266 = .ok (.invokevirtual 36, 3) := by decide +kernel
theorem dL_law_269 : decode cL_law 269 = .ok (.aload_n 2, 1) := by decide +kernel
theorem dL_law_270 : decode cL_law 270 = .ok (.aload_n 0, 1) := by decide +kernel
theorem dL_law_271 : decode cL_law 271 = .ok (.iload_n 3, 1) := by decide +kernel
theorem dL_law_272 : decode cL_law 272 = .ok (.iconst 1, 1) := by decide +kernel
theorem dL_law_273 : decode cL_law 273 = .ok (.iadd, 1) := by decide +kernel
theorem dL_law_274 : decode cL_law 274 = .ok (.iaload, 1) := by decide +kernel
theorem dL_law_275 : decode cL_law 275 = .ok (.aload_n 0, 1) := by decide +kernel
theorem dL_law_276 : decode cL_law 276 = .ok (.iload_n 3, 1) := by decide +kernel
theorem dL_law_277 : decode cL_law 277 = .ok (.iconst 2, 1) := by decide +kernel
theorem dL_law_278 : decode cL_law 278 = .ok (.iadd, 1) := by decide +kernel
theorem dL_law_279 : decode cL_law 279 = .ok (.iaload, 1) := by decide +kernel
theorem dL_law_280 : decode cL_law 280 = .ok (.invokevirtual 39, 3) := by decide +kernel
theorem dL_law_283 : decode cL_law 283 = .ok (.if_icmp .eq 61, 3) := by decide +kernel
theorem dL_law_286 : decode cL_law 286 = .ok (.iconst 0, 1) := by decide +kernel
theorem dL_law_287 : decode cL_law 287 = .ok (.ireturn, 1) := by decide +kernel
theorem dL_law_288 : decode cL_law 288 = .ok (.aload_n 1, 1) := by decide +kernel
theorem dL_law_289 : decode cL_law 289 = .ok (.aload_n 0, 1) := by decide +kernel
theorem dL_law_290 : decode cL_law 290 = .ok (.iload_n 3, 1) := by decide +kernel
theorem dL_law_291 : decode cL_law 291 = .ok (.iconst 1, 1) := by decide +kernel
theorem dL_law_292 : decode cL_law 292 = .ok (.iadd, 1) := by decide +kernel
theorem dL_law_293 : decode cL_law 293 = .ok (.iaload, 1) := by decide +kernel
theorem dL_law_294 : decode cL_law 294 = .ok (.aload_n 0, 1) := by decide +kernel
theorem dL_law_295 : decode cL_law 295 = .ok (.iload_n 3, 1) := by decide +kernel
theorem dL_law_296 : decode cL_law 296 = .ok (.iconst 2, 1) := by decide +kernel
theorem dL_law_297 : decode cL_law 297 = .ok (.iadd, 1) := by decide +kernel
theorem dL_law_298 : decode cL_law 298 = .ok (.iaload, 1) := by decide +kernel
theorem dL_law_299 : decode cL_law 299 = .ok (.invokevirtual 40, 3) := by decide +kernel
theorem dL_law_302 : decode cL_law 302 = .ok (.aload_n 2, 1) := by decide +kernel
theorem dL_law_303 : decode cL_law 303 = .ok (.aload_n 0, 1) := by decide +kernel
theorem dL_law_304 : decode cL_law 304 = .ok (.iload_n 3, 1) := by decide +kernel
theorem dL_law_305 : decode cL_law 305 = .ok (.iconst 1, 1) := by decide +kernel
theorem dL_law_306 : decode cL_law 306 = .ok (.iadd, 1) := by decide +kernel
theorem dL_law_307 : decode cL_law 307 = .ok (.iaload, 1) := by decide +kernel
theorem dL_law_308 : decode cL_law 308 = .ok (.aload_n 0, 1) := by decide +kernel
theorem dL_law_309 : decode cL_law 309 = .ok (.iload_n 3, 1) := by decide +kernel
theorem dL_law_310 : decode cL_law 310 = .ok (.iconst 2, 1) := by decide +kernel
theorem dL_law_311 : decode cL_law 311 = .ok (.iadd, 1) := by decide +kernel
theorem dL_law_312 : decode cL_law 312 = .ok (.iaload, 1) := by decide +kernel
theorem dL_law_313 : decode cL_law 313 = .ok (.invokevirtual 43, 3) := by decide +kernel
theorem dL_law_316 : decode cL_law 316 = .ok (.if_icmp .eq 28, 3) := by decide +kernel
theorem dL_law_319 : decode cL_law 319 = .ok (.iconst 0, 1) := by decide +kernel
theorem dL_law_320 : decode cL_law 320 = .ok (.ireturn, 1) := by decide +kernel
theorem dL_law_321 : decode cL_law 321 = .ok (.aload_n 1, 1) := by decide +kernel
theorem dL_law_322 : decode cL_law 322 = .ok (.aload_n 0, 1) := by decide +kernel
theorem dL_law_323 : decode cL_law 323 = .ok (.iload_n 3, 1) := by decide +kernel
theorem dL_law_324 : decode cL_law 324 = .ok (.iconst 1, 1) := by decide +kernel
theorem dL_law_325 : decode cL_law 325 = .ok (.iadd, 1) := by decide +kernel
theorem dL_law_326 : decode cL_law 326 = .ok (.iaload, 1) := by decide +kernel
theorem dL_law_327 : decode cL_law 327 = .ok (.invokevirtual 44, 3) := by decide +kernel
theorem dL_law_330 : decode cL_law 330 = .ok (.aload_n 2, 1) := by decide +kernel
theorem dL_law_331 : decode cL_law 331 = .ok (.aload_n 0, 1) := by decide +kernel
theorem dL_law_332 : decode cL_law 332 = .ok (.iload_n 3, 1) := by decide +kernel
theorem dL_law_333 : decode cL_law 333 = .ok (.iconst 1, 1) := by decide +kernel
theorem dL_law_334 : decode cL_law 334 = .ok (.iadd, 1) := by decide +kernel
theorem dL_law_335 : decode cL_law 335 = .ok (.iaload, 1) := by decide +kernel
theorem dL_law_336 : decode cL_law 336 = .ok (.invokevirtual 48, 3) := by decide +kernel
theorem dL_law_339 : decode cL_law 339 = .ok (.if_icmp .eq 5, 3) := by decide +kernel
theorem dL_law_342 : decode cL_law 342 = .ok (.iconst 0, 1) := by decide +kernel
theorem dL_law_343 : decode cL_law 343 = .ok (.ireturn, 1) := by decide +kernel
theorem dL_law_344 : decode cL_law 344 = .ok (.iinc 3 6, 3) := by decide +kernel
theorem dL_law_347 : decode cL_law 347 = .ok (.goto (-329), 3) := by decide +kernel
theorem dL_law_350 : decode cL_law 350 = .ok (.iconst 1, 1) := by decide +kernel
theorem dL_law_351 : decode cL_law 351 = .ok (.ireturn, 1) := by decide +kernel
end
section
/-! ===== WORDS of the tables, by their places (laid by gen/words.py) ===== -/
def zW : List Cond := lw_tbl.filter goodWord
theorem zin (i : Nat) {w : Cond} (h : lw_tbl[i]? = some w) (hg : goodWord w = true) : w ∈ zW := List.mem_filter.mpr ⟨List.mem_of_getElem? h, hg⟩
def isNest : Cond → Bool
  | .fieldLinkNest .. => true
  | .methodLinkNest .. => true
  | _ => false
def zNest : List Cond := lw_tbl.filter isNest
theorem znin (i : Nat) {w : Cond} (h : lw_tbl[i]? = some w) (hg : isNest w = true) : w ∈ zNest := List.mem_filter.mpr ⟨List.mem_of_getElem? h, hg⟩
def zStr : List (String × Nat × String) := [("FilterReader$Matcher", 13, ""), ("FilterReader$Value", 7, ""), ("FilterReader", 31, ""), ("FilterReader$DocumentReader", 23, ""), ("java/lang/String", 7, ""), ("FilterReader$FilterMaker", 137, "$and"), ("FilterReader$FilterMaker", 139, "$or"), ("FilterReader$FilterMaker", 84, "$nor"), ("java/lang/StringLatin1", 151, ""), ("java/lang/StringUTF16", 295, ""), ("FilterReader$FilterMaker", 141, "$eq"), ("FilterReader$FilterMaker", 143, "$ne"), ("FilterReader$FilterMaker", 145, "$in"), ("FilterReader$FilterMaker", 147, "$nin"), ("FilterReader$FilterMaker", 149, "$exists"), ("FilterReader$FilterMaker", 151, "$size"), ("FilterReader$FilterMaker", 153, "$elem"), ("FilterReader$FilterMaker", 158, "$not"), ("FilterReader$FilterMaker", 163, "$lt"), ("FilterReader$FilterMaker", 165, "$gt"), ("FilterReader$FilterMaker", 167, "$lte"), ("FilterReader$FilterMaker", 169, "$gte")]
theorem zW_good {w : Cond} (h : w ∈ zW) : (w.onTables && w.keeps) = true ∨ ∃ ty, w = .arrayClass ty := good_of_word (List.mem_filter.mp h).2
theorem zgV {c0 : Cond} {own C : String} {idx n : Nat} {y : MethodName} {cc : ByteArray} {r : Option FieldType} (h1 : Cond.methodLink own idx y ∈ zW) (h : Cond.instanceMethod y ∈ zW ∧ Cond.selects C y y ∈ zW ∧ Cond.initialized C ∈ zW ∧ Cond.code y cc n r ∈ zW) : GoodIn (c0 :: zW) (wsV own idx C y (Cond.code y cc n r :: zW)) := by
  intro w hw
  have : w ∈ zW := by
    unfold wsV at hw
    simp only [List.cons_append, List.nil_append, List.mem_cons] at hw
    rcases hw with rfl | rfl | rfl | rfl | rfl | hw
    · exact h1
    · exact h.1
    · exact h.2.1
    · exact h.2.2.1
    · exact h.2.2.2
    · exact hw
  exact ⟨List.mem_cons_of_mem _ this, zW_good this⟩
theorem zgS {c0 : Cond} {own : String} {idx n : Nat} {y : MethodName} {cc : ByteArray} {r : Option FieldType} (h1 : Cond.methodLink own idx y ∈ zW) (h : Cond.static y ∈ zW ∧ Cond.initialized own ∈ zW ∧ Cond.code y cc n r ∈ zW) : GoodIn (c0 :: zW) (wsS own idx y (Cond.code y cc n r :: zW)) := by
  intro w hw
  have : w ∈ zW := by
    unfold wsS at hw
    simp only [List.cons_append, List.nil_append, List.mem_cons] at hw
    rcases hw with rfl | rfl | rfl | rfl | hw
    · exact h1
    · exact h.1
    · exact h.2.1
    · exact h.2.2
    · exact hw
  exact ⟨List.mem_cons_of_mem _ this, zW_good this⟩
theorem zgN {c0 : Cond} {n : Nat} {y : MethodName} {cc : ByteArray} {r : Option FieldType} (h : Cond.code y cc n r ∈ zW) : GoodIn (c0 :: zW) (Cond.code y cc n r :: zW) := by
  intro w hw
  have : w ∈ zW := by
    rcases List.mem_cons.mp hw with rfl | hw
    · exact h
    · exact hw
  exact ⟨List.mem_cons_of_mem _ this, zW_good this⟩
theorem we_X8_hasRoom : Cond.selects RX8 yX8_hasRoom yX8_hasRoom ∈ zW := zin 0 (by decide +kernel) (by decide +kernel)
theorem we_X8_put : Cond.selects RX8 yX8_put yX8_put ∈ zW := zin 1 (by decide +kernel) (by decide +kernel)
theorem we_X10_slotAt : Cond.selects RX10 yX10_slotAt yX10_slotAt ∈ zW := zin 2 (by decide +kernel) (by decide +kernel)
theorem we_X8_has : Cond.selects RX8 yX8_has yX8_has ∈ zW := zin 3 (by decide +kernel) (by decide +kernel)
theorem we_X10_takeDocument : Cond.selects RX10 yX10_takeDocument yX10_takeDocument ∈ zW := zin 4 (by decide +kernel) (by decide +kernel)
theorem we_X0_readWhole : Cond.selects RX0 yX0_readWhole yX0_readWhole ∈ zW := zin 5 (by decide +kernel) (by decide +kernel)
theorem we_X0_readParts : Cond.selects RX0 yX0_readParts yX0_readParts ∈ zW := zin 6 (by decide +kernel) (by decide +kernel)
theorem we_X0_readNumber : Cond.selects RX0 yX0_readNumber yX0_readNumber ∈ zW := zin 7 (by decide +kernel) (by decide +kernel)
theorem we_X8_byteAt : Cond.selects RX8 yX8_byteAt yX8_byteAt ∈ zW := zin 8 (by decide +kernel) (by decide +kernel)
theorem we_X0_readElement : Cond.selects RX0 yX0_readElement yX0_readElement ∈ zW := zin 9 (by decide +kernel) (by decide +kernel)
theorem we_X0_zeroFrom : Cond.selects RX0 yX0_zeroFrom yX0_zeroFrom ∈ zW := zin 10 (by decide +kernel) (by decide +kernel)
theorem we_X0_isRightUtf8 : Cond.selects RX0 yX0_isRightUtf8 yX0_isRightUtf8 ∈ zW := zin 11 (by decide +kernel) (by decide +kernel)
theorem we_X0_followers : Cond.selects RX0 yX0_followers yX0_followers ∈ zW := zin 12 (by decide +kernel) (by decide +kernel)
theorem we_X0_leadingBits : Cond.selects RX0 yX0_leadingBits yX0_leadingBits ∈ zW := zin 13 (by decide +kernel) (by decide +kernel)
theorem we_X0_leastCode : Cond.selects RX0 yX0_leastCode yX0_leastCode ∈ zW := zin 14 (by decide +kernel) (by decide +kernel)
theorem we_X0_isCharacter : Cond.selects RX0 yX0_isCharacter yX0_isCharacter ∈ zW := zin 15 (by decide +kernel) (by decide +kernel)
theorem we_X0_textOf : Cond.selects RX0 yX0_textOf yX0_textOf ∈ zW := zin 16 (by decide +kernel) (by decide +kernel)
theorem we_X0_readValue : Cond.selects RX0 yX0_readValue yX0_readValue ∈ zW := zin 17 (by decide +kernel) (by decide +kernel)
theorem we_X0_readTruth : Cond.selects RX0 yX0_readTruth yX0_readTruth ∈ zW := zin 18 (by decide +kernel) (by decide +kernel)
theorem we_X0_readWholeNumber : Cond.selects RX0 yX0_readWholeNumber yX0_readWholeNumber ∈ zW := zin 19 (by decide +kernel) (by decide +kernel)
theorem we_X0_readText : Cond.selects RX0 yX0_readText yX0_readText ∈ zW := zin 20 (by decide +kernel) (by decide +kernel)
theorem we_X0_mayFollow : Cond.selects RX0 yX0_mayFollow yX0_mayFollow ∈ zW := zin 21 (by decide +kernel) (by decide +kernel)
theorem we_X0_isDecimal : Cond.selects RX0 yX0_isDecimal yX0_isDecimal ∈ zW := zin 22 (by decide +kernel) (by decide +kernel)
theorem we_X9_named : Cond.selects RX9 yX9_named yX9_named ∈ zW := zin 23 (by decide +kernel) (by decide +kernel)
theorem we_X9_add : Cond.selects RX9 yX9_add yX9_add ∈ zW := zin 24 (by decide +kernel) (by decide +kernel)
theorem we_X8_clear : Cond.selects RX8 yX8_clear yX8_clear ∈ zW := zin 25 (by decide +kernel) (by decide +kernel)
theorem we_X10_filterAt : Cond.selects RX10 yX10_filterAt yX10_filterAt ∈ zW := zin 26 (by decide +kernel) (by decide +kernel)
theorem we_X2_make : Cond.selects RX2 yX2_make yX2_make ∈ zW := zin 27 (by decide +kernel) (by decide +kernel)
theorem we_X2_addClauses : Cond.selects RX2 yX2_addClauses yX2_addClauses ∈ zW := zin 28 (by decide +kernel) (by decide +kernel)
theorem we_X2_addJoin : Cond.selects RX2 yX2_addJoin yX2_addJoin ∈ zW := zin 29 (by decide +kernel) (by decide +kernel)
theorem we_X2_refuse : Cond.selects RX2 yX2_refuse yX2_refuse ∈ zW := zin 30 (by decide +kernel) (by decide +kernel)
theorem we_X2_mayCount : Cond.selects RX2 yX2_mayCount yX2_mayCount ∈ zW := zin 31 (by decide +kernel) (by decide +kernel)
theorem we_X6_add : Cond.selects RX6 yX6_add yX6_add ∈ zW := zin 32 (by decide +kernel) (by decide +kernel)
theorem we_X2_addJoined : Cond.selects RX2 yX2_addJoined yX2_addJoined ∈ zW := zin 33 (by decide +kernel) (by decide +kernel)
theorem we_X2_addPath : Cond.selects RX2 yX2_addPath yX2_addPath ∈ zW := zin 34 (by decide +kernel) (by decide +kernel)
theorem we_X9_isConditions : Cond.selects RX9 yX9_isConditions yX9_isConditions ∈ zW := zin 35 (by decide +kernel) (by decide +kernel)
theorem we_X2_addConditions : Cond.selects RX2 yX2_addConditions yX2_addConditions ∈ zW := zin 36 (by decide +kernel) (by decide +kernel)
theorem we_X2_addCondition : Cond.selects RX2 yX2_addCondition yX2_addCondition ∈ zW := zin 37 (by decide +kernel) (by decide +kernel)
theorem we_X4_firstFailing : Cond.selects RX4 yX4_firstFailing yX4_firstFailing ∈ zW := zin 38 (by decide +kernel) (by decide +kernel)
theorem we_X4_clauseHolds : Cond.selects RX4 yX4_clauseHolds yX4_clauseHolds ∈ zW := zin 39 (by decide +kernel) (by decide +kernel)
theorem we_X4_somePartIs : Cond.selects RX4 yX4_somePartIs yX4_somePartIs ∈ zW := zin 40 (by decide +kernel) (by decide +kernel)
theorem we_X4_conditionsHold : Cond.selects RX4 yX4_conditionsHold yX4_conditionsHold ∈ zW := zin 41 (by decide +kernel) (by decide +kernel)
theorem we_X4_conditionHolds : Cond.selects RX4 yX4_conditionHolds yX4_conditionHolds ∈ zW := zin 42 (by decide +kernel) (by decide +kernel)
theorem we_X4_tryLeaves : Cond.selects RX4 yX4_tryLeaves yX4_tryLeaves ∈ zW := zin 43 (by decide +kernel) (by decide +kernel)
theorem we_X4_tryLeaf : Cond.selects RX4 yX4_tryLeaf yX4_tryLeaf ∈ zW := zin 44 (by decide +kernel) (by decide +kernel)
theorem we_X4_passes : Cond.selects RX4 yX4_passes yX4_passes ∈ zW := zin 45 (by decide +kernel) (by decide +kernel)
theorem we_X4_passesSome : Cond.selects RX4 yX4_passesSome yX4_passesSome ∈ zW := zin 46 (by decide +kernel) (by decide +kernel)
theorem we_X4_passesWithItems : Cond.selects RX4 yX4_passesWithItems yX4_passesWithItems ∈ zW := zin 47 (by decide +kernel) (by decide +kernel)
theorem we_X4_compares : Cond.selects RX4 yX4_compares yX4_compares ∈ zW := zin 48 (by decide +kernel) (by decide +kernel)
theorem we_X4_hasItemFor : Cond.selects RX4 yX4_hasItemFor yX4_hasItemFor ∈ zW := zin 49 (by decide +kernel) (by decide +kernel)
theorem we_X4_tryLeavesOfRow : Cond.selects RX4 yX4_tryLeavesOfRow yX4_tryLeavesOfRow ∈ zW := zin 50 (by decide +kernel) (by decide +kernel)
theorem we_X11_put : Cond.selects RX11 yX11_put yX11_put ∈ zW := zin 51 (by decide +kernel) (by decide +kernel)
theorem we_X11_isDocument : Cond.selects RX11 yX11_isDocument yX11_isDocument ∈ zW := zin 52 (by decide +kernel) (by decide +kernel)
theorem we_X11_goOver : Cond.selects RX11 yX11_goOver yX11_goOver ∈ zW := zin 53 (by decide +kernel) (by decide +kernel)
theorem we_X11_opens : Cond.selects RX11 yX11_opens yX11_opens ∈ zW := zin 54 (by decide +kernel) (by decide +kernel)
theorem we_X11_stop : Cond.selects RX11 yX11_stop yX11_stop ∈ zW := zin 55 (by decide +kernel) (by decide +kernel)
theorem we_X11_low : Cond.selects RX11 yX11_low yX11_low ∈ zW := zin 56 (by decide +kernel) (by decide +kernel)
theorem we_X11_isKind : Cond.selects RX11 yX11_isKind yX11_isKind ∈ zW := zin 57 (by decide +kernel) (by decide +kernel)
theorem we_X11_element : Cond.selects RX11 yX11_element yX11_element ∈ zW := zin 58 (by decide +kernel) (by decide +kernel)
theorem we_X11_isName : Cond.selects RX11 yX11_isName yX11_isName ∈ zW := zin 59 (by decide +kernel) (by decide +kernel)
theorem we_X11_value : Cond.selects RX11 yX11_value yX11_value ∈ zW := zin 60 (by decide +kernel) (by decide +kernel)
theorem we_X11_text : Cond.selects RX11 yX11_text yX11_text ∈ zW := zin 61 (by decide +kernel) (by decide +kernel)
theorem we_X11_checkFilter : Cond.selects RX11 yX11_checkFilter yX11_checkFilter ∈ zW := zin 62 (by decide +kernel) (by decide +kernel)
theorem we_X11_firstOf : Cond.selects RX11 yX11_firstOf yX11_firstOf ∈ zW := zin 63 (by decide +kernel) (by decide +kernel)
theorem we_X11_isDollar : Cond.selects RX11 yX11_isDollar yX11_isDollar ∈ zW := zin 64 (by decide +kernel) (by decide +kernel)
theorem we_X11_checkJoin : Cond.selects RX11 yX11_checkJoin yX11_checkJoin ∈ zW := zin 65 (by decide +kernel) (by decide +kernel)
theorem we_X11_isJoin : Cond.selects RX11 yX11_isJoin yX11_isJoin ∈ zW := zin 66 (by decide +kernel) (by decide +kernel)
theorem we_X11_isAnd : Cond.selects RX11 yX11_isAnd yX11_isAnd ∈ zW := zin 67 (by decide +kernel) (by decide +kernel)
theorem we_X11_isNamed : Cond.selects RX11 yX11_isNamed yX11_isNamed ∈ zW := zin 68 (by decide +kernel) (by decide +kernel)
theorem we_X11_isOr : Cond.selects RX11 yX11_isOr yX11_isOr ∈ zW := zin 69 (by decide +kernel) (by decide +kernel)
theorem we_X11_isNor : Cond.selects RX11 yX11_isNor yX11_isNor ∈ zW := zin 70 (by decide +kernel) (by decide +kernel)
theorem we_X11_say : Cond.selects RX11 yX11_say yX11_say ∈ zW := zin 71 (by decide +kernel) (by decide +kernel)
theorem we_X11_valueOf : Cond.selects RX11 yX11_valueOf yX11_valueOf ∈ zW := zin 72 (by decide +kernel) (by decide +kernel)
theorem we_X11_nameEndOf : Cond.selects RX11 yX11_nameEndOf yX11_nameEndOf ∈ zW := zin 73 (by decide +kernel) (by decide +kernel)
theorem we_X11_count : Cond.selects RX11 yX11_count yX11_count ∈ zW := zin 74 (by decide +kernel) (by decide +kernel)
theorem we_X11_nextOf : Cond.selects RX11 yX11_nextOf yX11_nextOf ∈ zW := zin 75 (by decide +kernel) (by decide +kernel)
theorem we_X11_lengthOf : Cond.selects RX11 yX11_lengthOf yX11_lengthOf ∈ zW := zin 76 (by decide +kernel) (by decide +kernel)
theorem we_X11_whole : Cond.selects RX11 yX11_whole yX11_whole ∈ zW := zin 77 (by decide +kernel) (by decide +kernel)
theorem we_X11_checkPath : Cond.selects RX11 yX11_checkPath yX11_checkPath ∈ zW := zin 78 (by decide +kernel) (by decide +kernel)
theorem we_X11_stepsOf : Cond.selects RX11 yX11_stepsOf yX11_stepsOf ∈ zW := zin 79 (by decide +kernel) (by decide +kernel)
theorem we_X11_isConditions : Cond.selects RX11 yX11_isConditions yX11_isConditions ∈ zW := zin 80 (by decide +kernel) (by decide +kernel)
theorem we_X11_checkConditions : Cond.selects RX11 yX11_checkConditions yX11_checkConditions ∈ zW := zin 81 (by decide +kernel) (by decide +kernel)
theorem we_X11_condition : Cond.selects RX11 yX11_condition yX11_condition ∈ zW := zin 82 (by decide +kernel) (by decide +kernel)
theorem we_X11_isRight : Cond.selects RX11 yX11_isRight yX11_isRight ∈ zW := zin 83 (by decide +kernel) (by decide +kernel)
theorem we_X11_number : Cond.selects RX11 yX11_number yX11_number ∈ zW := zin 84 (by decide +kernel) (by decide +kernel)
theorem we_X11_asConditions : Cond.selects RX11 yX11_asConditions yX11_asConditions ∈ zW := zin 85 (by decide +kernel) (by decide +kernel)
theorem we_X11_countOf : Cond.selects RX11 yX11_countOf yX11_countOf ∈ zW := zin 86 (by decide +kernel) (by decide +kernel)
theorem we_X11_filterHolds : Cond.selects RX11 yX11_filterHolds yX11_filterHolds ∈ zW := zin 87 (by decide +kernel) (by decide +kernel)
theorem we_X11_elementHolds : Cond.selects RX11 yX11_elementHolds yX11_elementHolds ∈ zW := zin 88 (by decide +kernel) (by decide +kernel)
theorem we_X11_all : Cond.selects RX11 yX11_all yX11_all ∈ zW := zin 89 (by decide +kernel) (by decide +kernel)
theorem we_X11_holdsOne : Cond.selects RX11 yX11_holdsOne yX11_holdsOne ∈ zW := zin 90 (by decide +kernel) (by decide +kernel)
theorem we_X11_any : Cond.selects RX11 yX11_any yX11_any ∈ zW := zin 91 (by decide +kernel) (by decide +kernel)
theorem we_X11_some : Cond.selects RX11 yX11_some yX11_some ∈ zW := zin 92 (by decide +kernel) (by decide +kernel)
theorem we_X11_does : Cond.selects RX11 yX11_does yX11_does ∈ zW := zin 93 (by decide +kernel) (by decide +kernel)
theorem we_X11_isEqual : Cond.selects RX11 yX11_isEqual yX11_isEqual ∈ zW := zin 94 (by decide +kernel) (by decide +kernel)
theorem we_X11_order : Cond.selects RX11 yX11_order yX11_order ∈ zW := zin 95 (by decide +kernel) (by decide +kernel)
theorem we_X11_orderBytes : Cond.selects RX11 yX11_orderBytes yX11_orderBytes ∈ zW := zin 96 (by decide +kernel) (by decide +kernel)
theorem we_X11_orderBoxes : Cond.selects RX11 yX11_orderBoxes yX11_orderBoxes ∈ zW := zin 97 (by decide +kernel) (by decide +kernel)
theorem we_X11_isSo : Cond.selects RX11 yX11_isSo yX11_isSo ∈ zW := zin 98 (by decide +kernel) (by decide +kernel)
theorem we_X11_stands : Cond.selects RX11 yX11_stands yX11_stands ∈ zW := zin 99 (by decide +kernel) (by decide +kernel)
theorem we_X11_hasItem : Cond.selects RX11 yX11_hasItem yX11_hasItem ∈ zW := zin 100 (by decide +kernel) (by decide +kernel)
theorem we_X11_isStep : Cond.selects RX11 yX11_isStep yX11_isStep ∈ zW := zin 101 (by decide +kernel) (by decide +kernel)
theorem we_X11_nextStep : Cond.selects RX11 yX11_nextStep yX11_nextStep ∈ zW := zin 102 (by decide +kernel) (by decide +kernel)
theorem wi_L : Cond.initialized RL ∈ zW := zin 103 (by decide +kernel) (by decide +kernel)
theorem wi_X10 : Cond.initialized RX10 ∈ zW := zin 104 (by decide +kernel) (by decide +kernel)
theorem wi_X8 : Cond.initialized RX8 ∈ zW := zin 105 (by decide +kernel) (by decide +kernel)
theorem wi_X4 : Cond.initialized RX4 ∈ zW := zin 106 (by decide +kernel) (by decide +kernel)
theorem wi_X9 : Cond.initialized RX9 ∈ zW := zin 107 (by decide +kernel) (by decide +kernel)
theorem wi_X1 : Cond.initialized RX1 ∈ zW := zin 108 (by decide +kernel) (by decide +kernel)
theorem wi_X6 : Cond.initialized RX6 ∈ zW := zin 109 (by decide +kernel) (by decide +kernel)
theorem wi_X11 : Cond.initialized RX11 ∈ zW := zin 110 (by decide +kernel) (by decide +kernel)
theorem wi_X0 : Cond.initialized RX0 ∈ zW := zin 111 (by decide +kernel) (by decide +kernel)
theorem wi_J0 : Cond.initialized RJ0 ∈ zW := zin 112 (by decide +kernel) (by decide +kernel)
theorem wi_J2 : Cond.initialized RJ2 ∈ zW := zin 113 (by decide +kernel) (by decide +kernel)
theorem wi_J3 : Cond.initialized RJ3 ∈ zW := zin 114 (by decide +kernel) (by decide +kernel)
theorem wi_J1 : Cond.initialized RJ1 ∈ zW := zin 115 (by decide +kernel) (by decide +kernel)
theorem wi_X2 : Cond.initialized RX2 ∈ zW := zin 116 (by decide +kernel) (by decide +kernel)
theorem wi_X7 : Cond.initialized RX7 ∈ zW := zin 117 (by decide +kernel) (by decide +kernel)
theorem wi_J7 : Cond.initialized RJ7 ∈ zW := zin 118 (by decide +kernel) (by decide +kernel)
theorem wi_J9 : Cond.initialized RJ9 ∈ zW := zin 119 (by decide +kernel) (by decide +kernel)
theorem wi_J10 : Cond.initialized RJ10 ∈ zW := zin 120 (by decide +kernel) (by decide +kernel)
theorem wi_X3 : Cond.initialized RX3 ∈ zW := zin 121 (by decide +kernel) (by decide +kernel)
theorem wi_X5 : Cond.initialized RX5 ∈ zW := zin 122 (by decide +kernel) (by decide +kernel)
theorem wi_J6 : Cond.initialized RJ6 ∈ zW := zin 123 (by decide +kernel) (by decide +kernel)
theorem wi_J13 : Cond.initialized RJ13 ∈ zW := zin 124 (by decide +kernel) (by decide +kernel)
theorem wl_L_7 : Cond.classLink RL 7 "FilterReader" ∈ zW := zin 125 (by decide +kernel) (by decide +kernel)
theorem wa_X10 : Cond.instantiable RX10 5 ∈ zW := zin 126 (by decide +kernel) (by decide +kernel)
theorem wm_L_9 : Cond.methodLink RL 9 yX10_init ∈ zW := zin 127 (by decide +kernel) (by decide +kernel)
theorem wn_X10_init : Cond.instanceMethod yX10_init ∈ zW := zin 128 (by decide +kernel) (by decide +kernel)
abbrev wsX10_init : List Cond := Cond.code yX10_init cX10_init 2 none :: zW
theorem wc_X10_init : Cond.code yX10_init cX10_init 2 none ∈ zW := zin 129 (by decide +kernel) (by decide +kernel)
theorem wm_X10_1 : Cond.methodLink RX10 1 (⟨"java/lang/Object", "<init>", "()V"⟩ : MethodName) ∈ zW := zin 130 (by decide +kernel) (by decide +kernel)
theorem wl_X10_7 : Cond.classLink RX10 7 "FilterReader$Tape" ∈ zW := zin 133 (by decide +kernel) (by decide +kernel)
theorem wa_X8 : Cond.instantiable RX8 2 ∈ zW := zin 134 (by decide +kernel) (by decide +kernel)
theorem wm_X10_9 : Cond.methodLinkNest RX10 9 yX8_init "FilterReader" ∈ zNest := znin 135 (by decide +kernel) (by decide +kernel)
theorem wn_X8_init : Cond.instanceMethod yX8_init ∈ zW := zin 136 (by decide +kernel) (by decide +kernel)
abbrev wsX8_init : List Cond := Cond.code yX8_init cX8_init 1 none :: zW
theorem wc_X8_init : Cond.code yX8_init cX8_init 1 none ∈ zW := zin 137 (by decide +kernel) (by decide +kernel)
theorem wm_X8_3 : Cond.methodLink RX8 3 (⟨"java/lang/Object", "<init>", "()V"⟩ : MethodName) ∈ zW := zin 138 (by decide +kernel) (by decide +kernel)
theorem wf_X8_9 : Cond.fieldLink RX8 9 "FilterReader$Tape" "bytes" "[I" ∈ zW := zin 139 (by decide +kernel) (by decide +kernel)
theorem wf_X8_15 : Cond.fieldLink RX8 15 "FilterReader$Tape" "count" "I" ∈ zW := zin 140 (by decide +kernel) (by decide +kernel)
theorem wf_X10_57 : Cond.fieldLinkNest RX10 57 "FilterReader$Tape" "count" "I" "FilterReader" ∈ zNest := znin 141 (by decide +kernel) (by decide +kernel)
theorem wl_X10_16 : Cond.classLink RX10 16 "FilterReader$Matcher" ∈ zW := zin 148 (by decide +kernel) (by decide +kernel)
theorem wa_X4 : Cond.instantiable RX4 1 ∈ zW := zin 149 (by decide +kernel) (by decide +kernel)
theorem wm_X10_18 : Cond.methodLinkNest RX10 18 yX4_init "FilterReader" ∈ zNest := znin 150 (by decide +kernel) (by decide +kernel)
theorem wn_X4_init : Cond.instanceMethod yX4_init ∈ zW := zin 151 (by decide +kernel) (by decide +kernel)
abbrev wsX4_init : List Cond := Cond.code yX4_init cX4_init 1 none :: zW
theorem wc_X4_init : Cond.code yX4_init cX4_init 1 none ∈ zW := zin 152 (by decide +kernel) (by decide +kernel)
theorem wm_X4_3 : Cond.methodLink RX4 3 (⟨"java/lang/Object", "<init>", "()V"⟩ : MethodName) ∈ zW := zin 153 (by decide +kernel) (by decide +kernel)
theorem wl_X4_9 : Cond.classLink RX4 9 "FilterReader$Value" ∈ zW := zin 154 (by decide +kernel) (by decide +kernel)
theorem wa_X9 : Cond.instantiable RX9 9 ∈ zW := zin 155 (by decide +kernel) (by decide +kernel)
theorem wm_X4_15 : Cond.methodLinkNest RX4 15 yX9_init "FilterReader" ∈ zNest := znin 157 (by decide +kernel) (by decide +kernel)
theorem wn_X9_init : Cond.instanceMethod yX9_init ∈ zW := zin 158 (by decide +kernel) (by decide +kernel)
abbrev wsX9_init : List Cond := Cond.code yX9_init cX9_init 4 none :: zW
theorem wc_X9_init : Cond.code yX9_init cX9_init 4 none ∈ zW := zin 159 (by decide +kernel) (by decide +kernel)
theorem wm_X9_1 : Cond.methodLink RX9 1 (⟨"java/lang/Object", "<init>", "()V"⟩ : MethodName) ∈ zW := zin 160 (by decide +kernel) (by decide +kernel)
theorem wf_X9_15 : Cond.fieldLink RX9 15 "FilterReader$Value" "kind" "I" ∈ zW := zin 162 (by decide +kernel) (by decide +kernel)
theorem wf_X5_9 : Cond.fieldLinkNest RX5 9 "FilterReader$Value" "kind" "I" "FilterReader" ∈ zNest := znin 163 (by decide +kernel) (by decide +kernel)
theorem wf_X2_72 : Cond.fieldLinkNest RX2 72 "FilterReader$Value" "kind" "I" "FilterReader" ∈ zNest := znin 164 (by decide +kernel) (by decide +kernel)
theorem wf_X0_69 : Cond.fieldLinkNest RX0 69 "FilterReader$Value" "kind" "I" "FilterReader" ∈ zNest := znin 165 (by decide +kernel) (by decide +kernel)
theorem wf_X4_71 : Cond.fieldLinkNest RX4 71 "FilterReader$Value" "kind" "I" "FilterReader" ∈ zNest := znin 166 (by decide +kernel) (by decide +kernel)
theorem wf_X9_19 : Cond.fieldLink RX9 19 "FilterReader$Value" "place" "I" ∈ zW := zin 167 (by decide +kernel) (by decide +kernel)
theorem wf_X2_134 : Cond.fieldLinkNest RX2 134 "FilterReader$Value" "place" "I" "FilterReader" ∈ zNest := znin 168 (by decide +kernel) (by decide +kernel)
theorem wf_X9_22 : Cond.fieldLink RX9 22 "FilterReader$Value" "name" "Ljava/lang/String;" ∈ zW := zin 169 (by decide +kernel) (by decide +kernel)
theorem wf_X2_46 : Cond.fieldLinkNest RX2 46 "FilterReader$Value" "name" "Ljava/lang/String;" "FilterReader" ∈ zNest := znin 170 (by decide +kernel) (by decide +kernel)
theorem wf_X5_60 : Cond.fieldLinkNest RX5 60 "FilterReader$Value" "name" "Ljava/lang/String;" "FilterReader" ∈ zNest := znin 171 (by decide +kernel) (by decide +kernel)
theorem wf_X0_90 : Cond.fieldLinkNest RX0 90 "FilterReader$Value" "name" "Ljava/lang/String;" "FilterReader" ∈ zNest := znin 172 (by decide +kernel) (by decide +kernel)
theorem wf_X9_9 : Cond.fieldLink RX9 9 "FilterReader$Value" "text" "Ljava/lang/String;" ∈ zW := zin 173 (by decide +kernel) (by decide +kernel)
theorem wf_X5_36 : Cond.fieldLinkNest RX5 36 "FilterReader$Value" "text" "Ljava/lang/String;" "FilterReader" ∈ zNest := znin 174 (by decide +kernel) (by decide +kernel)
theorem wf_X0_86 : Cond.fieldLinkNest RX0 86 "FilterReader$Value" "text" "Ljava/lang/String;" "FilterReader" ∈ zNest := znin 175 (by decide +kernel) (by decide +kernel)
theorem wf_X5_27 : Cond.fieldLinkNest RX5 27 "FilterReader$Value" "number" "J" "FilterReader" ∈ zNest := znin 176 (by decide +kernel) (by decide +kernel)
theorem wf_X0_82 : Cond.fieldLinkNest RX0 82 "FilterReader$Value" "number" "J" "FilterReader" ∈ zNest := znin 177 (by decide +kernel) (by decide +kernel)
theorem wf_X4_112 : Cond.fieldLinkNest RX4 112 "FilterReader$Value" "number" "J" "FilterReader" ∈ zNest := znin 178 (by decide +kernel) (by decide +kernel)
theorem wf_X2_171 : Cond.fieldLinkNest RX2 171 "FilterReader$Value" "number" "J" "FilterReader" ∈ zNest := znin 179 (by decide +kernel) (by decide +kernel)
theorem wf_X9_29 : Cond.fieldLink RX9 29 "FilterReader$Value" "first" "LFilterReader$Value;" ∈ zW := zin 180 (by decide +kernel) (by decide +kernel)
theorem wf_X5_50 : Cond.fieldLinkNest RX5 50 "FilterReader$Value" "first" "LFilterReader$Value;" "FilterReader" ∈ zNest := znin 181 (by decide +kernel) (by decide +kernel)
theorem wf_X2_38 : Cond.fieldLinkNest RX2 38 "FilterReader$Value" "first" "LFilterReader$Value;" "FilterReader" ∈ zNest := znin 182 (by decide +kernel) (by decide +kernel)
theorem wf_X4_89 : Cond.fieldLinkNest RX4 89 "FilterReader$Value" "first" "LFilterReader$Value;" "FilterReader" ∈ zNest := znin 183 (by decide +kernel) (by decide +kernel)
theorem wf_X9_25 : Cond.fieldLink RX9 25 "FilterReader$Value" "last" "LFilterReader$Value;" ∈ zW := zin 184 (by decide +kernel) (by decide +kernel)
theorem wf_X9_32 : Cond.fieldLink RX9 32 "FilterReader$Value" "next" "LFilterReader$Value;" ∈ zW := zin 185 (by decide +kernel) (by decide +kernel)
theorem wf_X5_57 : Cond.fieldLinkNest RX5 57 "FilterReader$Value" "next" "LFilterReader$Value;" "FilterReader" ∈ zNest := znin 186 (by decide +kernel) (by decide +kernel)
theorem wf_X2_61 : Cond.fieldLinkNest RX2 61 "FilterReader$Value" "next" "LFilterReader$Value;" "FilterReader" ∈ zNest := znin 187 (by decide +kernel) (by decide +kernel)
theorem wf_X4_97 : Cond.fieldLinkNest RX4 97 "FilterReader$Value" "next" "LFilterReader$Value;" "FilterReader" ∈ zNest := znin 188 (by decide +kernel) (by decide +kernel)
theorem wf_X1_18 : Cond.fieldLinkNest RX1 18 "FilterReader$Value" "count" "I" "FilterReader" ∈ zNest := znin 189 (by decide +kernel) (by decide +kernel)
theorem wf_X9_35 : Cond.fieldLink RX9 35 "FilterReader$Value" "count" "I" ∈ zW := zin 190 (by decide +kernel) (by decide +kernel)
theorem wf_X2_77 : Cond.fieldLinkNest RX2 77 "FilterReader$Value" "count" "I" "FilterReader" ∈ zNest := znin 191 (by decide +kernel) (by decide +kernel)
theorem wf_X0_93 : Cond.fieldLinkNest RX0 93 "FilterReader$Value" "count" "I" "FilterReader" ∈ zNest := znin 192 (by decide +kernel) (by decide +kernel)
theorem wf_X4_109 : Cond.fieldLinkNest RX4 109 "FilterReader$Value" "count" "I" "FilterReader" ∈ zNest := znin 193 (by decide +kernel) (by decide +kernel)
theorem wf_X4_18 : Cond.fieldLink RX4 18 "FilterReader$Matcher" "missing" "LFilterReader$Value;" ∈ zW := zin 214 (by decide +kernel) (by decide +kernel)
theorem wl_X10_23 : Cond.classLink RX10 23 "FilterReader$Value" ∈ zW := zin 218 (by decide +kernel) (by decide +kernel)
theorem wm_X10_33 : Cond.methodLinkNest RX10 33 yX9_init "FilterReader" ∈ zNest := znin 221 (by decide +kernel) (by decide +kernel)
theorem wl_X10_36 : Cond.classLink RX10 36 "FilterReader$Filter" ∈ zW := zin 222 (by decide +kernel) (by decide +kernel)
theorem wa_X1 : Cond.instantiable RX1 2 ∈ zW := zin 224 (by decide +kernel) (by decide +kernel)
theorem wm_X10_42 : Cond.methodLinkNest RX10 42 yX1_init "FilterReader" ∈ zNest := znin 225 (by decide +kernel) (by decide +kernel)
theorem wn_X1_init : Cond.instanceMethod yX1_init ∈ zW := zin 226 (by decide +kernel) (by decide +kernel)
abbrev wsX1_init : List Cond := Cond.code yX1_init cX1_init 2 none :: zW
theorem wc_X1_init : Cond.code yX1_init cX1_init 2 none ∈ zW := zin 227 (by decide +kernel) (by decide +kernel)
theorem wm_X1_1 : Cond.methodLink RX1 1 (⟨"java/lang/Object", "<init>", "()V"⟩ : MethodName) ∈ zW := zin 228 (by decide +kernel) (by decide +kernel)
theorem wl_X1_7 : Cond.classLink RX1 7 "FilterReader$Rule" ∈ zW := zin 229 (by decide +kernel) (by decide +kernel)
theorem wa_X6 : Cond.instantiable RX6 7 ∈ zW := zin 230 (by decide +kernel) (by decide +kernel)
theorem wm_X1_9 : Cond.methodLinkNest RX1 9 yX6_init "FilterReader" ∈ zNest := znin 231 (by decide +kernel) (by decide +kernel)
theorem wn_X6_init : Cond.instanceMethod yX6_init ∈ zW := zin 232 (by decide +kernel) (by decide +kernel)
abbrev wsX6_init : List Cond := Cond.code yX6_init cX6_init 5 none :: zW
theorem wc_X6_init : Cond.code yX6_init cX6_init 5 none ∈ zW := zin 233 (by decide +kernel) (by decide +kernel)
theorem wm_X6_1 : Cond.methodLink RX6 1 (⟨"java/lang/Object", "<init>", "()V"⟩ : MethodName) ∈ zW := zin 234 (by decide +kernel) (by decide +kernel)
theorem wf_X6_7 : Cond.fieldLink RX6 7 "FilterReader$Rule" "sign" "I" ∈ zW := zin 235 (by decide +kernel) (by decide +kernel)
theorem wf_X4_37 : Cond.fieldLinkNest RX4 37 "FilterReader$Rule" "sign" "I" "FilterReader" ∈ zNest := znin 236 (by decide +kernel) (by decide +kernel)
theorem wf_X6_13 : Cond.fieldLink RX6 13 "FilterReader$Rule" "negated" "Z" ∈ zW := zin 237 (by decide +kernel) (by decide +kernel)
theorem wf_X4_45 : Cond.fieldLinkNest RX4 45 "FilterReader$Rule" "negated" "Z" "FilterReader" ∈ zNest := znin 238 (by decide +kernel) (by decide +kernel)
theorem wf_X6_17 : Cond.fieldLink RX6 17 "FilterReader$Rule" "value" "LFilterReader$Value;" ∈ zW := zin 239 (by decide +kernel) (by decide +kernel)
theorem wf_X2_32 : Cond.fieldLinkNest RX2 32 "FilterReader$Rule" "value" "LFilterReader$Value;" "FilterReader" ∈ zNest := znin 240 (by decide +kernel) (by decide +kernel)
theorem wf_X4_102 : Cond.fieldLinkNest RX4 102 "FilterReader$Rule" "value" "LFilterReader$Value;" "FilterReader" ∈ zNest := znin 241 (by decide +kernel) (by decide +kernel)
theorem wf_X6_21 : Cond.fieldLink RX6 21 "FilterReader$Rule" "path" "LFilterReader$Step;" ∈ zW := zin 242 (by decide +kernel) (by decide +kernel)
theorem wf_X4_49 : Cond.fieldLinkNest RX4 49 "FilterReader$Rule" "path" "LFilterReader$Step;" "FilterReader" ∈ zNest := znin 243 (by decide +kernel) (by decide +kernel)
theorem wf_X4_24 : Cond.fieldLinkNest RX4 24 "FilterReader$Rule" "first" "LFilterReader$Rule;" "FilterReader" ∈ zNest := znin 244 (by decide +kernel) (by decide +kernel)
theorem wf_X6_29 : Cond.fieldLink RX6 29 "FilterReader$Rule" "first" "LFilterReader$Rule;" ∈ zW := zin 245 (by decide +kernel) (by decide +kernel)
theorem wf_X6_25 : Cond.fieldLink RX6 25 "FilterReader$Rule" "last" "LFilterReader$Rule;" ∈ zW := zin 246 (by decide +kernel) (by decide +kernel)
theorem wf_X6_32 : Cond.fieldLink RX6 32 "FilterReader$Rule" "next" "LFilterReader$Rule;" ∈ zW := zin 247 (by decide +kernel) (by decide +kernel)
theorem wf_X4_34 : Cond.fieldLinkNest RX4 34 "FilterReader$Rule" "next" "LFilterReader$Rule;" "FilterReader" ∈ zNest := znin 248 (by decide +kernel) (by decide +kernel)
theorem wf_X1_12 : Cond.fieldLink RX1 12 "FilterReader$Filter" "clauses" "LFilterReader$Rule;" ∈ zW := zin 264 (by decide +kernel) (by decide +kernel)
theorem wf_X2_24 : Cond.fieldLinkNest RX2 24 "FilterReader$Filter" "clauses" "LFilterReader$Rule;" "FilterReader" ∈ zNest := znin 265 (by decide +kernel) (by decide +kernel)
theorem wf_X10_93 : Cond.fieldLinkNest RX10 93 "FilterReader$Filter" "clauses" "LFilterReader$Rule;" "FilterReader" ∈ zNest := znin 266 (by decide +kernel) (by decide +kernel)
theorem wf_X1_24 : Cond.fieldLink RX1 24 "FilterReader$Filter" "counts" "[I" ∈ zW := zin 267 (by decide +kernel) (by decide +kernel)
theorem wf_X10_89 : Cond.fieldLinkNest RX10 89 "FilterReader$Filter" "counts" "[I" "FilterReader" ∈ zNest := znin 268 (by decide +kernel) (by decide +kernel)
theorem wf_X2_112 : Cond.fieldLinkNest RX2 112 "FilterReader$Filter" "counts" "[I" "FilterReader" ∈ zNest := znin 269 (by decide +kernel) (by decide +kernel)
theorem wf_X10_10 : Cond.fieldLink RX10 10 "FilterReader" "tape" "LFilterReader$Tape;" ∈ zW := zin 275 (by decide +kernel) (by decide +kernel)
theorem wf_X10_19 : Cond.fieldLink RX10 19 "FilterReader" "matcher" "LFilterReader$Matcher;" ∈ zW := zin 276 (by decide +kernel) (by decide +kernel)
theorem wf_X10_25 : Cond.fieldLink RX10 25 "FilterReader" "slots" "[LFilterReader$Value;" ∈ zW := zin 277 (by decide +kernel) (by decide +kernel)
theorem wf_X10_38 : Cond.fieldLink RX10 38 "FilterReader" "filters" "[LFilterReader$Filter;" ∈ zW := zin 278 (by decide +kernel) (by decide +kernel)
theorem wf_X10_45 : Cond.fieldLink RX10 45 "FilterReader" "faultPlace" "I" ∈ zW := zin 279 (by decide +kernel) (by decide +kernel)
theorem wm_L_13 : Cond.methodLink RL 13 yX10_feed ∈ zW := zin 291 (by decide +kernel) (by decide +kernel)
theorem wn_X10_feed : Cond.instanceMethod yX10_feed ∈ zW := zin 292 (by decide +kernel) (by decide +kernel)
theorem we_X10_feed : Cond.selects RX10 yX10_feed yX10_feed ∈ zW := zin 293 (by decide +kernel) (by decide +kernel)
abbrev wsX10_feed : List Cond := Cond.code yX10_feed cX10_feed 6 (some FieldType.int) :: zW
theorem wc_X10_feed : Cond.code yX10_feed cX10_feed 6 (some FieldType.int) ∈ zW := zin 294 (by decide +kernel) (by decide +kernel)
theorem wm_X10_49 : Cond.methodLinkNest RX10 49 yX8_hasRoom "FilterReader" ∈ zNest := znin 295 (by decide +kernel) (by decide +kernel)
theorem wn_X8_hasRoom : Cond.instanceMethod yX8_hasRoom ∈ zW := zin 297 (by decide +kernel) (by decide +kernel)
abbrev wsX8_hasRoom : List Cond := Cond.code yX8_hasRoom cX8_hasRoom 1 (some FieldType.boolean) :: zW
theorem wc_X8_hasRoom : Cond.code yX8_hasRoom cX8_hasRoom 1 (some FieldType.boolean) ∈ zW := zin 298 (by decide +kernel) (by decide +kernel)
theorem wm_X10_53 : Cond.methodLinkNest RX10 53 yX8_put "FilterReader" ∈ zNest := znin 299 (by decide +kernel) (by decide +kernel)
theorem wn_X8_put : Cond.instanceMethod yX8_put ∈ zW := zin 301 (by decide +kernel) (by decide +kernel)
abbrev wsX8_put : List Cond := Cond.code yX8_put cX8_put 3 none :: zW
theorem wc_X8_put : Cond.code yX8_put cX8_put 3 none ∈ zW := zin 302 (by decide +kernel) (by decide +kernel)
theorem wm_L_18 : Cond.methodLink RL 18 yX10_read ∈ zW := zin 303 (by decide +kernel) (by decide +kernel)
theorem wn_X10_read : Cond.instanceMethod yX10_read ∈ zW := zin 304 (by decide +kernel) (by decide +kernel)
theorem we_X10_read : Cond.selects RX10 yX10_read yX10_read ∈ zW := zin 305 (by decide +kernel) (by decide +kernel)
abbrev wsX10_read : List Cond := Cond.code yX10_read cX10_read 4 (some FieldType.int) :: zW
theorem wc_X10_read : Cond.code yX10_read cX10_read 4 (some FieldType.int) ∈ zW := zin 306 (by decide +kernel) (by decide +kernel)
theorem wm_X10_60 : Cond.methodLink RX10 60 yX10_slotAt ∈ zW := zin 307 (by decide +kernel) (by decide +kernel)
theorem wn_X10_slotAt : Cond.instanceMethod yX10_slotAt ∈ zW := zin 309 (by decide +kernel) (by decide +kernel)
abbrev wsX10_slotAt : List Cond := Cond.code yX10_slotAt cX10_slotAt 2 (some (FieldType.object "FilterReader$Value")) :: zW
theorem wc_X10_slotAt : Cond.code yX10_slotAt cX10_slotAt 2 (some (FieldType.object "FilterReader$Value")) ∈ zW := zin 310 (by decide +kernel) (by decide +kernel)
theorem wm_X10_64 : Cond.methodLinkNest RX10 64 yX8_has "FilterReader" ∈ zNest := znin 311 (by decide +kernel) (by decide +kernel)
theorem wn_X8_has : Cond.instanceMethod yX8_has ∈ zW := zin 313 (by decide +kernel) (by decide +kernel)
abbrev wsX8_has : List Cond := Cond.code yX8_has cX8_has 2 (some FieldType.boolean) :: zW
theorem wc_X8_has : Cond.code yX8_has cX8_has 2 (some FieldType.boolean) ∈ zW := zin 314 (by decide +kernel) (by decide +kernel)
theorem wm_X10_68 : Cond.methodLink RX10 68 yX10_takeDocument ∈ zW := zin 315 (by decide +kernel) (by decide +kernel)
theorem wn_X10_takeDocument : Cond.instanceMethod yX10_takeDocument ∈ zW := zin 317 (by decide +kernel) (by decide +kernel)
abbrev wsX10_takeDocument : List Cond := Cond.code yX10_takeDocument cX10_takeDocument 3 (some (FieldType.object "FilterReader$Value")) :: zW
theorem wc_X10_takeDocument : Cond.code yX10_takeDocument cX10_takeDocument 3 (some (FieldType.object "FilterReader$Value")) ∈ zW := zin 318 (by decide +kernel) (by decide +kernel)
theorem wl_X10_105 : Cond.classLink RX10 105 "FilterReader$DocumentReader" ∈ zW := zin 319 (by decide +kernel) (by decide +kernel)
theorem wa_X0 : Cond.instantiable RX0 2 ∈ zW := zin 320 (by decide +kernel) (by decide +kernel)
theorem wm_X10_107 : Cond.methodLinkNest RX10 107 yX0_init "FilterReader" ∈ zNest := znin 321 (by decide +kernel) (by decide +kernel)
theorem wn_X0_init : Cond.instanceMethod yX0_init ∈ zW := zin 322 (by decide +kernel) (by decide +kernel)
abbrev wsX0_init : List Cond := Cond.code yX0_init cX0_init 2 none :: zW
theorem wc_X0_init : Cond.code yX0_init cX0_init 2 none ∈ zW := zin 323 (by decide +kernel) (by decide +kernel)
theorem wm_X0_3 : Cond.methodLink RX0 3 (⟨"java/lang/Object", "<init>", "()V"⟩ : MethodName) ∈ zW := zin 324 (by decide +kernel) (by decide +kernel)
theorem wf_X0_9 : Cond.fieldLink RX0 9 "FilterReader$DocumentReader" "tape" "LFilterReader$Tape;" ∈ zW := zin 325 (by decide +kernel) (by decide +kernel)
theorem wf_X0_15 : Cond.fieldLink RX0 15 "FilterReader$DocumentReader" "at" "I" ∈ zW := zin 326 (by decide +kernel) (by decide +kernel)
theorem wm_X10_110 : Cond.methodLinkNest RX10 110 yX0_readWhole "FilterReader" ∈ zNest := znin 332 (by decide +kernel) (by decide +kernel)
theorem wn_X0_readWhole : Cond.instanceMethod yX0_readWhole ∈ zW := zin 334 (by decide +kernel) (by decide +kernel)
abbrev wsX0_readWhole : List Cond := Cond.code yX0_readWhole cX0_readWhole 3 (some (FieldType.object "FilterReader$Value")) :: zW
theorem wc_X0_readWhole : Cond.code yX0_readWhole cX0_readWhole 3 (some (FieldType.object "FilterReader$Value")) ∈ zW := zin 335 (by decide +kernel) (by decide +kernel)
theorem wl_X0_19 : Cond.classLink RX0 19 "FilterReader$Value" ∈ zW := zin 336 (by decide +kernel) (by decide +kernel)
theorem wm_X0_25 : Cond.methodLinkNest RX0 25 yX9_init "FilterReader" ∈ zNest := znin 338 (by decide +kernel) (by decide +kernel)
theorem wm_X0_28 : Cond.methodLink RX0 28 yX0_readParts ∈ zW := zin 339 (by decide +kernel) (by decide +kernel)
theorem wn_X0_readParts : Cond.instanceMethod yX0_readParts ∈ zW := zin 341 (by decide +kernel) (by decide +kernel)
abbrev wsX0_readParts : List Cond := Cond.code yX0_readParts cX0_readParts 9 (some FieldType.boolean) :: zW
theorem wc_X0_readParts : Cond.code yX0_readParts cX0_readParts 9 (some FieldType.boolean) ∈ zW := zin 342 (by decide +kernel) (by decide +kernel)
theorem wm_X0_32 : Cond.methodLink RX0 32 yX0_readNumber ∈ zW := zin 343 (by decide +kernel) (by decide +kernel)
theorem wn_X0_readNumber : Cond.instanceMethod yX0_readNumber ∈ zW := zin 345 (by decide +kernel) (by decide +kernel)
abbrev wsX0_readNumber : List Cond := Cond.code yX0_readNumber cX0_readNumber 5 (some FieldType.long) :: zW
theorem wc_X0_readNumber : Cond.code yX0_readNumber cX0_readNumber 5 (some FieldType.long) ∈ zW := zin 346 (by decide +kernel) (by decide +kernel)
theorem wm_X0_48 : Cond.methodLinkNest RX0 48 yX8_byteAt "FilterReader" ∈ zNest := znin 347 (by decide +kernel) (by decide +kernel)
theorem wn_X8_byteAt : Cond.instanceMethod yX8_byteAt ∈ zW := zin 349 (by decide +kernel) (by decide +kernel)
abbrev wsX8_byteAt : List Cond := Cond.code yX8_byteAt cX8_byteAt 2 (some FieldType.int) :: zW
theorem wc_X8_byteAt : Cond.code yX8_byteAt cX8_byteAt 2 (some FieldType.int) ∈ zW := zin 350 (by decide +kernel) (by decide +kernel)
theorem wm_X0_36 : Cond.methodLink RX0 36 yX0_readElement ∈ zW := zin 351 (by decide +kernel) (by decide +kernel)
theorem wn_X0_readElement : Cond.instanceMethod yX0_readElement ∈ zW := zin 353 (by decide +kernel) (by decide +kernel)
abbrev wsX0_readElement : List Cond := Cond.code yX0_readElement cX0_readElement 6 (some (FieldType.object "FilterReader$Value")) :: zW
theorem wc_X0_readElement : Cond.code yX0_readElement cX0_readElement 6 (some (FieldType.object "FilterReader$Value")) ∈ zW := zin 354 (by decide +kernel) (by decide +kernel)
theorem wm_X0_54 : Cond.methodLink RX0 54 yX0_zeroFrom ∈ zW := zin 355 (by decide +kernel) (by decide +kernel)
theorem wn_X0_zeroFrom : Cond.instanceMethod yX0_zeroFrom ∈ zW := zin 357 (by decide +kernel) (by decide +kernel)
abbrev wsX0_zeroFrom : List Cond := Cond.code yX0_zeroFrom cX0_zeroFrom 4 (some FieldType.int) :: zW
theorem wc_X0_zeroFrom : Cond.code yX0_zeroFrom cX0_zeroFrom 4 (some FieldType.int) ∈ zW := zin 358 (by decide +kernel) (by decide +kernel)
theorem wm_X0_58 : Cond.methodLink RX0 58 yX0_isRightUtf8 ∈ zW := zin 359 (by decide +kernel) (by decide +kernel)
theorem wn_X0_isRightUtf8 : Cond.instanceMethod yX0_isRightUtf8 ∈ zW := zin 361 (by decide +kernel) (by decide +kernel)
abbrev wsX0_isRightUtf8 : List Cond := Cond.code yX0_isRightUtf8 cX0_isRightUtf8 8 (some FieldType.boolean) :: zW
theorem wc_X0_isRightUtf8 : Cond.code yX0_isRightUtf8 cX0_isRightUtf8 8 (some FieldType.boolean) ∈ zW := zin 362 (by decide +kernel) (by decide +kernel)
theorem wm_X0_117 : Cond.methodLink RX0 117 yX0_followers ∈ zW := zin 363 (by decide +kernel) (by decide +kernel)
theorem wn_X0_followers : Cond.instanceMethod yX0_followers ∈ zW := zin 365 (by decide +kernel) (by decide +kernel)
abbrev wsX0_followers : List Cond := Cond.code yX0_followers cX0_followers 2 (some FieldType.int) :: zW
theorem wc_X0_followers : Cond.code yX0_followers cX0_followers 2 (some FieldType.int) ∈ zW := zin 366 (by decide +kernel) (by decide +kernel)
theorem wm_X0_120 : Cond.methodLink RX0 120 yX0_leadingBits ∈ zW := zin 367 (by decide +kernel) (by decide +kernel)
theorem wn_X0_leadingBits : Cond.instanceMethod yX0_leadingBits ∈ zW := zin 369 (by decide +kernel) (by decide +kernel)
abbrev wsX0_leadingBits : List Cond := Cond.code yX0_leadingBits cX0_leadingBits 3 (some FieldType.int) :: zW
theorem wc_X0_leadingBits : Cond.code yX0_leadingBits cX0_leadingBits 3 (some FieldType.int) ∈ zW := zin 370 (by decide +kernel) (by decide +kernel)
theorem wm_X0_123 : Cond.methodLink RX0 123 yX0_leastCode ∈ zW := zin 371 (by decide +kernel) (by decide +kernel)
theorem wn_X0_leastCode : Cond.instanceMethod yX0_leastCode ∈ zW := zin 373 (by decide +kernel) (by decide +kernel)
abbrev wsX0_leastCode : List Cond := Cond.code yX0_leastCode cX0_leastCode 2 (some FieldType.int) :: zW
theorem wc_X0_leastCode : Cond.code yX0_leastCode cX0_leastCode 2 (some FieldType.int) ∈ zW := zin 374 (by decide +kernel) (by decide +kernel)
theorem wk_X0_129 : Cond.constant RX0 129 (65536) ∈ zW := zin 375 (by decide +kernel) (by decide +kernel)
theorem wm_X0_126 : Cond.methodLink RX0 126 yX0_isCharacter ∈ zW := zin 376 (by decide +kernel) (by decide +kernel)
theorem wn_X0_isCharacter : Cond.instanceMethod yX0_isCharacter ∈ zW := zin 378 (by decide +kernel) (by decide +kernel)
abbrev wsX0_isCharacter : List Cond := Cond.code yX0_isCharacter cX0_isCharacter 4 (some FieldType.boolean) :: zW
theorem wc_X0_isCharacter : Cond.code yX0_isCharacter cX0_isCharacter 4 (some FieldType.boolean) ∈ zW := zin 379 (by decide +kernel) (by decide +kernel)
theorem wk_X0_130 : Cond.constant RX0 130 (55296) ∈ zW := zin 380 (by decide +kernel) (by decide +kernel)
theorem wk_X0_131 : Cond.constant RX0 131 (57343) ∈ zW := zin 381 (by decide +kernel) (by decide +kernel)
theorem wk_X0_132 : Cond.constant RX0 132 (1114111) ∈ zW := zin 382 (by decide +kernel) (by decide +kernel)
theorem wm_X0_62 : Cond.methodLink RX0 62 yX0_textOf ∈ zW := zin 383 (by decide +kernel) (by decide +kernel)
theorem wn_X0_textOf : Cond.instanceMethod yX0_textOf ∈ zW := zin 385 (by decide +kernel) (by decide +kernel)
abbrev wsX0_textOf : List Cond := Cond.code yX0_textOf cX0_textOf 5 (some (FieldType.object "java/lang/String")) :: zW
theorem wc_X0_textOf : Cond.code yX0_textOf cX0_textOf 5 (some (FieldType.object "java/lang/String")) ∈ zW := zin 386 (by decide +kernel) (by decide +kernel)
theorem wl_X0_105 : Cond.classLink RX0 105 "java/lang/String" ∈ zW := zin 387 (by decide +kernel) (by decide +kernel)
theorem wa_J0 : Cond.instantiable RJ0 4 ∈ zW := zin 388 (by decide +kernel) (by decide +kernel)
theorem wm_X0_114 : Cond.methodLink RX0 114 yJ0_init_905df ∈ zW := zin 389 (by decide +kernel) (by decide +kernel)
theorem wn_J0_init_905df : Cond.instanceMethod yJ0_init_905df ∈ zW := zin 390 (by decide +kernel) (by decide +kernel)
abbrev wsJ0_init_905df : List Cond := Cond.code yJ0_init_905df cJ0_init_905df 2 none :: zW
theorem wc_J0_init_905df : Cond.code yJ0_init_905df cJ0_init_905df 2 none ∈ zW := zin 391 (by decide +kernel) (by decide +kernel)
theorem wm_J0_27 : Cond.methodLink RJ0 27 yJ0_init_bb550 ∈ zW := zin 392 (by decide +kernel) (by decide +kernel)
theorem wn_J0_init_bb550 : Cond.instanceMethod yJ0_init_bb550 ∈ zW := zin 393 (by decide +kernel) (by decide +kernel)
abbrev wsJ0_init_bb550 : List Cond := Cond.code yJ0_init_bb550 cJ0_init_bb550 6 none :: zW
theorem wc_J0_init_bb550 : Cond.code yJ0_init_bb550 cJ0_init_bb550 6 none ∈ zW := zin 394 (by decide +kernel) (by decide +kernel)
theorem wm_J0_1 : Cond.methodLink RJ0 1 (⟨"java/lang/Object", "<init>", "()V"⟩ : MethodName) ∈ zW := zin 395 (by decide +kernel) (by decide +kernel)
theorem wf_J0_38 : Cond.fieldLink RJ0 38 "java/lang/String" "COMPACT_STRINGS" "Z" ∈ zW := zin 397 (by decide +kernel) (by decide +kernel)
theorem wm_J0_177 : Cond.methodLink RJ0 177 yJ2_compress_dfd3c ∈ zW := zin 399 (by decide +kernel) (by decide +kernel)
theorem wt_J2_compress_dfd3c : Cond.static yJ2_compress_dfd3c ∈ zW := zin 400 (by decide +kernel) (by decide +kernel)
abbrev wsJ2_compress_dfd3c : List Cond := Cond.code yJ2_compress_dfd3c cJ2_compress_dfd3c 6 (some (FieldType.array FieldType.byte)) :: zW
theorem wc_J2_compress_dfd3c : Cond.code yJ2_compress_dfd3c cJ2_compress_dfd3c 6 (some (FieldType.array FieldType.byte)) ∈ zW := zin 401 (by decide +kernel) (by decide +kernel)
theorem wm_J2_115 : Cond.methodLink RJ2 115 yJ2_compress_fe38e ∈ zW := zin 402 (by decide +kernel) (by decide +kernel)
theorem wt_J2_compress_fe38e : Cond.static yJ2_compress_fe38e ∈ zW := zin 403 (by decide +kernel) (by decide +kernel)
abbrev wsJ2_compress_fe38e : List Cond := Cond.code yJ2_compress_fe38e cJ2_compress_fe38e 7 (some FieldType.int) :: zW
theorem wc_J2_compress_fe38e : Cond.code yJ2_compress_fe38e cJ2_compress_fe38e 7 (some FieldType.int) ∈ zW := zin 404 (by decide +kernel) (by decide +kernel)
theorem wm_J2_119 : Cond.methodLink RJ2 119 yJ2_toBytes_dfd3c ∈ zW := zin 405 (by decide +kernel) (by decide +kernel)
theorem wt_J2_toBytes_dfd3c : Cond.static yJ2_toBytes_dfd3c ∈ zW := zin 406 (by decide +kernel) (by decide +kernel)
abbrev wsJ2_toBytes_dfd3c : List Cond := Cond.code yJ2_toBytes_dfd3c cJ2_toBytes_dfd3c 5 (some (FieldType.array FieldType.byte)) :: zW
theorem wc_J2_toBytes_dfd3c : Cond.code yJ2_toBytes_dfd3c cJ2_toBytes_dfd3c 5 (some (FieldType.array FieldType.byte)) ∈ zW := zin 407 (by decide +kernel) (by decide +kernel)
theorem wm_J2_107 : Cond.methodLink RJ2 107 yJ2_newBytesFor_77867 ∈ zW := zin 408 (by decide +kernel) (by decide +kernel)
theorem wt_J2_newBytesFor_77867 : Cond.static yJ2_newBytesFor_77867 ∈ zW := zin 409 (by decide +kernel) (by decide +kernel)
abbrev wsJ2_newBytesFor_77867 : List Cond := Cond.code yJ2_newBytesFor_77867 cJ2_newBytesFor_77867 1 (some (FieldType.array FieldType.byte)) :: zW
theorem wc_J2_newBytesFor_77867 : Cond.code yJ2_newBytesFor_77867 cJ2_newBytesFor_77867 1 (some (FieldType.array FieldType.byte)) ∈ zW := zin 410 (by decide +kernel) (by decide +kernel)
theorem wm_J2_11 : Cond.methodLink RJ2 11 yJ2_newBytesLength_0f7a4 ∈ zW := zin 411 (by decide +kernel) (by decide +kernel)
theorem wt_J2_newBytesLength_0f7a4 : Cond.static yJ2_newBytesLength_0f7a4 ∈ zW := zin 412 (by decide +kernel) (by decide +kernel)
abbrev wsJ2_newBytesLength_0f7a4 : List Cond := Cond.code yJ2_newBytesLength_0f7a4 cJ2_newBytesLength_0f7a4 1 (some FieldType.int) :: zW
theorem wc_J2_newBytesLength_0f7a4 : Cond.code yJ2_newBytesLength_0f7a4 cJ2_newBytesLength_0f7a4 1 (some FieldType.int) ∈ zW := zin 413 (by decide +kernel) (by decide +kernel)
theorem wk_J2_20 : Cond.constant RJ2 20 (1073741823) ∈ zW := zin 414 (by decide +kernel) (by decide +kernel)
theorem wm_J2_111 : Cond.methodLink RJ2 111 yJ2_putChar_b72d1 ∈ zW := zin 415 (by decide +kernel) (by decide +kernel)
theorem wt_J2_putChar_b72d1 : Cond.static yJ2_putChar_b72d1 ∈ zW := zin 416 (by decide +kernel) (by decide +kernel)
abbrev wsJ2_putChar_b72d1 : List Cond := Cond.code yJ2_putChar_b72d1 cJ2_putChar_b72d1 3 none :: zW
theorem wc_J2_putChar_b72d1 : Cond.code yJ2_putChar_b72d1 cJ2_putChar_b72d1 3 none ∈ zW := zin 417 (by decide +kernel) (by decide +kernel)
theorem wf_J2_44 : Cond.fieldLink RJ2 44 "java/lang/StringUTF16" "$assertionsDisabled" "Z" ∈ zW := zin 418 (by decide +kernel) (by decide +kernel)
theorem wm_J2_48 : Cond.methodLink RJ2 48 yJ2_length_9d52b ∈ zW := zin 420 (by decide +kernel) (by decide +kernel)
theorem wt_J2_length_9d52b : Cond.static yJ2_length_9d52b ∈ zW := zin 421 (by decide +kernel) (by decide +kernel)
abbrev wsJ2_length_9d52b : List Cond := Cond.code yJ2_length_9d52b cJ2_length_9d52b 1 (some FieldType.int) :: zW
theorem wc_J2_length_9d52b : Cond.code yJ2_length_9d52b cJ2_length_9d52b 1 (some FieldType.int) ∈ zW := zin 422 (by decide +kernel) (by decide +kernel)
theorem wf_J2_59 : Cond.fieldLink RJ2 59 "java/lang/StringUTF16" "HI_BYTE_SHIFT" "I" ∈ zW := zin 423 (by decide +kernel) (by decide +kernel)
theorem wf_J2_63 : Cond.fieldLink RJ2 63 "java/lang/StringUTF16" "LO_BYTE_SHIFT" "I" ∈ zW := zin 425 (by decide +kernel) (by decide +kernel)
theorem wm_J2_71 : Cond.methodLink RJ2 71 yJ2_getChar_3b067 ∈ zW := zin 427 (by decide +kernel) (by decide +kernel)
theorem wt_J2_getChar_3b067 : Cond.static yJ2_getChar_3b067 ∈ zW := zin 428 (by decide +kernel) (by decide +kernel)
abbrev wsJ2_getChar_3b067 : List Cond := Cond.code yJ2_getChar_3b067 cJ2_getChar_3b067 2 (some FieldType.char) :: zW
theorem wc_J2_getChar_3b067 : Cond.code yJ2_getChar_3b067 cJ2_getChar_3b067 2 (some FieldType.char) ∈ zW := zin 429 (by decide +kernel) (by decide +kernel)
theorem wm_J2_123 : Cond.methodLink RJ2 123 yJ2_compress_5af95 ∈ zW := zin 430 (by decide +kernel) (by decide +kernel)
theorem wt_J2_compress_5af95 : Cond.static yJ2_compress_5af95 ∈ zW := zin 431 (by decide +kernel) (by decide +kernel)
abbrev wsJ2_compress_5af95 : List Cond := Cond.code yJ2_compress_5af95 cJ2_compress_5af95 7 (some FieldType.int) :: zW
theorem wc_J2_compress_5af95 : Cond.code yJ2_compress_5af95 cJ2_compress_5af95 7 (some FieldType.int) ∈ zW := zin 432 (by decide +kernel) (by decide +kernel)
theorem wm_J2_173 : Cond.methodLink RJ2 173 yJ2_checkBoundsOffCount_d044e ∈ zW := zin 433 (by decide +kernel) (by decide +kernel)
theorem wt_J2_checkBoundsOffCount_d044e : Cond.static yJ2_checkBoundsOffCount_d044e ∈ zW := zin 434 (by decide +kernel) (by decide +kernel)
abbrev wsJ2_checkBoundsOffCount_d044e : List Cond := Cond.code yJ2_checkBoundsOffCount_d044e cJ2_checkBoundsOffCount_d044e 3 none :: zW
theorem wc_J2_checkBoundsOffCount_d044e : Cond.code yJ2_checkBoundsOffCount_d044e cJ2_checkBoundsOffCount_d044e 3 none ∈ zW := zin 435 (by decide +kernel) (by decide +kernel)
theorem wm_J2_419 : Cond.methodLink RJ2 419 yJ0_checkBoundsOffCount_cabcc ∈ zW := zin 436 (by decide +kernel) (by decide +kernel)
theorem wt_J0_checkBoundsOffCount_cabcc : Cond.static yJ0_checkBoundsOffCount_cabcc ∈ zW := zin 437 (by decide +kernel) (by decide +kernel)
abbrev wsJ0_checkBoundsOffCount_cabcc : List Cond := Cond.code yJ0_checkBoundsOffCount_cabcc cJ0_checkBoundsOffCount_cabcc 3 (some FieldType.int) :: zW
theorem wc_J0_checkBoundsOffCount_cabcc : Cond.code yJ0_checkBoundsOffCount_cabcc cJ0_checkBoundsOffCount_cabcc 3 (some FieldType.int) ∈ zW := zin 438 (by decide +kernel) (by decide +kernel)
theorem wf_J0_1053 : Cond.fieldLink RJ0 1053 "jdk/internal/util/Preconditions" "SIOOBE_FORMATTER" "Ljava/util/function/BiFunction;" ∈ zW := zin 439 (by decide +kernel) (by decide +kernel)
theorem wm_J0_1065 : Cond.methodLink RJ0 1065 yJ3_checkFromIndexSize_8c36e ∈ zW := zin 441 (by decide +kernel) (by decide +kernel)
theorem wt_J3_checkFromIndexSize_8c36e : Cond.static yJ3_checkFromIndexSize_8c36e ∈ zW := zin 442 (by decide +kernel) (by decide +kernel)
abbrev wsJ3_checkFromIndexSize_8c36e : List Cond := Cond.code yJ3_checkFromIndexSize_8c36e cJ3_checkFromIndexSize_8c36e 4 (some FieldType.int) :: zW
theorem wc_J3_checkFromIndexSize_8c36e : Cond.code yJ3_checkFromIndexSize_8c36e cJ3_checkFromIndexSize_8c36e 4 (some FieldType.int) ∈ zW := zin 443 (by decide +kernel) (by decide +kernel)
theorem wm_J0_47 : Cond.methodLink RJ0 47 yJ2_coderFromArrayLen_85cad ∈ zW := zin 444 (by decide +kernel) (by decide +kernel)
theorem wt_J2_coderFromArrayLen_85cad : Cond.static yJ2_coderFromArrayLen_85cad ∈ zW := zin 445 (by decide +kernel) (by decide +kernel)
abbrev wsJ2_coderFromArrayLen_85cad : List Cond := Cond.code yJ2_coderFromArrayLen_85cad cJ2_coderFromArrayLen_85cad 2 (some FieldType.byte) :: zW
theorem wc_J2_coderFromArrayLen_85cad : Cond.code yJ2_coderFromArrayLen_85cad cJ2_coderFromArrayLen_85cad 2 (some FieldType.byte) ∈ zW := zin 446 (by decide +kernel) (by decide +kernel)
theorem wm_J0_180 : Cond.methodLink RJ0 180 yJ2_toBytes_dfd3c ∈ zW := zin 447 (by decide +kernel) (by decide +kernel)
theorem wf_J0_9 : Cond.fieldLink RJ0 9 "java/lang/String" "value" "[B" ∈ zW := zin 448 (by decide +kernel) (by decide +kernel)
theorem wf_J0_15 : Cond.fieldLink RJ0 15 "java/lang/String" "coder" "B" ∈ zW := zin 449 (by decide +kernel) (by decide +kernel)
theorem wm_X0_66 : Cond.methodLink RX0 66 yX0_readValue ∈ zW := zin 460 (by decide +kernel) (by decide +kernel)
theorem wn_X0_readValue : Cond.instanceMethod yX0_readValue ∈ zW := zin 462 (by decide +kernel) (by decide +kernel)
abbrev wsX0_readValue : List Cond := Cond.code yX0_readValue cX0_readValue 4 (some FieldType.boolean) :: zW
theorem wc_X0_readValue : Cond.code yX0_readValue cX0_readValue 4 (some FieldType.boolean) ∈ zW := zin 463 (by decide +kernel) (by decide +kernel)
theorem wm_X0_72 : Cond.methodLink RX0 72 yX0_readTruth ∈ zW := zin 464 (by decide +kernel) (by decide +kernel)
theorem wn_X0_readTruth : Cond.instanceMethod yX0_readTruth ∈ zW := zin 466 (by decide +kernel) (by decide +kernel)
abbrev wsX0_readTruth : List Cond := Cond.code yX0_readTruth cX0_readTruth 3 (some FieldType.boolean) :: zW
theorem wc_X0_readTruth : Cond.code yX0_readTruth cX0_readTruth 3 (some FieldType.boolean) ∈ zW := zin 467 (by decide +kernel) (by decide +kernel)
theorem wm_X0_76 : Cond.methodLink RX0 76 yX0_readWholeNumber ∈ zW := zin 468 (by decide +kernel) (by decide +kernel)
theorem wn_X0_readWholeNumber : Cond.instanceMethod yX0_readWholeNumber ∈ zW := zin 470 (by decide +kernel) (by decide +kernel)
abbrev wsX0_readWholeNumber : List Cond := Cond.code yX0_readWholeNumber cX0_readWholeNumber 6 (some FieldType.boolean) :: zW
theorem wc_X0_readWholeNumber : Cond.code yX0_readWholeNumber cX0_readWholeNumber 6 (some FieldType.boolean) ∈ zW := zin 471 (by decide +kernel) (by decide +kernel)
theorem wm_X0_79 : Cond.methodLink RX0 79 yX0_readText ∈ zW := zin 472 (by decide +kernel) (by decide +kernel)
theorem wn_X0_readText : Cond.instanceMethod yX0_readText ∈ zW := zin 474 (by decide +kernel) (by decide +kernel)
abbrev wsX0_readText : List Cond := Cond.code yX0_readText cX0_readText 5 (some FieldType.boolean) :: zW
theorem wc_X0_readText : Cond.code yX0_readText cX0_readText 5 (some FieldType.boolean) ∈ zW := zin 475 (by decide +kernel) (by decide +kernel)
theorem wm_X0_40 : Cond.methodLink RX0 40 yX0_mayFollow ∈ zW := zin 476 (by decide +kernel) (by decide +kernel)
theorem wn_X0_mayFollow : Cond.instanceMethod yX0_mayFollow ∈ zW := zin 478 (by decide +kernel) (by decide +kernel)
abbrev wsX0_mayFollow : List Cond := Cond.code yX0_mayFollow cX0_mayFollow 3 (some FieldType.boolean) :: zW
theorem wc_X0_mayFollow : Cond.code yX0_mayFollow cX0_mayFollow 3 (some FieldType.boolean) ∈ zW := zin 479 (by decide +kernel) (by decide +kernel)
theorem wm_X0_96 : Cond.methodLink RX0 96 yX0_isDecimal ∈ zW := zin 480 (by decide +kernel) (by decide +kernel)
theorem wn_X0_isDecimal : Cond.instanceMethod yX0_isDecimal ∈ zW := zin 482 (by decide +kernel) (by decide +kernel)
abbrev wsX0_isDecimal : List Cond := Cond.code yX0_isDecimal cX0_isDecimal 5 (some FieldType.boolean) :: zW
theorem wc_X0_isDecimal : Cond.code yX0_isDecimal cX0_isDecimal 5 (some FieldType.boolean) ∈ zW := zin 483 (by decide +kernel) (by decide +kernel)
theorem wm_X0_104 : Cond.methodLink RX0 104 yJ0_length_8abf5 ∈ zW := zin 484 (by decide +kernel) (by decide +kernel)
theorem wn_J0_length_8abf5 : Cond.instanceMethod yJ0_length_8abf5 ∈ zW := zin 485 (by decide +kernel) (by decide +kernel)
theorem we_J0_length_8abf5 : Cond.selects RJ0 yJ0_length_8abf5 yJ0_length_8abf5 ∈ zW := zin 486 (by decide +kernel) (by decide +kernel)
abbrev wsJ0_length_8abf5 : List Cond := Cond.code yJ0_length_8abf5 cJ0_length_8abf5 1 (some FieldType.int) :: zW
theorem wc_J0_length_8abf5 : Cond.code yJ0_length_8abf5 cJ0_length_8abf5 1 (some FieldType.int) ∈ zW := zin 487 (by decide +kernel) (by decide +kernel)
theorem wm_J0_335 : Cond.methodLink RJ0 335 yJ0_coder_7d493 ∈ zW := zin 488 (by decide +kernel) (by decide +kernel)
theorem wn_J0_coder_7d493 : Cond.instanceMethod yJ0_coder_7d493 ∈ zW := zin 489 (by decide +kernel) (by decide +kernel)
theorem we_J0_coder_7d493 : Cond.selects RJ0 yJ0_coder_7d493 yJ0_coder_7d493 ∈ zW := zin 490 (by decide +kernel) (by decide +kernel)
abbrev wsJ0_coder_7d493 : List Cond := Cond.code yJ0_coder_7d493 cJ0_coder_7d493 1 (some FieldType.byte) :: zW
theorem wc_J0_coder_7d493 : Cond.code yJ0_coder_7d493 cJ0_coder_7d493 1 (some FieldType.byte) ∈ zW := zin 491 (by decide +kernel) (by decide +kernel)
theorem wm_X0_110 : Cond.methodLink RX0 110 yJ0_charAt_5068e ∈ zW := zin 492 (by decide +kernel) (by decide +kernel)
theorem wn_J0_charAt_5068e : Cond.instanceMethod yJ0_charAt_5068e ∈ zW := zin 493 (by decide +kernel) (by decide +kernel)
theorem we_J0_charAt_5068e : Cond.selects RJ0 yJ0_charAt_5068e yJ0_charAt_5068e ∈ zW := zin 494 (by decide +kernel) (by decide +kernel)
abbrev wsJ0_charAt_5068e : List Cond := Cond.code yJ0_charAt_5068e cJ0_charAt_5068e 2 (some FieldType.char) :: zW
theorem wc_J0_charAt_5068e : Cond.code yJ0_charAt_5068e cJ0_charAt_5068e 2 (some FieldType.char) ∈ zW := zin 495 (by decide +kernel) (by decide +kernel)
theorem wm_J0_492 : Cond.methodLink RJ0 492 yJ0_isLatin1_aae02 ∈ zW := zin 496 (by decide +kernel) (by decide +kernel)
theorem wn_J0_isLatin1_aae02 : Cond.instanceMethod yJ0_isLatin1_aae02 ∈ zW := zin 497 (by decide +kernel) (by decide +kernel)
theorem we_J0_isLatin1_aae02 : Cond.selects RJ0 yJ0_isLatin1_aae02 yJ0_isLatin1_aae02 ∈ zW := zin 498 (by decide +kernel) (by decide +kernel)
abbrev wsJ0_isLatin1_aae02 : List Cond := Cond.code yJ0_isLatin1_aae02 cJ0_isLatin1_aae02 1 (some FieldType.boolean) :: zW
theorem wc_J0_isLatin1_aae02 : Cond.code yJ0_isLatin1_aae02 cJ0_isLatin1_aae02 1 (some FieldType.boolean) ∈ zW := zin 499 (by decide +kernel) (by decide +kernel)
theorem wm_J0_495 : Cond.methodLink RJ0 495 yJ1_charAt_3b067 ∈ zW := zin 500 (by decide +kernel) (by decide +kernel)
theorem wt_J1_charAt_3b067 : Cond.static yJ1_charAt_3b067 ∈ zW := zin 501 (by decide +kernel) (by decide +kernel)
abbrev wsJ1_charAt_3b067 : List Cond := Cond.code yJ1_charAt_3b067 cJ1_charAt_3b067 2 (some FieldType.char) :: zW
theorem wc_J1_charAt_3b067 : Cond.code yJ1_charAt_3b067 cJ1_charAt_3b067 2 (some FieldType.char) ∈ zW := zin 502 (by decide +kernel) (by decide +kernel)
theorem wm_J1_9 : Cond.methodLink RJ1 9 yJ0_checkIndex_df160 ∈ zW := zin 503 (by decide +kernel) (by decide +kernel)
theorem wt_J0_checkIndex_df160 : Cond.static yJ0_checkIndex_df160 ∈ zW := zin 504 (by decide +kernel) (by decide +kernel)
abbrev wsJ0_checkIndex_df160 : List Cond := Cond.code yJ0_checkIndex_df160 cJ0_checkIndex_df160 2 none :: zW
theorem wc_J0_checkIndex_df160 : Cond.code yJ0_checkIndex_df160 cJ0_checkIndex_df160 2 none ∈ zW := zin 505 (by decide +kernel) (by decide +kernel)
theorem wm_J0_1059 : Cond.methodLink RJ0 1059 yJ3_checkIndex_8e157 ∈ zW := zin 506 (by decide +kernel) (by decide +kernel)
theorem wt_J3_checkIndex_8e157 : Cond.static yJ3_checkIndex_8e157 ∈ zW := zin 507 (by decide +kernel) (by decide +kernel)
abbrev wsJ3_checkIndex_8e157 : List Cond := Cond.code yJ3_checkIndex_8e157 cJ3_checkIndex_8e157 3 (some FieldType.int) :: zW
theorem wc_J3_checkIndex_8e157 : Cond.code yJ3_checkIndex_8e157 cJ3_checkIndex_8e157 3 (some FieldType.int) ∈ zW := zin 508 (by decide +kernel) (by decide +kernel)
theorem wm_J0_498 : Cond.methodLink RJ0 498 yJ2_charAt_3b067 ∈ zW := zin 509 (by decide +kernel) (by decide +kernel)
theorem wt_J2_charAt_3b067 : Cond.static yJ2_charAt_3b067 ∈ zW := zin 510 (by decide +kernel) (by decide +kernel)
abbrev wsJ2_charAt_3b067 : List Cond := Cond.code yJ2_charAt_3b067 cJ2_charAt_3b067 2 (some FieldType.char) :: zW
theorem wc_J2_charAt_3b067 : Cond.code yJ2_charAt_3b067 cJ2_charAt_3b067 2 (some FieldType.char) ∈ zW := zin 511 (by decide +kernel) (by decide +kernel)
theorem wm_J2_67 : Cond.methodLink RJ2 67 yJ2_checkIndex_2214a ∈ zW := zin 512 (by decide +kernel) (by decide +kernel)
theorem wt_J2_checkIndex_2214a : Cond.static yJ2_checkIndex_2214a ∈ zW := zin 513 (by decide +kernel) (by decide +kernel)
abbrev wsJ2_checkIndex_2214a : List Cond := Cond.code yJ2_checkIndex_2214a cJ2_checkIndex_2214a 2 none :: zW
theorem wc_J2_checkIndex_2214a : Cond.code yJ2_checkIndex_2214a cJ2_checkIndex_2214a 2 none ∈ zW := zin 514 (by decide +kernel) (by decide +kernel)
theorem wm_J2_414 : Cond.methodLink RJ2 414 yJ0_checkIndex_df160 ∈ zW := zin 515 (by decide +kernel) (by decide +kernel)
theorem wm_X0_100 : Cond.methodLinkNest RX0 100 yX9_named "FilterReader" ∈ zNest := znin 516 (by decide +kernel) (by decide +kernel)
theorem wn_X9_named : Cond.instanceMethod yX9_named ∈ zW := zin 518 (by decide +kernel) (by decide +kernel)
abbrev wsX9_named : List Cond := Cond.code yX9_named cX9_named 3 (some (FieldType.object "FilterReader$Value")) :: zW
theorem wc_X9_named : Cond.code yX9_named cX9_named 3 (some (FieldType.object "FilterReader$Value")) ∈ zW := zin 519 (by decide +kernel) (by decide +kernel)
theorem wm_X9_38 : Cond.methodLink RX9 38 yJ0_equals_9ea2d ∈ zW := zin 520 (by decide +kernel) (by decide +kernel)
theorem wn_J0_equals_9ea2d : Cond.instanceMethod yJ0_equals_9ea2d ∈ zW := zin 521 (by decide +kernel) (by decide +kernel)
theorem we_J0_equals_9ea2d : Cond.selects RJ0 yJ0_equals_9ea2d yJ0_equals_9ea2d ∈ zW := zin 522 (by decide +kernel) (by decide +kernel)
abbrev wsJ0_equals_9ea2d : List Cond := Cond.code yJ0_equals_9ea2d cJ0_equals_9ea2d 3 (some FieldType.boolean) :: zW
theorem wc_J0_equals_9ea2d : Cond.code yJ0_equals_9ea2d cJ0_equals_9ea2d 3 (some FieldType.boolean) ∈ zW := zin 523 (by decide +kernel) (by decide +kernel)
theorem wl_J0_10 : Cond.classLink RJ0 10 "java/lang/String" ∈ zW := zin 524 (by decide +kernel) (by decide +kernel)
theorem wm_J0_541 : Cond.methodLink RJ0 541 yJ1_equals_b5fdf ∈ zW := zin 525 (by decide +kernel) (by decide +kernel)
theorem wt_J1_equals_b5fdf : Cond.static yJ1_equals_b5fdf ∈ zW := zin 526 (by decide +kernel) (by decide +kernel)
abbrev wsJ1_equals_b5fdf : List Cond := Cond.code yJ1_equals_b5fdf cJ1_equals_b5fdf 3 (some FieldType.boolean) :: zW
theorem wc_J1_equals_b5fdf : Cond.code yJ1_equals_b5fdf cJ1_equals_b5fdf 3 (some FieldType.boolean) ∈ zW := zin 527 (by decide +kernel) (by decide +kernel)
theorem wm_X0_44 : Cond.methodLinkNest RX0 44 yX9_add "FilterReader" ∈ zNest := znin 528 (by decide +kernel) (by decide +kernel)
theorem wn_X9_add : Cond.instanceMethod yX9_add ∈ zW := zin 530 (by decide +kernel) (by decide +kernel)
abbrev wsX9_add : List Cond := Cond.code yX9_add cX9_add 2 none :: zW
theorem wc_X9_add : Cond.code yX9_add cX9_add 2 none ∈ zW := zin 531 (by decide +kernel) (by decide +kernel)
theorem wm_X10_113 : Cond.methodLinkNest RX10 113 yX8_clear "FilterReader" ∈ zNest := znin 532 (by decide +kernel) (by decide +kernel)
theorem wn_X8_clear : Cond.instanceMethod yX8_clear ∈ zW := zin 534 (by decide +kernel) (by decide +kernel)
abbrev wsX8_clear : List Cond := Cond.code yX8_clear cX8_clear 1 none :: zW
theorem wc_X8_clear : Cond.code yX8_clear cX8_clear 1 none ∈ zW := zin 535 (by decide +kernel) (by decide +kernel)
theorem wm_L_23 : Cond.methodLink RL 23 yX10_filter ∈ zW := zin 536 (by decide +kernel) (by decide +kernel)
theorem wn_X10_filter : Cond.instanceMethod yX10_filter ∈ zW := zin 537 (by decide +kernel) (by decide +kernel)
theorem we_X10_filter : Cond.selects RX10 yX10_filter yX10_filter ∈ zW := zin 538 (by decide +kernel) (by decide +kernel)
abbrev wsX10_filter : List Cond := Cond.code yX10_filter cX10_filter 5 (some FieldType.int) :: zW
theorem wc_X10_filter : Cond.code yX10_filter cX10_filter 5 (some FieldType.int) ∈ zW := zin 539 (by decide +kernel) (by decide +kernel)
theorem wm_X10_71 : Cond.methodLink RX10 71 yX10_filterAt ∈ zW := zin 540 (by decide +kernel) (by decide +kernel)
theorem wn_X10_filterAt : Cond.instanceMethod yX10_filterAt ∈ zW := zin 542 (by decide +kernel) (by decide +kernel)
abbrev wsX10_filterAt : List Cond := Cond.code yX10_filterAt cX10_filterAt 2 (some (FieldType.object "FilterReader$Filter")) :: zW
theorem wc_X10_filterAt : Cond.code yX10_filterAt cX10_filterAt 2 (some (FieldType.object "FilterReader$Filter")) ∈ zW := zin 543 (by decide +kernel) (by decide +kernel)
theorem wl_X10_75 : Cond.classLink RX10 75 "FilterReader$FilterMaker" ∈ zW := zin 544 (by decide +kernel) (by decide +kernel)
theorem wa_X2 : Cond.instantiable RX2 3 ∈ zW := zin 545 (by decide +kernel) (by decide +kernel)
theorem wm_X10_77 : Cond.methodLinkNest RX10 77 yX2_init "FilterReader" ∈ zNest := znin 546 (by decide +kernel) (by decide +kernel)
theorem wn_X2_init : Cond.instanceMethod yX2_init ∈ zW := zin 547 (by decide +kernel) (by decide +kernel)
abbrev wsX2_init : List Cond := Cond.code yX2_init cX2_init 2 none :: zW
theorem wc_X2_init : Cond.code yX2_init cX2_init 2 none ∈ zW := zin 548 (by decide +kernel) (by decide +kernel)
theorem wm_X2_3 : Cond.methodLink RX2 3 (⟨"java/lang/Object", "<init>", "()V"⟩ : MethodName) ∈ zW := zin 549 (by decide +kernel) (by decide +kernel)
theorem wl_X2_15 : Cond.classLink RX2 15 "FilterReader$Filter" ∈ zW := zin 550 (by decide +kernel) (by decide +kernel)
theorem wm_X2_17 : Cond.methodLinkNest RX2 17 yX1_init "FilterReader" ∈ zNest := znin 551 (by decide +kernel) (by decide +kernel)
theorem wf_X2_20 : Cond.fieldLink RX2 20 "FilterReader$FilterMaker" "made" "LFilterReader$Filter;" ∈ zW := zin 552 (by decide +kernel) (by decide +kernel)
theorem wf_X10_85 : Cond.fieldLinkNest RX10 85 "FilterReader$FilterMaker" "made" "LFilterReader$Filter;" "FilterReader" ∈ zNest := znin 553 (by decide +kernel) (by decide +kernel)
theorem wf_X2_43 : Cond.fieldLink RX2 43 "FilterReader$FilterMaker" "fault" "I" ∈ zW := zin 554 (by decide +kernel) (by decide +kernel)
theorem wf_X10_82 : Cond.fieldLinkNest RX10 82 "FilterReader$FilterMaker" "fault" "I" "FilterReader" ∈ zNest := znin 555 (by decide +kernel) (by decide +kernel)
theorem wf_X2_9 : Cond.fieldLink RX2 9 "FilterReader$FilterMaker" "faultPlace" "I" ∈ zW := zin 556 (by decide +kernel) (by decide +kernel)
theorem wf_X10_81 : Cond.fieldLinkNest RX10 81 "FilterReader$FilterMaker" "faultPlace" "I" "FilterReader" ∈ zNest := znin 557 (by decide +kernel) (by decide +kernel)
theorem wm_X10_78 : Cond.methodLinkNest RX10 78 yX2_make "FilterReader" ∈ zNest := znin 565 (by decide +kernel) (by decide +kernel)
theorem wn_X2_make : Cond.instanceMethod yX2_make ∈ zW := zin 567 (by decide +kernel) (by decide +kernel)
abbrev wsX2_make : List Cond := Cond.code yX2_make cX2_make 1 none :: zW
theorem wc_X2_make : Cond.code yX2_make cX2_make 1 none ∈ zW := zin 568 (by decide +kernel) (by decide +kernel)
theorem wm_X2_28 : Cond.methodLink RX2 28 yX2_addClauses ∈ zW := zin 569 (by decide +kernel) (by decide +kernel)
theorem wn_X2_addClauses : Cond.instanceMethod yX2_addClauses ∈ zW := zin 571 (by decide +kernel) (by decide +kernel)
abbrev wsX2_addClauses : List Cond := Cond.code yX2_addClauses cX2_addClauses 4 none :: zW
theorem wc_X2_addClauses : Cond.code yX2_addClauses cX2_addClauses 4 none ∈ zW := zin 572 (by decide +kernel) (by decide +kernel)
theorem wm_X2_50 : Cond.methodLinkNest RX2 50 yX10_beginsWithDollar "FilterReader" ∈ zNest := znin 573 (by decide +kernel) (by decide +kernel)
theorem wt_X10_beginsWithDollar : Cond.static yX10_beginsWithDollar ∈ zW := zin 574 (by decide +kernel) (by decide +kernel)
abbrev wsX10_beginsWithDollar : List Cond := Cond.code yX10_beginsWithDollar cX10_beginsWithDollar 1 (some FieldType.boolean) :: zW
theorem wc_X10_beginsWithDollar : Cond.code yX10_beginsWithDollar cX10_beginsWithDollar 1 (some FieldType.boolean) ∈ zW := zin 575 (by decide +kernel) (by decide +kernel)
theorem wm_X10_116 : Cond.methodLink RX10 116 yJ0_isEmpty_aae02 ∈ zW := zin 576 (by decide +kernel) (by decide +kernel)
theorem wn_J0_isEmpty_aae02 : Cond.instanceMethod yJ0_isEmpty_aae02 ∈ zW := zin 577 (by decide +kernel) (by decide +kernel)
theorem we_J0_isEmpty_aae02 : Cond.selects RJ0 yJ0_isEmpty_aae02 yJ0_isEmpty_aae02 ∈ zW := zin 578 (by decide +kernel) (by decide +kernel)
abbrev wsJ0_isEmpty_aae02 : List Cond := Cond.code yJ0_isEmpty_aae02 cJ0_isEmpty_aae02 1 (some FieldType.boolean) :: zW
theorem wc_J0_isEmpty_aae02 : Cond.code yJ0_isEmpty_aae02 cJ0_isEmpty_aae02 1 (some FieldType.boolean) ∈ zW := zin 579 (by decide +kernel) (by decide +kernel)
theorem wm_X10_121 : Cond.methodLink RX10 121 yJ0_charAt_5068e ∈ zW := zin 580 (by decide +kernel) (by decide +kernel)
theorem wm_X2_54 : Cond.methodLink RX2 54 yX2_addJoin ∈ zW := zin 581 (by decide +kernel) (by decide +kernel)
theorem wn_X2_addJoin : Cond.instanceMethod yX2_addJoin ∈ zW := zin 583 (by decide +kernel) (by decide +kernel)
abbrev wsX2_addJoin : List Cond := Cond.code yX2_addJoin cX2_addJoin 6 none :: zW
theorem wc_X2_addJoin : Cond.code yX2_addJoin cX2_addJoin 6 none ∈ zW := zin 584 (by decide +kernel) (by decide +kernel)
theorem wm_X2_64 : Cond.methodLink RX2 64 yX2_joinSign ∈ zW := zin 585 (by decide +kernel) (by decide +kernel)
theorem wt_X2_joinSign : Cond.static yX2_joinSign ∈ zW := zin 586 (by decide +kernel) (by decide +kernel)
abbrev wsX2_joinSign : List Cond := Cond.code yX2_joinSign cX2_joinSign 1 (some FieldType.int) :: zW
theorem wc_X2_joinSign : Cond.code yX2_joinSign cX2_joinSign 1 (some FieldType.int) ∈ zW := zin 587 (by decide +kernel) (by decide +kernel)
theorem wm_X2_86 : Cond.methodLink RX2 86 yJ0_equals_9ea2d ∈ zW := zin 589 (by decide +kernel) (by decide +kernel)
theorem wm_X2_68 : Cond.methodLink RX2 68 yX2_refuse ∈ zW := zin 592 (by decide +kernel) (by decide +kernel)
theorem wn_X2_refuse : Cond.instanceMethod yX2_refuse ∈ zW := zin 594 (by decide +kernel) (by decide +kernel)
abbrev wsX2_refuse : List Cond := Cond.code yX2_refuse cX2_refuse 3 none :: zW
theorem wc_X2_refuse : Cond.code yX2_refuse cX2_refuse 3 none ∈ zW := zin 595 (by decide +kernel) (by decide +kernel)
theorem wm_X2_80 : Cond.methodLink RX2 80 yX2_mayCount ∈ zW := zin 596 (by decide +kernel) (by decide +kernel)
theorem wn_X2_mayCount : Cond.instanceMethod yX2_mayCount ∈ zW := zin 598 (by decide +kernel) (by decide +kernel)
abbrev wsX2_mayCount : List Cond := Cond.code yX2_mayCount cX2_mayCount 3 (some FieldType.boolean) :: zW
theorem wc_X2_mayCount : Cond.code yX2_mayCount cX2_mayCount 3 (some FieldType.boolean) ∈ zW := zin 599 (by decide +kernel) (by decide +kernel)
theorem wl_X2_33 : Cond.classLink RX2 33 "FilterReader$Rule" ∈ zW := zin 600 (by decide +kernel) (by decide +kernel)
theorem wm_X2_92 : Cond.methodLinkNest RX2 92 yX6_init "FilterReader" ∈ zNest := znin 601 (by decide +kernel) (by decide +kernel)
theorem wm_X2_95 : Cond.methodLinkNest RX2 95 yX6_add "FilterReader" ∈ zNest := znin 602 (by decide +kernel) (by decide +kernel)
theorem wn_X6_add : Cond.instanceMethod yX6_add ∈ zW := zin 604 (by decide +kernel) (by decide +kernel)
abbrev wsX6_add : List Cond := Cond.code yX6_add cX6_add 2 none :: zW
theorem wc_X6_add : Cond.code yX6_add cX6_add 2 none ∈ zW := zin 605 (by decide +kernel) (by decide +kernel)
theorem wm_X2_99 : Cond.methodLink RX2 99 yX2_addJoined ∈ zW := zin 606 (by decide +kernel) (by decide +kernel)
theorem wn_X2_addJoined : Cond.instanceMethod yX2_addJoined ∈ zW := zin 608 (by decide +kernel) (by decide +kernel)
abbrev wsX2_addJoined : List Cond := Cond.code yX2_addJoined cX2_addJoined 5 none :: zW
theorem wc_X2_addJoined : Cond.code yX2_addJoined cX2_addJoined 5 none ∈ zW := zin 609 (by decide +kernel) (by decide +kernel)
theorem wm_X2_58 : Cond.methodLink RX2 58 yX2_addPath ∈ zW := zin 610 (by decide +kernel) (by decide +kernel)
theorem wn_X2_addPath : Cond.instanceMethod yX2_addPath ∈ zW := zin 612 (by decide +kernel) (by decide +kernel)
abbrev wsX2_addPath : List Cond := Cond.code yX2_addPath cX2_addPath 7 none :: zW
theorem wc_X2_addPath : Cond.code yX2_addPath cX2_addPath 7 none ∈ zW := zin 613 (by decide +kernel) (by decide +kernel)
theorem wm_X2_102 : Cond.methodLinkNest RX2 102 yX7_ofPath "FilterReader" ∈ zNest := znin 614 (by decide +kernel) (by decide +kernel)
theorem wt_X7_ofPath : Cond.static yX7_ofPath ∈ zW := zin 615 (by decide +kernel) (by decide +kernel)
abbrev wsX7_ofPath : List Cond := Cond.code yX7_ofPath cX7_ofPath 5 (some (FieldType.object "FilterReader$Step")) :: zW
theorem wc_X7_ofPath : Cond.code yX7_ofPath cX7_ofPath 5 (some (FieldType.object "FilterReader$Step")) ∈ zW := zin 616 (by decide +kernel) (by decide +kernel)
theorem wm_X7_23 : Cond.methodLink RX7 23 yJ0_length_8abf5 ∈ zW := zin 617 (by decide +kernel) (by decide +kernel)
theorem wm_X7_29 : Cond.methodLink RX7 29 yJ0_charAt_5068e ∈ zW := zin 618 (by decide +kernel) (by decide +kernel)
theorem wm_X7_33 : Cond.methodLink RX7 33 yJ0_substring_37a41 ∈ zW := zin 619 (by decide +kernel) (by decide +kernel)
theorem wn_J0_substring_37a41 : Cond.instanceMethod yJ0_substring_37a41 ∈ zW := zin 620 (by decide +kernel) (by decide +kernel)
theorem we_J0_substring_37a41 : Cond.selects RJ0 yJ0_substring_37a41 yJ0_substring_37a41 ∈ zW := zin 621 (by decide +kernel) (by decide +kernel)
abbrev wsJ0_substring_37a41 : List Cond := Cond.code yJ0_substring_37a41 cJ0_substring_37a41 5 (some (FieldType.object "java/lang/String")) :: zW
theorem wc_J0_substring_37a41 : Cond.code yJ0_substring_37a41 cJ0_substring_37a41 5 (some (FieldType.object "java/lang/String")) ∈ zW := zin 622 (by decide +kernel) (by decide +kernel)
theorem wm_J0_505 : Cond.methodLink RJ0 505 yJ0_length_8abf5 ∈ zW := zin 623 (by decide +kernel) (by decide +kernel)
theorem wm_J0_521 : Cond.methodLink RJ0 521 yJ0_checkBoundsBeginEnd_23922 ∈ zW := zin 624 (by decide +kernel) (by decide +kernel)
theorem wt_J0_checkBoundsBeginEnd_23922 : Cond.static yJ0_checkBoundsBeginEnd_23922 ∈ zW := zin 625 (by decide +kernel) (by decide +kernel)
abbrev wsJ0_checkBoundsBeginEnd_23922 : List Cond := Cond.code yJ0_checkBoundsBeginEnd_23922 cJ0_checkBoundsBeginEnd_23922 3 none :: zW
theorem wc_J0_checkBoundsBeginEnd_23922 : Cond.code yJ0_checkBoundsBeginEnd_23922 cJ0_checkBoundsBeginEnd_23922 3 none ∈ zW := zin 626 (by decide +kernel) (by decide +kernel)
theorem wm_J0_1062 : Cond.methodLink RJ0 1062 yJ3_checkFromToIndex_8c36e ∈ zW := zin 627 (by decide +kernel) (by decide +kernel)
theorem wt_J3_checkFromToIndex_8c36e : Cond.static yJ3_checkFromToIndex_8c36e ∈ zW := zin 628 (by decide +kernel) (by decide +kernel)
abbrev wsJ3_checkFromToIndex_8c36e : List Cond := Cond.code yJ3_checkFromToIndex_8c36e cJ3_checkFromToIndex_8c36e 4 (some FieldType.int) :: zW
theorem wc_J3_checkFromToIndex_8c36e : Cond.code yJ3_checkFromToIndex_8c36e cJ3_checkFromToIndex_8c36e 4 (some FieldType.int) ∈ zW := zin 629 (by decide +kernel) (by decide +kernel)
theorem wm_J0_685 : Cond.methodLink RJ0 685 yJ1_newString_b4f7a ∈ zW := zin 630 (by decide +kernel) (by decide +kernel)
theorem wt_J1_newString_b4f7a : Cond.static yJ1_newString_b4f7a ∈ zW := zin 631 (by decide +kernel) (by decide +kernel)
abbrev wsJ1_newString_b4f7a : List Cond := Cond.code yJ1_newString_b4f7a cJ1_newString_b4f7a 3 (some (FieldType.object "java/lang/String")) :: zW
theorem wc_J1_newString_b4f7a : Cond.code yJ1_newString_b4f7a cJ1_newString_b4f7a 3 (some (FieldType.object "java/lang/String")) ∈ zW := zin 632 (by decide +kernel) (by decide +kernel)
theorem wl_J1_1 : Cond.classLink RJ1 1 "java/lang/String" ∈ zW := zin 634 (by decide +kernel) (by decide +kernel)
theorem wm_J1_232 : Cond.methodLink RJ1 232 yJ7_copyOfRange_39247 ∈ zW := zin 635 (by decide +kernel) (by decide +kernel)
theorem wt_J7_copyOfRange_39247 : Cond.static yJ7_copyOfRange_39247 ∈ zW := zin 636 (by decide +kernel) (by decide +kernel)
abbrev wsJ7_copyOfRange_39247 : List Cond := Cond.code yJ7_copyOfRange_39247 cJ7_copyOfRange_39247 3 (some (FieldType.array FieldType.byte)) :: zW
theorem wc_J7_copyOfRange_39247 : Cond.code yJ7_copyOfRange_39247 cJ7_copyOfRange_39247 3 (some (FieldType.array FieldType.byte)) ∈ zW := zin 637 (by decide +kernel) (by decide +kernel)
theorem wm_J7_339 : Cond.methodLink RJ7 339 yJ7_copyOfRangeByte_39247 ∈ zW := zin 638 (by decide +kernel) (by decide +kernel)
theorem wt_J7_copyOfRangeByte_39247 : Cond.static yJ7_copyOfRangeByte_39247 ∈ zW := zin 639 (by decide +kernel) (by decide +kernel)
abbrev wsJ7_copyOfRangeByte_39247 : List Cond := Cond.code yJ7_copyOfRangeByte_39247 cJ7_copyOfRangeByte_39247 5 (some (FieldType.array FieldType.byte)) :: zW
theorem wc_J7_copyOfRangeByte_39247 : Cond.code yJ7_copyOfRangeByte_39247 cJ7_copyOfRangeByte_39247 5 (some (FieldType.array FieldType.byte)) ∈ zW := zin 640 (by decide +kernel) (by decide +kernel)
theorem wm_J7_343 : Cond.methodLink RJ7 343 yJ7_checkLength_df160 ∈ zW := zin 641 (by decide +kernel) (by decide +kernel)
theorem wt_J7_checkLength_df160 : Cond.static yJ7_checkLength_df160 ∈ zW := zin 642 (by decide +kernel) (by decide +kernel)
abbrev wsJ7_checkLength_df160 : List Cond := Cond.code yJ7_checkLength_df160 cJ7_checkLength_df160 2 none :: zW
theorem wc_J7_checkLength_df160 : Cond.code yJ7_checkLength_df160 cJ7_checkLength_df160 2 none ∈ zW := zin 643 (by decide +kernel) (by decide +kernel)
theorem wm_J7_304 : Cond.methodLink RJ7 304 yJ9_min_7cf53 ∈ zW := zin 644 (by decide +kernel) (by decide +kernel)
theorem wt_J9_min_7cf53 : Cond.static yJ9_min_7cf53 ∈ zW := zin 645 (by decide +kernel) (by decide +kernel)
abbrev wsJ9_min_7cf53 : List Cond := Cond.code yJ9_min_7cf53 cJ9_min_7cf53 2 (some FieldType.int) :: zW
theorem wc_J9_min_7cf53 : Cond.code yJ9_min_7cf53 cJ9_min_7cf53 2 (some FieldType.int) ∈ zW := zin 646 (by decide +kernel) (by decide +kernel)
theorem wm_J7_150 : Cond.methodLink RJ7 150 (⟨"java/lang/System", "arraycopy", "(Ljava/lang/Object;ILjava/lang/Object;II)V"⟩ : MethodName) ∈ zW := zin 647 (by decide +kernel) (by decide +kernel)
theorem wm_J7_310 : Cond.methodLink RJ7 310 (⟨"[B", "clone", "()Ljava/lang/Object;"⟩ : MethodName) ∈ zW := zin 650 (by decide +kernel) (by decide +kernel)
theorem wl_J7_311 : Cond.classLink RJ7 311 "[B" ∈ zW := zin 656 (by decide +kernel) (by decide +kernel)
theorem wm_J1_112 : Cond.methodLink RJ1 112 yJ0_init_031fb ∈ zW := zin 657 (by decide +kernel) (by decide +kernel)
theorem wn_J0_init_031fb : Cond.instanceMethod yJ0_init_031fb ∈ zW := zin 658 (by decide +kernel) (by decide +kernel)
abbrev wsJ0_init_031fb : List Cond := Cond.code yJ0_init_031fb cJ0_init_031fb 3 none :: zW
theorem wc_J0_init_031fb : Cond.code yJ0_init_031fb cJ0_init_031fb 3 none ∈ zW := zin 659 (by decide +kernel) (by decide +kernel)
theorem wm_J0_689 : Cond.methodLink RJ0 689 yJ2_newString_b4f7a ∈ zW := zin 660 (by decide +kernel) (by decide +kernel)
theorem wt_J2_newString_b4f7a : Cond.static yJ2_newString_b4f7a ∈ zW := zin 661 (by decide +kernel) (by decide +kernel)
abbrev wsJ2_newString_b4f7a : List Cond := Cond.code yJ2_newString_b4f7a cJ2_newString_b4f7a 5 (some (FieldType.object "java/lang/String")) :: zW
theorem wc_J2_newString_b4f7a : Cond.code yJ2_newString_b4f7a cJ2_newString_b4f7a 5 (some (FieldType.object "java/lang/String")) ∈ zW := zin 662 (by decide +kernel) (by decide +kernel)
theorem wf_J2_251 : Cond.fieldLink RJ2 251 "java/lang/String" "COMPACT_STRINGS" "Z" ∈ zW := zin 664 (by decide +kernel) (by decide +kernel)
theorem wm_J2_257 : Cond.methodLink RJ2 257 yJ2_compress_39247 ∈ zW := zin 665 (by decide +kernel) (by decide +kernel)
theorem wt_J2_compress_39247 : Cond.static yJ2_compress_39247 ∈ zW := zin 666 (by decide +kernel) (by decide +kernel)
abbrev wsJ2_compress_39247 : List Cond := Cond.code yJ2_compress_39247 cJ2_compress_39247 6 (some (FieldType.array FieldType.byte)) :: zW
theorem wc_J2_compress_39247 : Cond.code yJ2_compress_39247 cJ2_compress_39247 6 (some (FieldType.array FieldType.byte)) ∈ zW := zin 667 (by decide +kernel) (by decide +kernel)
theorem wm_J2_126 : Cond.methodLink RJ2 126 yJ7_copyOfRange_39247 ∈ zW := zin 668 (by decide +kernel) (by decide +kernel)
theorem wm_J2_259 : Cond.methodLink RJ2 259 yJ2_coderFromArrayLen_85cad ∈ zW := zin 669 (by decide +kernel) (by decide +kernel)
theorem wl_J2_3 : Cond.classLink RJ2 3 "java/lang/String" ∈ zW := zin 670 (by decide +kernel) (by decide +kernel)
theorem wm_J2_263 : Cond.methodLink RJ2 263 yJ0_init_031fb ∈ zW := zin 671 (by decide +kernel) (by decide +kernel)
theorem wm_X7_37 : Cond.methodLink RX7 37 yJ0_isEmpty_aae02 ∈ zW := zin 672 (by decide +kernel) (by decide +kernel)
theorem wm_X7_41 : Cond.methodLinkNest RX7 41 yX10_beginsWithDollar "FilterReader" ∈ zNest := znin 673 (by decide +kernel) (by decide +kernel)
theorem wl_X7_10 : Cond.classLink RX7 10 "FilterReader$Step" ∈ zW := zin 674 (by decide +kernel) (by decide +kernel)
theorem wa_X7 : Cond.instantiable RX7 3 ∈ zW := zin 675 (by decide +kernel) (by decide +kernel)
theorem wm_X7_45 : Cond.methodLink RX7 45 yX7_init ∈ zW := zin 676 (by decide +kernel) (by decide +kernel)
theorem wn_X7_init : Cond.instanceMethod yX7_init ∈ zW := zin 677 (by decide +kernel) (by decide +kernel)
abbrev wsX7_init : List Cond := Cond.code yX7_init cX7_init 3 none :: zW
theorem wc_X7_init : Cond.code yX7_init cX7_init 3 none ∈ zW := zin 678 (by decide +kernel) (by decide +kernel)
theorem wm_X7_3 : Cond.methodLink RX7 3 (⟨"java/lang/Object", "<init>", "()V"⟩ : MethodName) ∈ zW := zin 679 (by decide +kernel) (by decide +kernel)
theorem wf_X7_9 : Cond.fieldLink RX7 9 "FilterReader$Step" "name" "Ljava/lang/String;" ∈ zW := zin 680 (by decide +kernel) (by decide +kernel)
theorem wf_X4_77 : Cond.fieldLinkNest RX4 77 "FilterReader$Step" "name" "Ljava/lang/String;" "FilterReader" ∈ zNest := znin 681 (by decide +kernel) (by decide +kernel)
theorem wf_X7_15 : Cond.fieldLink RX7 15 "FilterReader$Step" "next" "LFilterReader$Step;" ∈ zW := zin 682 (by decide +kernel) (by decide +kernel)
theorem wf_X4_87 : Cond.fieldLinkNest RX4 87 "FilterReader$Step" "next" "LFilterReader$Step;" "FilterReader" ∈ zNest := znin 683 (by decide +kernel) (by decide +kernel)
theorem wf_X7_19 : Cond.fieldLink RX7 19 "FilterReader$Step" "count" "I" ∈ zW := zin 684 (by decide +kernel) (by decide +kernel)
theorem wf_X2_116 : Cond.fieldLinkNest RX2 116 "FilterReader$Step" "count" "I" "FilterReader" ∈ zNest := znin 685 (by decide +kernel) (by decide +kernel)
theorem wm_X2_108 : Cond.methodLinkNest RX2 108 yX9_isConditions "FilterReader" ∈ zNest := znin 693 (by decide +kernel) (by decide +kernel)
theorem wn_X9_isConditions : Cond.instanceMethod yX9_isConditions ∈ zW := zin 695 (by decide +kernel) (by decide +kernel)
abbrev wsX9_isConditions : List Cond := Cond.code yX9_isConditions cX9_isConditions 1 (some FieldType.boolean) :: zW
theorem wc_X9_isConditions : Cond.code yX9_isConditions cX9_isConditions 1 (some FieldType.boolean) ∈ zW := zin 696 (by decide +kernel) (by decide +kernel)
theorem wm_X9_46 : Cond.methodLinkNest RX9 46 yX10_beginsWithDollar "FilterReader" ∈ zNest := znin 697 (by decide +kernel) (by decide +kernel)
theorem wm_X2_117 : Cond.methodLink RX2 117 yX2_addConditions ∈ zW := zin 698 (by decide +kernel) (by decide +kernel)
theorem wn_X2_addConditions : Cond.instanceMethod yX2_addConditions ∈ zW := zin 700 (by decide +kernel) (by decide +kernel)
abbrev wsX2_addConditions : List Cond := Cond.code yX2_addConditions cX2_addConditions 4 none :: zW
theorem wc_X2_addConditions : Cond.code yX2_addConditions cX2_addConditions 4 none ∈ zW := zin 701 (by decide +kernel) (by decide +kernel)
theorem wm_X2_120 : Cond.methodLink RX2 120 yX2_addCondition ∈ zW := zin 702 (by decide +kernel) (by decide +kernel)
theorem wn_X2_addCondition : Cond.instanceMethod yX2_addCondition ∈ zW := zin 704 (by decide +kernel) (by decide +kernel)
abbrev wsX2_addCondition : List Cond := Cond.code yX2_addCondition cX2_addCondition 6 none :: zW
theorem wc_X2_addCondition : Cond.code yX2_addCondition cX2_addCondition 6 none ∈ zW := zin 705 (by decide +kernel) (by decide +kernel)
theorem wm_X2_123 : Cond.methodLink RX2 123 yX2_conditionSign ∈ zW := zin 706 (by decide +kernel) (by decide +kernel)
theorem wt_X2_conditionSign : Cond.static yX2_conditionSign ∈ zW := zin 707 (by decide +kernel) (by decide +kernel)
abbrev wsX2_conditionSign : List Cond := Cond.code yX2_conditionSign cX2_conditionSign 2 (some FieldType.int) :: zW
theorem wc_X2_conditionSign : Cond.code yX2_conditionSign cX2_conditionSign 2 (some FieldType.int) ∈ zW := zin 708 (by decide +kernel) (by decide +kernel)
theorem wm_X2_155 : Cond.methodLink RX2 155 yX2_elemSign ∈ zW := zin 716 (by decide +kernel) (by decide +kernel)
theorem wt_X2_elemSign : Cond.static yX2_elemSign ∈ zW := zin 717 (by decide +kernel) (by decide +kernel)
abbrev wsX2_elemSign : List Cond := Cond.code yX2_elemSign cX2_elemSign 2 (some FieldType.int) :: zW
theorem wc_X2_elemSign : Cond.code yX2_elemSign cX2_elemSign 2 (some FieldType.int) ∈ zW := zin 718 (by decide +kernel) (by decide +kernel)
theorem wm_X2_160 : Cond.methodLink RX2 160 yX2_orderSign ∈ zW := zin 720 (by decide +kernel) (by decide +kernel)
theorem wt_X2_orderSign : Cond.static yX2_orderSign ∈ zW := zin 721 (by decide +kernel) (by decide +kernel)
abbrev wsX2_orderSign : List Cond := Cond.code yX2_orderSign cX2_orderSign 3 (some FieldType.int) :: zW
theorem wc_X2_orderSign : Cond.code yX2_orderSign cX2_orderSign 3 (some FieldType.int) ∈ zW := zin 722 (by decide +kernel) (by decide +kernel)
theorem wm_X2_127 : Cond.methodLink RX2 127 yX2_isValueFor ∈ zW := zin 727 (by decide +kernel) (by decide +kernel)
theorem wt_X2_isValueFor : Cond.static yX2_isValueFor ∈ zW := zin 728 (by decide +kernel) (by decide +kernel)
abbrev wsX2_isValueFor : List Cond := Cond.code yX2_isValueFor cX2_isValueFor 2 (some FieldType.boolean) :: zW
theorem wc_X2_isValueFor : Cond.code yX2_isValueFor cX2_isValueFor 2 (some FieldType.boolean) ∈ zW := zin 729 (by decide +kernel) (by decide +kernel)
theorem wm_X2_175 : Cond.methodLinkNest RX2 175 yX3_classOf "FilterReader" ∈ zNest := znin 730 (by decide +kernel) (by decide +kernel)
theorem wt_X3_classOf : Cond.static yX3_classOf ∈ zW := zin 731 (by decide +kernel) (by decide +kernel)
abbrev wsX3_classOf : List Cond := Cond.code yX3_classOf cX3_classOf 1 (some FieldType.int) :: zW
theorem wc_X3_classOf : Cond.code yX3_classOf cX3_classOf 1 (some FieldType.int) ∈ zW := zin 732 (by decide +kernel) (by decide +kernel)
theorem wm_X2_130 : Cond.methodLink RX2 130 yX2_isNegated ∈ zW := zin 733 (by decide +kernel) (by decide +kernel)
theorem wt_X2_isNegated : Cond.static yX2_isNegated ∈ zW := zin 734 (by decide +kernel) (by decide +kernel)
abbrev wsX2_isNegated : List Cond := Cond.code yX2_isNegated cX2_isNegated 2 (some FieldType.boolean) :: zW
theorem wc_X2_isNegated : Cond.code yX2_isNegated cX2_isNegated 2 (some FieldType.boolean) ∈ zW := zin 735 (by decide +kernel) (by decide +kernel)
theorem wm_L_27 : Cond.methodLink RL 27 yX10_place ∈ zW := zin 736 (by decide +kernel) (by decide +kernel)
theorem wn_X10_place : Cond.instanceMethod yX10_place ∈ zW := zin 737 (by decide +kernel) (by decide +kernel)
theorem we_X10_place : Cond.selects RX10 yX10_place yX10_place ∈ zW := zin 738 (by decide +kernel) (by decide +kernel)
abbrev wsX10_place : List Cond := Cond.code yX10_place cX10_place 1 (some FieldType.int) :: zW
theorem wc_X10_place : Cond.code yX10_place cX10_place 1 (some FieldType.int) ∈ zW := zin 739 (by decide +kernel) (by decide +kernel)
theorem wm_L_32 : Cond.methodLink RL 32 yX10_many ∈ zW := zin 740 (by decide +kernel) (by decide +kernel)
theorem wn_X10_many : Cond.instanceMethod yX10_many ∈ zW := zin 741 (by decide +kernel) (by decide +kernel)
theorem we_X10_many : Cond.selects RX10 yX10_many yX10_many ∈ zW := zin 742 (by decide +kernel) (by decide +kernel)
abbrev wsX10_many : List Cond := Cond.code yX10_many cX10_many 4 (some FieldType.int) :: zW
theorem wc_X10_many : Cond.code yX10_many cX10_many 4 (some FieldType.int) ∈ zW := zin 743 (by decide +kernel) (by decide +kernel)
theorem wm_L_36 : Cond.methodLink RL 36 yX10_holds ∈ zW := zin 744 (by decide +kernel) (by decide +kernel)
theorem wn_X10_holds : Cond.instanceMethod yX10_holds ∈ zW := zin 745 (by decide +kernel) (by decide +kernel)
theorem we_X10_holds : Cond.selects RX10 yX10_holds yX10_holds ∈ zW := zin 746 (by decide +kernel) (by decide +kernel)
abbrev wsX10_holds : List Cond := Cond.code yX10_holds cX10_holds 5 (some FieldType.int) :: zW
theorem wc_X10_holds : Cond.code yX10_holds cX10_holds 5 (some FieldType.int) ∈ zW := zin 747 (by decide +kernel) (by decide +kernel)
theorem wm_X10_97 : Cond.methodLinkNest RX10 97 yX4_firstFailing "FilterReader" ∈ zNest := znin 748 (by decide +kernel) (by decide +kernel)
theorem wn_X4_firstFailing : Cond.instanceMethod yX4_firstFailing ∈ zW := zin 750 (by decide +kernel) (by decide +kernel)
abbrev wsX4_firstFailing : List Cond := Cond.code yX4_firstFailing cX4_firstFailing 6 (some FieldType.int) :: zW
theorem wc_X4_firstFailing : Cond.code yX4_firstFailing cX4_firstFailing 6 (some FieldType.int) ∈ zW := zin 751 (by decide +kernel) (by decide +kernel)
theorem wm_X4_30 : Cond.methodLink RX4 30 yX4_clauseHolds ∈ zW := zin 752 (by decide +kernel) (by decide +kernel)
theorem wn_X4_clauseHolds : Cond.instanceMethod yX4_clauseHolds ∈ zW := zin 754 (by decide +kernel) (by decide +kernel)
abbrev wsX4_clauseHolds : List Cond := Cond.code yX4_clauseHolds cX4_clauseHolds 4 (some FieldType.boolean) :: zW
theorem wc_X4_clauseHolds : Cond.code yX4_clauseHolds cX4_clauseHolds 4 (some FieldType.boolean) ∈ zW := zin 755 (by decide +kernel) (by decide +kernel)
theorem wm_X4_41 : Cond.methodLink RX4 41 yX4_somePartIs ∈ zW := zin 756 (by decide +kernel) (by decide +kernel)
theorem wn_X4_somePartIs : Cond.instanceMethod yX4_somePartIs ∈ zW := zin 758 (by decide +kernel) (by decide +kernel)
abbrev wsX4_somePartIs : List Cond := Cond.code yX4_somePartIs cX4_somePartIs 6 (some FieldType.boolean) :: zW
theorem wc_X4_somePartIs : Cond.code yX4_somePartIs cX4_somePartIs 6 (some FieldType.boolean) ∈ zW := zin 759 (by decide +kernel) (by decide +kernel)
theorem wm_X4_57 : Cond.methodLink RX4 57 yX4_firstFailing ∈ zW := zin 760 (by decide +kernel) (by decide +kernel)
theorem wm_X4_53 : Cond.methodLink RX4 53 yX4_conditionsHold ∈ zW := zin 761 (by decide +kernel) (by decide +kernel)
theorem wn_X4_conditionsHold : Cond.instanceMethod yX4_conditionsHold ∈ zW := zin 763 (by decide +kernel) (by decide +kernel)
abbrev wsX4_conditionsHold : List Cond := Cond.code yX4_conditionsHold cX4_conditionsHold 6 (some FieldType.boolean) :: zW
theorem wc_X4_conditionsHold : Cond.code yX4_conditionsHold cX4_conditionsHold 6 (some FieldType.boolean) ∈ zW := zin 764 (by decide +kernel) (by decide +kernel)
theorem wm_X4_61 : Cond.methodLink RX4 61 yX4_conditionHolds ∈ zW := zin 765 (by decide +kernel) (by decide +kernel)
theorem wn_X4_conditionHolds : Cond.instanceMethod yX4_conditionHolds ∈ zW := zin 767 (by decide +kernel) (by decide +kernel)
abbrev wsX4_conditionHolds : List Cond := Cond.code yX4_conditionHolds cX4_conditionHolds 7 (some FieldType.boolean) :: zW
theorem wc_X4_conditionHolds : Cond.code yX4_conditionHolds cX4_conditionHolds 7 (some FieldType.boolean) ∈ zW := zin 768 (by decide +kernel) (by decide +kernel)
theorem wm_X4_64 : Cond.methodLink RX4 64 yX4_tryLeaves ∈ zW := zin 769 (by decide +kernel) (by decide +kernel)
theorem wn_X4_tryLeaves : Cond.instanceMethod yX4_tryLeaves ∈ zW := zin 771 (by decide +kernel) (by decide +kernel)
abbrev wsX4_tryLeaves : List Cond := Cond.code yX4_tryLeaves cX4_tryLeaves 6 (some FieldType.int) :: zW
theorem wc_X4_tryLeaves : Cond.code yX4_tryLeaves cX4_tryLeaves 6 (some FieldType.int) ∈ zW := zin 772 (by decide +kernel) (by decide +kernel)
theorem wm_X4_68 : Cond.methodLink RX4 68 yX4_tryLeaf ∈ zW := zin 773 (by decide +kernel) (by decide +kernel)
theorem wn_X4_tryLeaf : Cond.instanceMethod yX4_tryLeaf ∈ zW := zin 775 (by decide +kernel) (by decide +kernel)
abbrev wsX4_tryLeaf : List Cond := Cond.code yX4_tryLeaf cX4_tryLeaf 4 (some FieldType.int) :: zW
theorem wc_X4_tryLeaf : Cond.code yX4_tryLeaf cX4_tryLeaf 4 (some FieldType.int) ∈ zW := zin 776 (by decide +kernel) (by decide +kernel)
theorem wm_X4_99 : Cond.methodLink RX4 99 yX4_passes ∈ zW := zin 777 (by decide +kernel) (by decide +kernel)
theorem wn_X4_passes : Cond.instanceMethod yX4_passes ∈ zW := zin 779 (by decide +kernel) (by decide +kernel)
abbrev wsX4_passes : List Cond := Cond.code yX4_passes cX4_passes 4 (some FieldType.boolean) :: zW
theorem wc_X4_passes : Cond.code yX4_passes cX4_passes 4 (some FieldType.boolean) ∈ zW := zin 780 (by decide +kernel) (by decide +kernel)
theorem wm_X4_105 : Cond.methodLink RX4 105 yX4_passesSome ∈ zW := zin 781 (by decide +kernel) (by decide +kernel)
theorem wn_X4_passesSome : Cond.instanceMethod yX4_passesSome ∈ zW := zin 783 (by decide +kernel) (by decide +kernel)
abbrev wsX4_passesSome : List Cond := Cond.code yX4_passesSome cX4_passesSome 4 (some FieldType.boolean) :: zW
theorem wc_X4_passesSome : Cond.code yX4_passesSome cX4_passesSome 4 (some FieldType.boolean) ∈ zW := zin 784 (by decide +kernel) (by decide +kernel)
theorem wm_X4_119 : Cond.methodLink RX4 119 yX4_passesWithItems ∈ zW := zin 785 (by decide +kernel) (by decide +kernel)
theorem wn_X4_passesWithItems : Cond.instanceMethod yX4_passesWithItems ∈ zW := zin 787 (by decide +kernel) (by decide +kernel)
abbrev wsX4_passesWithItems : List Cond := Cond.code yX4_passesWithItems cX4_passesWithItems 5 (some FieldType.boolean) :: zW
theorem wc_X4_passesWithItems : Cond.code yX4_passesWithItems cX4_passesWithItems 5 (some FieldType.boolean) ∈ zW := zin 788 (by decide +kernel) (by decide +kernel)
theorem wm_X4_123 : Cond.methodLink RX4 123 yX4_compares ∈ zW := zin 789 (by decide +kernel) (by decide +kernel)
theorem wn_X4_compares : Cond.instanceMethod yX4_compares ∈ zW := zin 791 (by decide +kernel) (by decide +kernel)
abbrev wsX4_compares : List Cond := Cond.code yX4_compares cX4_compares 5 (some FieldType.boolean) :: zW
theorem wc_X4_compares : Cond.code yX4_compares cX4_compares 5 (some FieldType.boolean) ∈ zW := zin 792 (by decide +kernel) (by decide +kernel)
theorem wm_X4_126 : Cond.methodLinkNest RX4 126 yX3_classOf "FilterReader" ∈ zNest := znin 793 (by decide +kernel) (by decide +kernel)
theorem wm_X4_130 : Cond.methodLinkNest RX4 130 yX5_compare "FilterReader" ∈ zNest := znin 794 (by decide +kernel) (by decide +kernel)
theorem wt_X5_compare : Cond.static yX5_compare ∈ zW := zin 795 (by decide +kernel) (by decide +kernel)
abbrev wsX5_compare : List Cond := Cond.code yX5_compare cX5_compare 5 (some FieldType.int) :: zW
theorem wc_X5_compare : Cond.code yX5_compare cX5_compare 5 (some FieldType.int) ∈ zW := zin 796 (by decide +kernel) (by decide +kernel)
theorem wm_X5_15 : Cond.methodLinkNest RX5 15 yX3_classOf "FilterReader" ∈ zNest := znin 797 (by decide +kernel) (by decide +kernel)
theorem wm_X5_21 : Cond.methodLink RX5 21 yJ6_compare_7cf53 ∈ zW := zin 798 (by decide +kernel) (by decide +kernel)
theorem wt_J6_compare_7cf53 : Cond.static yJ6_compare_7cf53 ∈ zW := zin 799 (by decide +kernel) (by decide +kernel)
abbrev wsJ6_compare_7cf53 : List Cond := Cond.code yJ6_compare_7cf53 cJ6_compare_7cf53 2 (some FieldType.int) :: zW
theorem wc_J6_compare_7cf53 : Cond.code yJ6_compare_7cf53 cJ6_compare_7cf53 2 (some FieldType.int) ∈ zW := zin 800 (by decide +kernel) (by decide +kernel)
theorem wm_X5_31 : Cond.methodLink RX5 31 yJ13_compare_74951 ∈ zW := zin 801 (by decide +kernel) (by decide +kernel)
theorem wt_J13_compare_74951 : Cond.static yJ13_compare_74951 ∈ zW := zin 802 (by decide +kernel) (by decide +kernel)
abbrev wsJ13_compare_74951 : List Cond := Cond.code yJ13_compare_74951 cJ13_compare_74951 4 (some FieldType.int) :: zW
theorem wc_J13_compare_74951 : Cond.code yJ13_compare_74951 cJ13_compare_74951 4 (some FieldType.int) ∈ zW := zin 803 (by decide +kernel) (by decide +kernel)
theorem wm_X5_40 : Cond.methodLink RX5 40 yX5_compareTexts ∈ zW := zin 804 (by decide +kernel) (by decide +kernel)
theorem wt_X5_compareTexts : Cond.static yX5_compareTexts ∈ zW := zin 805 (by decide +kernel) (by decide +kernel)
abbrev wsX5_compareTexts : List Cond := Cond.code yX5_compareTexts cX5_compareTexts 4 (some FieldType.int) :: zW
theorem wc_X5_compareTexts : Cond.code yX5_compareTexts cX5_compareTexts 4 (some FieldType.int) ∈ zW := zin 806 (by decide +kernel) (by decide +kernel)
theorem wm_X5_65 : Cond.methodLink RX5 65 yJ0_length_8abf5 ∈ zW := zin 807 (by decide +kernel) (by decide +kernel)
theorem wm_X5_71 : Cond.methodLink RX5 71 yJ9_min_7cf53 ∈ zW := zin 808 (by decide +kernel) (by decide +kernel)
theorem wm_X5_76 : Cond.methodLink RX5 76 yJ0_charAt_5068e ∈ zW := zin 809 (by decide +kernel) (by decide +kernel)
theorem wm_X5_46 : Cond.methodLink RX5 46 yX5_compareParts ∈ zW := zin 810 (by decide +kernel) (by decide +kernel)
theorem wt_X5_compareParts : Cond.static yX5_compareParts ∈ zW := zin 811 (by decide +kernel) (by decide +kernel)
abbrev wsX5_compareParts : List Cond := Cond.code yX5_compareParts cX5_compareParts 6 (some FieldType.int) :: zW
theorem wc_X5_compareParts : Cond.code yX5_compareParts cX5_compareParts 6 (some FieldType.int) ∈ zW := zin 812 (by decide +kernel) (by decide +kernel)
theorem wm_X5_54 : Cond.methodLink RX5 54 yX5_compareElements ∈ zW := zin 813 (by decide +kernel) (by decide +kernel)
theorem wt_X5_compareElements : Cond.static yX5_compareElements ∈ zW := zin 814 (by decide +kernel) (by decide +kernel)
abbrev wsX5_compareElements : List Cond := Cond.code yX5_compareElements cX5_compareElements 5 (some FieldType.int) :: zW
theorem wc_X5_compareElements : Cond.code yX5_compareElements cX5_compareElements 5 (some FieldType.int) ∈ zW := zin 815 (by decide +kernel) (by decide +kernel)
theorem wm_X5_63 : Cond.methodLink RX5 63 yX5_compare ∈ zW := zin 816 (by decide +kernel) (by decide +kernel)
theorem wm_X4_116 : Cond.methodLink RX4 116 yX4_hasItemFor ∈ zW := zin 817 (by decide +kernel) (by decide +kernel)
theorem wn_X4_hasItemFor : Cond.instanceMethod yX4_hasItemFor ∈ zW := zin 819 (by decide +kernel) (by decide +kernel)
abbrev wsX4_hasItemFor : List Cond := Cond.code yX4_hasItemFor cX4_hasItemFor 5 (some FieldType.boolean) :: zW
theorem wc_X4_hasItemFor : Cond.code yX4_hasItemFor cX4_hasItemFor 5 (some FieldType.boolean) ∈ zW := zin 820 (by decide +kernel) (by decide +kernel)
theorem wm_X4_74 : Cond.methodLink RX4 74 yX4_tryLeavesOfRow ∈ zW := zin 821 (by decide +kernel) (by decide +kernel)
theorem wn_X4_tryLeavesOfRow : Cond.instanceMethod yX4_tryLeavesOfRow ∈ zW := zin 823 (by decide +kernel) (by decide +kernel)
abbrev wsX4_tryLeavesOfRow : List Cond := Cond.code yX4_tryLeavesOfRow cX4_tryLeavesOfRow 8 (some FieldType.int) :: zW
theorem wc_X4_tryLeavesOfRow : Cond.code yX4_tryLeavesOfRow cX4_tryLeavesOfRow 8 (some FieldType.int) ∈ zW := zin 824 (by decide +kernel) (by decide +kernel)
theorem wm_X4_83 : Cond.methodLinkNest RX4 83 yX9_named "FilterReader" ∈ zNest := znin 825 (by decide +kernel) (by decide +kernel)
theorem wm_X4_91 : Cond.methodLink RX4 91 yJ9_max_7cf53 ∈ zW := zin 826 (by decide +kernel) (by decide +kernel)
theorem wt_J9_max_7cf53 : Cond.static yJ9_max_7cf53 ∈ zW := zin 827 (by decide +kernel) (by decide +kernel)
abbrev wsJ9_max_7cf53 : List Cond := Cond.code yJ9_max_7cf53 cJ9_max_7cf53 2 (some FieldType.int) :: zW
theorem wc_J9_max_7cf53 : Cond.code yJ9_max_7cf53 cJ9_max_7cf53 2 (some FieldType.int) ∈ zW := zin 828 (by decide +kernel) (by decide +kernel)
theorem wm_L_40 : Cond.methodLink RL 40 yX10_fails ∈ zW := zin 829 (by decide +kernel) (by decide +kernel)
theorem wn_X10_fails : Cond.instanceMethod yX10_fails ∈ zW := zin 830 (by decide +kernel) (by decide +kernel)
theorem we_X10_fails : Cond.selects RX10 yX10_fails yX10_fails ∈ zW := zin 831 (by decide +kernel) (by decide +kernel)
abbrev wsX10_fails : List Cond := Cond.code yX10_fails cX10_fails 5 (some FieldType.int) :: zW
theorem wc_X10_fails : Cond.code yX10_fails cX10_fails 5 (some FieldType.int) ∈ zW := zin 832 (by decide +kernel) (by decide +kernel)
theorem wm_L_44 : Cond.methodLink RL 44 yX10_which ∈ zW := zin 833 (by decide +kernel) (by decide +kernel)
theorem wn_X10_which : Cond.instanceMethod yX10_which ∈ zW := zin 834 (by decide +kernel) (by decide +kernel)
theorem we_X10_which : Cond.selects RX10 yX10_which yX10_which ∈ zW := zin 835 (by decide +kernel) (by decide +kernel)
abbrev wsX10_which : List Cond := Cond.code yX10_which cX10_which 4 (some FieldType.int) :: zW
theorem wc_X10_which : Cond.code yX10_which cX10_which 4 (some FieldType.int) ∈ zW := zin 836 (by decide +kernel) (by decide +kernel)
theorem wm_X10_101 : Cond.methodLink RX10 101 yX10_holds ∈ zW := zin 837 (by decide +kernel) (by decide +kernel)
theorem wl_L_10 : Cond.classLink RL 10 "FilterReaderModel" ∈ zW := zin 838 (by decide +kernel) (by decide +kernel)
theorem wa_X11 : Cond.instantiable RX11 23 ∈ zW := zin 839 (by decide +kernel) (by decide +kernel)
theorem wm_L_12 : Cond.methodLink RL 12 yX11_init ∈ zW := zin 840 (by decide +kernel) (by decide +kernel)
theorem wn_X11_init : Cond.instanceMethod yX11_init ∈ zW := zin 841 (by decide +kernel) (by decide +kernel)
abbrev wsX11_init : List Cond := Cond.code yX11_init cX11_init 2 none :: zW
theorem wc_X11_init : Cond.code yX11_init cX11_init 2 none ∈ zW := zin 842 (by decide +kernel) (by decide +kernel)
theorem wm_X11_1 : Cond.methodLink RX11 1 (⟨"java/lang/Object", "<init>", "()V"⟩ : MethodName) ∈ zW := zin 843 (by decide +kernel) (by decide +kernel)
theorem wf_X11_7 : Cond.fieldLink RX11 7 "FilterReaderModel" "store" "[I" ∈ zW := zin 844 (by decide +kernel) (by decide +kernel)
theorem wf_X11_53 : Cond.fieldLink RX11 53 "FilterReaderModel" "taped" "I" ∈ zW := zin 845 (by decide +kernel) (by decide +kernel)
theorem wf_X11_13 : Cond.fieldLink RX11 13 "FilterReaderModel" "place" "I" ∈ zW := zin 846 (by decide +kernel) (by decide +kernel)
theorem wf_X11_17 : Cond.fieldLink RX11 17 "FilterReaderModel" "counted" "[I" ∈ zW := zin 847 (by decide +kernel) (by decide +kernel)
theorem wf_X11_20 : Cond.fieldLink RX11 20 "FilterReaderModel" "paths" "[I" ∈ zW := zin 848 (by decide +kernel) (by decide +kernel)
theorem wf_X11_23 : Cond.fieldLink RX11 23 "FilterReaderModel" "steps" "[I" ∈ zW := zin 849 (by decide +kernel) (by decide +kernel)
theorem wf_X11_197 : Cond.fieldLink RX11 197 "FilterReaderModel" "nowCounted" "I" ∈ zW := zin 850 (by decide +kernel) (by decide +kernel)
theorem wf_X11_221 : Cond.fieldLink RX11 221 "FilterReaderModel" "nowPaths" "I" ∈ zW := zin 851 (by decide +kernel) (by decide +kernel)
theorem wf_X11_224 : Cond.fieldLink RX11 224 "FilterReaderModel" "nowSteps" "I" ∈ zW := zin 852 (by decide +kernel) (by decide +kernel)
theorem wf_X11_191 : Cond.fieldLink RX11 191 "FilterReaderModel" "wrong" "I" ∈ zW := zin 853 (by decide +kernel) (by decide +kernel)
theorem wf_X11_194 : Cond.fieldLink RX11 194 "FilterReaderModel" "wrongAt" "I" ∈ zW := zin 854 (by decide +kernel) (by decide +kernel)
theorem wf_X11_26 : Cond.fieldLink RX11 26 "FilterReaderModel" "work" "[I" ∈ zW := zin 855 (by decide +kernel) (by decide +kernel)
theorem wf_X11_68 : Cond.fieldLink RX11 68 "FilterReaderModel" "fault" "I" ∈ zW := zin 856 (by decide +kernel) (by decide +kernel)
theorem wf_X11_81 : Cond.fieldLink RX11 81 "FilterReaderModel" "nodes" "I" ∈ zW := zin 857 (by decide +kernel) (by decide +kernel)
theorem wf_X11_29 : Cond.fieldLink RX11 29 "FilterReaderModel" "parent" "[I" ∈ zW := zin 858 (by decide +kernel) (by decide +kernel)
theorem wf_X11_32 : Cond.fieldLink RX11 32 "FilterReaderModel" "begin" "[I" ∈ zW := zin 859 (by decide +kernel) (by decide +kernel)
theorem wf_X11_35 : Cond.fieldLink RX11 35 "FilterReaderModel" "nameEnd" "[I" ∈ zW := zin 860 (by decide +kernel) (by decide +kernel)
theorem wf_X11_38 : Cond.fieldLink RX11 38 "FilterReaderModel" "ends" "[I" ∈ zW := zin 861 (by decide +kernel) (by decide +kernel)
theorem wf_X11_41 : Cond.fieldLink RX11 41 "FilterReaderModel" "box" "[I" ∈ zW := zin 862 (by decide +kernel) (by decide +kernel)
theorem wf_X11_44 : Cond.fieldLink RX11 44 "FilterReaderModel" "many" "[I" ∈ zW := zin 863 (by decide +kernel) (by decide +kernel)
theorem wf_X11_47 : Cond.fieldLink RX11 47 "FilterReaderModel" "row" "[I" ∈ zW := zin 864 (by decide +kernel) (by decide +kernel)
theorem wf_X11_283 : Cond.fieldLink RX11 283 "FilterReaderModel" "met" "Z" ∈ zW := zin 865 (by decide +kernel) (by decide +kernel)
theorem wm_L_17 : Cond.methodLink RL 17 yX11_feed ∈ zW := zin 913 (by decide +kernel) (by decide +kernel)
theorem wn_X11_feed : Cond.instanceMethod yX11_feed ∈ zW := zin 914 (by decide +kernel) (by decide +kernel)
theorem we_X11_feed : Cond.selects RX11 yX11_feed yX11_feed ∈ zW := zin 915 (by decide +kernel) (by decide +kernel)
abbrev wsX11_feed : List Cond := Cond.code yX11_feed cX11_feed 6 (some FieldType.int) :: zW
theorem wc_X11_feed : Cond.code yX11_feed cX11_feed 6 (some FieldType.int) ∈ zW := zin 916 (by decide +kernel) (by decide +kernel)
theorem wm_X11_56 : Cond.methodLink RX11 56 yX11_put ∈ zW := zin 917 (by decide +kernel) (by decide +kernel)
theorem wn_X11_put : Cond.instanceMethod yX11_put ∈ zW := zin 919 (by decide +kernel) (by decide +kernel)
abbrev wsX11_put : List Cond := Cond.code yX11_put cX11_put 3 none :: zW
theorem wc_X11_put : Cond.code yX11_put cX11_put 3 none ∈ zW := zin 920 (by decide +kernel) (by decide +kernel)
theorem wm_L_22 : Cond.methodLink RL 22 yX11_read ∈ zW := zin 921 (by decide +kernel) (by decide +kernel)
theorem wn_X11_read : Cond.instanceMethod yX11_read ∈ zW := zin 922 (by decide +kernel) (by decide +kernel)
theorem we_X11_read : Cond.selects RX11 yX11_read yX11_read ∈ zW := zin 923 (by decide +kernel) (by decide +kernel)
abbrev wsX11_read : List Cond := Cond.code yX11_read cX11_read 4 (some FieldType.int) :: zW
theorem wc_X11_read : Cond.code yX11_read cX11_read 4 (some FieldType.int) ∈ zW := zin 924 (by decide +kernel) (by decide +kernel)
theorem wm_X11_308 : Cond.methodLink RX11 308 yX11_isFour ∈ zW := zin 925 (by decide +kernel) (by decide +kernel)
theorem wt_X11_isFour : Cond.static yX11_isFour ∈ zW := zin 926 (by decide +kernel) (by decide +kernel)
abbrev wsX11_isFour : List Cond := Cond.code yX11_isFour cX11_isFour 1 (some FieldType.boolean) :: zW
theorem wc_X11_isFour : Cond.code yX11_isFour cX11_isFour 1 (some FieldType.boolean) ∈ zW := zin 927 (by decide +kernel) (by decide +kernel)
theorem wm_X11_311 : Cond.methodLink RX11 311 yX11_isDocument ∈ zW := zin 928 (by decide +kernel) (by decide +kernel)
theorem wn_X11_isDocument : Cond.instanceMethod yX11_isDocument ∈ zW := zin 930 (by decide +kernel) (by decide +kernel)
abbrev wsX11_isDocument : List Cond := Cond.code yX11_isDocument cX11_isDocument 3 (some FieldType.boolean) :: zW
theorem wc_X11_isDocument : Cond.code yX11_isDocument cX11_isDocument 3 (some FieldType.boolean) ∈ zW := zin 931 (by decide +kernel) (by decide +kernel)
theorem wm_X11_121 : Cond.methodLink RX11 121 yX11_goOver ∈ zW := zin 932 (by decide +kernel) (by decide +kernel)
theorem wn_X11_goOver : Cond.instanceMethod yX11_goOver ∈ zW := zin 934 (by decide +kernel) (by decide +kernel)
abbrev wsX11_goOver : List Cond := Cond.code yX11_goOver cX11_goOver 5 none :: zW
theorem wc_X11_goOver : Cond.code yX11_goOver cX11_goOver 5 none ∈ zW := zin 935 (by decide +kernel) (by decide +kernel)
theorem wm_X11_84 : Cond.methodLink RX11 84 yX11_opens ∈ zW := zin 936 (by decide +kernel) (by decide +kernel)
theorem wn_X11_opens : Cond.instanceMethod yX11_opens ∈ zW := zin 938 (by decide +kernel) (by decide +kernel)
abbrev wsX11_opens : List Cond := Cond.code yX11_opens cX11_opens 8 (some FieldType.boolean) :: zW
theorem wc_X11_opens : Cond.code yX11_opens cX11_opens 8 (some FieldType.boolean) ∈ zW := zin 939 (by decide +kernel) (by decide +kernel)
theorem wm_X11_71 : Cond.methodLink RX11 71 yX11_stop ∈ zW := zin 940 (by decide +kernel) (by decide +kernel)
theorem wn_X11_stop : Cond.instanceMethod yX11_stop ∈ zW := zin 942 (by decide +kernel) (by decide +kernel)
abbrev wsX11_stop : List Cond := Cond.code yX11_stop cX11_stop 3 none :: zW
theorem wc_X11_stop : Cond.code yX11_stop cX11_stop 3 none ∈ zW := zin 943 (by decide +kernel) (by decide +kernel)
theorem wm_X11_75 : Cond.methodLink RX11 75 yX11_low ∈ zW := zin 944 (by decide +kernel) (by decide +kernel)
theorem wn_X11_low : Cond.instanceMethod yX11_low ∈ zW := zin 946 (by decide +kernel) (by decide +kernel)
abbrev wsX11_low : List Cond := Cond.code yX11_low cX11_low 6 (some FieldType.long) :: zW
theorem wc_X11_low : Cond.code yX11_low cX11_low 6 (some FieldType.long) ∈ zW := zin 947 (by decide +kernel) (by decide +kernel)
theorem wk_X11_79 : Cond.constantLong RX11 79 (5) ∈ zW := zin 948 (by decide +kernel) (by decide +kernel)
theorem wm_X11_88 : Cond.methodLink RX11 88 yX11_isKind ∈ zW := zin 949 (by decide +kernel) (by decide +kernel)
theorem wn_X11_isKind : Cond.instanceMethod yX11_isKind ∈ zW := zin 951 (by decide +kernel) (by decide +kernel)
abbrev wsX11_isKind : List Cond := Cond.code yX11_isKind cX11_isKind 2 (some FieldType.boolean) :: zW
theorem wc_X11_isKind : Cond.code yX11_isKind cX11_isKind 2 (some FieldType.boolean) ∈ zW := zin 952 (by decide +kernel) (by decide +kernel)
theorem wm_X11_92 : Cond.methodLink RX11 92 yX11_element ∈ zW := zin 953 (by decide +kernel) (by decide +kernel)
theorem wn_X11_element : Cond.instanceMethod yX11_element ∈ zW := zin 955 (by decide +kernel) (by decide +kernel)
abbrev wsX11_element : List Cond := Cond.code yX11_element cX11_element 8 (some FieldType.int) :: zW
theorem wc_X11_element : Cond.code yX11_element cX11_element 8 (some FieldType.int) ∈ zW := zin 956 (by decide +kernel) (by decide +kernel)
theorem wm_X11_96 : Cond.methodLink RX11 96 yX11_badText ∈ zW := zin 957 (by decide +kernel) (by decide +kernel)
theorem wt_X11_badText : Cond.static yX11_badText ∈ zW := zin 958 (by decide +kernel) (by decide +kernel)
abbrev wsX11_badText : List Cond := Cond.code yX11_badText cX11_badText 5 (some FieldType.int) :: zW
theorem wc_X11_badText : Cond.code yX11_badText cX11_badText 5 (some FieldType.int) ∈ zW := zin 959 (by decide +kernel) (by decide +kernel)
theorem wm_X11_64 : Cond.methodLink RX11 64 yX11_character ∈ zW := zin 960 (by decide +kernel) (by decide +kernel)
theorem wt_X11_character : Cond.static yX11_character ∈ zW := zin 961 (by decide +kernel) (by decide +kernel)
abbrev wsX11_character : List Cond := Cond.code yX11_character cX11_character 7 (some FieldType.int) :: zW
theorem wc_X11_character : Cond.code yX11_character cX11_character 7 (some FieldType.int) ∈ zW := zin 962 (by decide +kernel) (by decide +kernel)
theorem wk_X11_60 : Cond.constant RX11 60 (65536) ∈ zW := zin 963 (by decide +kernel) (by decide +kernel)
theorem wk_X11_61 : Cond.constant RX11 61 (1114111) ∈ zW := zin 964 (by decide +kernel) (by decide +kernel)
theorem wk_X11_62 : Cond.constant RX11 62 (55295) ∈ zW := zin 965 (by decide +kernel) (by decide +kernel)
theorem wk_X11_63 : Cond.constant RX11 63 (57344) ∈ zW := zin 966 (by decide +kernel) (by decide +kernel)
theorem wm_X11_99 : Cond.methodLink RX11 99 yX11_isName ∈ zW := zin 967 (by decide +kernel) (by decide +kernel)
theorem wn_X11_isName : Cond.instanceMethod yX11_isName ∈ zW := zin 969 (by decide +kernel) (by decide +kernel)
abbrev wsX11_isName : List Cond := Cond.code yX11_isName cX11_isName 7 (some FieldType.boolean) :: zW
theorem wc_X11_isName : Cond.code yX11_isName cX11_isName 7 (some FieldType.boolean) ∈ zW := zin 970 (by decide +kernel) (by decide +kernel)
theorem wm_X11_106 : Cond.methodLink RX11 106 yX11_isNumber ∈ zW := zin 971 (by decide +kernel) (by decide +kernel)
theorem wt_X11_isNumber : Cond.static yX11_isNumber ∈ zW := zin 972 (by decide +kernel) (by decide +kernel)
abbrev wsX11_isNumber : List Cond := Cond.code yX11_isNumber cX11_isNumber 5 (some FieldType.boolean) :: zW
theorem wc_X11_isNumber : Cond.code yX11_isNumber cX11_isNumber 5 (some FieldType.boolean) ∈ zW := zin 973 (by decide +kernel) (by decide +kernel)
theorem wm_X11_110 : Cond.methodLink RX11 110 yX11_digits ∈ zW := zin 974 (by decide +kernel) (by decide +kernel)
theorem wt_X11_digits : Cond.static yX11_digits ∈ zW := zin 975 (by decide +kernel) (by decide +kernel)
abbrev wsX11_digits : List Cond := Cond.code yX11_digits cX11_digits 1 (some FieldType.int) :: zW
theorem wc_X11_digits : Cond.code yX11_digits cX11_digits 1 (some FieldType.int) ∈ zW := zin 976 (by decide +kernel) (by decide +kernel)
theorem wm_X11_114 : Cond.methodLink RX11 114 yX11_digit ∈ zW := zin 977 (by decide +kernel) (by decide +kernel)
theorem wt_X11_digit : Cond.static yX11_digit ∈ zW := zin 978 (by decide +kernel) (by decide +kernel)
abbrev wsX11_digit : List Cond := Cond.code yX11_digit cX11_digit 4 (some FieldType.int) :: zW
theorem wc_X11_digit : Cond.code yX11_digit cX11_digit 4 (some FieldType.int) ∈ zW := zin 979 (by decide +kernel) (by decide +kernel)
theorem wm_X11_103 : Cond.methodLink RX11 103 yX11_value ∈ zW := zin 980 (by decide +kernel) (by decide +kernel)
theorem wn_X11_value : Cond.instanceMethod yX11_value ∈ zW := zin 982 (by decide +kernel) (by decide +kernel)
abbrev wsX11_value : List Cond := Cond.code yX11_value cX11_value 6 (some FieldType.int) :: zW
theorem wc_X11_value : Cond.code yX11_value cX11_value 6 (some FieldType.int) ∈ zW := zin 983 (by decide +kernel) (by decide +kernel)
theorem wm_X11_118 : Cond.methodLink RX11 118 yX11_text ∈ zW := zin 984 (by decide +kernel) (by decide +kernel)
theorem wn_X11_text : Cond.instanceMethod yX11_text ∈ zW := zin 986 (by decide +kernel) (by decide +kernel)
abbrev wsX11_text : List Cond := Cond.code yX11_text cX11_text 8 (some FieldType.int) :: zW
theorem wc_X11_text : Cond.code yX11_text cX11_text 8 (some FieldType.int) ∈ zW := zin 987 (by decide +kernel) (by decide +kernel)
theorem wm_L_26 : Cond.methodLink RL 26 yX11_filter ∈ zW := zin 988 (by decide +kernel) (by decide +kernel)
theorem wn_X11_filter : Cond.instanceMethod yX11_filter ∈ zW := zin 989 (by decide +kernel) (by decide +kernel)
theorem we_X11_filter : Cond.selects RX11 yX11_filter yX11_filter ∈ zW := zin 990 (by decide +kernel) (by decide +kernel)
abbrev wsX11_filter : List Cond := Cond.code yX11_filter cX11_filter 4 (some FieldType.int) :: zW
theorem wc_X11_filter : Cond.code yX11_filter cX11_filter 4 (some FieldType.int) ∈ zW := zin 991 (by decide +kernel) (by decide +kernel)
theorem wm_X11_215 : Cond.methodLink RX11 215 yX11_checkFilter ∈ zW := zin 992 (by decide +kernel) (by decide +kernel)
theorem wn_X11_checkFilter : Cond.instanceMethod yX11_checkFilter ∈ zW := zin 994 (by decide +kernel) (by decide +kernel)
abbrev wsX11_checkFilter : List Cond := Cond.code yX11_checkFilter cX11_checkFilter 3 none :: zW
theorem wc_X11_checkFilter : Cond.code yX11_checkFilter cX11_checkFilter 3 none ∈ zW := zin 995 (by decide +kernel) (by decide +kernel)
theorem wm_X11_137 : Cond.methodLink RX11 137 yX11_firstOf ∈ zW := zin 996 (by decide +kernel) (by decide +kernel)
theorem wn_X11_firstOf : Cond.instanceMethod yX11_firstOf ∈ zW := zin 998 (by decide +kernel) (by decide +kernel)
abbrev wsX11_firstOf : List Cond := Cond.code yX11_firstOf cX11_firstOf 2 (some FieldType.int) :: zW
theorem wc_X11_firstOf : Cond.code yX11_firstOf cX11_firstOf 2 (some FieldType.int) ∈ zW := zin 999 (by decide +kernel) (by decide +kernel)
theorem wm_X11_145 : Cond.methodLink RX11 145 yX11_isDollar ∈ zW := zin 1000 (by decide +kernel) (by decide +kernel)
theorem wn_X11_isDollar : Cond.instanceMethod yX11_isDollar ∈ zW := zin 1002 (by decide +kernel) (by decide +kernel)
abbrev wsX11_isDollar : List Cond := Cond.code yX11_isDollar cX11_isDollar 2 (some FieldType.boolean) :: zW
theorem wc_X11_isDollar : Cond.code yX11_isDollar cX11_isDollar 2 (some FieldType.boolean) ∈ zW := zin 1003 (by decide +kernel) (by decide +kernel)
theorem wm_X11_203 : Cond.methodLink RX11 203 yX11_checkJoin ∈ zW := zin 1004 (by decide +kernel) (by decide +kernel)
theorem wn_X11_checkJoin : Cond.instanceMethod yX11_checkJoin ∈ zW := zin 1006 (by decide +kernel) (by decide +kernel)
abbrev wsX11_checkJoin : List Cond := Cond.code yX11_checkJoin cX11_checkJoin 3 none :: zW
theorem wc_X11_checkJoin : Cond.code yX11_checkJoin cX11_checkJoin 3 none ∈ zW := zin 1007 (by decide +kernel) (by decide +kernel)
theorem wm_X11_209 : Cond.methodLink RX11 209 yX11_isJoin ∈ zW := zin 1008 (by decide +kernel) (by decide +kernel)
theorem wn_X11_isJoin : Cond.instanceMethod yX11_isJoin ∈ zW := zin 1010 (by decide +kernel) (by decide +kernel)
abbrev wsX11_isJoin : List Cond := Cond.code yX11_isJoin cX11_isJoin 2 (some FieldType.boolean) :: zW
theorem wc_X11_isJoin : Cond.code yX11_isJoin cX11_isJoin 2 (some FieldType.boolean) ∈ zW := zin 1011 (by decide +kernel) (by decide +kernel)
theorem wm_X11_158 : Cond.methodLink RX11 158 yX11_isAnd ∈ zW := zin 1012 (by decide +kernel) (by decide +kernel)
theorem wn_X11_isAnd : Cond.instanceMethod yX11_isAnd ∈ zW := zin 1014 (by decide +kernel) (by decide +kernel)
abbrev wsX11_isAnd : List Cond := Cond.code yX11_isAnd cX11_isAnd 2 (some FieldType.boolean) :: zW
theorem wc_X11_isAnd : Cond.code yX11_isAnd cX11_isAnd 2 (some FieldType.boolean) ∈ zW := zin 1015 (by decide +kernel) (by decide +kernel)
theorem wk_X11_148 : Cond.constantLong RX11 148 (1684955428) ∈ zW := zin 1016 (by decide +kernel) (by decide +kernel)
theorem wm_X11_150 : Cond.methodLink RX11 150 yX11_isNamed ∈ zW := zin 1017 (by decide +kernel) (by decide +kernel)
theorem wn_X11_isNamed : Cond.instanceMethod yX11_isNamed ∈ zW := zin 1019 (by decide +kernel) (by decide +kernel)
abbrev wsX11_isNamed : List Cond := Cond.code yX11_isNamed cX11_isNamed 7 (some FieldType.boolean) :: zW
theorem wc_X11_isNamed : Cond.code yX11_isNamed cX11_isNamed 7 (some FieldType.boolean) ∈ zW := zin 1020 (by decide +kernel) (by decide +kernel)
theorem wk_X11_143 : Cond.constantLong RX11 143 (255) ∈ zW := zin 1021 (by decide +kernel) (by decide +kernel)
theorem wm_X11_161 : Cond.methodLink RX11 161 yX11_isOr ∈ zW := zin 1022 (by decide +kernel) (by decide +kernel)
theorem wn_X11_isOr : Cond.instanceMethod yX11_isOr ∈ zW := zin 1024 (by decide +kernel) (by decide +kernel)
abbrev wsX11_isOr : List Cond := Cond.code yX11_isOr cX11_isOr 2 (some FieldType.boolean) :: zW
theorem wc_X11_isOr : Cond.code yX11_isOr cX11_isOr 2 (some FieldType.boolean) ∈ zW := zin 1025 (by decide +kernel) (by decide +kernel)
theorem wk_X11_154 : Cond.constantLong RX11 154 (7499556) ∈ zW := zin 1026 (by decide +kernel) (by decide +kernel)
theorem wm_X11_164 : Cond.methodLink RX11 164 yX11_isNor ∈ zW := zin 1027 (by decide +kernel) (by decide +kernel)
theorem wn_X11_isNor : Cond.instanceMethod yX11_isNor ∈ zW := zin 1029 (by decide +kernel) (by decide +kernel)
abbrev wsX11_isNor : List Cond := Cond.code yX11_isNor cX11_isNor 2 (some FieldType.boolean) :: zW
theorem wc_X11_isNor : Cond.code yX11_isNor cX11_isNor 2 (some FieldType.boolean) ∈ zW := zin 1030 (by decide +kernel) (by decide +kernel)
theorem wk_X11_156 : Cond.constantLong RX11 156 (1919905316) ∈ zW := zin 1031 (by decide +kernel) (by decide +kernel)
theorem wm_X11_200 : Cond.methodLink RX11 200 yX11_say ∈ zW := zin 1032 (by decide +kernel) (by decide +kernel)
theorem wn_X11_say : Cond.instanceMethod yX11_say ∈ zW := zin 1034 (by decide +kernel) (by decide +kernel)
abbrev wsX11_say : List Cond := Cond.code yX11_say cX11_say 3 none :: zW
theorem wc_X11_say : Cond.code yX11_say cX11_say 3 none ∈ zW := zin 1035 (by decide +kernel) (by decide +kernel)
theorem wm_X11_131 : Cond.methodLink RX11 131 yX11_valueOf ∈ zW := zin 1036 (by decide +kernel) (by decide +kernel)
theorem wn_X11_valueOf : Cond.instanceMethod yX11_valueOf ∈ zW := zin 1038 (by decide +kernel) (by decide +kernel)
abbrev wsX11_valueOf : List Cond := Cond.code yX11_valueOf cX11_valueOf 2 (some FieldType.int) :: zW
theorem wc_X11_valueOf : Cond.code yX11_valueOf cX11_valueOf 2 (some FieldType.int) ∈ zW := zin 1039 (by decide +kernel) (by decide +kernel)
theorem wm_X11_125 : Cond.methodLink RX11 125 yX11_nameEndOf ∈ zW := zin 1040 (by decide +kernel) (by decide +kernel)
theorem wn_X11_nameEndOf : Cond.instanceMethod yX11_nameEndOf ∈ zW := zin 1042 (by decide +kernel) (by decide +kernel)
abbrev wsX11_nameEndOf : List Cond := Cond.code yX11_nameEndOf cX11_nameEndOf 3 (some FieldType.int) :: zW
theorem wc_X11_nameEndOf : Cond.code yX11_nameEndOf cX11_nameEndOf 3 (some FieldType.int) ∈ zW := zin 1043 (by decide +kernel) (by decide +kernel)
theorem wm_X11_212 : Cond.methodLink RX11 212 yX11_count ∈ zW := zin 1044 (by decide +kernel) (by decide +kernel)
theorem wn_X11_count : Cond.instanceMethod yX11_count ∈ zW := zin 1046 (by decide +kernel) (by decide +kernel)
abbrev wsX11_count : List Cond := Cond.code yX11_count cX11_count 3 none :: zW
theorem wc_X11_count : Cond.code yX11_count cX11_count 3 none ∈ zW := zin 1047 (by decide +kernel) (by decide +kernel)
theorem wm_X11_140 : Cond.methodLink RX11 140 yX11_nextOf ∈ zW := zin 1048 (by decide +kernel) (by decide +kernel)
theorem wn_X11_nextOf : Cond.instanceMethod yX11_nextOf ∈ zW := zin 1050 (by decide +kernel) (by decide +kernel)
abbrev wsX11_nextOf : List Cond := Cond.code yX11_nextOf cX11_nextOf 4 (some FieldType.int) :: zW
theorem wc_X11_nextOf : Cond.code yX11_nextOf cX11_nextOf 4 (some FieldType.int) ∈ zW := zin 1051 (by decide +kernel) (by decide +kernel)
theorem wm_X11_134 : Cond.methodLink RX11 134 yX11_lengthOf ∈ zW := zin 1052 (by decide +kernel) (by decide +kernel)
theorem wn_X11_lengthOf : Cond.instanceMethod yX11_lengthOf ∈ zW := zin 1054 (by decide +kernel) (by decide +kernel)
abbrev wsX11_lengthOf : List Cond := Cond.code yX11_lengthOf cX11_lengthOf 3 (some FieldType.int) :: zW
theorem wc_X11_lengthOf : Cond.code yX11_lengthOf cX11_lengthOf 3 (some FieldType.int) ∈ zW := zin 1055 (by decide +kernel) (by decide +kernel)
theorem wm_X11_128 : Cond.methodLink RX11 128 yX11_whole ∈ zW := zin 1056 (by decide +kernel) (by decide +kernel)
theorem wn_X11_whole : Cond.instanceMethod yX11_whole ∈ zW := zin 1058 (by decide +kernel) (by decide +kernel)
abbrev wsX11_whole : List Cond := Cond.code yX11_whole cX11_whole 2 (some FieldType.int) :: zW
theorem wc_X11_whole : Cond.code yX11_whole cX11_whole 2 (some FieldType.int) ∈ zW := zin 1059 (by decide +kernel) (by decide +kernel)
theorem wk_X11_124 : Cond.constant RX11 124 (16777216) ∈ zW := zin 1060 (by decide +kernel) (by decide +kernel)
theorem wm_X11_206 : Cond.methodLink RX11 206 yX11_checkPath ∈ zW := zin 1061 (by decide +kernel) (by decide +kernel)
theorem wn_X11_checkPath : Cond.instanceMethod yX11_checkPath ∈ zW := zin 1063 (by decide +kernel) (by decide +kernel)
abbrev wsX11_checkPath : List Cond := Cond.code yX11_checkPath cX11_checkPath 4 none :: zW
theorem wc_X11_checkPath : Cond.code yX11_checkPath cX11_checkPath 4 none ∈ zW := zin 1064 (by decide +kernel) (by decide +kernel)
theorem wm_X11_218 : Cond.methodLink RX11 218 yX11_stepsOf ∈ zW := zin 1065 (by decide +kernel) (by decide +kernel)
theorem wn_X11_stepsOf : Cond.instanceMethod yX11_stepsOf ∈ zW := zin 1067 (by decide +kernel) (by decide +kernel)
abbrev wsX11_stepsOf : List Cond := Cond.code yX11_stepsOf cX11_stepsOf 7 (some FieldType.int) :: zW
theorem wc_X11_stepsOf : Cond.code yX11_stepsOf cX11_stepsOf 7 (some FieldType.int) ∈ zW := zin 1068 (by decide +kernel) (by decide +kernel)
theorem wm_X11_227 : Cond.methodLink RX11 227 yX11_isConditions ∈ zW := zin 1069 (by decide +kernel) (by decide +kernel)
theorem wn_X11_isConditions : Cond.instanceMethod yX11_isConditions ∈ zW := zin 1071 (by decide +kernel) (by decide +kernel)
abbrev wsX11_isConditions : List Cond := Cond.code yX11_isConditions cX11_isConditions 3 (some FieldType.boolean) :: zW
theorem wc_X11_isConditions : Cond.code yX11_isConditions cX11_isConditions 3 (some FieldType.boolean) ∈ zW := zin 1072 (by decide +kernel) (by decide +kernel)
theorem wm_X11_231 : Cond.methodLink RX11 231 yX11_checkConditions ∈ zW := zin 1073 (by decide +kernel) (by decide +kernel)
theorem wn_X11_checkConditions : Cond.instanceMethod yX11_checkConditions ∈ zW := zin 1075 (by decide +kernel) (by decide +kernel)
abbrev wsX11_checkConditions : List Cond := Cond.code yX11_checkConditions cX11_checkConditions 5 none :: zW
theorem wc_X11_checkConditions : Cond.code yX11_checkConditions cX11_checkConditions 5 none ∈ zW := zin 1076 (by decide +kernel) (by decide +kernel)
theorem wm_X11_234 : Cond.methodLink RX11 234 yX11_condition ∈ zW := zin 1077 (by decide +kernel) (by decide +kernel)
theorem wn_X11_condition : Cond.instanceMethod yX11_condition ∈ zW := zin 1079 (by decide +kernel) (by decide +kernel)
abbrev wsX11_condition : List Cond := Cond.code yX11_condition cX11_condition 2 (some FieldType.int) :: zW
theorem wc_X11_condition : Cond.code yX11_condition cX11_condition 2 (some FieldType.int) ∈ zW := zin 1080 (by decide +kernel) (by decide +kernel)
theorem wk_X11_167 : Cond.constantLong RX11 167 (7431460) ∈ zW := zin 1081 (by decide +kernel) (by decide +kernel)
theorem wk_X11_169 : Cond.constantLong RX11 169 (6647332) ∈ zW := zin 1082 (by decide +kernel) (by decide +kernel)
theorem wk_X11_171 : Cond.constantLong RX11 171 (7235876) ∈ zW := zin 1083 (by decide +kernel) (by decide +kernel)
theorem wk_X11_173 : Cond.constantLong RX11 173 (1852403236) ∈ zW := zin 1084 (by decide +kernel) (by decide +kernel)
theorem wk_X11_175 : Cond.constantLong RX11 175 (7629860) ∈ zW := zin 1085 (by decide +kernel) (by decide +kernel)
theorem wk_X11_177 : Cond.constantLong RX11 177 (1702128676) ∈ zW := zin 1086 (by decide +kernel) (by decide +kernel)
theorem wk_X11_179 : Cond.constantLong RX11 179 (7628580) ∈ zW := zin 1087 (by decide +kernel) (by decide +kernel)
theorem wk_X11_181 : Cond.constantLong RX11 181 (1702127396) ∈ zW := zin 1088 (by decide +kernel) (by decide +kernel)
theorem wk_X11_183 : Cond.constantLong RX11 183 (32497661361284388) ∈ zW := zin 1089 (by decide +kernel) (by decide +kernel)
theorem wk_X11_185 : Cond.constantLong RX11 185 (435845428004) ∈ zW := zin 1090 (by decide +kernel) (by decide +kernel)
theorem wk_X11_187 : Cond.constantLong RX11 187 (469853037860) ∈ zW := zin 1091 (by decide +kernel) (by decide +kernel)
theorem wk_X11_189 : Cond.constantLong RX11 189 (1953459748) ∈ zW := zin 1092 (by decide +kernel) (by decide +kernel)
theorem wm_X11_237 : Cond.methodLink RX11 237 yX11_isRight ∈ zW := zin 1093 (by decide +kernel) (by decide +kernel)
theorem wn_X11_isRight : Cond.instanceMethod yX11_isRight ∈ zW := zin 1095 (by decide +kernel) (by decide +kernel)
abbrev wsX11_isRight : List Cond := Cond.code yX11_isRight cX11_isRight 4 (some FieldType.boolean) :: zW
theorem wc_X11_isRight : Cond.code yX11_isRight cX11_isRight 4 (some FieldType.boolean) ∈ zW := zin 1096 (by decide +kernel) (by decide +kernel)
theorem wm_X11_243 : Cond.methodLink RX11 243 yX11_number ∈ zW := zin 1097 (by decide +kernel) (by decide +kernel)
theorem wn_X11_number : Cond.instanceMethod yX11_number ∈ zW := zin 1099 (by decide +kernel) (by decide +kernel)
abbrev wsX11_number : List Cond := Cond.code yX11_number cX11_number 6 (some FieldType.long) :: zW
theorem wc_X11_number : Cond.code yX11_number cX11_number 6 (some FieldType.long) ∈ zW := zin 1100 (by decide +kernel) (by decide +kernel)
theorem wm_X11_240 : Cond.methodLink RX11 240 yX11_asConditions ∈ zW := zin 1101 (by decide +kernel) (by decide +kernel)
theorem wn_X11_asConditions : Cond.instanceMethod yX11_asConditions ∈ zW := zin 1103 (by decide +kernel) (by decide +kernel)
abbrev wsX11_asConditions : List Cond := Cond.code yX11_asConditions cX11_asConditions 2 (some FieldType.boolean) :: zW
theorem wc_X11_asConditions : Cond.code yX11_asConditions cX11_asConditions 2 (some FieldType.boolean) ∈ zW := zin 1104 (by decide +kernel) (by decide +kernel)
theorem wm_L_31 : Cond.methodLink RL 31 yX11_place ∈ zW := zin 1105 (by decide +kernel) (by decide +kernel)
theorem wn_X11_place : Cond.instanceMethod yX11_place ∈ zW := zin 1106 (by decide +kernel) (by decide +kernel)
theorem we_X11_place : Cond.selects RX11 yX11_place yX11_place ∈ zW := zin 1107 (by decide +kernel) (by decide +kernel)
abbrev wsX11_place : List Cond := Cond.code yX11_place cX11_place 1 (some FieldType.int) :: zW
theorem wc_X11_place : Cond.code yX11_place cX11_place 1 (some FieldType.int) ∈ zW := zin 1108 (by decide +kernel) (by decide +kernel)
theorem wm_L_35 : Cond.methodLink RL 35 yX11_many ∈ zW := zin 1109 (by decide +kernel) (by decide +kernel)
theorem wn_X11_many : Cond.instanceMethod yX11_many ∈ zW := zin 1110 (by decide +kernel) (by decide +kernel)
theorem we_X11_many : Cond.selects RX11 yX11_many yX11_many ∈ zW := zin 1111 (by decide +kernel) (by decide +kernel)
abbrev wsX11_many : List Cond := Cond.code yX11_many cX11_many 3 (some FieldType.int) :: zW
theorem wc_X11_many : Cond.code yX11_many cX11_many 3 (some FieldType.int) ∈ zW := zin 1112 (by decide +kernel) (by decide +kernel)
theorem wm_X11_277 : Cond.methodLink RX11 277 yX11_countOf ∈ zW := zin 1113 (by decide +kernel) (by decide +kernel)
theorem wn_X11_countOf : Cond.instanceMethod yX11_countOf ∈ zW := zin 1115 (by decide +kernel) (by decide +kernel)
abbrev wsX11_countOf : List Cond := Cond.code yX11_countOf cX11_countOf 4 (some FieldType.int) :: zW
theorem wc_X11_countOf : Cond.code yX11_countOf cX11_countOf 4 (some FieldType.int) ∈ zW := zin 1116 (by decide +kernel) (by decide +kernel)
theorem wm_L_39 : Cond.methodLink RL 39 yX11_holds ∈ zW := zin 1117 (by decide +kernel) (by decide +kernel)
theorem wn_X11_holds : Cond.instanceMethod yX11_holds ∈ zW := zin 1118 (by decide +kernel) (by decide +kernel)
theorem we_X11_holds : Cond.selects RX11 yX11_holds yX11_holds ∈ zW := zin 1119 (by decide +kernel) (by decide +kernel)
abbrev wsX11_holds : List Cond := Cond.code yX11_holds cX11_holds 3 (some FieldType.int) :: zW
theorem wc_X11_holds : Cond.code yX11_holds cX11_holds 3 (some FieldType.int) ∈ zW := zin 1120 (by decide +kernel) (by decide +kernel)
theorem wm_X11_268 : Cond.methodLink RX11 268 yX11_filterHolds ∈ zW := zin 1121 (by decide +kernel) (by decide +kernel)
theorem wn_X11_filterHolds : Cond.instanceMethod yX11_filterHolds ∈ zW := zin 1123 (by decide +kernel) (by decide +kernel)
abbrev wsX11_filterHolds : List Cond := Cond.code yX11_filterHolds cX11_filterHolds 4 (some FieldType.boolean) :: zW
theorem wc_X11_filterHolds : Cond.code yX11_filterHolds cX11_filterHolds 4 (some FieldType.boolean) ∈ zW := zin 1124 (by decide +kernel) (by decide +kernel)
theorem wm_X11_305 : Cond.methodLink RX11 305 yX11_elementHolds ∈ zW := zin 1125 (by decide +kernel) (by decide +kernel)
theorem wn_X11_elementHolds : Cond.instanceMethod yX11_elementHolds ∈ zW := zin 1127 (by decide +kernel) (by decide +kernel)
abbrev wsX11_elementHolds : List Cond := Cond.code yX11_elementHolds cX11_elementHolds 5 (some FieldType.boolean) :: zW
theorem wc_X11_elementHolds : Cond.code yX11_elementHolds cX11_elementHolds 5 (some FieldType.boolean) ∈ zW := zin 1128 (by decide +kernel) (by decide +kernel)
theorem wm_X11_264 : Cond.methodLink RX11 264 yX11_all ∈ zW := zin 1129 (by decide +kernel) (by decide +kernel)
theorem wn_X11_all : Cond.instanceMethod yX11_all ∈ zW := zin 1131 (by decide +kernel) (by decide +kernel)
abbrev wsX11_all : List Cond := Cond.code yX11_all cX11_all 6 (some FieldType.boolean) :: zW
theorem wc_X11_all : Cond.code yX11_all cX11_all 6 (some FieldType.boolean) ∈ zW := zin 1132 (by decide +kernel) (by decide +kernel)
theorem wm_X11_302 : Cond.methodLink RX11 302 yX11_holdsOne ∈ zW := zin 1133 (by decide +kernel) (by decide +kernel)
theorem wn_X11_holdsOne : Cond.instanceMethod yX11_holdsOne ∈ zW := zin 1135 (by decide +kernel) (by decide +kernel)
abbrev wsX11_holdsOne : List Cond := Cond.code yX11_holdsOne cX11_holdsOne 6 (some FieldType.boolean) :: zW
theorem wc_X11_holdsOne : Cond.code yX11_holdsOne cX11_holdsOne 6 (some FieldType.boolean) ∈ zW := zin 1136 (by decide +kernel) (by decide +kernel)
theorem wm_X11_299 : Cond.methodLink RX11 299 yX11_any ∈ zW := zin 1137 (by decide +kernel) (by decide +kernel)
theorem wn_X11_any : Cond.instanceMethod yX11_any ∈ zW := zin 1139 (by decide +kernel) (by decide +kernel)
abbrev wsX11_any : List Cond := Cond.code yX11_any cX11_any 8 (some FieldType.boolean) :: zW
theorem wc_X11_any : Cond.code yX11_any cX11_any 8 (some FieldType.boolean) ∈ zW := zin 1140 (by decide +kernel) (by decide +kernel)
theorem wm_X11_290 : Cond.methodLink RX11 290 yX11_some ∈ zW := zin 1141 (by decide +kernel) (by decide +kernel)
theorem wn_X11_some : Cond.instanceMethod yX11_some ∈ zW := zin 1143 (by decide +kernel) (by decide +kernel)
abbrev wsX11_some : List Cond := Cond.code yX11_some cX11_some 8 (some FieldType.boolean) :: zW
theorem wc_X11_some : Cond.code yX11_some cX11_some 8 (some FieldType.boolean) ∈ zW := zin 1144 (by decide +kernel) (by decide +kernel)
theorem wm_X11_287 : Cond.methodLink RX11 287 yX11_does ∈ zW := zin 1145 (by decide +kernel) (by decide +kernel)
theorem wn_X11_does : Cond.instanceMethod yX11_does ∈ zW := zin 1147 (by decide +kernel) (by decide +kernel)
abbrev wsX11_does : List Cond := Cond.code yX11_does cX11_does 9 (some FieldType.boolean) :: zW
theorem wc_X11_does : Cond.code yX11_does cX11_does 9 (some FieldType.boolean) ∈ zW := zin 1148 (by decide +kernel) (by decide +kernel)
theorem wm_X11_271 : Cond.methodLink RX11 271 yX11_isEqual ∈ zW := zin 1149 (by decide +kernel) (by decide +kernel)
theorem wn_X11_isEqual : Cond.instanceMethod yX11_isEqual ∈ zW := zin 1151 (by decide +kernel) (by decide +kernel)
abbrev wsX11_isEqual : List Cond := Cond.code yX11_isEqual cX11_isEqual 7 (some FieldType.boolean) :: zW
theorem wc_X11_isEqual : Cond.code yX11_isEqual cX11_isEqual 7 (some FieldType.boolean) ∈ zW := zin 1152 (by decide +kernel) (by decide +kernel)
theorem wm_X11_257 : Cond.methodLink RX11 257 yX11_order ∈ zW := zin 1153 (by decide +kernel) (by decide +kernel)
theorem wn_X11_order : Cond.instanceMethod yX11_order ∈ zW := zin 1155 (by decide +kernel) (by decide +kernel)
abbrev wsX11_order : List Cond := Cond.code yX11_order cX11_order 10 (some FieldType.int) :: zW
theorem wc_X11_order : Cond.code yX11_order cX11_order 10 (some FieldType.int) ∈ zW := zin 1156 (by decide +kernel) (by decide +kernel)
theorem wm_X11_246 : Cond.methodLink RX11 246 yX11_classOf ∈ zW := zin 1157 (by decide +kernel) (by decide +kernel)
theorem wt_X11_classOf : Cond.static yX11_classOf ∈ zW := zin 1158 (by decide +kernel) (by decide +kernel)
abbrev wsX11_classOf : List Cond := Cond.code yX11_classOf cX11_classOf 1 (some FieldType.int) :: zW
theorem wc_X11_classOf : Cond.code yX11_classOf cX11_classOf 1 (some FieldType.int) ∈ zW := zin 1159 (by decide +kernel) (by decide +kernel)
theorem wm_X11_249 : Cond.methodLink RX11 249 yX11_orderBytes ∈ zW := zin 1160 (by decide +kernel) (by decide +kernel)
theorem wn_X11_orderBytes : Cond.instanceMethod yX11_orderBytes ∈ zW := zin 1162 (by decide +kernel) (by decide +kernel)
abbrev wsX11_orderBytes : List Cond := Cond.code yX11_orderBytes cX11_orderBytes 6 (some FieldType.int) :: zW
theorem wc_X11_orderBytes : Cond.code yX11_orderBytes cX11_orderBytes 6 (some FieldType.int) ∈ zW := zin 1163 (by decide +kernel) (by decide +kernel)
theorem wm_X11_253 : Cond.methodLink RX11 253 yX11_orderBoxes ∈ zW := zin 1164 (by decide +kernel) (by decide +kernel)
theorem wn_X11_orderBoxes : Cond.instanceMethod yX11_orderBoxes ∈ zW := zin 1166 (by decide +kernel) (by decide +kernel)
abbrev wsX11_orderBoxes : List Cond := Cond.code yX11_orderBoxes cX11_orderBoxes 7 (some FieldType.int) :: zW
theorem wc_X11_orderBoxes : Cond.code yX11_orderBoxes cX11_orderBoxes 7 (some FieldType.int) ∈ zW := zin 1167 (by decide +kernel) (by decide +kernel)
theorem wm_X11_274 : Cond.methodLink RX11 274 yX11_isSo ∈ zW := zin 1168 (by decide +kernel) (by decide +kernel)
theorem wn_X11_isSo : Cond.instanceMethod yX11_isSo ∈ zW := zin 1170 (by decide +kernel) (by decide +kernel)
abbrev wsX11_isSo : List Cond := Cond.code yX11_isSo cX11_isSo 8 (some FieldType.boolean) :: zW
theorem wc_X11_isSo : Cond.code yX11_isSo cX11_isSo 8 (some FieldType.boolean) ∈ zW := zin 1171 (by decide +kernel) (by decide +kernel)
theorem wm_X11_260 : Cond.methodLink RX11 260 yX11_stands ∈ zW := zin 1172 (by decide +kernel) (by decide +kernel)
theorem wn_X11_stands : Cond.instanceMethod yX11_stands ∈ zW := zin 1174 (by decide +kernel) (by decide +kernel)
abbrev wsX11_stands : List Cond := Cond.code yX11_stands cX11_stands 7 (some FieldType.boolean) :: zW
theorem wc_X11_stands : Cond.code yX11_stands cX11_stands 7 (some FieldType.boolean) ∈ zW := zin 1175 (by decide +kernel) (by decide +kernel)
theorem wm_X11_280 : Cond.methodLink RX11 280 yX11_hasItem ∈ zW := zin 1176 (by decide +kernel) (by decide +kernel)
theorem wn_X11_hasItem : Cond.instanceMethod yX11_hasItem ∈ zW := zin 1178 (by decide +kernel) (by decide +kernel)
abbrev wsX11_hasItem : List Cond := Cond.code yX11_hasItem cX11_hasItem 5 (some FieldType.boolean) :: zW
theorem wc_X11_hasItem : Cond.code yX11_hasItem cX11_hasItem 5 (some FieldType.boolean) ∈ zW := zin 1179 (by decide +kernel) (by decide +kernel)
theorem wm_X11_293 : Cond.methodLink RX11 293 yX11_isStep ∈ zW := zin 1180 (by decide +kernel) (by decide +kernel)
theorem wn_X11_isStep : Cond.instanceMethod yX11_isStep ∈ zW := zin 1182 (by decide +kernel) (by decide +kernel)
abbrev wsX11_isStep : List Cond := Cond.code yX11_isStep cX11_isStep 4 (some FieldType.boolean) :: zW
theorem wc_X11_isStep : Cond.code yX11_isStep cX11_isStep 4 (some FieldType.boolean) ∈ zW := zin 1183 (by decide +kernel) (by decide +kernel)
theorem wm_X11_296 : Cond.methodLink RX11 296 yX11_nextStep ∈ zW := zin 1184 (by decide +kernel) (by decide +kernel)
theorem wn_X11_nextStep : Cond.instanceMethod yX11_nextStep ∈ zW := zin 1186 (by decide +kernel) (by decide +kernel)
abbrev wsX11_nextStep : List Cond := Cond.code yX11_nextStep cX11_nextStep 3 (some FieldType.int) :: zW
theorem wc_X11_nextStep : Cond.code yX11_nextStep cX11_nextStep 3 (some FieldType.int) ∈ zW := zin 1187 (by decide +kernel) (by decide +kernel)
theorem wm_L_43 : Cond.methodLink RL 43 yX11_fails ∈ zW := zin 1188 (by decide +kernel) (by decide +kernel)
theorem wn_X11_fails : Cond.instanceMethod yX11_fails ∈ zW := zin 1189 (by decide +kernel) (by decide +kernel)
theorem we_X11_fails : Cond.selects RX11 yX11_fails yX11_fails ∈ zW := zin 1190 (by decide +kernel) (by decide +kernel)
abbrev wsX11_fails : List Cond := Cond.code yX11_fails cX11_fails 5 (some FieldType.int) :: zW
theorem wc_X11_fails : Cond.code yX11_fails cX11_fails 5 (some FieldType.int) ∈ zW := zin 1191 (by decide +kernel) (by decide +kernel)
theorem wm_L_48 : Cond.methodLink RL 48 yX11_which ∈ zW := zin 1192 (by decide +kernel) (by decide +kernel)
theorem wn_X11_which : Cond.instanceMethod yX11_which ∈ zW := zin 1193 (by decide +kernel) (by decide +kernel)
theorem we_X11_which : Cond.selects RX11 yX11_which yX11_which ∈ zW := zin 1194 (by decide +kernel) (by decide +kernel)
abbrev wsX11_which : List Cond := Cond.code yX11_which cX11_which 4 (some FieldType.int) :: zW
theorem wc_X11_which : Cond.code yX11_which cX11_which 4 (some FieldType.int) ∈ zW := zin 1195 (by decide +kernel) (by decide +kernel)
theorem wv_X10_feed : Cond.instanceMethod yX10_feed ∈ zW ∧ Cond.selects RX10 yX10_feed yX10_feed ∈ zW ∧ Cond.initialized RX10 ∈ zW ∧ Cond.code yX10_feed cX10_feed 6 (some FieldType.int) ∈ zW := ⟨wn_X10_feed, we_X10_feed, wi_X10, wc_X10_feed⟩
theorem wv_X8_hasRoom : Cond.instanceMethod yX8_hasRoom ∈ zW ∧ Cond.selects RX8 yX8_hasRoom yX8_hasRoom ∈ zW ∧ Cond.initialized RX8 ∈ zW ∧ Cond.code yX8_hasRoom cX8_hasRoom 1 (some FieldType.boolean) ∈ zW := ⟨wn_X8_hasRoom, we_X8_hasRoom, wi_X8, wc_X8_hasRoom⟩
theorem wv_X8_put : Cond.instanceMethod yX8_put ∈ zW ∧ Cond.selects RX8 yX8_put yX8_put ∈ zW ∧ Cond.initialized RX8 ∈ zW ∧ Cond.code yX8_put cX8_put 3 none ∈ zW := ⟨wn_X8_put, we_X8_put, wi_X8, wc_X8_put⟩
theorem wv_X10_read : Cond.instanceMethod yX10_read ∈ zW ∧ Cond.selects RX10 yX10_read yX10_read ∈ zW ∧ Cond.initialized RX10 ∈ zW ∧ Cond.code yX10_read cX10_read 4 (some FieldType.int) ∈ zW := ⟨wn_X10_read, we_X10_read, wi_X10, wc_X10_read⟩
theorem wv_X10_slotAt : Cond.instanceMethod yX10_slotAt ∈ zW ∧ Cond.selects RX10 yX10_slotAt yX10_slotAt ∈ zW ∧ Cond.initialized RX10 ∈ zW ∧ Cond.code yX10_slotAt cX10_slotAt 2 (some (FieldType.object "FilterReader$Value")) ∈ zW := ⟨wn_X10_slotAt, we_X10_slotAt, wi_X10, wc_X10_slotAt⟩
theorem wv_X8_has : Cond.instanceMethod yX8_has ∈ zW ∧ Cond.selects RX8 yX8_has yX8_has ∈ zW ∧ Cond.initialized RX8 ∈ zW ∧ Cond.code yX8_has cX8_has 2 (some FieldType.boolean) ∈ zW := ⟨wn_X8_has, we_X8_has, wi_X8, wc_X8_has⟩
theorem wv_X10_takeDocument : Cond.instanceMethod yX10_takeDocument ∈ zW ∧ Cond.selects RX10 yX10_takeDocument yX10_takeDocument ∈ zW ∧ Cond.initialized RX10 ∈ zW ∧ Cond.code yX10_takeDocument cX10_takeDocument 3 (some (FieldType.object "FilterReader$Value")) ∈ zW := ⟨wn_X10_takeDocument, we_X10_takeDocument, wi_X10, wc_X10_takeDocument⟩
theorem wv_X0_readWhole : Cond.instanceMethod yX0_readWhole ∈ zW ∧ Cond.selects RX0 yX0_readWhole yX0_readWhole ∈ zW ∧ Cond.initialized RX0 ∈ zW ∧ Cond.code yX0_readWhole cX0_readWhole 3 (some (FieldType.object "FilterReader$Value")) ∈ zW := ⟨wn_X0_readWhole, we_X0_readWhole, wi_X0, wc_X0_readWhole⟩
theorem wv_X0_readParts : Cond.instanceMethod yX0_readParts ∈ zW ∧ Cond.selects RX0 yX0_readParts yX0_readParts ∈ zW ∧ Cond.initialized RX0 ∈ zW ∧ Cond.code yX0_readParts cX0_readParts 9 (some FieldType.boolean) ∈ zW := ⟨wn_X0_readParts, we_X0_readParts, wi_X0, wc_X0_readParts⟩
theorem wv_X0_readNumber : Cond.instanceMethod yX0_readNumber ∈ zW ∧ Cond.selects RX0 yX0_readNumber yX0_readNumber ∈ zW ∧ Cond.initialized RX0 ∈ zW ∧ Cond.code yX0_readNumber cX0_readNumber 5 (some FieldType.long) ∈ zW := ⟨wn_X0_readNumber, we_X0_readNumber, wi_X0, wc_X0_readNumber⟩
theorem wv_X8_byteAt : Cond.instanceMethod yX8_byteAt ∈ zW ∧ Cond.selects RX8 yX8_byteAt yX8_byteAt ∈ zW ∧ Cond.initialized RX8 ∈ zW ∧ Cond.code yX8_byteAt cX8_byteAt 2 (some FieldType.int) ∈ zW := ⟨wn_X8_byteAt, we_X8_byteAt, wi_X8, wc_X8_byteAt⟩
theorem wv_X0_readElement : Cond.instanceMethod yX0_readElement ∈ zW ∧ Cond.selects RX0 yX0_readElement yX0_readElement ∈ zW ∧ Cond.initialized RX0 ∈ zW ∧ Cond.code yX0_readElement cX0_readElement 6 (some (FieldType.object "FilterReader$Value")) ∈ zW := ⟨wn_X0_readElement, we_X0_readElement, wi_X0, wc_X0_readElement⟩
theorem wv_X0_zeroFrom : Cond.instanceMethod yX0_zeroFrom ∈ zW ∧ Cond.selects RX0 yX0_zeroFrom yX0_zeroFrom ∈ zW ∧ Cond.initialized RX0 ∈ zW ∧ Cond.code yX0_zeroFrom cX0_zeroFrom 4 (some FieldType.int) ∈ zW := ⟨wn_X0_zeroFrom, we_X0_zeroFrom, wi_X0, wc_X0_zeroFrom⟩
theorem wv_X0_isRightUtf8 : Cond.instanceMethod yX0_isRightUtf8 ∈ zW ∧ Cond.selects RX0 yX0_isRightUtf8 yX0_isRightUtf8 ∈ zW ∧ Cond.initialized RX0 ∈ zW ∧ Cond.code yX0_isRightUtf8 cX0_isRightUtf8 8 (some FieldType.boolean) ∈ zW := ⟨wn_X0_isRightUtf8, we_X0_isRightUtf8, wi_X0, wc_X0_isRightUtf8⟩
theorem wv_X0_followers : Cond.instanceMethod yX0_followers ∈ zW ∧ Cond.selects RX0 yX0_followers yX0_followers ∈ zW ∧ Cond.initialized RX0 ∈ zW ∧ Cond.code yX0_followers cX0_followers 2 (some FieldType.int) ∈ zW := ⟨wn_X0_followers, we_X0_followers, wi_X0, wc_X0_followers⟩
theorem wv_X0_leadingBits : Cond.instanceMethod yX0_leadingBits ∈ zW ∧ Cond.selects RX0 yX0_leadingBits yX0_leadingBits ∈ zW ∧ Cond.initialized RX0 ∈ zW ∧ Cond.code yX0_leadingBits cX0_leadingBits 3 (some FieldType.int) ∈ zW := ⟨wn_X0_leadingBits, we_X0_leadingBits, wi_X0, wc_X0_leadingBits⟩
theorem wv_X0_leastCode : Cond.instanceMethod yX0_leastCode ∈ zW ∧ Cond.selects RX0 yX0_leastCode yX0_leastCode ∈ zW ∧ Cond.initialized RX0 ∈ zW ∧ Cond.code yX0_leastCode cX0_leastCode 2 (some FieldType.int) ∈ zW := ⟨wn_X0_leastCode, we_X0_leastCode, wi_X0, wc_X0_leastCode⟩
theorem wv_X0_isCharacter : Cond.instanceMethod yX0_isCharacter ∈ zW ∧ Cond.selects RX0 yX0_isCharacter yX0_isCharacter ∈ zW ∧ Cond.initialized RX0 ∈ zW ∧ Cond.code yX0_isCharacter cX0_isCharacter 4 (some FieldType.boolean) ∈ zW := ⟨wn_X0_isCharacter, we_X0_isCharacter, wi_X0, wc_X0_isCharacter⟩
theorem wv_X0_textOf : Cond.instanceMethod yX0_textOf ∈ zW ∧ Cond.selects RX0 yX0_textOf yX0_textOf ∈ zW ∧ Cond.initialized RX0 ∈ zW ∧ Cond.code yX0_textOf cX0_textOf 5 (some (FieldType.object "java/lang/String")) ∈ zW := ⟨wn_X0_textOf, we_X0_textOf, wi_X0, wc_X0_textOf⟩
theorem wu_J2_compress_dfd3c : Cond.static yJ2_compress_dfd3c ∈ zW ∧ Cond.initialized RJ2 ∈ zW ∧ Cond.code yJ2_compress_dfd3c cJ2_compress_dfd3c 6 (some (FieldType.array FieldType.byte)) ∈ zW := ⟨wt_J2_compress_dfd3c, wi_J2, wc_J2_compress_dfd3c⟩
theorem wu_J2_compress_fe38e : Cond.static yJ2_compress_fe38e ∈ zW ∧ Cond.initialized RJ2 ∈ zW ∧ Cond.code yJ2_compress_fe38e cJ2_compress_fe38e 7 (some FieldType.int) ∈ zW := ⟨wt_J2_compress_fe38e, wi_J2, wc_J2_compress_fe38e⟩
theorem wu_J2_toBytes_dfd3c : Cond.static yJ2_toBytes_dfd3c ∈ zW ∧ Cond.initialized RJ2 ∈ zW ∧ Cond.code yJ2_toBytes_dfd3c cJ2_toBytes_dfd3c 5 (some (FieldType.array FieldType.byte)) ∈ zW := ⟨wt_J2_toBytes_dfd3c, wi_J2, wc_J2_toBytes_dfd3c⟩
theorem wu_J2_newBytesFor_77867 : Cond.static yJ2_newBytesFor_77867 ∈ zW ∧ Cond.initialized RJ2 ∈ zW ∧ Cond.code yJ2_newBytesFor_77867 cJ2_newBytesFor_77867 1 (some (FieldType.array FieldType.byte)) ∈ zW := ⟨wt_J2_newBytesFor_77867, wi_J2, wc_J2_newBytesFor_77867⟩
theorem wu_J2_newBytesLength_0f7a4 : Cond.static yJ2_newBytesLength_0f7a4 ∈ zW ∧ Cond.initialized RJ2 ∈ zW ∧ Cond.code yJ2_newBytesLength_0f7a4 cJ2_newBytesLength_0f7a4 1 (some FieldType.int) ∈ zW := ⟨wt_J2_newBytesLength_0f7a4, wi_J2, wc_J2_newBytesLength_0f7a4⟩
theorem wu_J2_putChar_b72d1 : Cond.static yJ2_putChar_b72d1 ∈ zW ∧ Cond.initialized RJ2 ∈ zW ∧ Cond.code yJ2_putChar_b72d1 cJ2_putChar_b72d1 3 none ∈ zW := ⟨wt_J2_putChar_b72d1, wi_J2, wc_J2_putChar_b72d1⟩
theorem wu_J2_length_9d52b : Cond.static yJ2_length_9d52b ∈ zW ∧ Cond.initialized RJ2 ∈ zW ∧ Cond.code yJ2_length_9d52b cJ2_length_9d52b 1 (some FieldType.int) ∈ zW := ⟨wt_J2_length_9d52b, wi_J2, wc_J2_length_9d52b⟩
theorem wu_J2_getChar_3b067 : Cond.static yJ2_getChar_3b067 ∈ zW ∧ Cond.initialized RJ2 ∈ zW ∧ Cond.code yJ2_getChar_3b067 cJ2_getChar_3b067 2 (some FieldType.char) ∈ zW := ⟨wt_J2_getChar_3b067, wi_J2, wc_J2_getChar_3b067⟩
theorem wu_J2_compress_5af95 : Cond.static yJ2_compress_5af95 ∈ zW ∧ Cond.initialized RJ2 ∈ zW ∧ Cond.code yJ2_compress_5af95 cJ2_compress_5af95 7 (some FieldType.int) ∈ zW := ⟨wt_J2_compress_5af95, wi_J2, wc_J2_compress_5af95⟩
theorem wu_J2_checkBoundsOffCount_d044e : Cond.static yJ2_checkBoundsOffCount_d044e ∈ zW ∧ Cond.initialized RJ2 ∈ zW ∧ Cond.code yJ2_checkBoundsOffCount_d044e cJ2_checkBoundsOffCount_d044e 3 none ∈ zW := ⟨wt_J2_checkBoundsOffCount_d044e, wi_J2, wc_J2_checkBoundsOffCount_d044e⟩
theorem wu_J0_checkBoundsOffCount_cabcc : Cond.static yJ0_checkBoundsOffCount_cabcc ∈ zW ∧ Cond.initialized RJ0 ∈ zW ∧ Cond.code yJ0_checkBoundsOffCount_cabcc cJ0_checkBoundsOffCount_cabcc 3 (some FieldType.int) ∈ zW := ⟨wt_J0_checkBoundsOffCount_cabcc, wi_J0, wc_J0_checkBoundsOffCount_cabcc⟩
theorem wu_J3_checkFromIndexSize_8c36e : Cond.static yJ3_checkFromIndexSize_8c36e ∈ zW ∧ Cond.initialized RJ3 ∈ zW ∧ Cond.code yJ3_checkFromIndexSize_8c36e cJ3_checkFromIndexSize_8c36e 4 (some FieldType.int) ∈ zW := ⟨wt_J3_checkFromIndexSize_8c36e, wi_J3, wc_J3_checkFromIndexSize_8c36e⟩
theorem wu_J2_coderFromArrayLen_85cad : Cond.static yJ2_coderFromArrayLen_85cad ∈ zW ∧ Cond.initialized RJ2 ∈ zW ∧ Cond.code yJ2_coderFromArrayLen_85cad cJ2_coderFromArrayLen_85cad 2 (some FieldType.byte) ∈ zW := ⟨wt_J2_coderFromArrayLen_85cad, wi_J2, wc_J2_coderFromArrayLen_85cad⟩
theorem wv_X0_readValue : Cond.instanceMethod yX0_readValue ∈ zW ∧ Cond.selects RX0 yX0_readValue yX0_readValue ∈ zW ∧ Cond.initialized RX0 ∈ zW ∧ Cond.code yX0_readValue cX0_readValue 4 (some FieldType.boolean) ∈ zW := ⟨wn_X0_readValue, we_X0_readValue, wi_X0, wc_X0_readValue⟩
theorem wv_X0_readTruth : Cond.instanceMethod yX0_readTruth ∈ zW ∧ Cond.selects RX0 yX0_readTruth yX0_readTruth ∈ zW ∧ Cond.initialized RX0 ∈ zW ∧ Cond.code yX0_readTruth cX0_readTruth 3 (some FieldType.boolean) ∈ zW := ⟨wn_X0_readTruth, we_X0_readTruth, wi_X0, wc_X0_readTruth⟩
theorem wv_X0_readWholeNumber : Cond.instanceMethod yX0_readWholeNumber ∈ zW ∧ Cond.selects RX0 yX0_readWholeNumber yX0_readWholeNumber ∈ zW ∧ Cond.initialized RX0 ∈ zW ∧ Cond.code yX0_readWholeNumber cX0_readWholeNumber 6 (some FieldType.boolean) ∈ zW := ⟨wn_X0_readWholeNumber, we_X0_readWholeNumber, wi_X0, wc_X0_readWholeNumber⟩
theorem wv_X0_readText : Cond.instanceMethod yX0_readText ∈ zW ∧ Cond.selects RX0 yX0_readText yX0_readText ∈ zW ∧ Cond.initialized RX0 ∈ zW ∧ Cond.code yX0_readText cX0_readText 5 (some FieldType.boolean) ∈ zW := ⟨wn_X0_readText, we_X0_readText, wi_X0, wc_X0_readText⟩
theorem wv_X0_mayFollow : Cond.instanceMethod yX0_mayFollow ∈ zW ∧ Cond.selects RX0 yX0_mayFollow yX0_mayFollow ∈ zW ∧ Cond.initialized RX0 ∈ zW ∧ Cond.code yX0_mayFollow cX0_mayFollow 3 (some FieldType.boolean) ∈ zW := ⟨wn_X0_mayFollow, we_X0_mayFollow, wi_X0, wc_X0_mayFollow⟩
theorem wv_X0_isDecimal : Cond.instanceMethod yX0_isDecimal ∈ zW ∧ Cond.selects RX0 yX0_isDecimal yX0_isDecimal ∈ zW ∧ Cond.initialized RX0 ∈ zW ∧ Cond.code yX0_isDecimal cX0_isDecimal 5 (some FieldType.boolean) ∈ zW := ⟨wn_X0_isDecimal, we_X0_isDecimal, wi_X0, wc_X0_isDecimal⟩
theorem wv_J0_length_8abf5 : Cond.instanceMethod yJ0_length_8abf5 ∈ zW ∧ Cond.selects RJ0 yJ0_length_8abf5 yJ0_length_8abf5 ∈ zW ∧ Cond.initialized RJ0 ∈ zW ∧ Cond.code yJ0_length_8abf5 cJ0_length_8abf5 1 (some FieldType.int) ∈ zW := ⟨wn_J0_length_8abf5, we_J0_length_8abf5, wi_J0, wc_J0_length_8abf5⟩
theorem wv_J0_coder_7d493 : Cond.instanceMethod yJ0_coder_7d493 ∈ zW ∧ Cond.selects RJ0 yJ0_coder_7d493 yJ0_coder_7d493 ∈ zW ∧ Cond.initialized RJ0 ∈ zW ∧ Cond.code yJ0_coder_7d493 cJ0_coder_7d493 1 (some FieldType.byte) ∈ zW := ⟨wn_J0_coder_7d493, we_J0_coder_7d493, wi_J0, wc_J0_coder_7d493⟩
theorem wv_J0_charAt_5068e : Cond.instanceMethod yJ0_charAt_5068e ∈ zW ∧ Cond.selects RJ0 yJ0_charAt_5068e yJ0_charAt_5068e ∈ zW ∧ Cond.initialized RJ0 ∈ zW ∧ Cond.code yJ0_charAt_5068e cJ0_charAt_5068e 2 (some FieldType.char) ∈ zW := ⟨wn_J0_charAt_5068e, we_J0_charAt_5068e, wi_J0, wc_J0_charAt_5068e⟩
theorem wv_J0_isLatin1_aae02 : Cond.instanceMethod yJ0_isLatin1_aae02 ∈ zW ∧ Cond.selects RJ0 yJ0_isLatin1_aae02 yJ0_isLatin1_aae02 ∈ zW ∧ Cond.initialized RJ0 ∈ zW ∧ Cond.code yJ0_isLatin1_aae02 cJ0_isLatin1_aae02 1 (some FieldType.boolean) ∈ zW := ⟨wn_J0_isLatin1_aae02, we_J0_isLatin1_aae02, wi_J0, wc_J0_isLatin1_aae02⟩
theorem wu_J1_charAt_3b067 : Cond.static yJ1_charAt_3b067 ∈ zW ∧ Cond.initialized RJ1 ∈ zW ∧ Cond.code yJ1_charAt_3b067 cJ1_charAt_3b067 2 (some FieldType.char) ∈ zW := ⟨wt_J1_charAt_3b067, wi_J1, wc_J1_charAt_3b067⟩
theorem wu_J0_checkIndex_df160 : Cond.static yJ0_checkIndex_df160 ∈ zW ∧ Cond.initialized RJ0 ∈ zW ∧ Cond.code yJ0_checkIndex_df160 cJ0_checkIndex_df160 2 none ∈ zW := ⟨wt_J0_checkIndex_df160, wi_J0, wc_J0_checkIndex_df160⟩
theorem wu_J3_checkIndex_8e157 : Cond.static yJ3_checkIndex_8e157 ∈ zW ∧ Cond.initialized RJ3 ∈ zW ∧ Cond.code yJ3_checkIndex_8e157 cJ3_checkIndex_8e157 3 (some FieldType.int) ∈ zW := ⟨wt_J3_checkIndex_8e157, wi_J3, wc_J3_checkIndex_8e157⟩
theorem wu_J2_charAt_3b067 : Cond.static yJ2_charAt_3b067 ∈ zW ∧ Cond.initialized RJ2 ∈ zW ∧ Cond.code yJ2_charAt_3b067 cJ2_charAt_3b067 2 (some FieldType.char) ∈ zW := ⟨wt_J2_charAt_3b067, wi_J2, wc_J2_charAt_3b067⟩
theorem wu_J2_checkIndex_2214a : Cond.static yJ2_checkIndex_2214a ∈ zW ∧ Cond.initialized RJ2 ∈ zW ∧ Cond.code yJ2_checkIndex_2214a cJ2_checkIndex_2214a 2 none ∈ zW := ⟨wt_J2_checkIndex_2214a, wi_J2, wc_J2_checkIndex_2214a⟩
theorem wv_X9_named : Cond.instanceMethod yX9_named ∈ zW ∧ Cond.selects RX9 yX9_named yX9_named ∈ zW ∧ Cond.initialized RX9 ∈ zW ∧ Cond.code yX9_named cX9_named 3 (some (FieldType.object "FilterReader$Value")) ∈ zW := ⟨wn_X9_named, we_X9_named, wi_X9, wc_X9_named⟩
theorem wv_J0_equals_9ea2d : Cond.instanceMethod yJ0_equals_9ea2d ∈ zW ∧ Cond.selects RJ0 yJ0_equals_9ea2d yJ0_equals_9ea2d ∈ zW ∧ Cond.initialized RJ0 ∈ zW ∧ Cond.code yJ0_equals_9ea2d cJ0_equals_9ea2d 3 (some FieldType.boolean) ∈ zW := ⟨wn_J0_equals_9ea2d, we_J0_equals_9ea2d, wi_J0, wc_J0_equals_9ea2d⟩
theorem wu_J1_equals_b5fdf : Cond.static yJ1_equals_b5fdf ∈ zW ∧ Cond.initialized RJ1 ∈ zW ∧ Cond.code yJ1_equals_b5fdf cJ1_equals_b5fdf 3 (some FieldType.boolean) ∈ zW := ⟨wt_J1_equals_b5fdf, wi_J1, wc_J1_equals_b5fdf⟩
theorem wv_X9_add : Cond.instanceMethod yX9_add ∈ zW ∧ Cond.selects RX9 yX9_add yX9_add ∈ zW ∧ Cond.initialized RX9 ∈ zW ∧ Cond.code yX9_add cX9_add 2 none ∈ zW := ⟨wn_X9_add, we_X9_add, wi_X9, wc_X9_add⟩
theorem wv_X8_clear : Cond.instanceMethod yX8_clear ∈ zW ∧ Cond.selects RX8 yX8_clear yX8_clear ∈ zW ∧ Cond.initialized RX8 ∈ zW ∧ Cond.code yX8_clear cX8_clear 1 none ∈ zW := ⟨wn_X8_clear, we_X8_clear, wi_X8, wc_X8_clear⟩
theorem wv_X10_filter : Cond.instanceMethod yX10_filter ∈ zW ∧ Cond.selects RX10 yX10_filter yX10_filter ∈ zW ∧ Cond.initialized RX10 ∈ zW ∧ Cond.code yX10_filter cX10_filter 5 (some FieldType.int) ∈ zW := ⟨wn_X10_filter, we_X10_filter, wi_X10, wc_X10_filter⟩
theorem wv_X10_filterAt : Cond.instanceMethod yX10_filterAt ∈ zW ∧ Cond.selects RX10 yX10_filterAt yX10_filterAt ∈ zW ∧ Cond.initialized RX10 ∈ zW ∧ Cond.code yX10_filterAt cX10_filterAt 2 (some (FieldType.object "FilterReader$Filter")) ∈ zW := ⟨wn_X10_filterAt, we_X10_filterAt, wi_X10, wc_X10_filterAt⟩
theorem wv_X2_make : Cond.instanceMethod yX2_make ∈ zW ∧ Cond.selects RX2 yX2_make yX2_make ∈ zW ∧ Cond.initialized RX2 ∈ zW ∧ Cond.code yX2_make cX2_make 1 none ∈ zW := ⟨wn_X2_make, we_X2_make, wi_X2, wc_X2_make⟩
theorem wv_X2_addClauses : Cond.instanceMethod yX2_addClauses ∈ zW ∧ Cond.selects RX2 yX2_addClauses yX2_addClauses ∈ zW ∧ Cond.initialized RX2 ∈ zW ∧ Cond.code yX2_addClauses cX2_addClauses 4 none ∈ zW := ⟨wn_X2_addClauses, we_X2_addClauses, wi_X2, wc_X2_addClauses⟩
theorem wu_X10_beginsWithDollar : Cond.static yX10_beginsWithDollar ∈ zW ∧ Cond.initialized RX10 ∈ zW ∧ Cond.code yX10_beginsWithDollar cX10_beginsWithDollar 1 (some FieldType.boolean) ∈ zW := ⟨wt_X10_beginsWithDollar, wi_X10, wc_X10_beginsWithDollar⟩
theorem wv_J0_isEmpty_aae02 : Cond.instanceMethod yJ0_isEmpty_aae02 ∈ zW ∧ Cond.selects RJ0 yJ0_isEmpty_aae02 yJ0_isEmpty_aae02 ∈ zW ∧ Cond.initialized RJ0 ∈ zW ∧ Cond.code yJ0_isEmpty_aae02 cJ0_isEmpty_aae02 1 (some FieldType.boolean) ∈ zW := ⟨wn_J0_isEmpty_aae02, we_J0_isEmpty_aae02, wi_J0, wc_J0_isEmpty_aae02⟩
theorem wv_X2_addJoin : Cond.instanceMethod yX2_addJoin ∈ zW ∧ Cond.selects RX2 yX2_addJoin yX2_addJoin ∈ zW ∧ Cond.initialized RX2 ∈ zW ∧ Cond.code yX2_addJoin cX2_addJoin 6 none ∈ zW := ⟨wn_X2_addJoin, we_X2_addJoin, wi_X2, wc_X2_addJoin⟩
theorem wu_X2_joinSign : Cond.static yX2_joinSign ∈ zW ∧ Cond.initialized RX2 ∈ zW ∧ Cond.code yX2_joinSign cX2_joinSign 1 (some FieldType.int) ∈ zW := ⟨wt_X2_joinSign, wi_X2, wc_X2_joinSign⟩
theorem wv_X2_refuse : Cond.instanceMethod yX2_refuse ∈ zW ∧ Cond.selects RX2 yX2_refuse yX2_refuse ∈ zW ∧ Cond.initialized RX2 ∈ zW ∧ Cond.code yX2_refuse cX2_refuse 3 none ∈ zW := ⟨wn_X2_refuse, we_X2_refuse, wi_X2, wc_X2_refuse⟩
theorem wv_X2_mayCount : Cond.instanceMethod yX2_mayCount ∈ zW ∧ Cond.selects RX2 yX2_mayCount yX2_mayCount ∈ zW ∧ Cond.initialized RX2 ∈ zW ∧ Cond.code yX2_mayCount cX2_mayCount 3 (some FieldType.boolean) ∈ zW := ⟨wn_X2_mayCount, we_X2_mayCount, wi_X2, wc_X2_mayCount⟩
theorem wv_X6_add : Cond.instanceMethod yX6_add ∈ zW ∧ Cond.selects RX6 yX6_add yX6_add ∈ zW ∧ Cond.initialized RX6 ∈ zW ∧ Cond.code yX6_add cX6_add 2 none ∈ zW := ⟨wn_X6_add, we_X6_add, wi_X6, wc_X6_add⟩
theorem wv_X2_addJoined : Cond.instanceMethod yX2_addJoined ∈ zW ∧ Cond.selects RX2 yX2_addJoined yX2_addJoined ∈ zW ∧ Cond.initialized RX2 ∈ zW ∧ Cond.code yX2_addJoined cX2_addJoined 5 none ∈ zW := ⟨wn_X2_addJoined, we_X2_addJoined, wi_X2, wc_X2_addJoined⟩
theorem wv_X2_addPath : Cond.instanceMethod yX2_addPath ∈ zW ∧ Cond.selects RX2 yX2_addPath yX2_addPath ∈ zW ∧ Cond.initialized RX2 ∈ zW ∧ Cond.code yX2_addPath cX2_addPath 7 none ∈ zW := ⟨wn_X2_addPath, we_X2_addPath, wi_X2, wc_X2_addPath⟩
theorem wu_X7_ofPath : Cond.static yX7_ofPath ∈ zW ∧ Cond.initialized RX7 ∈ zW ∧ Cond.code yX7_ofPath cX7_ofPath 5 (some (FieldType.object "FilterReader$Step")) ∈ zW := ⟨wt_X7_ofPath, wi_X7, wc_X7_ofPath⟩
theorem wv_J0_substring_37a41 : Cond.instanceMethod yJ0_substring_37a41 ∈ zW ∧ Cond.selects RJ0 yJ0_substring_37a41 yJ0_substring_37a41 ∈ zW ∧ Cond.initialized RJ0 ∈ zW ∧ Cond.code yJ0_substring_37a41 cJ0_substring_37a41 5 (some (FieldType.object "java/lang/String")) ∈ zW := ⟨wn_J0_substring_37a41, we_J0_substring_37a41, wi_J0, wc_J0_substring_37a41⟩
theorem wu_J0_checkBoundsBeginEnd_23922 : Cond.static yJ0_checkBoundsBeginEnd_23922 ∈ zW ∧ Cond.initialized RJ0 ∈ zW ∧ Cond.code yJ0_checkBoundsBeginEnd_23922 cJ0_checkBoundsBeginEnd_23922 3 none ∈ zW := ⟨wt_J0_checkBoundsBeginEnd_23922, wi_J0, wc_J0_checkBoundsBeginEnd_23922⟩
theorem wu_J3_checkFromToIndex_8c36e : Cond.static yJ3_checkFromToIndex_8c36e ∈ zW ∧ Cond.initialized RJ3 ∈ zW ∧ Cond.code yJ3_checkFromToIndex_8c36e cJ3_checkFromToIndex_8c36e 4 (some FieldType.int) ∈ zW := ⟨wt_J3_checkFromToIndex_8c36e, wi_J3, wc_J3_checkFromToIndex_8c36e⟩
theorem wu_J1_newString_b4f7a : Cond.static yJ1_newString_b4f7a ∈ zW ∧ Cond.initialized RJ1 ∈ zW ∧ Cond.code yJ1_newString_b4f7a cJ1_newString_b4f7a 3 (some (FieldType.object "java/lang/String")) ∈ zW := ⟨wt_J1_newString_b4f7a, wi_J1, wc_J1_newString_b4f7a⟩
theorem wu_J7_copyOfRange_39247 : Cond.static yJ7_copyOfRange_39247 ∈ zW ∧ Cond.initialized RJ7 ∈ zW ∧ Cond.code yJ7_copyOfRange_39247 cJ7_copyOfRange_39247 3 (some (FieldType.array FieldType.byte)) ∈ zW := ⟨wt_J7_copyOfRange_39247, wi_J7, wc_J7_copyOfRange_39247⟩
theorem wu_J7_copyOfRangeByte_39247 : Cond.static yJ7_copyOfRangeByte_39247 ∈ zW ∧ Cond.initialized RJ7 ∈ zW ∧ Cond.code yJ7_copyOfRangeByte_39247 cJ7_copyOfRangeByte_39247 5 (some (FieldType.array FieldType.byte)) ∈ zW := ⟨wt_J7_copyOfRangeByte_39247, wi_J7, wc_J7_copyOfRangeByte_39247⟩
theorem wu_J7_checkLength_df160 : Cond.static yJ7_checkLength_df160 ∈ zW ∧ Cond.initialized RJ7 ∈ zW ∧ Cond.code yJ7_checkLength_df160 cJ7_checkLength_df160 2 none ∈ zW := ⟨wt_J7_checkLength_df160, wi_J7, wc_J7_checkLength_df160⟩
theorem wu_J9_min_7cf53 : Cond.static yJ9_min_7cf53 ∈ zW ∧ Cond.initialized RJ9 ∈ zW ∧ Cond.code yJ9_min_7cf53 cJ9_min_7cf53 2 (some FieldType.int) ∈ zW := ⟨wt_J9_min_7cf53, wi_J9, wc_J9_min_7cf53⟩
theorem wu_J2_newString_b4f7a : Cond.static yJ2_newString_b4f7a ∈ zW ∧ Cond.initialized RJ2 ∈ zW ∧ Cond.code yJ2_newString_b4f7a cJ2_newString_b4f7a 5 (some (FieldType.object "java/lang/String")) ∈ zW := ⟨wt_J2_newString_b4f7a, wi_J2, wc_J2_newString_b4f7a⟩
theorem wu_J2_compress_39247 : Cond.static yJ2_compress_39247 ∈ zW ∧ Cond.initialized RJ2 ∈ zW ∧ Cond.code yJ2_compress_39247 cJ2_compress_39247 6 (some (FieldType.array FieldType.byte)) ∈ zW := ⟨wt_J2_compress_39247, wi_J2, wc_J2_compress_39247⟩
theorem wv_X9_isConditions : Cond.instanceMethod yX9_isConditions ∈ zW ∧ Cond.selects RX9 yX9_isConditions yX9_isConditions ∈ zW ∧ Cond.initialized RX9 ∈ zW ∧ Cond.code yX9_isConditions cX9_isConditions 1 (some FieldType.boolean) ∈ zW := ⟨wn_X9_isConditions, we_X9_isConditions, wi_X9, wc_X9_isConditions⟩
theorem wv_X2_addConditions : Cond.instanceMethod yX2_addConditions ∈ zW ∧ Cond.selects RX2 yX2_addConditions yX2_addConditions ∈ zW ∧ Cond.initialized RX2 ∈ zW ∧ Cond.code yX2_addConditions cX2_addConditions 4 none ∈ zW := ⟨wn_X2_addConditions, we_X2_addConditions, wi_X2, wc_X2_addConditions⟩
theorem wv_X2_addCondition : Cond.instanceMethod yX2_addCondition ∈ zW ∧ Cond.selects RX2 yX2_addCondition yX2_addCondition ∈ zW ∧ Cond.initialized RX2 ∈ zW ∧ Cond.code yX2_addCondition cX2_addCondition 6 none ∈ zW := ⟨wn_X2_addCondition, we_X2_addCondition, wi_X2, wc_X2_addCondition⟩
theorem wu_X2_conditionSign : Cond.static yX2_conditionSign ∈ zW ∧ Cond.initialized RX2 ∈ zW ∧ Cond.code yX2_conditionSign cX2_conditionSign 2 (some FieldType.int) ∈ zW := ⟨wt_X2_conditionSign, wi_X2, wc_X2_conditionSign⟩
theorem wu_X2_elemSign : Cond.static yX2_elemSign ∈ zW ∧ Cond.initialized RX2 ∈ zW ∧ Cond.code yX2_elemSign cX2_elemSign 2 (some FieldType.int) ∈ zW := ⟨wt_X2_elemSign, wi_X2, wc_X2_elemSign⟩
theorem wu_X2_orderSign : Cond.static yX2_orderSign ∈ zW ∧ Cond.initialized RX2 ∈ zW ∧ Cond.code yX2_orderSign cX2_orderSign 3 (some FieldType.int) ∈ zW := ⟨wt_X2_orderSign, wi_X2, wc_X2_orderSign⟩
theorem wu_X2_isValueFor : Cond.static yX2_isValueFor ∈ zW ∧ Cond.initialized RX2 ∈ zW ∧ Cond.code yX2_isValueFor cX2_isValueFor 2 (some FieldType.boolean) ∈ zW := ⟨wt_X2_isValueFor, wi_X2, wc_X2_isValueFor⟩
theorem wu_X3_classOf : Cond.static yX3_classOf ∈ zW ∧ Cond.initialized RX3 ∈ zW ∧ Cond.code yX3_classOf cX3_classOf 1 (some FieldType.int) ∈ zW := ⟨wt_X3_classOf, wi_X3, wc_X3_classOf⟩
theorem wu_X2_isNegated : Cond.static yX2_isNegated ∈ zW ∧ Cond.initialized RX2 ∈ zW ∧ Cond.code yX2_isNegated cX2_isNegated 2 (some FieldType.boolean) ∈ zW := ⟨wt_X2_isNegated, wi_X2, wc_X2_isNegated⟩
theorem wv_X10_place : Cond.instanceMethod yX10_place ∈ zW ∧ Cond.selects RX10 yX10_place yX10_place ∈ zW ∧ Cond.initialized RX10 ∈ zW ∧ Cond.code yX10_place cX10_place 1 (some FieldType.int) ∈ zW := ⟨wn_X10_place, we_X10_place, wi_X10, wc_X10_place⟩
theorem wv_X10_many : Cond.instanceMethod yX10_many ∈ zW ∧ Cond.selects RX10 yX10_many yX10_many ∈ zW ∧ Cond.initialized RX10 ∈ zW ∧ Cond.code yX10_many cX10_many 4 (some FieldType.int) ∈ zW := ⟨wn_X10_many, we_X10_many, wi_X10, wc_X10_many⟩
theorem wv_X10_holds : Cond.instanceMethod yX10_holds ∈ zW ∧ Cond.selects RX10 yX10_holds yX10_holds ∈ zW ∧ Cond.initialized RX10 ∈ zW ∧ Cond.code yX10_holds cX10_holds 5 (some FieldType.int) ∈ zW := ⟨wn_X10_holds, we_X10_holds, wi_X10, wc_X10_holds⟩
theorem wv_X4_firstFailing : Cond.instanceMethod yX4_firstFailing ∈ zW ∧ Cond.selects RX4 yX4_firstFailing yX4_firstFailing ∈ zW ∧ Cond.initialized RX4 ∈ zW ∧ Cond.code yX4_firstFailing cX4_firstFailing 6 (some FieldType.int) ∈ zW := ⟨wn_X4_firstFailing, we_X4_firstFailing, wi_X4, wc_X4_firstFailing⟩
theorem wv_X4_clauseHolds : Cond.instanceMethod yX4_clauseHolds ∈ zW ∧ Cond.selects RX4 yX4_clauseHolds yX4_clauseHolds ∈ zW ∧ Cond.initialized RX4 ∈ zW ∧ Cond.code yX4_clauseHolds cX4_clauseHolds 4 (some FieldType.boolean) ∈ zW := ⟨wn_X4_clauseHolds, we_X4_clauseHolds, wi_X4, wc_X4_clauseHolds⟩
theorem wv_X4_somePartIs : Cond.instanceMethod yX4_somePartIs ∈ zW ∧ Cond.selects RX4 yX4_somePartIs yX4_somePartIs ∈ zW ∧ Cond.initialized RX4 ∈ zW ∧ Cond.code yX4_somePartIs cX4_somePartIs 6 (some FieldType.boolean) ∈ zW := ⟨wn_X4_somePartIs, we_X4_somePartIs, wi_X4, wc_X4_somePartIs⟩
theorem wv_X4_conditionsHold : Cond.instanceMethod yX4_conditionsHold ∈ zW ∧ Cond.selects RX4 yX4_conditionsHold yX4_conditionsHold ∈ zW ∧ Cond.initialized RX4 ∈ zW ∧ Cond.code yX4_conditionsHold cX4_conditionsHold 6 (some FieldType.boolean) ∈ zW := ⟨wn_X4_conditionsHold, we_X4_conditionsHold, wi_X4, wc_X4_conditionsHold⟩
theorem wv_X4_conditionHolds : Cond.instanceMethod yX4_conditionHolds ∈ zW ∧ Cond.selects RX4 yX4_conditionHolds yX4_conditionHolds ∈ zW ∧ Cond.initialized RX4 ∈ zW ∧ Cond.code yX4_conditionHolds cX4_conditionHolds 7 (some FieldType.boolean) ∈ zW := ⟨wn_X4_conditionHolds, we_X4_conditionHolds, wi_X4, wc_X4_conditionHolds⟩
theorem wv_X4_tryLeaves : Cond.instanceMethod yX4_tryLeaves ∈ zW ∧ Cond.selects RX4 yX4_tryLeaves yX4_tryLeaves ∈ zW ∧ Cond.initialized RX4 ∈ zW ∧ Cond.code yX4_tryLeaves cX4_tryLeaves 6 (some FieldType.int) ∈ zW := ⟨wn_X4_tryLeaves, we_X4_tryLeaves, wi_X4, wc_X4_tryLeaves⟩
theorem wv_X4_tryLeaf : Cond.instanceMethod yX4_tryLeaf ∈ zW ∧ Cond.selects RX4 yX4_tryLeaf yX4_tryLeaf ∈ zW ∧ Cond.initialized RX4 ∈ zW ∧ Cond.code yX4_tryLeaf cX4_tryLeaf 4 (some FieldType.int) ∈ zW := ⟨wn_X4_tryLeaf, we_X4_tryLeaf, wi_X4, wc_X4_tryLeaf⟩
theorem wv_X4_passes : Cond.instanceMethod yX4_passes ∈ zW ∧ Cond.selects RX4 yX4_passes yX4_passes ∈ zW ∧ Cond.initialized RX4 ∈ zW ∧ Cond.code yX4_passes cX4_passes 4 (some FieldType.boolean) ∈ zW := ⟨wn_X4_passes, we_X4_passes, wi_X4, wc_X4_passes⟩
theorem wv_X4_passesSome : Cond.instanceMethod yX4_passesSome ∈ zW ∧ Cond.selects RX4 yX4_passesSome yX4_passesSome ∈ zW ∧ Cond.initialized RX4 ∈ zW ∧ Cond.code yX4_passesSome cX4_passesSome 4 (some FieldType.boolean) ∈ zW := ⟨wn_X4_passesSome, we_X4_passesSome, wi_X4, wc_X4_passesSome⟩
theorem wv_X4_passesWithItems : Cond.instanceMethod yX4_passesWithItems ∈ zW ∧ Cond.selects RX4 yX4_passesWithItems yX4_passesWithItems ∈ zW ∧ Cond.initialized RX4 ∈ zW ∧ Cond.code yX4_passesWithItems cX4_passesWithItems 5 (some FieldType.boolean) ∈ zW := ⟨wn_X4_passesWithItems, we_X4_passesWithItems, wi_X4, wc_X4_passesWithItems⟩
theorem wv_X4_compares : Cond.instanceMethod yX4_compares ∈ zW ∧ Cond.selects RX4 yX4_compares yX4_compares ∈ zW ∧ Cond.initialized RX4 ∈ zW ∧ Cond.code yX4_compares cX4_compares 5 (some FieldType.boolean) ∈ zW := ⟨wn_X4_compares, we_X4_compares, wi_X4, wc_X4_compares⟩
theorem wu_X5_compare : Cond.static yX5_compare ∈ zW ∧ Cond.initialized RX5 ∈ zW ∧ Cond.code yX5_compare cX5_compare 5 (some FieldType.int) ∈ zW := ⟨wt_X5_compare, wi_X5, wc_X5_compare⟩
theorem wu_J6_compare_7cf53 : Cond.static yJ6_compare_7cf53 ∈ zW ∧ Cond.initialized RJ6 ∈ zW ∧ Cond.code yJ6_compare_7cf53 cJ6_compare_7cf53 2 (some FieldType.int) ∈ zW := ⟨wt_J6_compare_7cf53, wi_J6, wc_J6_compare_7cf53⟩
theorem wu_J13_compare_74951 : Cond.static yJ13_compare_74951 ∈ zW ∧ Cond.initialized RJ13 ∈ zW ∧ Cond.code yJ13_compare_74951 cJ13_compare_74951 4 (some FieldType.int) ∈ zW := ⟨wt_J13_compare_74951, wi_J13, wc_J13_compare_74951⟩
theorem wu_X5_compareTexts : Cond.static yX5_compareTexts ∈ zW ∧ Cond.initialized RX5 ∈ zW ∧ Cond.code yX5_compareTexts cX5_compareTexts 4 (some FieldType.int) ∈ zW := ⟨wt_X5_compareTexts, wi_X5, wc_X5_compareTexts⟩
theorem wu_X5_compareParts : Cond.static yX5_compareParts ∈ zW ∧ Cond.initialized RX5 ∈ zW ∧ Cond.code yX5_compareParts cX5_compareParts 6 (some FieldType.int) ∈ zW := ⟨wt_X5_compareParts, wi_X5, wc_X5_compareParts⟩
theorem wu_X5_compareElements : Cond.static yX5_compareElements ∈ zW ∧ Cond.initialized RX5 ∈ zW ∧ Cond.code yX5_compareElements cX5_compareElements 5 (some FieldType.int) ∈ zW := ⟨wt_X5_compareElements, wi_X5, wc_X5_compareElements⟩
theorem wv_X4_hasItemFor : Cond.instanceMethod yX4_hasItemFor ∈ zW ∧ Cond.selects RX4 yX4_hasItemFor yX4_hasItemFor ∈ zW ∧ Cond.initialized RX4 ∈ zW ∧ Cond.code yX4_hasItemFor cX4_hasItemFor 5 (some FieldType.boolean) ∈ zW := ⟨wn_X4_hasItemFor, we_X4_hasItemFor, wi_X4, wc_X4_hasItemFor⟩
theorem wv_X4_tryLeavesOfRow : Cond.instanceMethod yX4_tryLeavesOfRow ∈ zW ∧ Cond.selects RX4 yX4_tryLeavesOfRow yX4_tryLeavesOfRow ∈ zW ∧ Cond.initialized RX4 ∈ zW ∧ Cond.code yX4_tryLeavesOfRow cX4_tryLeavesOfRow 8 (some FieldType.int) ∈ zW := ⟨wn_X4_tryLeavesOfRow, we_X4_tryLeavesOfRow, wi_X4, wc_X4_tryLeavesOfRow⟩
theorem wu_J9_max_7cf53 : Cond.static yJ9_max_7cf53 ∈ zW ∧ Cond.initialized RJ9 ∈ zW ∧ Cond.code yJ9_max_7cf53 cJ9_max_7cf53 2 (some FieldType.int) ∈ zW := ⟨wt_J9_max_7cf53, wi_J9, wc_J9_max_7cf53⟩
theorem wv_X10_fails : Cond.instanceMethod yX10_fails ∈ zW ∧ Cond.selects RX10 yX10_fails yX10_fails ∈ zW ∧ Cond.initialized RX10 ∈ zW ∧ Cond.code yX10_fails cX10_fails 5 (some FieldType.int) ∈ zW := ⟨wn_X10_fails, we_X10_fails, wi_X10, wc_X10_fails⟩
theorem wv_X10_which : Cond.instanceMethod yX10_which ∈ zW ∧ Cond.selects RX10 yX10_which yX10_which ∈ zW ∧ Cond.initialized RX10 ∈ zW ∧ Cond.code yX10_which cX10_which 4 (some FieldType.int) ∈ zW := ⟨wn_X10_which, we_X10_which, wi_X10, wc_X10_which⟩
theorem wv_X11_feed : Cond.instanceMethod yX11_feed ∈ zW ∧ Cond.selects RX11 yX11_feed yX11_feed ∈ zW ∧ Cond.initialized RX11 ∈ zW ∧ Cond.code yX11_feed cX11_feed 6 (some FieldType.int) ∈ zW := ⟨wn_X11_feed, we_X11_feed, wi_X11, wc_X11_feed⟩
theorem wv_X11_put : Cond.instanceMethod yX11_put ∈ zW ∧ Cond.selects RX11 yX11_put yX11_put ∈ zW ∧ Cond.initialized RX11 ∈ zW ∧ Cond.code yX11_put cX11_put 3 none ∈ zW := ⟨wn_X11_put, we_X11_put, wi_X11, wc_X11_put⟩
theorem wv_X11_read : Cond.instanceMethod yX11_read ∈ zW ∧ Cond.selects RX11 yX11_read yX11_read ∈ zW ∧ Cond.initialized RX11 ∈ zW ∧ Cond.code yX11_read cX11_read 4 (some FieldType.int) ∈ zW := ⟨wn_X11_read, we_X11_read, wi_X11, wc_X11_read⟩
theorem wu_X11_isFour : Cond.static yX11_isFour ∈ zW ∧ Cond.initialized RX11 ∈ zW ∧ Cond.code yX11_isFour cX11_isFour 1 (some FieldType.boolean) ∈ zW := ⟨wt_X11_isFour, wi_X11, wc_X11_isFour⟩
theorem wv_X11_isDocument : Cond.instanceMethod yX11_isDocument ∈ zW ∧ Cond.selects RX11 yX11_isDocument yX11_isDocument ∈ zW ∧ Cond.initialized RX11 ∈ zW ∧ Cond.code yX11_isDocument cX11_isDocument 3 (some FieldType.boolean) ∈ zW := ⟨wn_X11_isDocument, we_X11_isDocument, wi_X11, wc_X11_isDocument⟩
theorem wv_X11_goOver : Cond.instanceMethod yX11_goOver ∈ zW ∧ Cond.selects RX11 yX11_goOver yX11_goOver ∈ zW ∧ Cond.initialized RX11 ∈ zW ∧ Cond.code yX11_goOver cX11_goOver 5 none ∈ zW := ⟨wn_X11_goOver, we_X11_goOver, wi_X11, wc_X11_goOver⟩
theorem wv_X11_opens : Cond.instanceMethod yX11_opens ∈ zW ∧ Cond.selects RX11 yX11_opens yX11_opens ∈ zW ∧ Cond.initialized RX11 ∈ zW ∧ Cond.code yX11_opens cX11_opens 8 (some FieldType.boolean) ∈ zW := ⟨wn_X11_opens, we_X11_opens, wi_X11, wc_X11_opens⟩
theorem wv_X11_stop : Cond.instanceMethod yX11_stop ∈ zW ∧ Cond.selects RX11 yX11_stop yX11_stop ∈ zW ∧ Cond.initialized RX11 ∈ zW ∧ Cond.code yX11_stop cX11_stop 3 none ∈ zW := ⟨wn_X11_stop, we_X11_stop, wi_X11, wc_X11_stop⟩
theorem wv_X11_low : Cond.instanceMethod yX11_low ∈ zW ∧ Cond.selects RX11 yX11_low yX11_low ∈ zW ∧ Cond.initialized RX11 ∈ zW ∧ Cond.code yX11_low cX11_low 6 (some FieldType.long) ∈ zW := ⟨wn_X11_low, we_X11_low, wi_X11, wc_X11_low⟩
theorem wv_X11_isKind : Cond.instanceMethod yX11_isKind ∈ zW ∧ Cond.selects RX11 yX11_isKind yX11_isKind ∈ zW ∧ Cond.initialized RX11 ∈ zW ∧ Cond.code yX11_isKind cX11_isKind 2 (some FieldType.boolean) ∈ zW := ⟨wn_X11_isKind, we_X11_isKind, wi_X11, wc_X11_isKind⟩
theorem wv_X11_element : Cond.instanceMethod yX11_element ∈ zW ∧ Cond.selects RX11 yX11_element yX11_element ∈ zW ∧ Cond.initialized RX11 ∈ zW ∧ Cond.code yX11_element cX11_element 8 (some FieldType.int) ∈ zW := ⟨wn_X11_element, we_X11_element, wi_X11, wc_X11_element⟩
theorem wu_X11_badText : Cond.static yX11_badText ∈ zW ∧ Cond.initialized RX11 ∈ zW ∧ Cond.code yX11_badText cX11_badText 5 (some FieldType.int) ∈ zW := ⟨wt_X11_badText, wi_X11, wc_X11_badText⟩
theorem wu_X11_character : Cond.static yX11_character ∈ zW ∧ Cond.initialized RX11 ∈ zW ∧ Cond.code yX11_character cX11_character 7 (some FieldType.int) ∈ zW := ⟨wt_X11_character, wi_X11, wc_X11_character⟩
theorem wv_X11_isName : Cond.instanceMethod yX11_isName ∈ zW ∧ Cond.selects RX11 yX11_isName yX11_isName ∈ zW ∧ Cond.initialized RX11 ∈ zW ∧ Cond.code yX11_isName cX11_isName 7 (some FieldType.boolean) ∈ zW := ⟨wn_X11_isName, we_X11_isName, wi_X11, wc_X11_isName⟩
theorem wu_X11_isNumber : Cond.static yX11_isNumber ∈ zW ∧ Cond.initialized RX11 ∈ zW ∧ Cond.code yX11_isNumber cX11_isNumber 5 (some FieldType.boolean) ∈ zW := ⟨wt_X11_isNumber, wi_X11, wc_X11_isNumber⟩
theorem wu_X11_digits : Cond.static yX11_digits ∈ zW ∧ Cond.initialized RX11 ∈ zW ∧ Cond.code yX11_digits cX11_digits 1 (some FieldType.int) ∈ zW := ⟨wt_X11_digits, wi_X11, wc_X11_digits⟩
theorem wu_X11_digit : Cond.static yX11_digit ∈ zW ∧ Cond.initialized RX11 ∈ zW ∧ Cond.code yX11_digit cX11_digit 4 (some FieldType.int) ∈ zW := ⟨wt_X11_digit, wi_X11, wc_X11_digit⟩
theorem wv_X11_value : Cond.instanceMethod yX11_value ∈ zW ∧ Cond.selects RX11 yX11_value yX11_value ∈ zW ∧ Cond.initialized RX11 ∈ zW ∧ Cond.code yX11_value cX11_value 6 (some FieldType.int) ∈ zW := ⟨wn_X11_value, we_X11_value, wi_X11, wc_X11_value⟩
theorem wv_X11_text : Cond.instanceMethod yX11_text ∈ zW ∧ Cond.selects RX11 yX11_text yX11_text ∈ zW ∧ Cond.initialized RX11 ∈ zW ∧ Cond.code yX11_text cX11_text 8 (some FieldType.int) ∈ zW := ⟨wn_X11_text, we_X11_text, wi_X11, wc_X11_text⟩
theorem wv_X11_filter : Cond.instanceMethod yX11_filter ∈ zW ∧ Cond.selects RX11 yX11_filter yX11_filter ∈ zW ∧ Cond.initialized RX11 ∈ zW ∧ Cond.code yX11_filter cX11_filter 4 (some FieldType.int) ∈ zW := ⟨wn_X11_filter, we_X11_filter, wi_X11, wc_X11_filter⟩
theorem wv_X11_checkFilter : Cond.instanceMethod yX11_checkFilter ∈ zW ∧ Cond.selects RX11 yX11_checkFilter yX11_checkFilter ∈ zW ∧ Cond.initialized RX11 ∈ zW ∧ Cond.code yX11_checkFilter cX11_checkFilter 3 none ∈ zW := ⟨wn_X11_checkFilter, we_X11_checkFilter, wi_X11, wc_X11_checkFilter⟩
theorem wv_X11_firstOf : Cond.instanceMethod yX11_firstOf ∈ zW ∧ Cond.selects RX11 yX11_firstOf yX11_firstOf ∈ zW ∧ Cond.initialized RX11 ∈ zW ∧ Cond.code yX11_firstOf cX11_firstOf 2 (some FieldType.int) ∈ zW := ⟨wn_X11_firstOf, we_X11_firstOf, wi_X11, wc_X11_firstOf⟩
theorem wv_X11_isDollar : Cond.instanceMethod yX11_isDollar ∈ zW ∧ Cond.selects RX11 yX11_isDollar yX11_isDollar ∈ zW ∧ Cond.initialized RX11 ∈ zW ∧ Cond.code yX11_isDollar cX11_isDollar 2 (some FieldType.boolean) ∈ zW := ⟨wn_X11_isDollar, we_X11_isDollar, wi_X11, wc_X11_isDollar⟩
theorem wv_X11_checkJoin : Cond.instanceMethod yX11_checkJoin ∈ zW ∧ Cond.selects RX11 yX11_checkJoin yX11_checkJoin ∈ zW ∧ Cond.initialized RX11 ∈ zW ∧ Cond.code yX11_checkJoin cX11_checkJoin 3 none ∈ zW := ⟨wn_X11_checkJoin, we_X11_checkJoin, wi_X11, wc_X11_checkJoin⟩
theorem wv_X11_isJoin : Cond.instanceMethod yX11_isJoin ∈ zW ∧ Cond.selects RX11 yX11_isJoin yX11_isJoin ∈ zW ∧ Cond.initialized RX11 ∈ zW ∧ Cond.code yX11_isJoin cX11_isJoin 2 (some FieldType.boolean) ∈ zW := ⟨wn_X11_isJoin, we_X11_isJoin, wi_X11, wc_X11_isJoin⟩
theorem wv_X11_isAnd : Cond.instanceMethod yX11_isAnd ∈ zW ∧ Cond.selects RX11 yX11_isAnd yX11_isAnd ∈ zW ∧ Cond.initialized RX11 ∈ zW ∧ Cond.code yX11_isAnd cX11_isAnd 2 (some FieldType.boolean) ∈ zW := ⟨wn_X11_isAnd, we_X11_isAnd, wi_X11, wc_X11_isAnd⟩
theorem wv_X11_isNamed : Cond.instanceMethod yX11_isNamed ∈ zW ∧ Cond.selects RX11 yX11_isNamed yX11_isNamed ∈ zW ∧ Cond.initialized RX11 ∈ zW ∧ Cond.code yX11_isNamed cX11_isNamed 7 (some FieldType.boolean) ∈ zW := ⟨wn_X11_isNamed, we_X11_isNamed, wi_X11, wc_X11_isNamed⟩
theorem wv_X11_isOr : Cond.instanceMethod yX11_isOr ∈ zW ∧ Cond.selects RX11 yX11_isOr yX11_isOr ∈ zW ∧ Cond.initialized RX11 ∈ zW ∧ Cond.code yX11_isOr cX11_isOr 2 (some FieldType.boolean) ∈ zW := ⟨wn_X11_isOr, we_X11_isOr, wi_X11, wc_X11_isOr⟩
theorem wv_X11_isNor : Cond.instanceMethod yX11_isNor ∈ zW ∧ Cond.selects RX11 yX11_isNor yX11_isNor ∈ zW ∧ Cond.initialized RX11 ∈ zW ∧ Cond.code yX11_isNor cX11_isNor 2 (some FieldType.boolean) ∈ zW := ⟨wn_X11_isNor, we_X11_isNor, wi_X11, wc_X11_isNor⟩
theorem wv_X11_say : Cond.instanceMethod yX11_say ∈ zW ∧ Cond.selects RX11 yX11_say yX11_say ∈ zW ∧ Cond.initialized RX11 ∈ zW ∧ Cond.code yX11_say cX11_say 3 none ∈ zW := ⟨wn_X11_say, we_X11_say, wi_X11, wc_X11_say⟩
theorem wv_X11_valueOf : Cond.instanceMethod yX11_valueOf ∈ zW ∧ Cond.selects RX11 yX11_valueOf yX11_valueOf ∈ zW ∧ Cond.initialized RX11 ∈ zW ∧ Cond.code yX11_valueOf cX11_valueOf 2 (some FieldType.int) ∈ zW := ⟨wn_X11_valueOf, we_X11_valueOf, wi_X11, wc_X11_valueOf⟩
theorem wv_X11_nameEndOf : Cond.instanceMethod yX11_nameEndOf ∈ zW ∧ Cond.selects RX11 yX11_nameEndOf yX11_nameEndOf ∈ zW ∧ Cond.initialized RX11 ∈ zW ∧ Cond.code yX11_nameEndOf cX11_nameEndOf 3 (some FieldType.int) ∈ zW := ⟨wn_X11_nameEndOf, we_X11_nameEndOf, wi_X11, wc_X11_nameEndOf⟩
theorem wv_X11_count : Cond.instanceMethod yX11_count ∈ zW ∧ Cond.selects RX11 yX11_count yX11_count ∈ zW ∧ Cond.initialized RX11 ∈ zW ∧ Cond.code yX11_count cX11_count 3 none ∈ zW := ⟨wn_X11_count, we_X11_count, wi_X11, wc_X11_count⟩
theorem wv_X11_nextOf : Cond.instanceMethod yX11_nextOf ∈ zW ∧ Cond.selects RX11 yX11_nextOf yX11_nextOf ∈ zW ∧ Cond.initialized RX11 ∈ zW ∧ Cond.code yX11_nextOf cX11_nextOf 4 (some FieldType.int) ∈ zW := ⟨wn_X11_nextOf, we_X11_nextOf, wi_X11, wc_X11_nextOf⟩
theorem wv_X11_lengthOf : Cond.instanceMethod yX11_lengthOf ∈ zW ∧ Cond.selects RX11 yX11_lengthOf yX11_lengthOf ∈ zW ∧ Cond.initialized RX11 ∈ zW ∧ Cond.code yX11_lengthOf cX11_lengthOf 3 (some FieldType.int) ∈ zW := ⟨wn_X11_lengthOf, we_X11_lengthOf, wi_X11, wc_X11_lengthOf⟩
theorem wv_X11_whole : Cond.instanceMethod yX11_whole ∈ zW ∧ Cond.selects RX11 yX11_whole yX11_whole ∈ zW ∧ Cond.initialized RX11 ∈ zW ∧ Cond.code yX11_whole cX11_whole 2 (some FieldType.int) ∈ zW := ⟨wn_X11_whole, we_X11_whole, wi_X11, wc_X11_whole⟩
theorem wv_X11_checkPath : Cond.instanceMethod yX11_checkPath ∈ zW ∧ Cond.selects RX11 yX11_checkPath yX11_checkPath ∈ zW ∧ Cond.initialized RX11 ∈ zW ∧ Cond.code yX11_checkPath cX11_checkPath 4 none ∈ zW := ⟨wn_X11_checkPath, we_X11_checkPath, wi_X11, wc_X11_checkPath⟩
theorem wv_X11_stepsOf : Cond.instanceMethod yX11_stepsOf ∈ zW ∧ Cond.selects RX11 yX11_stepsOf yX11_stepsOf ∈ zW ∧ Cond.initialized RX11 ∈ zW ∧ Cond.code yX11_stepsOf cX11_stepsOf 7 (some FieldType.int) ∈ zW := ⟨wn_X11_stepsOf, we_X11_stepsOf, wi_X11, wc_X11_stepsOf⟩
theorem wv_X11_isConditions : Cond.instanceMethod yX11_isConditions ∈ zW ∧ Cond.selects RX11 yX11_isConditions yX11_isConditions ∈ zW ∧ Cond.initialized RX11 ∈ zW ∧ Cond.code yX11_isConditions cX11_isConditions 3 (some FieldType.boolean) ∈ zW := ⟨wn_X11_isConditions, we_X11_isConditions, wi_X11, wc_X11_isConditions⟩
theorem wv_X11_checkConditions : Cond.instanceMethod yX11_checkConditions ∈ zW ∧ Cond.selects RX11 yX11_checkConditions yX11_checkConditions ∈ zW ∧ Cond.initialized RX11 ∈ zW ∧ Cond.code yX11_checkConditions cX11_checkConditions 5 none ∈ zW := ⟨wn_X11_checkConditions, we_X11_checkConditions, wi_X11, wc_X11_checkConditions⟩
theorem wv_X11_condition : Cond.instanceMethod yX11_condition ∈ zW ∧ Cond.selects RX11 yX11_condition yX11_condition ∈ zW ∧ Cond.initialized RX11 ∈ zW ∧ Cond.code yX11_condition cX11_condition 2 (some FieldType.int) ∈ zW := ⟨wn_X11_condition, we_X11_condition, wi_X11, wc_X11_condition⟩
theorem wv_X11_isRight : Cond.instanceMethod yX11_isRight ∈ zW ∧ Cond.selects RX11 yX11_isRight yX11_isRight ∈ zW ∧ Cond.initialized RX11 ∈ zW ∧ Cond.code yX11_isRight cX11_isRight 4 (some FieldType.boolean) ∈ zW := ⟨wn_X11_isRight, we_X11_isRight, wi_X11, wc_X11_isRight⟩
theorem wv_X11_number : Cond.instanceMethod yX11_number ∈ zW ∧ Cond.selects RX11 yX11_number yX11_number ∈ zW ∧ Cond.initialized RX11 ∈ zW ∧ Cond.code yX11_number cX11_number 6 (some FieldType.long) ∈ zW := ⟨wn_X11_number, we_X11_number, wi_X11, wc_X11_number⟩
theorem wv_X11_asConditions : Cond.instanceMethod yX11_asConditions ∈ zW ∧ Cond.selects RX11 yX11_asConditions yX11_asConditions ∈ zW ∧ Cond.initialized RX11 ∈ zW ∧ Cond.code yX11_asConditions cX11_asConditions 2 (some FieldType.boolean) ∈ zW := ⟨wn_X11_asConditions, we_X11_asConditions, wi_X11, wc_X11_asConditions⟩
theorem wv_X11_place : Cond.instanceMethod yX11_place ∈ zW ∧ Cond.selects RX11 yX11_place yX11_place ∈ zW ∧ Cond.initialized RX11 ∈ zW ∧ Cond.code yX11_place cX11_place 1 (some FieldType.int) ∈ zW := ⟨wn_X11_place, we_X11_place, wi_X11, wc_X11_place⟩
theorem wv_X11_many : Cond.instanceMethod yX11_many ∈ zW ∧ Cond.selects RX11 yX11_many yX11_many ∈ zW ∧ Cond.initialized RX11 ∈ zW ∧ Cond.code yX11_many cX11_many 3 (some FieldType.int) ∈ zW := ⟨wn_X11_many, we_X11_many, wi_X11, wc_X11_many⟩
theorem wv_X11_countOf : Cond.instanceMethod yX11_countOf ∈ zW ∧ Cond.selects RX11 yX11_countOf yX11_countOf ∈ zW ∧ Cond.initialized RX11 ∈ zW ∧ Cond.code yX11_countOf cX11_countOf 4 (some FieldType.int) ∈ zW := ⟨wn_X11_countOf, we_X11_countOf, wi_X11, wc_X11_countOf⟩
theorem wv_X11_holds : Cond.instanceMethod yX11_holds ∈ zW ∧ Cond.selects RX11 yX11_holds yX11_holds ∈ zW ∧ Cond.initialized RX11 ∈ zW ∧ Cond.code yX11_holds cX11_holds 3 (some FieldType.int) ∈ zW := ⟨wn_X11_holds, we_X11_holds, wi_X11, wc_X11_holds⟩
theorem wv_X11_filterHolds : Cond.instanceMethod yX11_filterHolds ∈ zW ∧ Cond.selects RX11 yX11_filterHolds yX11_filterHolds ∈ zW ∧ Cond.initialized RX11 ∈ zW ∧ Cond.code yX11_filterHolds cX11_filterHolds 4 (some FieldType.boolean) ∈ zW := ⟨wn_X11_filterHolds, we_X11_filterHolds, wi_X11, wc_X11_filterHolds⟩
theorem wv_X11_elementHolds : Cond.instanceMethod yX11_elementHolds ∈ zW ∧ Cond.selects RX11 yX11_elementHolds yX11_elementHolds ∈ zW ∧ Cond.initialized RX11 ∈ zW ∧ Cond.code yX11_elementHolds cX11_elementHolds 5 (some FieldType.boolean) ∈ zW := ⟨wn_X11_elementHolds, we_X11_elementHolds, wi_X11, wc_X11_elementHolds⟩
theorem wv_X11_all : Cond.instanceMethod yX11_all ∈ zW ∧ Cond.selects RX11 yX11_all yX11_all ∈ zW ∧ Cond.initialized RX11 ∈ zW ∧ Cond.code yX11_all cX11_all 6 (some FieldType.boolean) ∈ zW := ⟨wn_X11_all, we_X11_all, wi_X11, wc_X11_all⟩
theorem wv_X11_holdsOne : Cond.instanceMethod yX11_holdsOne ∈ zW ∧ Cond.selects RX11 yX11_holdsOne yX11_holdsOne ∈ zW ∧ Cond.initialized RX11 ∈ zW ∧ Cond.code yX11_holdsOne cX11_holdsOne 6 (some FieldType.boolean) ∈ zW := ⟨wn_X11_holdsOne, we_X11_holdsOne, wi_X11, wc_X11_holdsOne⟩
theorem wv_X11_any : Cond.instanceMethod yX11_any ∈ zW ∧ Cond.selects RX11 yX11_any yX11_any ∈ zW ∧ Cond.initialized RX11 ∈ zW ∧ Cond.code yX11_any cX11_any 8 (some FieldType.boolean) ∈ zW := ⟨wn_X11_any, we_X11_any, wi_X11, wc_X11_any⟩
theorem wv_X11_some : Cond.instanceMethod yX11_some ∈ zW ∧ Cond.selects RX11 yX11_some yX11_some ∈ zW ∧ Cond.initialized RX11 ∈ zW ∧ Cond.code yX11_some cX11_some 8 (some FieldType.boolean) ∈ zW := ⟨wn_X11_some, we_X11_some, wi_X11, wc_X11_some⟩
theorem wv_X11_does : Cond.instanceMethod yX11_does ∈ zW ∧ Cond.selects RX11 yX11_does yX11_does ∈ zW ∧ Cond.initialized RX11 ∈ zW ∧ Cond.code yX11_does cX11_does 9 (some FieldType.boolean) ∈ zW := ⟨wn_X11_does, we_X11_does, wi_X11, wc_X11_does⟩
theorem wv_X11_isEqual : Cond.instanceMethod yX11_isEqual ∈ zW ∧ Cond.selects RX11 yX11_isEqual yX11_isEqual ∈ zW ∧ Cond.initialized RX11 ∈ zW ∧ Cond.code yX11_isEqual cX11_isEqual 7 (some FieldType.boolean) ∈ zW := ⟨wn_X11_isEqual, we_X11_isEqual, wi_X11, wc_X11_isEqual⟩
theorem wv_X11_order : Cond.instanceMethod yX11_order ∈ zW ∧ Cond.selects RX11 yX11_order yX11_order ∈ zW ∧ Cond.initialized RX11 ∈ zW ∧ Cond.code yX11_order cX11_order 10 (some FieldType.int) ∈ zW := ⟨wn_X11_order, we_X11_order, wi_X11, wc_X11_order⟩
theorem wu_X11_classOf : Cond.static yX11_classOf ∈ zW ∧ Cond.initialized RX11 ∈ zW ∧ Cond.code yX11_classOf cX11_classOf 1 (some FieldType.int) ∈ zW := ⟨wt_X11_classOf, wi_X11, wc_X11_classOf⟩
theorem wv_X11_orderBytes : Cond.instanceMethod yX11_orderBytes ∈ zW ∧ Cond.selects RX11 yX11_orderBytes yX11_orderBytes ∈ zW ∧ Cond.initialized RX11 ∈ zW ∧ Cond.code yX11_orderBytes cX11_orderBytes 6 (some FieldType.int) ∈ zW := ⟨wn_X11_orderBytes, we_X11_orderBytes, wi_X11, wc_X11_orderBytes⟩
theorem wv_X11_orderBoxes : Cond.instanceMethod yX11_orderBoxes ∈ zW ∧ Cond.selects RX11 yX11_orderBoxes yX11_orderBoxes ∈ zW ∧ Cond.initialized RX11 ∈ zW ∧ Cond.code yX11_orderBoxes cX11_orderBoxes 7 (some FieldType.int) ∈ zW := ⟨wn_X11_orderBoxes, we_X11_orderBoxes, wi_X11, wc_X11_orderBoxes⟩
theorem wv_X11_isSo : Cond.instanceMethod yX11_isSo ∈ zW ∧ Cond.selects RX11 yX11_isSo yX11_isSo ∈ zW ∧ Cond.initialized RX11 ∈ zW ∧ Cond.code yX11_isSo cX11_isSo 8 (some FieldType.boolean) ∈ zW := ⟨wn_X11_isSo, we_X11_isSo, wi_X11, wc_X11_isSo⟩
theorem wv_X11_stands : Cond.instanceMethod yX11_stands ∈ zW ∧ Cond.selects RX11 yX11_stands yX11_stands ∈ zW ∧ Cond.initialized RX11 ∈ zW ∧ Cond.code yX11_stands cX11_stands 7 (some FieldType.boolean) ∈ zW := ⟨wn_X11_stands, we_X11_stands, wi_X11, wc_X11_stands⟩
theorem wv_X11_hasItem : Cond.instanceMethod yX11_hasItem ∈ zW ∧ Cond.selects RX11 yX11_hasItem yX11_hasItem ∈ zW ∧ Cond.initialized RX11 ∈ zW ∧ Cond.code yX11_hasItem cX11_hasItem 5 (some FieldType.boolean) ∈ zW := ⟨wn_X11_hasItem, we_X11_hasItem, wi_X11, wc_X11_hasItem⟩
theorem wv_X11_isStep : Cond.instanceMethod yX11_isStep ∈ zW ∧ Cond.selects RX11 yX11_isStep yX11_isStep ∈ zW ∧ Cond.initialized RX11 ∈ zW ∧ Cond.code yX11_isStep cX11_isStep 4 (some FieldType.boolean) ∈ zW := ⟨wn_X11_isStep, we_X11_isStep, wi_X11, wc_X11_isStep⟩
theorem wv_X11_nextStep : Cond.instanceMethod yX11_nextStep ∈ zW ∧ Cond.selects RX11 yX11_nextStep yX11_nextStep ∈ zW ∧ Cond.initialized RX11 ∈ zW ∧ Cond.code yX11_nextStep cX11_nextStep 3 (some FieldType.int) ∈ zW := ⟨wn_X11_nextStep, we_X11_nextStep, wi_X11, wc_X11_nextStep⟩
theorem wv_X11_fails : Cond.instanceMethod yX11_fails ∈ zW ∧ Cond.selects RX11 yX11_fails yX11_fails ∈ zW ∧ Cond.initialized RX11 ∈ zW ∧ Cond.code yX11_fails cX11_fails 5 (some FieldType.int) ∈ zW := ⟨wn_X11_fails, we_X11_fails, wi_X11, wc_X11_fails⟩
theorem wv_X11_which : Cond.instanceMethod yX11_which ∈ zW ∧ Cond.selects RX11 yX11_which yX11_which ∈ zW ∧ Cond.initialized RX11 ∈ zW ∧ Cond.code yX11_which cX11_which 4 (some FieldType.int) ∈ zW := ⟨wn_X11_which, we_X11_which, wi_X11, wc_X11_which⟩
theorem wo_J0 : ∀ w ∈ u_ws RJ0 TJ0 4, w ∈ zW := fun w hw => List.mem_filter.mpr ((show ∀ w ∈ u_ws RJ0 TJ0 4, w ∈ lw_tbl ∧ goodWord w = true by decide +kernel) w hw)
theorem wo_X0 : ∀ w ∈ u_ws RX0 TX0 2, w ∈ zW := fun w hw => List.mem_filter.mpr ((show ∀ w ∈ u_ws RX0 TX0 2, w ∈ lw_tbl ∧ goodWord w = true by decide +kernel) w hw)
theorem wo_X1 : ∀ w ∈ u_ws RX1 TX1 2, w ∈ zW := fun w hw => List.mem_filter.mpr ((show ∀ w ∈ u_ws RX1 TX1 2, w ∈ lw_tbl ∧ goodWord w = true by decide +kernel) w hw)
theorem wo_X2 : ∀ w ∈ u_ws RX2 TX2 3, w ∈ zW := fun w hw => List.mem_filter.mpr ((show ∀ w ∈ u_ws RX2 TX2 3, w ∈ lw_tbl ∧ goodWord w = true by decide +kernel) w hw)
theorem wo_X4 : ∀ w ∈ u_ws RX4 TX4 1, w ∈ zW := fun w hw => List.mem_filter.mpr ((show ∀ w ∈ u_ws RX4 TX4 1, w ∈ lw_tbl ∧ goodWord w = true by decide +kernel) w hw)
theorem wo_X6 : ∀ w ∈ u_ws RX6 TX6 7, w ∈ zW := fun w hw => List.mem_filter.mpr ((show ∀ w ∈ u_ws RX6 TX6 7, w ∈ lw_tbl ∧ goodWord w = true by decide +kernel) w hw)
theorem wo_X7 : ∀ w ∈ u_ws RX7 TX7 3, w ∈ zW := fun w hw => List.mem_filter.mpr ((show ∀ w ∈ u_ws RX7 TX7 3, w ∈ lw_tbl ∧ goodWord w = true by decide +kernel) w hw)
theorem wo_X8 : ∀ w ∈ u_ws RX8 TX8 2, w ∈ zW := fun w hw => List.mem_filter.mpr ((show ∀ w ∈ u_ws RX8 TX8 2, w ∈ lw_tbl ∧ goodWord w = true by decide +kernel) w hw)
theorem wo_X9 : ∀ w ∈ u_ws RX9 TX9 9, w ∈ zW := fun w hw => List.mem_filter.mpr ((show ∀ w ∈ u_ws RX9 TX9 9, w ∈ lw_tbl ∧ goodWord w = true by decide +kernel) w hw)
theorem wo_X10 : ∀ w ∈ u_ws RX10 TX10 5, w ∈ zW := fun w hw => List.mem_filter.mpr ((show ∀ w ∈ u_ws RX10 TX10 5, w ∈ lw_tbl ∧ goodWord w = true by decide +kernel) w hw)
theorem wo_X11 : ∀ w ∈ u_ws RX11 TX11 23, w ∈ zW := fun w hw => List.mem_filter.mpr ((show ∀ w ∈ u_ws RX11 TX11 23, w ∈ lw_tbl ∧ goodWord w = true by decide +kernel) w hw)
end
section
/-! rows on bits, shifts and unsigned numbers, to paste: each family out of a closed proof of our own, whole with what it rests on; each by itself clean at Lean in its own claim (generation 39, form 5). Take a family whole -/
/-! ===== Int32 by its bits: bt x i ===== -/
def bt (x : Int32) (i : Nat) : Bool := x.toBitVec.getLsbD i
theorem b_ext {x y : Int32} (h : ∀ i, i < 32 → bt x i = bt y i) : x = y := Int32.toBitVec_inj.mp (BitVec.eq_of_getLsbD_eq (fun i hi => h i hi))
theorem b_or (x y : Int32) (i : Nat) : bt (x ||| y) i = (bt x i || bt y i) := by unfold bt; rw [Int32.toBitVec_or, BitVec.getLsbD_or]
theorem b_and (x y : Int32) (i : Nat) : bt (x &&& y) i = (bt x i && bt y i) := by unfold bt; rw [Int32.toBitVec_and, BitVec.getLsbD_and]
theorem b_xor (x y : Int32) (i : Nat) : bt (x ^^^ y) i = (bt x i ^^ bt y i) := by unfold bt; rw [Int32.toBitVec_xor, BitVec.getLsbD_xor]
theorem b_big {x : Int32} {i : Nat} (h : 32 ≤ i) : bt x i = false := BitVec.getLsbD_of_ge _ _ h
theorem b_255 (i : Nat) : bt 255 i = decide (i < 8) := by
  rcases Nat.lt_or_ge i 32 with h | h
  · exact (by decide +kernel : ∀ i, i < 32 → bt 255 i = decide (i < 8)) i h
  · rw [b_big h, decide_eq_false (by omega)]
theorem b_65535 (i : Nat) : bt 65535 i = decide (i < 16) := by
  rcases Nat.lt_or_ge i 32 with h | h
  · exact (by decide +kernel : ∀ i, i < 32 → bt 65535 i = decide (i < 16)) i h
  · rw [b_big h, decide_eq_false (by omega)]
theorem b_m1 : ∀ i, i < 32 → bt (-1) i = true := by decide +kernel
theorem b_0 (i : Nat) : bt 0 i = false := BitVec.getLsbD_zero
theorem s_l : ∀ n, n < 32 → ((nI n &&& 31).toBitVec.smod 32).toNat = n := by decide +kernel
theorem s_u : ∀ n, n < 32 → (((nI n).toUInt32 &&& Int32.toUInt32 31).toBitVec % 32).toNat = n := by decide +kernel
theorem b_shl (n : Nat) (hn : n < 32) (x : Int32) {i : Nat} (hi : i < 32) : bt (x <<< (nI n &&& 31)) i = (decide (n ≤ i) && bt x (i - n)) := by
  unfold bt
  rw [Int32.toBitVec_shiftLeft]
  show (x.toBitVec <<< ((nI n &&& 31).toBitVec.smod 32).toNat).getLsbD i = _
  rw [s_l n hn, BitVec.getLsbD_shiftLeft]
  rcases Nat.lt_or_ge i n with h | h
  · simp [h, Nat.not_le.mpr h]
  · simp [hi, h, Nat.not_lt.mpr h]
theorem b_ushr (n : Nat) (hn : n < 32) (x : Int32) (i : Nat) : bt ((x.toUInt32 >>> ((nI n).toUInt32 &&& Int32.toUInt32 31)).toInt32) i = bt x (n + i) := by
  show (x.toUInt32 >>> ((nI n).toUInt32 &&& Int32.toUInt32 31)).toBitVec.getLsbD i = x.toUInt32.toBitVec.getLsbD (n + i)
  rw [UInt32.toBitVec_shiftRight]
  show (x.toUInt32.toBitVec >>> (((nI n).toUInt32 &&& Int32.toUInt32 31).toBitVec % 32).toNat).getLsbD i = _
  rw [s_u n hn, BitVec.getLsbD_ushiftRight]
theorem b_sshr (n : Nat) (hn : n < 32) (x : Int32) {i : Nat} (hi : i < 32) : bt (x >>> (nI n &&& 31)) i = if n + i < 32 then bt x (n + i) else bt x 31 := by
  unfold bt
  rw [Int32.toBitVec_shiftRight]
  show (x.toBitVec.sshiftRight ((nI n &&& 31).toBitVec.smod 32).toNat).getLsbD i = _
  rw [s_l n hn, BitVec.getLsbD_sshiftRight, BitVec.msb_eq_getLsbD_last]
  simp [hi]
theorem b_shl8 (x : Int32) {i : Nat} (hi : i < 32) : bt (x <<< ((8 : Int32) &&& 31)) i = (decide (8 ≤ i) && bt x (i - 8)) := b_shl 8 (by omega) x hi
theorem b_shl16 (x : Int32) {i : Nat} (hi : i < 32) : bt (x <<< ((16 : Int32) &&& 31)) i = (decide (16 ≤ i) && bt x (i - 16)) := b_shl 16 (by omega) x hi
theorem b_shl24 (x : Int32) {i : Nat} (hi : i < 32) : bt (x <<< ((24 : Int32) &&& 31)) i = (decide (24 ≤ i) && bt x (i - 24)) := b_shl 24 (by omega) x hi
theorem b_sshr8 (x : Int32) {i : Nat} (hi : i < 32) : bt (x >>> ((8 : Int32) &&& 31)) i = if 8 + i < 32 then bt x (8 + i) else bt x 31 := b_sshr 8 (by omega) x hi
/-! ===== nI under and, xor, >>>, one bit, 65535 ===== -/
theorem nx_and (a b : Nat) : nI a &&& nI b = nI (a &&& b) := by
  apply Int32.toBitVec_inj.1
  show BitVec.ofNat 32 a &&& BitVec.ofNat 32 b = BitVec.ofNat 32 (a &&& b)
  apply BitVec.eq_of_getLsbD_eq
  intro i hi
  simp [hi]
theorem nx_xor (a b : Nat) : nI a ^^^ nI b = nI (a ^^^ b) := by
  apply Int32.toBitVec_inj.1
  show BitVec.ofNat 32 a ^^^ BitVec.ofNat 32 b = BitVec.ofNat 32 (a ^^^ b)
  apply BitVec.eq_of_getLsbD_eq
  intro i hi
  simp [hi]
theorem nx_cnt : ∀ j : Fin 32, (UInt32.ofNat j.val &&& Int32.toUInt32 31).toNat % 32 = j.val := by decide +kernel
theorem nx_ush {k j : Nat} (hk : k < 65536) (hj : j < 32) : ((nI k).toUInt32 >>> ((nI j).toUInt32 &&& Int32.toUInt32 31)).toInt32 = nI (k >>> j) := by
  have hs : k >>> j ≤ k := by
    rw [Nat.shiftRight_eq_div_pow]
    exact Nat.div_le_self _ _
  have e2 : UInt32.ofNat k >>> (UInt32.ofNat j &&& Int32.toUInt32 31) = UInt32.ofNat (k >>> j) := by
    apply UInt32.toNat_inj.1
    have h1 : (UInt32.ofNat k).toNat = k := Nat.mod_eq_of_lt (by omega)
    have h2 : (UInt32.ofNat (k >>> j)).toNat = k >>> j := Nat.mod_eq_of_lt (by omega)
    rw [UInt32.toNat_shiftRight, nx_cnt ⟨j, hj⟩, h1, h2]
  show (UInt32.ofNat k >>> (UInt32.ofNat j &&& Int32.toUInt32 31)).toInt32 = _
  rw [e2]
  rfl
theorem nx_bit {k j : Nat} (hk : k < 65536) (hj : j < 16) : (((nI k).toUInt32 >>> ((nI j).toUInt32 &&& Int32.toUInt32 31)).toInt32 &&& 1) = 0 ↔ k.testBit j = false := by
  rw [nx_ush hk (by omega)]
  show nI (k >>> j) &&& nI 1 = 0 ↔ _
  rw [nx_and, Nat.and_one_is_mod, ← nI_0, nI_eq (by omega) (by omega), Nat.testBit_eq_decide_div_mod_eq, Nat.shiftRight_eq_div_pow, decide_eq_false_iff_not]
  generalize k / 2 ^ j = z
  omega
theorem nx_mod (k : Nat) : nI k &&& 65535 = nI (k % 65536) := by
  show nI k &&& nI 65535 = _
  rw [nx_and, show (65535 : Nat) = 2 ^ 16 - 1 from rfl, Nat.and_two_pow_sub_one_eq_mod]
theorem nx_m16 {k : Nat} (h : k < 65536) : nI k &&& 65535 = nI k := by rw [nx_mod, Nat.mod_eq_of_lt h]
theorem nx_mask (x : Int32) : ∃ k, k < 65536 ∧ x &&& 65535 = nI k := by
  have e : x = nI x.toBitVec.toNat := by
    apply Int32.toBitVec_inj.1
    show x.toBitVec = BitVec.ofNat 32 x.toBitVec.toNat
    simp
  refine ⟨x.toBitVec.toNat % 65536, Nat.mod_lt _ (by omega), ?_⟩
  rw [← nx_mod, ← e]
/-! ===== Int32 as a set of bits: test, set ===== -/
def nf_M (m : Int32) : Nat := 4294967296 - m.toBitVec.toNat
theorem nf_sh : ∀ l, l < 32 → ((1 : Int32) <<< (nI l &&& 31)).toBitVec = BitVec.twoPow 32 l := by decide +kernel
theorem nf_sl : ∀ l, l < 32 → (((nI l).toUInt32 &&& Int32.toUInt32 31).toBitVec % 32).toNat = l := by decide +kernel
theorem nf_tp : ∀ l, l < 32 → BitVec.twoPow 32 l ≠ 0#32 := by decide +kernel
theorem nf_bit (m : Int32) (l : Nat) (hl : l < 32) : ((m.toUInt32 >>> ((nI l).toUInt32 &&& Int32.toUInt32 31)).toInt32 &&& 1) = 0 ↔ (m &&& ((1 : Int32) <<< (nI l &&& 31))) = 0 := by
  have e : ((m.toUInt32 >>> ((nI l).toUInt32 &&& Int32.toUInt32 31)).toInt32).toBitVec = m.toBitVec >>> l := by
    show m.toBitVec >>> (((nI l).toUInt32 &&& Int32.toUInt32 31).toBitVec % 32) = m.toBitVec >>> l
    rw [BitVec.ushiftRight_eq', nf_sl l hl]
  rw [← Int32.toBitVec_inj, ← Int32.toBitVec_inj, Int32.toBitVec_and, Int32.toBitVec_and, nf_sh l hl, e, BitVec.and_twoPow]
  show (m.toBitVec >>> l &&& 1#32) = 0#32 ↔ _ = 0#32
  rw [BitVec.and_one_eq_setWidth_ofBool_getLsbD, BitVec.getLsbD_ushiftRight, Nat.add_zero]
  cases hb : m.toBitVec.getLsbD l
  · exact ⟨fun _ => by simp, fun _ => by decide⟩
  · exact ⟨fun z => absurd z (by decide), fun z => absurd ((if_pos rfl).symm.trans z) (nf_tp l hl)⟩
theorem nf_gr (m k : Int32) (h : m &&& k = 0) (hk : k ≠ 0) : nf_M (m ||| k) < nf_M m := by
  have hm := m.toBitVec.isLt
  have hm' := (m ||| k).toBitVec.isLt
  have h1 : m.toBitVec.toNat ≤ (m ||| k).toBitVec.toNat := by
    rw [Int32.toBitVec_or, BitVec.toNat_or]
    exact Nat.left_le_or
  have h2 : m.toBitVec.toNat ≠ (m ||| k).toBitVec.toNat := by
    intro e
    have e2 : m = m ||| k := Int32.toBitVec_inj.mp (BitVec.eq_of_toNat_eq e)
    apply hk
    apply Int32.toBitVec_inj.mp
    show k.toBitVec = 0#32
    apply BitVec.eq_of_getLsbD_eq
    intro i hi
    have a : m.toBitVec.getLsbD i = (m.toBitVec.getLsbD i || k.toBitVec.getLsbD i) := by rw [← BitVec.getLsbD_or, ← Int32.toBitVec_or, ← e2]
    have b : (m.toBitVec.getLsbD i && k.toBitVec.getLsbD i) = false := by
      rw [← BitVec.getLsbD_and, ← Int32.toBitVec_and, h]
      exact BitVec.getLsbD_zero
    rw [BitVec.getLsbD_zero]
    revert a b
    cases m.toBitVec.getLsbD i <;> cases k.toBitVec.getLsbD i <;> simp
  unfold nf_M
  omega
/-! ===== a byte read unsigned ===== -/
theorem bp_b (x : Int32) : x.toInt8.toInt32 &&& 255 = x &&& 255 := by
  apply Int32.toBitVec_inj.mp
  rw [Int32.toBitVec_and, Int32.toBitVec_and, Int8.toBitVec_toInt32, Int32.toBitVec_toInt8]
  apply BitVec.eq_of_getLsbD_eq
  intro i hi
  rw [BitVec.getLsbD_and, BitVec.getLsbD_and]
  have hm : ∀ i < 32, 8 ≤ i → (255 : Int32).toBitVec.getLsbD i = false := by decide
  rcases Nat.lt_or_ge i 8 with z | z
  · rw [BitVec.getLsbD_signExtend, BitVec.getLsbD_signExtend, if_pos z, if_pos hi]
    simp only [z, hi, decide_true, Bool.true_and]
  · rw [hm i hi z]; simp
/-! ===== the char cast and 65535 ===== -/
/-! ===== Int64 as a set of bits: test, set, clear ===== -/
theorem ts_nf {x : Bool} (h : ¬ x = false) : x = true := by cases x <;> first | rfl | exact absurd rfl h
theorem ts_nt {x : Bool} (h : ¬ x = true) : x = false := by cases x <;> first | rfl | exact absurd rfl h
theorem ts_bit {w : Int64} {s : UInt64} {j : Nat} (hj : j < 64) (hs : s.toNat = j) : ((w.toUInt64 >>> s).toInt64 &&& 1) = 0 ↔ w.toBitVec.getLsbD j = false := by
  have e : (w.toUInt64 >>> s).toInt64.toBitVec = w.toBitVec >>> j := by
    apply BitVec.eq_of_toNat_eq
    show (w.toUInt64 >>> s).toNat = _
    rw [UInt64.toNat_shiftRight, hs, Nat.mod_eq_of_lt hj, BitVec.toNat_ushiftRight]
    rfl
  rw [← Int64.toBitVec_inj, Int64.toBitVec_and, e]
  show w.toBitVec >>> j &&& 1#64 = 0#64 ↔ _
  constructor
  · intro h
    have t := congrArg (fun x => x.getLsbD 0) h
    simpa using t
  · intro h
    apply BitVec.eq_of_getLsbD_eq
    intro i hi
    cases i with
    | zero => simp [h]
    | succ i => simp
theorem ts_or {w m : Int64} {j : Nat} (hj : j < 64) (hm : m.toBitVec = BitVec.twoPow 64 j) : (w ||| m) = w ↔ w.toBitVec.getLsbD j = true := by
  rw [← Int64.toBitVec_inj, Int64.toBitVec_or, hm]
  constructor
  · intro h
    have t := congrArg (fun x => x.getLsbD j) h
    simp only [BitVec.getLsbD_or, BitVec.getLsbD_twoPow] at t
    simpa [hj] using t.symm
  · intro h
    apply BitVec.eq_of_getLsbD_eq
    intro i hi
    rw [BitVec.getLsbD_or, BitVec.getLsbD_twoPow]
    by_cases e : j = i
    · subst e; rw [h, Bool.true_or]
    · simp [e]
theorem ts_and {w m : Int64} {j : Nat} (hj : j < 64) (hm : m.toBitVec = BitVec.twoPow 64 j) : (w &&& (m ^^^ (-1))) = w ↔ w.toBitVec.getLsbD j = false := by
  have ha : (-1 : Int64).toBitVec = BitVec.allOnes 64 := by decide
  rw [← Int64.toBitVec_inj, Int64.toBitVec_and, Int64.toBitVec_xor, hm, ha]
  constructor
  · intro h
    have t := congrArg (fun x => x.getLsbD j) h
    simp only [BitVec.getLsbD_and, BitVec.getLsbD_xor, BitVec.getLsbD_twoPow, BitVec.getLsbD_allOnes] at t
    simpa [hj] using t.symm
  · intro h
    apply BitVec.eq_of_getLsbD_eq
    intro i hi
    rw [BitVec.getLsbD_and, BitVec.getLsbD_xor, BitVec.getLsbD_twoPow, BitVec.getLsbD_allOnes]
    by_cases e : j = i
    · subst e; rw [h, Bool.false_and]
    · simp [e, hi]
/-! ===== lN n to 2^64: shifts, and, or, masks, one bit ===== -/
theorem wb_tb (n : Nat) : (lN n).toBitVec = BitVec.ofNat 64 n := rfl
theorem wb_inj {a b : Int64} (h : a.toBitVec = b.toBitVec) : a = b := Int64.toBitVec_inj.mp h
theorem wb_tn {n : Nat} (h : n < 2 ^ 64) : (lN n).toBitVec.toNat = n := by rw [wb_tb, BitVec.toNat_ofNat, Nat.mod_eq_of_lt h]
theorem wb_of (x : Int64) : ∃ n, n < 2 ^ 64 ∧ x = lN n := ⟨x.toBitVec.toNat, x.toBitVec.isLt, wb_inj (by rw [wb_tb]; simp)⟩
theorem wb_of32 (x : Int32) : ∃ n, n < 2 ^ 32 ∧ x = nI n := ⟨x.toBitVec.toNat, x.toBitVec.isLt, Int32.toBitVec_inj.mp (by show _ = BitVec.ofNat 32 _; simp)⟩
theorem wb_c : ∀ k, k < 64 → ((nI k).toInt64 &&& 63) = lN k := by decide +kernel
theorem wb_cu : ∀ k, k < 64 → ((nI k).toInt64.toUInt64 &&& Int64.toUInt64 63) = UInt64.ofNat k := by decide +kernel
theorem wb_sm : ∀ k, k < 64 → (BitVec.ofNat 64 k).smod 64 = BitVec.ofNat 64 k := by decide +kernel
theorem wb_pw {a b : Nat} (h : a ≤ b) : 2 ^ b = 2 ^ a * 2 ^ (b - a) := by rw [← Nat.pow_add]; congr 1; omega
theorem wb_lt2 {a b : Nat} (h : a < b) : 2 ^ a < 2 ^ b := Nat.pow_lt_pow_right (by decide) h
theorem wb_mod (n : Nat) : lN n = lN (n % 2 ^ 64) := wb_inj (by rw [wb_tb, wb_tb]; apply BitVec.eq_of_toNat_eq; rw [BitVec.toNat_ofNat, BitVec.toNat_ofNat, Nat.mod_mod])
theorem wb_shr {n k : Nat} (hn : n < 2 ^ 64) (hk : k < 64) : ((lN n).toUInt64 >>> ((nI k).toInt64.toUInt64 &&& Int64.toUInt64 63)).toInt64 = lN (n / 2 ^ k) := by
  rw [wb_cu k hk]
  apply wb_inj
  apply BitVec.eq_of_toNat_eq
  show ((lN n).toUInt64 >>> UInt64.ofNat k).toNat = (BitVec.ofNat 64 _).toNat
  have h1 : (UInt64.ofNat k).toNat = k := by
    show (BitVec.ofNat 64 k).toNat = k
    rw [BitVec.toNat_ofNat, Nat.mod_eq_of_lt (by omega)]
  have h2 : (lN n).toUInt64.toNat = n := wb_tn hn
  rw [UInt64.toNat_shiftRight, h1, h2, Nat.mod_eq_of_lt hk, Nat.shiftRight_eq_div_pow, BitVec.toNat_ofNat, Nat.mod_eq_of_lt (Nat.lt_of_le_of_lt (Nat.div_le_self _ _) hn)]
theorem wb_shl (n : Nat) {k : Nat} (hk : k < 64) : lN n <<< ((nI k).toInt64 &&& 63) = lN (n * 2 ^ k) := by
  rw [wb_c k hk]
  apply wb_inj
  rw [Int64.toBitVec_shiftLeft, wb_tb, wb_tb, wb_tb, wb_sm k hk]
  apply BitVec.eq_of_toNat_eq
  rw [BitVec.shiftLeft_eq', BitVec.toNat_shiftLeft, BitVec.toNat_ofNat, BitVec.toNat_ofNat, BitVec.toNat_ofNat, Nat.mod_eq_of_lt (show k < 2 ^ 64 by omega), Nat.shiftLeft_eq, Nat.mul_mod, Nat.mod_mod, ← Nat.mul_mod]
theorem wb_and {a b : Nat} (ha : a < 2 ^ 64) (hb : b < 2 ^ 64) : lN a &&& lN b = lN (a &&& b) := by
  apply wb_inj
  rw [Int64.toBitVec_and, wb_tb, wb_tb, wb_tb]
  apply BitVec.eq_of_toNat_eq
  rw [BitVec.toNat_and, BitVec.toNat_ofNat, BitVec.toNat_ofNat, BitVec.toNat_ofNat, Nat.mod_eq_of_lt ha, Nat.mod_eq_of_lt hb, Nat.mod_eq_of_lt (Nat.and_lt_two_pow _ hb)]
theorem wb_or {a b : Nat} (ha : a < 2 ^ 64) (hb : b < 2 ^ 64) : lN a ||| lN b = lN (a ||| b) := by
  apply wb_inj
  rw [Int64.toBitVec_or, wb_tb, wb_tb, wb_tb]
  apply BitVec.eq_of_toNat_eq
  rw [BitVec.toNat_or, BitVec.toNat_ofNat, BitVec.toNat_ofNat, BitVec.toNat_ofNat, Nat.mod_eq_of_lt ha, Nat.mod_eq_of_lt hb, Nat.mod_eq_of_lt (Nat.or_lt_two_pow ha hb)]
theorem wb_mask {n k : Nat} (hn : n < 2 ^ 64) (hk : k < 64) : lN n &&& lN (2 ^ k - 1) = lN (n % 2 ^ k) := by
  rw [wb_and hn (by have := wb_lt2 hk; omega), Nat.and_two_pow_sub_one_eq_mod]
theorem wb_a1 {n : Nat} (hn : n < 2 ^ 64) : lN n &&& 1 = lN (n % 2) := wb_mask (k := 1) hn (by decide)
theorem wb_bit {n k : Nat} (hn : n < 2 ^ 64) (hk : k < 64) : ((lN n).toUInt64 >>> ((nI k).toInt64.toUInt64 &&& Int64.toUInt64 63)).toInt64 &&& 1 = lN (n / 2 ^ k % 2) := by
  rw [wb_shr hn hk, wb_a1 (Nat.lt_of_le_of_lt (Nat.div_le_self _ _) hn)]
theorem wb_xor {q k : Nat} (hk : k < 63) (h : 2 ^ k ≤ q) (h2 : q < 2 ^ (k + 1)) : lN q ^^^ lN (2 ^ k) = lN (q - 2 ^ k) := by
  obtain ⟨r, rfl⟩ : ∃ r, q = 2 ^ k + r := ⟨q - 2 ^ k, by omega⟩
  have hr : r < 2 ^ k := by rw [Nat.pow_succ] at h2; omega
  have hx : (2 ^ k + r) ^^^ 2 ^ k = r := by
    apply Nat.eq_of_testBit_eq
    intro i
    rw [Nat.testBit_xor, Nat.testBit_two_pow]
    rcases Nat.lt_trichotomy i k with h | h | h
    · rw [Nat.testBit_two_pow_add_gt h]
      simp [show ¬ k = i by omega]
    · subst h
      rw [Nat.testBit_two_pow_add_eq]
      simp
    · have a1 : 2 ^ (k + 1) ≤ 2 ^ i := Nat.pow_le_pow_right (by decide) h
      rw [Nat.testBit_lt_two_pow (show 2 ^ k + r < 2 ^ i by omega), Nat.testBit_lt_two_pow (show r < 2 ^ i by omega)]
      simp [show ¬ k = i by omega]
  have b1 := wb_lt2 (show k + 1 < 64 by omega)
  have b2 := wb_lt2 (show k < 64 by omega)
  apply wb_inj
  rw [Int64.toBitVec_xor, wb_tb, wb_tb, wb_tb]
  apply BitVec.eq_of_toNat_eq
  rw [BitVec.toNat_xor, BitVec.toNat_ofNat, BitVec.toNat_ofNat, BitVec.toNat_ofNat, Nat.mod_eq_of_lt (by omega : 2 ^ k + r < 2 ^ 64), Nat.mod_eq_of_lt b2, hx, Nat.add_sub_cancel_left, Nat.mod_eq_of_lt (by omega)]
/-! ===== lN: masks, 'or' of parts that don't overlap is a sum ===== -/
theorem u_tn {n : Nat} (h : n < 2 ^ 64) : (UInt64.ofNat n).toNat = n := Nat.mod_eq_of_lt h
theorem g_and {a b c : Nat} (ha : a < 2 ^ 64) (hb : b < 2 ^ 64) (hc : a &&& b = c) : lN a &&& lN b = lN c := by
  subst hc
  have h : UInt64.ofNat a &&& UInt64.ofNat b = UInt64.ofNat (a &&& b) := UInt64.toNat_inj.mp (by rw [UInt64.toNat_and, u_tn ha, u_tn hb, u_tn (Nat.and_lt_two_pow a hb)])
  have h2 := congrArg UInt64.toInt64 h
  exact h2
theorem g_and1 {a : Nat} (ha : a < 2 ^ 64) : lN a &&& 1 = lN (a % 2) := g_and (b := 1) ha (by decide) (Nat.and_two_pow_sub_one_eq_mod a 1)
theorem g_mask {a s p : Nat} (hp : 2 ^ s = p) (hs : s < 64) (ha : a < 2 ^ 64) : lN a &&& lN (p - 1) = lN (a % p) := by
  subst hp
  have := Nat.pow_lt_pow_right (show 1 < 2 by decide) hs
  exact g_and ha (by omega) (Nat.and_two_pow_sub_one_eq_mod a s)
theorem g_or {k p a b : Nat} (hp : 2 ^ k = p) (ha : a < p) (h : b * p + a < 2 ^ 64) : lN (b * p) ||| lN a = lN (b * p + a) := by
  subst hp
  have h1 : b * 2 ^ k ||| a = b * 2 ^ k + a := by rw [← Nat.shiftLeft_eq, Nat.shiftLeft_add_eq_or_of_lt ha]
  have h3 : UInt64.ofNat (b * 2 ^ k) ||| UInt64.ofNat a = UInt64.ofNat (b * 2 ^ k + a) := UInt64.toNat_inj.mp (by rw [UInt64.toNat_or, u_tn (by omega), u_tn (by omega), u_tn h, h1])
  have h2 := congrArg UInt64.toInt64 h3
  exact h2
theorem g_or' {k p a b : Nat} (hp : 2 ^ k = p) (ha : a < p) (h : a + b * p < 2 ^ 64) : lN a ||| lN (b * p) = lN (a + b * p) := by
  rw [Int64.or_comm, g_or hp ha (by omega), Nat.add_comm]
theorem g_ushr {a k p : Nat} {y : UInt64} (hy : y = UInt64.ofNat k) (hk : k < 64) (hp : 2 ^ k = p) (ha : a < 2 ^ 64) : ((lN a).toUInt64 >>> y).toInt64 = lN (a / p) := by
  subst hy hp
  have h : UInt64.ofNat a >>> UInt64.ofNat k = UInt64.ofNat (a / 2 ^ k) := UInt64.toNat_inj.mp (by rw [UInt64.toNat_shiftRight, u_tn ha, u_tn (by omega), u_tn (Nat.lt_of_le_of_lt (Nat.div_le_self _ _) ha), Nat.mod_eq_of_lt hk, Nat.shiftRight_eq_div_pow])
  have h2 := congrArg UInt64.toInt64 h
  exact h2
theorem g_shl {a k p : Nat} {y : Int64} (hy : y.toBitVec.smod 64 = BitVec.ofNat 64 k) (hk : k < 64) (hp : 2 ^ k = p) (ha : a < 2 ^ 64) : lN a <<< y = lN (a * p) := by
  subst hp
  apply Int64.toBitVec_inj.mp
  rw [Int64.toBitVec_shiftLeft, hy]
  apply BitVec.eq_of_toNat_eq
  have hb : (lN a).toBitVec.toNat = a := Nat.mod_eq_of_lt ha
  have hk' : (BitVec.ofNat 64 k).toNat = k := Nat.mod_eq_of_lt (by omega)
  have h : ((lN a).toBitVec <<< BitVec.ofNat 64 k).toNat = (a * 2 ^ k) % 2 ^ 64 := by simp only [BitVec.shiftLeft_eq', BitVec.toNat_shiftLeft, hb, hk', Nat.shiftLeft_eq]
  exact h
/-! ===== lN to 2^62 under >> and >>> ===== -/
theorem pf_lI {a : Nat} (h : a < 2 ^ 63) : (lN a).toInt = (a : Int) := lg_ofNat_toInt h
theorem pf_shr {a d : Nat} {D : Int64} (hD : (D.toBitVec.smod 64).toNat = d) (h : a < 2 ^ 62) : lN a >>> D = lN (a / 2 ^ d) := by
  have hd : a / 2 ^ d ≤ a := Nat.div_le_self _ _
  apply Int64.toInt_inj.mp
  have e : (lN a >>> D).toInt = (lN a).toInt >>> d := by
    rw [← hD]
    exact BitVec.toInt_sshiftRight ..
  rw [e, Int.shiftRight_eq_div_pow, pf_lI (by omega), pf_lI (by omega)]
  rfl
theorem pf_ushr {a d : Nat} {D : UInt64} (hD : D.toNat % 64 = d) (h : a < 2 ^ 62) : ((lN a).toUInt64 >>> D).toInt64 = lN (a / 2 ^ d) := by
  have hd : a / 2 ^ d ≤ a := Nat.div_le_self _ _
  have e : (lN a).toUInt64 >>> D = UInt64.ofNat (a / 2 ^ d) := UInt64.toNat_inj.mp (by
    rw [UInt64.toNat_shiftRight, hD, Nat.shiftRight_eq_div_pow, UInt64.toNat_ofNat']
    show (UInt64.ofNat a).toNat / 2 ^ d = _
    rw [UInt64.toNat_ofNat', Nat.mod_eq_of_lt (by omega), Nat.mod_eq_of_lt (by omega)])
  rw [e]
  rfl
theorem pf_andw (x : Int64) : ∃ m, m < 2 ^ 32 ∧ x &&& 4294967295 = lN m := ⟨x.toBitVec.toNat % 2 ^ 32, Nat.mod_lt _ (by decide), Int64.toBitVec_inj.mp (BitVec.eq_of_toNat_eq (by
  show (x.toBitVec &&& 4294967295#64).toNat = (BitVec.ofNat 64 (x.toBitVec.toNat % 2 ^ 32)).toNat
  rw [BitVec.toNat_and, show (4294967295#64).toNat = 2 ^ 32 - 1 from by decide, Nat.and_two_pow_sub_one_eq_mod, BitVec.toNat_ofNat]
  omega))⟩
/-! ===== Int64 as an unsigned number: uN x ===== -/
def uN (x : Int64) : Nat := x.toUInt64.toNat
theorem uN_lt (x : Int64) : uN x < 18446744073709551616 := x.toUInt64.toNat_lt
theorem uN_inj {x y : Int64} (h : uN x = uN y) : x = y := congrArg UInt64.toInt64 (UInt64.toNat_inj.mp h)
theorem uN_add (x y : Int64) : uN (x + y) = (uN x + uN y) % 18446744073709551616 := by
  show (x.toUInt64 + y.toUInt64).toNat = _
  exact UInt64.toNat_add _ _
theorem uN_mul (x y : Int64) : uN (x * y) = (uN x * uN y) % 18446744073709551616 := by
  show (x.toUInt64 * y.toUInt64).toNat = _
  exact UInt64.toNat_mul _ _
theorem uN_shl (x : Int64) : uN (x <<< ((1 : Int32).toInt64 &&& 63)) = (2 * uN x) % 18446744073709551616 := by
  have h : (((1 : Int32).toInt64 &&& 63).toBitVec.smod 64).toNat = 1 := by decide
  show (x.toBitVec <<< (((1 : Int32).toInt64 &&& 63).toBitVec.smod 64).toNat).toNat = _
  rw [h, BitVec.toNat_shiftLeft, Nat.shiftLeft_eq, Nat.mul_comm]
  rfl
theorem uN_shr (x : Int64) (s : UInt64) : uN (x.toUInt64 >>> s).toInt64 = uN x / 2 ^ (s.toNat % 64) := by
  show (x.toUInt64 >>> s).toNat = _
  rw [UInt64.toNat_shiftRight, Nat.shiftRight_eq_div_pow]
  rfl
theorem uN_s32 (x : Int64) : uN (x.toUInt64 >>> ((32 : Int32).toInt64.toUInt64 &&& Int64.toUInt64 63)).toInt64 = uN x / 4294967296 := by
  have h : ((32 : Int32).toInt64.toUInt64 &&& Int64.toUInt64 63).toNat % 64 = 32 := by decide
  rw [uN_shr, h]
theorem uN_s63 (x : Int64) : uN (x.toUInt64 >>> ((63 : Int32).toInt64.toUInt64 &&& Int64.toUInt64 63)).toInt64 = uN x / 9223372036854775808 := by
  have h : ((63 : Int32).toInt64.toUInt64 &&& Int64.toUInt64 63).toNat % 64 = 63 := by decide
  rw [uN_shr, h]
theorem uN_lo (x : Int64) : uN (x &&& 4294967295) = uN x % 4294967296 := by
  show (x.toUInt64 &&& Int64.toUInt64 4294967295).toNat = _
  rw [UInt64.toNat_and]
  exact Nat.and_two_pow_sub_one_eq_mod _ 32
theorem uN_bit (x : Int64) : (x &&& 1) = 0 ↔ uN x % 2 = 0 := by
  have h : uN (x &&& 1) = uN x % 2 := by
    show (x.toUInt64 &&& Int64.toUInt64 1).toNat = _
    rw [UInt64.toNat_and]
    exact Nat.and_two_pow_sub_one_eq_mod _ 1
  rw [← h]
  exact ⟨fun z => by rw [z]; rfl, fun z => uN_inj (z.trans rfl)⟩
theorem uN_or {x y : Int64} (hy : uN y < 2) : uN ((x <<< ((1 : Int32).toInt64 &&& 63)) ||| y) = (2 * uN x) % 18446744073709551616 + uN y := by
  have h1 : uN ((x <<< ((1 : Int32).toInt64 &&& 63)) ||| y) = uN (x <<< ((1 : Int32).toInt64 &&& 63)) ||| uN y := UInt64.toNat_or _ _
  have h2 : (2 * uN x) % 18446744073709551616 = 2 ^ 1 * (uN x % 9223372036854775808) := by omega
  rw [h1, uN_shl, h2]
  exact (Nat.two_pow_add_eq_or_of_lt (i := 1) hy _).symm
theorem nat_xor {a : Nat} (h : a < 18446744073709551616) : a ^^^ 2 ^ 63 = (a + 9223372036854775808) % 18446744073709551616 := by
  have h1 : (a ^^^ 2 ^ 63) % 2 ^ 63 = a % 2 ^ 63 := by rw [Nat.xor_mod_two_pow, Nat.mod_self, Nat.xor_zero]
  have h2 : (a ^^^ 2 ^ 63) / 2 ^ 63 = (a / 2 ^ 63) ^^^ 1 := by rw [Nat.xor_div_two_pow, Nat.div_self (Nat.two_pow_pos 63)]
  have h3 : a / 2 ^ 63 = 0 ∨ a / 2 ^ 63 = 1 := by omega
  generalize a ^^^ 2 ^ 63 = t at h1 h2
  rcases h3 with h3 | h3
  · rw [h3] at h2
    have h2 : t / 2 ^ 63 = 1 := h2
    omega
  · rw [h3] at h2
    have h2 : t / 2 ^ 63 = 0 := h2
    omega
theorem uN_xor (x : Int64) : uN (x ^^^ (-9223372036854775808)) = (uN x + 9223372036854775808) % 18446744073709551616 := by
  rw [← nat_xor (uN_lt x)]
  exact UInt64.toNat_xor _ _
theorem uN_int (x : Int64) : x.toInt = if 2 * uN x < 18446744073709551616 then (uN x : Int) else (uN x : Int) - 18446744073709551616 := BitVec.toInt_eq_toNat_cond _
theorem uN_le (x y : Int64) : (x ^^^ (-9223372036854775808)) ≤ (y ^^^ (-9223372036854775808)) ↔ uN x ≤ uN y := by
  have hx := uN_lt x
  have hy := uN_lt y
  rw [Int64.le_iff_toInt_le, uN_int, uN_int, uN_xor, uN_xor]
  omega
theorem uN_sk (x : Int64) {k : Nat} (hk : k < 64) : uN (x.toUInt64 >>> ((nI k).toInt64.toUInt64 &&& Int64.toUInt64 63)).toInt64 = uN x / 2 ^ k := by
  have h : ((nI k).toInt64.toUInt64 &&& Int64.toUInt64 63).toNat % 64 = k := by
    rw [nI_l (by omega), UInt64.toNat_and]
    have e : (lN k).toUInt64.toNat = k % 2 ^ 64 := rfl
    have e2 : (Int64.toUInt64 63).toNat = 2 ^ 6 - 1 := by decide
    rw [e, e2, Nat.and_two_pow_sub_one_eq_mod]
    omega
  rw [uN_shr, h]
/-! ===== unsigned comparison by xor with the least ===== -/
theorem lN_bv (n : Nat) : (lN n).toBitVec = BitVec.ofNat 64 n := rfl
theorem lN_nat {n : Nat} (h : n < 2 ^ 64) : (lN n).toBitVec.toNat = n := by rw [lN_bv, BitVec.toNat_ofNat]; exact Nat.mod_eq_of_lt h
theorem lN_xor (a b : Nat) : lN a ^^^ lN b = lN (a ^^^ b) := by
  apply Int64.toBitVec_inj.mp; rw [Int64.toBitVec_xor, lN_bv, lN_bv, lN_bv]; apply BitVec.eq_of_getLsbD_eq; intro i hi; simp [BitVec.getLsbD_ofNat, Nat.testBit_xor, hi]
theorem lN_ti {m : Nat} (h : m < 2 ^ 64) : (lN m).toInt = if m < 2 ^ 63 then (m : Int) else (m : Int) - 2 ^ 64 := by
  have c := BitVec.toInt_eq_toNat_cond (lN m).toBitVec
  rw [lN_nat h] at c
  show (lN m).toBitVec.toInt = _
  rw [c]
  split <;> split <;> omega
theorem xor63 {x : Nat} (h : x < 2 ^ 63) : x ^^^ 2 ^ 63 = 2 ^ 63 + x := by
  apply Nat.eq_of_testBit_eq
  intro i
  rw [Nat.testBit_xor, Nat.testBit_two_pow]
  rcases Nat.lt_trichotomy i 63 with z | z | z
  · rw [Nat.testBit_two_pow_add_gt z, decide_eq_false (by omega)]; simp
  · subst z; rw [Nat.testBit_two_pow_add_eq]; simp
  · have hp : 2 ^ 64 ≤ 2 ^ i := Nat.pow_le_pow_right (by decide) z
    rw [Nat.testBit_lt_two_pow (show x < 2 ^ i by omega), Nat.testBit_lt_two_pow (show 2 ^ 63 + x < 2 ^ i by omega), decide_eq_false (by omega)]; rfl
theorem xorS {a : Nat} (h : a < 2 ^ 64) : (lN a ^^^ (-9223372036854775808)).toInt = (a : Int) - 2 ^ 63 := by
  rw [show (-9223372036854775808 : Int64) = lN (2 ^ 63) from by decide +kernel, lN_xor]
  rcases Nat.lt_or_ge a (2 ^ 63) with z | z
  · rw [xor63 z, lN_ti (by omega), if_neg (by omega)]; omega
  · obtain ⟨x, rfl⟩ : ∃ x, a = 2 ^ 63 + x := ⟨a - 2 ^ 63, by omega⟩
    rw [← xor63 (by omega), Nat.xor_assoc, Nat.xor_self, Nat.xor_zero, lN_ti (by omega), if_pos (by omega), xor63 (by omega)]; omega
theorem ultL {a b : Nat} (ha : a < 2 ^ 64) (hb : b < 2 ^ 64) : ((lN b ^^^ (-9223372036854775808)) ≤ (lN a ^^^ (-9223372036854775808))) ↔ b ≤ a := by
  rw [Int64.le_iff_toInt_le, xorS ha, xorS hb]; omega
/-! ===== Int64 masks of n low bits ===== -/
theorem cr_bits (W U M : BitVec 64) : ((W &&& U) &&& (U &&& (M ^^^ BitVec.allOnes 64))) = 0#64 ↔ (W &&& U) &&& M = W &&& U := by
  constructor
  · intro h
    apply BitVec.eq_of_getLsbD_eq
    intro i hi
    have e := congrArg (fun x => BitVec.getLsbD x i) h
    simp only [BitVec.getLsbD_and, BitVec.getLsbD_xor, BitVec.getLsbD_allOnes, BitVec.getLsbD_zero, hi, decide_true] at e ⊢
    revert e
    cases W.getLsbD i <;> cases U.getLsbD i <;> cases M.getLsbD i <;> decide
  · intro h
    apply BitVec.eq_of_getLsbD_eq
    intro i hi
    have e := congrArg (fun x => BitVec.getLsbD x i) h
    simp only [BitVec.getLsbD_and, BitVec.getLsbD_xor, BitVec.getLsbD_allOnes, BitVec.getLsbD_zero, hi, decide_true] at e ⊢
    revert e
    cases W.getLsbD i <;> cases U.getLsbD i <;> cases M.getLsbD i <;> decide
theorem cr_mask (w U m : Int64) (n : Nat) (hm : m.toBitVec.toNat = 2 ^ n - 1) : ((w &&& U) &&& (U &&& (m ^^^ (-1)))) = 0 ↔ (w &&& U).toBitVec.toNat < 2 ^ n := by
  have e0 : (-1 : Int64).toBitVec = BitVec.allOnes 64 := by decide
  have z0 : (0 : Int64).toBitVec = 0#64 := by decide
  rw [← Int64.toBitVec_inj, z0, Int64.toBitVec_and, Int64.toBitVec_and, Int64.toBitVec_and, Int64.toBitVec_xor, e0, cr_bits]
  generalize w.toBitVec &&& U.toBitVec = T
  rw [← BitVec.toNat_inj, BitVec.toNat_and, hm, Nat.and_two_pow_sub_one_eq_mod]
  constructor
  · intro h
    have t := Nat.mod_lt T.toNat (Nat.two_pow_pos n)
    rw [h] at t
    exact t
  · exact Nat.mod_eq_of_lt
theorem cr_shr (t : Int64) (x : UInt64) (n : Nat) (hx : x.toNat % 64 = n) : (t.toUInt64 >>> x).toInt64 = 0 ↔ t.toBitVec.toNat < 2 ^ n := by
  rw [← Int64.toBitVec_inj, ← BitVec.toNat_inj]
  show (t.toUInt64 >>> x).toNat = 0 ↔ t.toUInt64.toNat < 2 ^ n
  rw [UInt64.toNat_shiftRight, hx, Nat.shiftRight_eq_div_pow]
  constructor
  · intro h
    have d : t.toUInt64.toNat / 2 ^ n < 1 := by
      rw [h]
      decide
    have e := (Nat.div_lt_iff_lt_mul (Nat.two_pow_pos n)).mp d
    rw [Nat.one_mul] at e
    exact e
  · exact Nat.div_eq_of_lt
theorem cr_amt (s : Int64) : ∃ n, n < 64 ∧ s &&& 63 = lN n ∧ (s.toUInt64 &&& Int64.toUInt64 63).toNat % 64 = n := by
  have e : (s.toUInt64 &&& Int64.toUInt64 63).toNat = s.toUInt64.toNat % 2 ^ 6 := by
    rw [UInt64.toNat_and, show (Int64.toUInt64 63).toNat = 2 ^ 6 - 1 from by decide, Nat.and_two_pow_sub_one_eq_mod]
  refine ⟨s.toUInt64.toNat % 2 ^ 6, by omega, ?_, by omega⟩
  rw [← Int64.toBitVec_inj, ← BitVec.toNat_inj]
  show (s.toUInt64 &&& Int64.toUInt64 63).toNat = (BitVec.ofNat 64 (s.toUInt64.toNat % 2 ^ 6)).toNat
  rw [e, BitVec.toNat_ofNat]
  omega
end
section
/-! ===== BASE: contexts, heap words, rows over Nat ===== -/
abbrev zG : Type := va_G × (ClassId × ClassId × ClassId × ClassId × ClassId) × (String → Nat)
def zT (G : zG) : List (ClassId × FieldType) := [(G.2.1.1, .int), (G.2.1.2.1, .byte), (G.2.1.2.2.1, .char), (G.2.1.2.2.2.1, .object "FilterReader$Value"), (G.2.1.2.2.2.2, .object "FilterReader$Filter")]
/-- what holds of the tables at every point: classes, array classes, links of nest mates, String constants -/
def zK (G : zG) (U : State) : Prop := va_K G.1 vwCl (zT G) U ∧ (∀ w ∈ zNest, va_Nw w U) ∧ ∀ q ∈ zStr, vk_R q.1 q.2.1 q.2.2 (G.2.2 q.2.2) U
theorem zK.warm {G : zG} {s U : State} (hW : s.WarmedH U.vm) (h : zK G s) : zK G U := by
  refine ⟨va_K.moved hW.alike h.1, fun w hw => ?_, fun q hq => vk_R.warm hW (h.2.2 q hq)⟩
  have h1 := h.2.1 w hw
  have h2 := (List.mem_filter.mp hw).2
  cases w <;> first | exact absurd h2 (by decide) | exact va_Nw.warmF hW h1 | exact va_Nw.warmM hW h1 | simp [isNest] at h2
theorem zK.same {G : zG} {s U : State} (hv : s.vm = U.vm) (h : zK G s) : zK G U := by
  refine ⟨va_K.moved (by rw [hv]; exact Vm.Alike.refl _) h.1, fun w hw => ?_, fun q hq => vk_R.same hv.symm (h.2.2 q hq)⟩
  have h1 := h.2.1 w hw
  have h2 := (List.mem_filter.mp hw).2
  cases w <;> first | exact va_Nw.same rfl hv h1 | simp [isNest] at h2
def zO (G : zG) (H : Heap) (a ci : Nat) (fs : List Value) : Prop := va_at G.1 vwCl (a, .inr (ci, fs)) H
def zA (G : zG) (H : Heap) (a n : Nat) (f : Nat → Nat) : Prop := va_at G.1 vwCl (a, .inl (G.2.1.1, n, .inl (fun j => nI (f j)))) H
def nB (b : Bool) : Nat := if b then 1 else 0
theorem nB_t : nB true = 1 := rfl
theorem nB_f : nB false = 0 := rfl
theorem nB_z {b : Bool} (h : nB b = 0) : b = false := by
  cases b
  · rfl
  · exact absurd h (by decide)
theorem nB_nz {b : Bool} (h : nB b ≠ 0) : b = true := by
  cases b
  · exact absurd rfl h
  · rfl
theorem nB_lt (b : Bool) : nB b < 2 := by cases b <;> decide
def zP (G : zG) (av : List Value) (P : Heap → Prop) : Array Value → State → Prop := fun v U => v = av.toArray ∧ P U.heap ∧ zK G U
def zR (r : Value) : Array Value → State → Outcome → State → Prop := fun _ st oc t => oc = .returned (some r) ∧ t.heap = st.heap
theorem zP_blind {G : zG} {av : List Value} {P : Heap → Prop} : FrameBlind (zP G av P) := by
  intro a U g mk h
  exact ⟨h.1, h.2.1, zK.same (s := U) (U := U.calling g mk a) rfl h.2.2⟩
theorem va_one {D : va_G} {cl : List vw_C} {q : Nat × va_E} {H : Heap} (h : va_at D cl q H) : va_P D cl [q] H := by
  intro k r hk
  match k, hk with
  | 0, hk => cases hk; exact h
  | k + 1, hk => simp at hk
theorem zO.one {G : zG} {H : Heap} {a ci : Nat} {fs : List Value} (h : zO G H a ci fs) : va_P G.1 vwCl [(a, .inr (ci, fs))] H := va_one h
theorem zA.one {G : zG} {H : Heap} {a n : Nat} {f : Nat → Nat} (h : zA G H a n f) : va_P G.1 vwCl [(a, .inl (G.2.1.1, n, .inl (fun j => nI (f j))))] H := va_one h
theorem z_osw {a k : Nat} {o d : Int} {r : List (Int × Int)} (ha : a < 2 ^ 31) (hk : k < 2 ^ 31) (h : a ≠ k) : Op.lookupswitch.offset (((k : Int), o) :: r) d (nI a).toInt = Op.lookupswitch.offset r d (nI a).toInt :=
  lv_osw (k := nI k) (fun e => h ((nI_eq ha hk).mp e)) (nI_toInt hk)
section ZB
variable {p : Program} {l : Launch} {e : Env} {R : Room} {s : State} {m : MethodId} {args : Array Value} {below : List Frame} {meth : Method} {c : Code} {H : Heap} {locs : List Loc} {cells slots : Nat} {Q : State → Prop}
variable {cc : ByteArray} {pc : Nat} {ls : Array Slot} {rest : List Value}
theorem zi_add (hx : p.tables.exec = Jvm.exec) (hb : c.code = cc) {a b : Nat} (hdg : decode cc pc = .ok (.iadd, 1)) (k : W p l e R s m args below meth c H locs cells slots Q (F0 m (pc + 1) ls (.int (nI (a + b)) :: rest))) : W p l e R s m args below meth c H locs cells slots Q (F0 m pc ls (.int (nI b) :: .int (nI a) :: rest)) := lv_iadd hx hb hdg (by rw [nI_add]; exact k)
theorem zi_sub (hx : p.tables.exec = Jvm.exec) (hb : c.code = cc) {a b : Nat} (h : b ≤ a) (hdg : decode cc pc = .ok (.isub, 1)) (k : W p l e R s m args below meth c H locs cells slots Q (F0 m (pc + 1) ls (.int (nI (a - b)) :: rest))) : W p l e R s m args below meth c H locs cells slots Q (F0 m pc ls (.int (nI b) :: .int (nI a) :: rest)) := lv_isub hx hb hdg (by rw [pk_sub h]; exact k)
theorem zi_mul (hx : p.tables.exec = Jvm.exec) (hb : c.code = cc) {a b : Nat} (hdg : decode cc pc = .ok (.imul, 1)) (k : W p l e R s m args below meth c H locs cells slots Q (F0 m (pc + 1) ls (.int (nI (a * b)) :: rest))) : W p l e R s m args below meth c H locs cells slots Q (F0 m pc ls (.int (nI b) :: .int (nI a) :: rest)) := lv_imul hx hb hdg (by rw [pk_mul]; exact k)
theorem zi_div (hx : p.tables.exec = Jvm.exec) (hb : c.code = cc) {a b : Nat} (ha : a < 2 ^ 31) (h0 : 0 < b) (hb1 : b < 2 ^ 31) (hdg : decode cc pc = .ok (.idiv, 1)) (k : W p l e R s m args below meth c H locs cells slots Q (F0 m (pc + 1) ls (.int (nI (a / b)) :: rest))) : W p l e R s m args below meth c H locs cells slots Q (F0 m pc ls (.int (nI b) :: .int (nI a) :: rest)) := lv_idiv hx hb hdg (nI_ne0 h0 hb1) (by rw [pk_div ha h0 hb1]; exact k)
theorem zi_rem (hx : p.tables.exec = Jvm.exec) (hb : c.code = cc) {a b : Nat} (ha : a < 2 ^ 31) (h0 : 0 < b) (hb1 : b < 2 ^ 31) (hdg : decode cc pc = .ok (.irem, 1)) (k : W p l e R s m args below meth c H locs cells slots Q (F0 m (pc + 1) ls (.int (nI (a % b)) :: rest))) : W p l e R s m args below meth c H locs cells slots Q (F0 m pc ls (.int (nI b) :: .int (nI a) :: rest)) := lv_irem hx hb hdg (nI_ne0 h0 hb1) (by rw [pk_rem ha h0 hb1]; exact k)
theorem zi_icmp_eq (hx : p.tables.exec = Jvm.exec) (hb : c.code = cc) {a b : Nat} {off : Int} {tgt : Nat} (hdg : decode cc pc = .ok (.if_icmp .eq off, 3)) (ht : (pc : Int) + off = (tgt : Int)) (ha : a < 2 ^ 31) (hb1 : b < 2 ^ 31)
    (kt : a = b → W p l e R s m args below meth c H locs cells slots Q (F0 m tgt ls rest)) (kf : a ≠ b → W p l e R s m args below meth c H locs cells slots Q (F0 m (pc + 3) ls rest)) : W p l e R s m args below meth c H locs cells slots Q (F0 m pc ls (.int (nI b) :: .int (nI a) :: rest)) :=
  lv_icmp_eq hx hb hdg ht (fun h => kt ((nI_eq ha hb1).mp h)) (fun h => kf (fun q => h ((nI_eq ha hb1).mpr q)))
theorem zi_icmp_ne (hx : p.tables.exec = Jvm.exec) (hb : c.code = cc) {a b : Nat} {off : Int} {tgt : Nat} (hdg : decode cc pc = .ok (.if_icmp .ne off, 3)) (ht : (pc : Int) + off = (tgt : Int)) (ha : a < 2 ^ 31) (hb1 : b < 2 ^ 31)
    (kt : a ≠ b → W p l e R s m args below meth c H locs cells slots Q (F0 m tgt ls rest)) (kf : a = b → W p l e R s m args below meth c H locs cells slots Q (F0 m (pc + 3) ls rest)) : W p l e R s m args below meth c H locs cells slots Q (F0 m pc ls (.int (nI b) :: .int (nI a) :: rest)) :=
  lv_icmp_ne hx hb hdg ht (fun h => kt (fun q => h ((nI_eq ha hb1).mpr q))) (fun h => kf ((nI_eq ha hb1).mp h))
theorem zi_icmp_lt (hx : p.tables.exec = Jvm.exec) (hb : c.code = cc) {a b : Nat} {off : Int} {tgt : Nat} (hdg : decode cc pc = .ok (.if_icmp .lt off, 3)) (ht : (pc : Int) + off = (tgt : Int)) (ha : a < 2 ^ 31) (hb1 : b < 2 ^ 31)
    (kt : a < b → W p l e R s m args below meth c H locs cells slots Q (F0 m tgt ls rest)) (kf : b ≤ a → W p l e R s m args below meth c H locs cells slots Q (F0 m (pc + 3) ls rest)) : W p l e R s m args below meth c H locs cells slots Q (F0 m pc ls (.int (nI b) :: .int (nI a) :: rest)) :=
  lv_icmp_lt hx hb hdg ht (fun h => kt ((nI_ltI ha hb1).mp h)) (fun h => kf (Nat.le_of_not_lt (fun q => h ((nI_ltI ha hb1).mpr q))))
theorem zi_icmp_ge (hx : p.tables.exec = Jvm.exec) (hb : c.code = cc) {a b : Nat} {off : Int} {tgt : Nat} (hdg : decode cc pc = .ok (.if_icmp .ge off, 3)) (ht : (pc : Int) + off = (tgt : Int)) (ha : a < 2 ^ 31) (hb1 : b < 2 ^ 31)
    (kt : b ≤ a → W p l e R s m args below meth c H locs cells slots Q (F0 m tgt ls rest)) (kf : a < b → W p l e R s m args below meth c H locs cells slots Q (F0 m (pc + 3) ls rest)) : W p l e R s m args below meth c H locs cells slots Q (F0 m pc ls (.int (nI b) :: .int (nI a) :: rest)) :=
  lv_icmp_ge hx hb hdg ht (fun h => kt ((nI_leI hb1 ha).mp h)) (fun h => kf (Nat.lt_of_not_le (fun q => h ((nI_leI hb1 ha).mpr q))))
theorem zi_icmp_gt (hx : p.tables.exec = Jvm.exec) (hb : c.code = cc) {a b : Nat} {off : Int} {tgt : Nat} (hdg : decode cc pc = .ok (.if_icmp .gt off, 3)) (ht : (pc : Int) + off = (tgt : Int)) (ha : a < 2 ^ 31) (hb1 : b < 2 ^ 31)
    (kt : b < a → W p l e R s m args below meth c H locs cells slots Q (F0 m tgt ls rest)) (kf : a ≤ b → W p l e R s m args below meth c H locs cells slots Q (F0 m (pc + 3) ls rest)) : W p l e R s m args below meth c H locs cells slots Q (F0 m pc ls (.int (nI b) :: .int (nI a) :: rest)) :=
  lv_icmp_gt hx hb hdg ht (fun h => kt ((nI_ltI hb1 ha).mp h)) (fun h => kf (Nat.le_of_not_lt (fun q => h ((nI_ltI hb1 ha).mpr q))))
theorem zi_icmp_le (hx : p.tables.exec = Jvm.exec) (hb : c.code = cc) {a b : Nat} {off : Int} {tgt : Nat} (hdg : decode cc pc = .ok (.if_icmp .le off, 3)) (ht : (pc : Int) + off = (tgt : Int)) (ha : a < 2 ^ 31) (hb1 : b < 2 ^ 31)
    (kt : a ≤ b → W p l e R s m args below meth c H locs cells slots Q (F0 m tgt ls rest)) (kf : b < a → W p l e R s m args below meth c H locs cells slots Q (F0 m (pc + 3) ls rest)) : W p l e R s m args below meth c H locs cells slots Q (F0 m pc ls (.int (nI b) :: .int (nI a) :: rest)) :=
  lv_icmp_le hx hb hdg ht (fun h => kt ((nI_leI ha hb1).mp h)) (fun h => kf (Nat.lt_of_not_le (fun q => h ((nI_leI ha hb1).mpr q))))
theorem nI_is0 {a : Nat} (ha : a < 2 ^ 31) : nI a = 0 ↔ a = 0 := by
  have h := nI_eq ha (show 0 < 2 ^ 31 by decide)
  rwa [nI_0] at h
theorem zi_if_eq (hx : p.tables.exec = Jvm.exec) (hb : c.code = cc) {a : Nat} {off : Int} {tgt : Nat} (hdg : decode cc pc = .ok (.ifCond .eq off, 3)) (ht : (pc : Int) + off = (tgt : Int)) (ha : a < 2 ^ 31)
    (kt : a = 0 → W p l e R s m args below meth c H locs cells slots Q (F0 m tgt ls rest)) (kf : a ≠ 0 → W p l e R s m args below meth c H locs cells slots Q (F0 m (pc + 3) ls rest)) : W p l e R s m args below meth c H locs cells slots Q (F0 m pc ls (.int (nI a) :: rest)) :=
  lv_if_eq hx hb hdg ht (fun h => kt ((nI_is0 ha).mp h)) (fun h => kf (fun q => h ((nI_is0 ha).mpr q)))
theorem zi_if_ne (hx : p.tables.exec = Jvm.exec) (hb : c.code = cc) {a : Nat} {off : Int} {tgt : Nat} (hdg : decode cc pc = .ok (.ifCond .ne off, 3)) (ht : (pc : Int) + off = (tgt : Int)) (ha : a < 2 ^ 31)
    (kt : a ≠ 0 → W p l e R s m args below meth c H locs cells slots Q (F0 m tgt ls rest)) (kf : a = 0 → W p l e R s m args below meth c H locs cells slots Q (F0 m (pc + 3) ls rest)) : W p l e R s m args below meth c H locs cells slots Q (F0 m pc ls (.int (nI a) :: rest)) :=
  lv_if_ne hx hb hdg ht (fun h => kt (fun q => h ((nI_is0 ha).mpr q))) (fun h => kf ((nI_is0 ha).mp h))
theorem nI_gt0 {a : Nat} (ha : a < 2 ^ 31) : (0 : Int32) < nI a ↔ 0 < a := by
  have h := nI_ltI (show 0 < 2 ^ 31 by decide) ha
  rwa [nI_0] at h
theorem nI_le0 {a : Nat} (ha : a < 2 ^ 31) : nI a ≤ (0 : Int32) ↔ a ≤ 0 := by
  have h := nI_leI ha (show 0 < 2 ^ 31 by decide)
  rwa [nI_0] at h
theorem zi_if_gt (hx : p.tables.exec = Jvm.exec) (hb : c.code = cc) {a : Nat} {off : Int} {tgt : Nat} (hdg : decode cc pc = .ok (.ifCond .gt off, 3)) (ht : (pc : Int) + off = (tgt : Int)) (ha : a < 2 ^ 31)
    (kt : 0 < a → W p l e R s m args below meth c H locs cells slots Q (F0 m tgt ls rest)) (kf : a = 0 → W p l e R s m args below meth c H locs cells slots Q (F0 m (pc + 3) ls rest)) : W p l e R s m args below meth c H locs cells slots Q (F0 m pc ls (.int (nI a) :: rest)) :=
  lv_if_gt hx hb hdg ht (fun h => kt ((nI_gt0 ha).mp h)) (fun h => kf (Nat.eq_zero_of_not_pos (fun q => h ((nI_gt0 ha).mpr q))))
theorem zi_if_le (hx : p.tables.exec = Jvm.exec) (hb : c.code = cc) {a : Nat} {off : Int} {tgt : Nat} (hdg : decode cc pc = .ok (.ifCond .le off, 3)) (ht : (pc : Int) + off = (tgt : Int)) (ha : a < 2 ^ 31)
    (kt : a = 0 → W p l e R s m args below meth c H locs cells slots Q (F0 m tgt ls rest)) (kf : 0 < a → W p l e R s m args below meth c H locs cells slots Q (F0 m (pc + 3) ls rest)) : W p l e R s m args below meth c H locs cells slots Q (F0 m pc ls (.int (nI a) :: rest)) :=
  lv_if_le hx hb hdg ht (fun h => kt (Nat.le_zero.mp ((nI_le0 ha).mp h))) (fun h => kf (Nat.pos_of_ne_zero (fun q => h ((nI_le0 ha).mpr (Nat.le_of_eq q)))))
theorem zi_if_lt (hx : p.tables.exec = Jvm.exec) (hb : c.code = cc) {a : Nat} {off : Int} {tgt : Nat} (hdg : decode cc pc = .ok (.ifCond .lt off, 3)) (ht : (pc : Int) + off = (tgt : Int)) (ha : a < 2 ^ 31)
    (kf : W p l e R s m args below meth c H locs cells slots Q (F0 m (pc + 3) ls rest)) : W p l e R s m args below meth c H locs cells slots Q (F0 m pc ls (.int (nI a) :: rest)) :=
  lv_if_lt hx hb hdg ht (fun h => absurd h (nI_pos ha)) (fun _ => kf)
theorem zi_if_ge (hx : p.tables.exec = Jvm.exec) (hb : c.code = cc) {a : Nat} {off : Int} {tgt : Nat} (hdg : decode cc pc = .ok (.ifCond .ge off, 3)) (ht : (pc : Int) + off = (tgt : Int)) (ha : a < 2 ^ 31)
    (kt : W p l e R s m args below meth c H locs cells slots Q (F0 m tgt ls rest)) : W p l e R s m args below meth c H locs cells slots Q (F0 m pc ls (.int (nI a) :: rest)) :=
  lv_if_ge hx hb hdg ht (fun _ => kt) (fun h => absurd (nI_pos' ha) h)
theorem zb_if_eq (hx : p.tables.exec = Jvm.exec) (hb : c.code = cc) {v : Bool} {off : Int} {tgt : Nat} (hdg : decode cc pc = .ok (.ifCond .eq off, 3)) (ht : (pc : Int) + off = (tgt : Int))
    (kt : v = false → W p l e R s m args below meth c H locs cells slots Q (F0 m tgt ls rest)) (kf : v = true → W p l e R s m args below meth c H locs cells slots Q (F0 m (pc + 3) ls rest)) : W p l e R s m args below meth c H locs cells slots Q (F0 m pc ls (.int (nI (nB v)) :: rest)) :=
  zi_if_eq hx hb hdg ht (Nat.lt_trans (nB_lt v) (by decide)) (fun h => kt (nB_z h)) (fun h => kf (nB_nz h))
theorem zb_if_ne (hx : p.tables.exec = Jvm.exec) (hb : c.code = cc) {v : Bool} {off : Int} {tgt : Nat} (hdg : decode cc pc = .ok (.ifCond .ne off, 3)) (ht : (pc : Int) + off = (tgt : Int))
    (kt : v = true → W p l e R s m args below meth c H locs cells slots Q (F0 m tgt ls rest)) (kf : v = false → W p l e R s m args below meth c H locs cells slots Q (F0 m (pc + 3) ls rest)) : W p l e R s m args below meth c H locs cells slots Q (F0 m pc ls (.int (nI (nB v)) :: rest)) :=
  zi_if_ne hx hb hdg ht (Nat.lt_trans (nB_lt v) (by decide)) (fun h => kt (nB_nz h)) (fun h => kf (nB_z h))
theorem zi_ald {G : zG} (hx : p.tables.exec = Jvm.exec) (hb : c.code = cc) (hK : zK G s) {a n i : Nat} {f : Nat → Nat} (ha : zA G H a n f) (hi : i < n) (hn : n < 2 ^ 31) (hdg : decode cc pc = .ok (.iaload, 1))
    (k : W p l e R s m args below meth c H locs cells slots Q (F0 m (pc + 1) ls (.int (nI (f i)) :: rest))) : W p l e R s m args below meth c H locs cells slots Q (F0 m pc ls (.int (nI i) :: .ref a :: rest)) :=
  va_iald hx hb hK.1 ha.one 0 0 rfl rfl (vp_in_nI hi hn) hdg (by rw [nI_clamp (Nat.lt_trans hi hn)]; exact k)
theorem zi_get {G : zG} (hx : p.tables.exec = Jvm.exec) (hb : c.code = cc) {own C : String} {T : u_T} {N ci index a : Nat} {Ts : List Cond} (hts : ∀ w ∈ Ts, w.before args s = true) (hin : ∀ w ∈ u_ws C T N, w ∈ Ts) (hown : s.vm.findClass own = some m.cls) (hK : zK G s) {fs : List Value} (hO : zO G H a ci fs) (hc : vwCl[ci]? = some (C, T, N)) (k : Nat) (hk : k < N) (hlink : (Cond.fieldLink own index C (T k).2.1 (T k).2.2.1).before args s = true) (hsame : ∀ x, s.fieldFound? (T k).1 (T k).2.1 (T k).2.2.1 = some x → s.fieldFound? C (T k).2.1 (T k).2.2.1 = some x) {v : Value} (hv : fs[k]? = some v) (hdg : decode cc pc = .ok (.getfield index, 3))
    (kk : W p l e R s m args below meth c H locs cells slots Q (F0 m (pc + 3) ls (v :: rest))) : W p l e R s m args below meth c H locs cells slots Q (F0 m pc ls (.ref a :: rest)) :=
  va_get hx hb hts hin hown hK.1 hO.one 0 rfl hc k hk hlink hsame hv hdg kk
theorem zr_i (hx : p.tables.exec = Jvm.exec) (hb : c.code = cc) (hr : meth.sig.returnType = some .int) (hlocks : meth.locks = false) {v r : Int32} (he : v = r) (hdg : decode cc pc = .ok (.ireturn, 1)) : W p l e R s m args below meth c s.heap [] 0 0 (MQ below (zR (.int r)) args s 0 0 (fun _ => False)) (F0 m pc ls [.int v]) := by
  subst he
  exact W.iret hx hb hr (fun t ht _ => ⟨rfl, ht⟩) (fun _ h => by cases h) hdg hlocks
theorem zr_z (hx : p.tables.exec = Jvm.exec) (hb : c.code = cc) (hr : meth.sig.returnType = some .boolean) (hlocks : meth.locks = false) {v : Int32} {b : Bool} (he : v = nI (nB b)) (hdg : decode cc pc = .ok (.ireturn, 1)) : W p l e R s m args below meth c s.heap [] 0 0 (MQ below (zR (.int (nI (nB b)))) args s 0 0 (fun _ => False)) (F0 m pc ls [.int v]) := by
  subst he
  exact W.zret hx hb hr (by cases b <;> decide) (fun t ht _ => ⟨rfl, ht⟩) (fun _ h => by cases h) hdg hlocks
theorem zr_l (hx : p.tables.exec = Jvm.exec) (hb : c.code = cc) (hr : meth.sig.returnType = some .long) (hlocks : meth.locks = false) {v r : Int64} (he : v = r) (hdg : decode cc pc = .ok (.lreturn, 1)) : W p l e R s m args below meth c s.heap [] 0 0 (MQ below (zR (.long r)) args s 0 0 (fun _ => False)) (F0 m pc ls [.long v]) := by
  subst he
  exact W.lret hx hb hr (fun t ht _ => ⟨rfl, ht⟩) (fun _ h => by cases h) hdg hlocks
theorem zc_V {y : MethodName} {bytes : ByteArray} {maxL nL n index ci N b : Nat} {ret : Option FieldType} {ws : List Cond} {rm : Room} {P : Heap → Prop} {r : Value} {Ts : List Cond} {own C : String} {T : u_T} {As st fs : List Value} {G : zG} (S : CallFix p m c cc nL s args Ts own) (hM : Met l y ws rm (zP G (.ref b :: As) P) (zR r) 0 0 (fun _ => False)) (cw : CallW R s args own C index y bytes maxL ret ws rm 0 0 n) (hK : zK G s) (hO : zO G H b ci fs) (hc : vwCl[ci]? = some (C, T, N)) (hP : P H)
    (hn : As.length = n) (hsize : ls.size = nL) (hstack : st = As.reverse ++ .ref b :: rest) (hW : (rest.map fun v => v.category).sum ≤ 8) (hdg : decode cc pc = .ok (.invokevirtual index, 3)) (hf : cells ≤ R.cells ∧ slots ≤ R.slots)
    (kk : W p l e R s m args below meth c H locs cells slots Q (F0 m (pc + 3) ls (r :: rest))) : W p l e R s m args below meth c H locs cells slots Q (F0 m pc ls st) := by
  have hr := W.runV (e := e) (below := below) (meth := meth) (H := H) (locs := locs) (cells := cells) (slots := slots) (b := b) (As := As) (rest := rest) (g := F0 m pc ls st) S hM cw ⟨zP_blind, va_recv hK.1 hO.one (q0 := 0) hc rfl, fun U hU hW => ⟨rfl, by rw [hU]; exact hP, zK.warm hW hK⟩⟩ rfl hn hsize hstack (lv_room hW) hdg hf
  intro X hT XS
  obtain ⟨v, st₀, t, T', L, h0, X', hL, e1, ⟨hv, hh⟩, stp⟩ := hr X hT XS
  cases hv
  obtain ⟨t2, a1, b1⟩ := kk T' (by rw [e1, hh, h0]) (Stand.forget X' (fun q h => (hL q h).elim))
  exact ⟨t2, stp t2 a1, b1⟩
theorem zc_S {y : MethodName} {bytes : ByteArray} {maxL nL n index : Nat} {ret : Option FieldType} {ws : List Cond} {rm : Room} {P : Heap → Prop} {r : Value} {Ts : List Cond} {own : String} {As st : List Value} {G : zG} (S : CallFix p m c cc nL s args Ts own) (hM : Met l y ws rm (zP G As P) (zR r) 0 0 (fun _ => False)) (cw : CallB R s args own index y bytes maxL ret ws rm 0 0 n ∧ (Cond.static y).before args s = true) (hK : zK G s) (hP : P H)
    (hn : As.length = n) (hsize : ls.size = nL) (hstack : st = As.reverse ++ rest) (hW : (rest.map fun v => v.category).sum ≤ 8) (hdg : decode cc pc = .ok (.invokestatic index, 3)) (hf : cells ≤ R.cells ∧ slots ≤ R.slots)
    (kk : W p l e R s m args below meth c H locs cells slots Q (F0 m (pc + 3) ls (r :: rest))) : W p l e R s m args below meth c H locs cells slots Q (F0 m pc ls st) := by
  have hr := W.runS (e := e) (below := below) (meth := meth) (H := H) (locs := locs) (cells := cells) (slots := slots) (As := As) (rest := rest) (g := F0 m pc ls st) S hM cw ⟨zP_blind, fun U hU hW => ⟨rfl, by rw [hU]; exact hP, zK.warm hW hK⟩⟩ rfl hn hsize hstack (lv_room hW) hdg hf
  intro X hT XS
  obtain ⟨v, st₀, t, T', L, h0, X', hL, e1, ⟨hv, hh⟩, stp⟩ := hr X hT XS
  cases hv
  obtain ⟨t2, a1, b1⟩ := kk T' (by rw [e1, hh, h0]) (Stand.forget X' (fun q h => (hL q h).elim))
  exact ⟨t2, stp t2 a1, b1⟩
end ZB
end
section
/-! ===== BYTES: the words of a document laid in bytes f (positions are Nat) ===== -/
def nz (f : Nat → Nat) : Nat → Nat → Nat
  | 0, q => q
  | k + 1, q => if f q = 0 then q else nz f k (q + 1)
/-- the end of the name of the element at e: the first 0 behind its kind -/
def ne (f : Nat → Nat) (e : Nat) : Nat := nz f 2000 (e + 1)
def vo (f : Nat → Nat) (e : Nat) : Nat := ne f e + 1
def wh (f : Nat → Nat) (a : Nat) : Nat := f a + 256 * f (a + 1) + 65536 * f (a + 2) + 16777216 * f (a + 3)
def ln (f : Nat → Nat) (k a : Nat) : Nat := if k = 16 then 4 else if k = 18 then 8 else if k = 8 then 1 else if k = 2 then 4 + wh f a else if k = 3 then wh f a else if k = 4 then wh f a else 0
def th (f : Nat → Nat) (e : Nat) : Nat := vo f e + ln f (f e) (vo f e)
def nx (f : Nat → Nat) (e : Nat) : Nat := if f (th f e) = 0 then 0 else th f e
def fi (f : Nat → Nat) (a : Nat) : Nat := if f (a + 4) = 0 then 0 else a + 4
/-- the name of the element at e ends within N bytes -/
def okN (N : Nat) (f : Nat → Nat) (e : Nat) : Prop := f (ne f e) = 0 ∧ ne f e < N
/-- the element at e, its length words and the byte behind it lie within N bytes -/
def okE (N : Nat) (f : Nat → Nat) (e : Nat) : Prop := okN N f e ∧ vo f e + 4 ≤ N ∧ wh f (vo f e) < 2 ^ 30 ∧ th f e < N
/-- L: the elements from e on, each within N bytes, to the last -/
def Ch (N : Nat) (f : Nat → Nat) : Nat → List Nat → Prop
  | e, [] => e = 0
  | e, x :: L => e = x ∧ 0 < x ∧ okE N f x ∧ Ch N f (nx f x) L
/-- the elements of the document or row at a -/
def Bx (N : Nat) (f : Nat → Nat) (a : Nat) (L : List Nat) : Prop := a + 4 < N ∧ Ch N f (fi f a) L
theorem nz_ge (f : Nat → Nat) : ∀ k q, q ≤ nz f k q
  | 0, q => Nat.le_refl _
  | k + 1, q => by
    unfold nz
    split
    · exact Nat.le_refl _
    · exact Nat.le_trans (Nat.le_succ q) (nz_ge f k (q + 1))
theorem nz_nz (f : Nat → Nat) : ∀ k q i, q ≤ i → i < nz f k q → f i ≠ 0
  | 0, q, i, h1, h2 => absurd h2 (Nat.not_lt.mpr h1)
  | k + 1, q, i, h1, h2 => by
    unfold nz at h2
    split at h2
    · exact absurd h2 (Nat.not_lt.mpr h1)
    · rename_i h
      rcases Nat.eq_or_lt_of_le h1 with e | e
      · rw [← e]; exact h
      · exact nz_nz f k (q + 1) i e h2
theorem nz_le (f : Nat → Nat) : ∀ k q z, q ≤ z → f z = 0 → nz f k q ≤ z
  | 0, q, z, h, _ => h
  | k + 1, q, z, h, hz => by
    unfold nz
    split
    · exact h
    · rename_i h0
      have : q ≠ z := fun e => h0 (by rw [e]; exact hz)
      exact nz_le f k (q + 1) z (by omega) hz
theorem nz_0 (f : Nat → Nat) : ∀ k q z, q ≤ z → z < q + k → f z = 0 → f (nz f k q) = 0
  | 0, q, z, h1, h2, _ => absurd h2 (by omega)
  | k + 1, q, z, h1, h2, hz => by
    unfold nz
    split
    · assumption
    · rename_i h0
      have : q ≠ z := fun e => h0 (by rw [e]; exact hz)
      exact nz_0 f k (q + 1) z (by omega) (by omega) hz
theorem ne_gt (f : Nat → Nat) (e : Nat) : e < ne f e := nz_ge f 2000 (e + 1)
theorem Ch.fn {N : Nat} {f : Nat → Nat} : ∀ {L M : List Nat} {e : Nat}, Ch N f e L → Ch N f e M → L = M
  | [], [], _, _, _ => rfl
  | [], y :: M, e, h1, h2 => by
    have a : e = 0 := h1
    have b := h2.1
    have c := h2.2.1
    omega
  | x :: L, [], e, h1, h2 => by
    have a : e = 0 := h2
    have b := h1.1
    have c := h1.2.1
    omega
  | x :: L, y :: M, e, h1, h2 => by
    have a : x = y := h1.1.symm.trans h2.1
    subst a
    rw [Ch.fn h1.2.2.2 h2.2.2.2]
/-- the model's view of its store -/
def MV (G : zG) (o qs : Nat) (fs : List Value) (f : Nat → Nat) (H : Heap) : Prop := zO G H o 10 fs ∧ zA G H qs 18000 f ∧ fs[1]? = some (.ref qs) ∧ ∀ i, f i < 256
/-- a switch by a table -/
def zTab (pc : Nat) (dflt lo hi : Int) (offs : Array Int) (a : Nat) : Int := if (a : Int) < lo ∨ hi < (a : Int) then (pc : Int) + dflt else (pc : Int) + (offs[((a : Int) - lo).toNat]?).getD dflt
theorem zTab_d {pc : Nat} {dflt lo hi : Int} {offs : Array Int} {a : Nat} (ks : List Nat) (h : ∀ i, i < hi.toNat + 1 → i ∉ ks → zTab pc dflt lo hi offs i = (pc : Int) + dflt) (hn : a ∉ ks) : zTab pc dflt lo hi offs a = (pc : Int) + dflt := by
  by_cases q : a < hi.toNat + 1
  · exact h a q hn
  · unfold zTab
    rw [if_pos (Or.inr (by omega))]
theorem zi_dec {a k : Nat} (h : k ≤ a) : nI a + Int32.ofInt (-(k : Int)) = nI (a - k) := by
  rw [← pk_sub h]
  show nI a + Int32.ofInt (-(k : Int)) = nI a - Int32.ofNat k
  rw [Int32.sub_eq_add_neg]
  rw [Int32.ofInt_neg]
  first | rfl | rw [Int32.ofInt_eq_ofNat] | simp
section ZB2
variable {p : Program} {l : Launch} {e : Env} {R : Room} {s : State} {m : MethodId} {args : Array Value} {below : List Frame} {meth : Method} {c : Code} {H : Heap} {locs : List Loc} {cells slots : Nat} {Q : State → Prop}
variable {cc : ByteArray} {pc : Nat} {ls : Array Slot} {rest : List Value}
theorem zi_tab (hx : p.tables.exec = Jvm.exec) (hb : c.code = cc) {dflt lo hi : Int} {offs : Array Int} {len a : Nat} (hdg : decode cc pc = .ok (.tableswitch dflt lo hi offs, len)) (ha : a < 2 ^ 31) (T : Nat) (hT : zTab pc dflt lo hi offs a = (T : Int))
    (k : W p l e R s m args below meth c H locs cells slots Q (F0 m T ls rest)) (hs : offs.size = (hi - lo).toNat + 1 := by decide) : W p l e R s m args below meth c H locs cells slots Q (F0 m pc ls (.int (nI a) :: rest)) := by
  unfold zTab at hT
  by_cases q : (a : Int) < lo ∨ hi < (a : Int)
  · rw [if_pos q] at hT
    exact lv_tableOut hx hb hdg (by rw [nI_toInt ha]; exact q) hT k
  · rw [if_neg q] at hT
    have q1 : ¬ (a : Int) < lo := fun z => q (Or.inl z)
    have q2 : ¬ hi < (a : Int) := fun z => q (Or.inr z)
    have hl : ((a : Int) - lo).toNat < offs.size := by omega
    rw [Array.getElem?_eq_getElem hl] at hT
    exact lv_tableIn hx hb hdg (by rw [nI_toInt ha]; exact q1) (by rw [nI_toInt ha]; exact q2) (by rw [nI_toInt ha]; exact Array.getElem?_eq_getElem hl) hT k
end ZB2
theorem okE.lt {N : Nat} {f : Nat → Nat} {e : Nat} (h : okE N f e) : e < N := Nat.lt_trans (ne_gt f e) h.1.2
theorem Ch.nil {N : Nat} {f : Nat → Nat} {e : Nat} {M : List Nat} (h : Ch N f e M) (h0 : e = 0) : M = [] := by
  cases M with
  | nil => rfl
  | cons x M => exact absurd h.2.1 (by have := h.1; omega)
theorem Ch.cons {N : Nat} {f : Nat → Nat} {e : Nat} {M : List Nat} (h : Ch N f e M) (h0 : 0 < e) : ∃ M', M = e :: M' ∧ okE N f e ∧ Ch N f (nx f e) M' := by
  cases M with
  | nil => exact absurd (show e = 0 from h) (by omega)
  | cons x M =>
    obtain ⟨rfl, -, h2, h3⟩ := h
    exact ⟨M, rfl, h2, h3⟩
theorem Ch.lt {N : Nat} {f : Nat → Nat} {e : Nat} {M : List Nat} (hN : 0 < N) (h : Ch N f e M) : e < N := by
  rcases Nat.eq_zero_or_pos e with q | q
  · omega
  · obtain ⟨M', -, h2, -⟩ := h.cons q
    exact h2.lt
theorem Ch.len {N : Nat} {f : Nat → Nat} (hN : 0 < N) : ∀ {M : List Nat} {e : Nat}, Ch N f e M → 0 < e → M.length + e ≤ N
  | [], e, h, h0 => absurd (show e = 0 from h) (by omega)
  | x :: M, e, h, h0 => by
    obtain ⟨rfl, -, h2, h3⟩ := h
    rcases Nat.eq_zero_or_pos (nx f e) with q | q
    · have := h3.nil q
      subst this
      have := h2.lt
      simp
      omega
    · have h5 := Ch.len hN h3 q
      have h6 : nx f e = th f e := by
        unfold nx at q ⊢
        split
        · rename_i z; rw [if_pos z] at q; omega
        · rfl
      have h7 : e < th f e := by
        unfold th vo
        have := ne_gt f e
        omega
      simp
      omega
theorem Ch.len' {N : Nat} {f : Nat → Nat} (hN : 0 < N) {M : List Nat} {e : Nat} (h : Ch N f e M) : M.length ≤ N := by
  rcases Nat.eq_zero_or_pos e with q | q
  · rw [h.nil q]; exact Nat.zero_le _
  · have := Ch.len hN h q
    omega
end
section
set_option maxHeartbeats 4000000 in
set_option maxRecDepth 100000 in
theorem m_nameEndOf (l : Launch) (G : zG) (o qs : Nat) (fs : List Value) (f : Nat → Nat) (e : Nat) (hok : okN 18000 f e) : Met l yX11_nameEndOf wsX11_nameEndOf ({ frames := 0, cells := 0, slots := 0, locals := 0 }) (zP G [.ref (o), .int (nI (e))] (fun H => MV G o qs fs f H)) (zR (.int (nI (ne f e)))) 0 0 (fun _ => False) := by
  refine Met.ofW (cc := cX11_nameEndOf) (maxL := 3) (ret := (some .int)) (by decide) rfl ?_
  intro p en s m args below meth c s₁ B hml hv
  obtain ⟨rfl, hP, hK⟩ := hv
  have hx := B.exec
  have hb := B.bytes
  have hr := B.returns
  have hts := atoms_spec (ws := wsX11_nameEndOf) B.pre
  have hz : ∀ w ∈ zW, w.before _ s = true := fun w h => hts w (List.mem_cons_of_mem _ h)
  have hown : s.vm.findClass RX11 = some m.cls := findClass_of_methodNamed B.named
  have hlocks := B.notSynchronized
  obtain ⟨hO, hA, hS1, h8⟩ := id hP
  have hl := lv_entry ([.ref (o), .int (nI (e))]) (n := 3) (Nat.le_of_ble_eq_true rfl)
  rw [lg_entry_eq]
  generalize (lg_sl ([.ref (o), .int (nI (e))]) ++ List.replicate (3 - (lg_sl ([.ref (o), .int (nI (e))])).length) Slot.unset).toArray = ls at hl ⊢
  have hl : lv_has ls 3 [(0, .ref (o)), (1, .int (nI (e)))] := hl
  refine lv_iload_n hx hb dX11_nameEndOf_0 rfl (lv_at hl 1 rfl) ?_
  refine lv_iconst (v := nI 1) hx hb dX11_nameEndOf_1 (by decide) ?_
  refine zi_add hx hb dX11_nameEndOf_2 ?_
  refine lv_istore_n (lv' := [(2, .int (nI (e + 1))), (0, .ref (o)), (1, .int (nI (e)))]) hx hb dX11_nameEndOf_3 rfl hl (by decide) rfl (fun ls hl => ?_)
  have L4 : ∀ (n_ : Nat) (k : Nat), ne f e - k < n_ → e + 1 ≤ k → k ≤ ne f e → ∀ ls : Array Slot, lv_has ls 3 [(2, .int (nI (k))), (0, .ref (o)), (1, .int (nI (e)))] → W p l en (headSpec wsX11_nameEndOf ({ frames := 0, cells := 0, slots := 0, locals := 0 })).room s m ([.ref (o), .int (nI (e))] : List Value).toArray below meth c s.heap [] 0 0 (MQ below (zR (.int (nI (ne f e)))) ([.ref (o), .int (nI (e))] : List Value).toArray s 0 0 (fun _ => False)) (F0 m 4 ls []) := by
    intro n_
    induction n_ with
    | zero => intro k hm_; exact absurd hm_ (Nat.not_lt_zero _)
    | succ n_ ih_ =>
      intro k hm_ h1 h2 ls hl
      refine lv_aload_n hx hb dX11_nameEndOf_4 rfl (lv_at hl 1 rfl) ?_
      refine zi_get (C := RX11) (T := TX11) (N := 23) (v := .ref (qs)) hx hb hz wo_X11 hown hK hO rfl 1 (by decide) (hz _ wf_X11_7) (fun _ h9 => h9) hS1 dX11_nameEndOf_5 ?_
      refine lv_iload_n hx hb dX11_nameEndOf_8 rfl (lv_at hl 0 rfl) ?_
      refine zi_ald hx hb hK hA (Nat.lt_of_le_of_lt h2 hok.2) (by decide) dX11_nameEndOf_9 ?_
      refine zi_if_eq (tgt := 19) hx hb dX11_nameEndOf_10 (by decide) (Nat.lt_trans (h8 _) (by decide)) (fun c_10 => ?_) (fun c_10 => ?_)
      · have h3 : k = ne f e := by
          rcases Nat.lt_or_ge k (ne f e) with q | q
          · exact absurd c_10 (nz_nz f 2000 (e + 1) k h1 q)
          · omega
        refine lv_iload_n hx hb dX11_nameEndOf_19 rfl (lv_at hl 0 rfl) ?_
        exact zr_i hx hb hr hlocks (by rw [h3]) dX11_nameEndOf_20
      · have h3 : k ≠ ne f e := fun q => c_10 (by rw [q]; exact hok.1)
        refine lv_iinc (v := nI (k + 1)) (lv' := [(2, .int (nI (k + 1))), (0, .ref (o)), (1, .int (nI (e)))]) hx hb dX11_nameEndOf_13 hl (k := 0) rfl (nI_add _ _) (by decide) rfl (fun ls hl => ?_)
        refine lv_goto (tgt := 4) hx hb dX11_nameEndOf_16 (by decide) ?_
        exact ih_ (k + 1) (by omega) (by omega) (by omega) ls (lv_sub hl [0, 1, 2] rfl)
  exact L4 ((ne f e - (e + 1)) + 1) (e + 1) (Nat.lt_succ_self _) (Nat.le_refl _) (ne_gt f e) ls (lv_sub hl [0, 1, 2] rfl)

set_option maxHeartbeats 4000000 in
set_option maxRecDepth 100000 in
theorem m_valueOf (l : Launch) (G : zG) (o qs : Nat) (fs : List Value) (f : Nat → Nat) (e : Nat) (hok : okN 18000 f e) : Met l yX11_valueOf wsX11_valueOf ({ frames := 1, cells := 0, slots := 0, locals := 22 }) (zP G [.ref (o), .int (nI (e))] (fun H => MV G o qs fs f H)) (zR (.int (nI (vo f e)))) 0 0 (fun _ => False) := by
  refine Met.ofW (cc := cX11_valueOf) (maxL := 2) (ret := (some .int)) (by decide) rfl ?_
  intro p en s m args below meth c s₁ B hml hv
  obtain ⟨rfl, hP, hK⟩ := hv
  have hx := B.exec
  have hb := B.bytes
  have hr := B.returns
  have hts := atoms_spec (ws := wsX11_valueOf) B.pre
  have hz : ∀ w ∈ zW, w.before _ s = true := fun w h => hts w (List.mem_cons_of_mem _ h)
  have hown : s.vm.findClass RX11 = some m.cls := findClass_of_methodNamed B.named
  have hlocks := B.notSynchronized
  obtain ⟨hO, hA, hS1, h8⟩ := id hP
  have hl := lv_entry ([.ref (o), .int (nI (e))]) (n := 2) (Nat.le_of_ble_eq_true rfl)
  rw [lg_entry_eq]
  generalize (lg_sl ([.ref (o), .int (nI (e))]) ++ List.replicate (2 - (lg_sl ([.ref (o), .int (nI (e))])).length) Slot.unset).toArray = ls at hl ⊢
  have hl : lv_has ls 2 [(0, .ref (o)), (1, .int (nI (e)))] := hl
  refine lv_aload_n hx hb dX11_valueOf_0 rfl (lv_at hl 0 rfl) ?_
  refine lv_iload_n hx hb dX11_valueOf_1 rfl (lv_at hl 1 rfl) ?_
  refine zc_V (As := [.int (nI (e))]) (rest := []) ⟨hx, hb, hml, hown, hts⟩ (m_nameEndOf l G o qs fs f e hok) (cwV 1 hts (zgV wm_X11_125 wv_X11_nameEndOf) rfl rfl rfl (by decide +kernel) ⟨Nat.le_of_ble_eq_true rfl, Nat.le_of_ble_eq_true rfl⟩) hK hO rfl hP rfl hl.1 rfl (Nat.le_of_ble_eq_true rfl) dX11_valueOf_2 ⟨Nat.zero_le _, Nat.zero_le _⟩ ?_
  refine lv_iconst (v := nI 1) hx hb dX11_valueOf_5 (by decide) ?_
  refine zi_add hx hb dX11_valueOf_6 ?_
  exact zr_i hx hb hr hlocks (rfl) dX11_valueOf_7

set_option maxHeartbeats 4000000 in
set_option maxRecDepth 100000 in
theorem m_whole (l : Launch) (G : zG) (o qs : Nat) (fs : List Value) (f : Nat → Nat) (a : Nat) (ha : a + 4 ≤ 18000) : Met l yX11_whole wsX11_whole ({ frames := 0, cells := 0, slots := 0, locals := 0 }) (zP G [.ref (o), .int (nI (a))] (fun H => MV G o qs fs f H)) (zR (.int (nI (wh f a)))) 0 0 (fun _ => False) := by
  refine Met.ofW (cc := cX11_whole) (maxL := 2) (ret := (some .int)) (by decide) rfl ?_
  intro p en s m args below meth c s₁ B hml hv
  obtain ⟨rfl, hP, hK⟩ := hv
  have hx := B.exec
  have hb := B.bytes
  have hr := B.returns
  have hts := atoms_spec (ws := wsX11_whole) B.pre
  have hz : ∀ w ∈ zW, w.before _ s = true := fun w h => hts w (List.mem_cons_of_mem _ h)
  have hown : s.vm.findClass RX11 = some m.cls := findClass_of_methodNamed B.named
  have hlocks := B.notSynchronized
  obtain ⟨hO, hA, hS1, h8⟩ := id hP
  have hl := lv_entry ([.ref (o), .int (nI (a))]) (n := 2) (Nat.le_of_ble_eq_true rfl)
  rw [lg_entry_eq]
  generalize (lg_sl ([.ref (o), .int (nI (a))]) ++ List.replicate (2 - (lg_sl ([.ref (o), .int (nI (a))])).length) Slot.unset).toArray = ls at hl ⊢
  have hl : lv_has ls 2 [(0, .ref (o)), (1, .int (nI (a)))] := hl
  refine lv_aload_n hx hb dX11_whole_0 rfl (lv_at hl 0 rfl) ?_
  refine zi_get (C := RX11) (T := TX11) (N := 23) (v := .ref (qs)) hx hb hz wo_X11 hown hK hO rfl 1 (by decide) (hz _ wf_X11_7) (fun _ h9 => h9) hS1 dX11_whole_1 ?_
  refine lv_iload_n hx hb dX11_whole_4 rfl (lv_at hl 1 rfl) ?_
  refine zi_ald hx hb hK hA (by omega) (by decide) dX11_whole_5 ?_
  refine lv_sipush (v := nI 256) hx hb dX11_whole_6 (by decide) ?_
  refine lv_aload_n hx hb dX11_whole_9 rfl (lv_at hl 0 rfl) ?_
  refine zi_get (C := RX11) (T := TX11) (N := 23) (v := .ref (qs)) hx hb hz wo_X11 hown hK hO rfl 1 (by decide) (hz _ wf_X11_7) (fun _ h9 => h9) hS1 dX11_whole_10 ?_
  refine lv_iload_n hx hb dX11_whole_13 rfl (lv_at hl 1 rfl) ?_
  refine lv_iconst (v := nI 1) hx hb dX11_whole_14 (by decide) ?_
  refine zi_add hx hb dX11_whole_15 ?_
  refine zi_ald hx hb hK hA (by omega) (by decide) dX11_whole_16 ?_
  refine zi_mul hx hb dX11_whole_17 ?_
  refine zi_add hx hb dX11_whole_18 ?_
  refine lv_ldc (v := 65536) hx hb hown (hz _ wk_X11_60) dX11_whole_19 ?_
  refine W.eq (g2 := F0 m 21 ls ([.int (nI (65536)), .int (nI (f a + (256 * (f (a + 1)))))])) rfl ?_
  refine lv_aload_n hx hb dX11_whole_21 rfl (lv_at hl 0 rfl) ?_
  refine zi_get (C := RX11) (T := TX11) (N := 23) (v := .ref (qs)) hx hb hz wo_X11 hown hK hO rfl 1 (by decide) (hz _ wf_X11_7) (fun _ h9 => h9) hS1 dX11_whole_22 ?_
  refine lv_iload_n hx hb dX11_whole_25 rfl (lv_at hl 1 rfl) ?_
  refine lv_iconst (v := nI 2) hx hb dX11_whole_26 (by decide) ?_
  refine zi_add hx hb dX11_whole_27 ?_
  refine zi_ald hx hb hK hA (by omega) (by decide) dX11_whole_28 ?_
  refine zi_mul hx hb dX11_whole_29 ?_
  refine zi_add hx hb dX11_whole_30 ?_
  refine lv_ldc (v := 16777216) hx hb hown (hz _ wk_X11_124) dX11_whole_31 ?_
  refine W.eq (g2 := F0 m 33 ls ([.int (nI (16777216)), .int (nI (f a + (256 * (f (a + 1))) + (65536 * (f (a + 2)))))])) rfl ?_
  refine lv_aload_n hx hb dX11_whole_33 rfl (lv_at hl 0 rfl) ?_
  refine zi_get (C := RX11) (T := TX11) (N := 23) (v := .ref (qs)) hx hb hz wo_X11 hown hK hO rfl 1 (by decide) (hz _ wf_X11_7) (fun _ h9 => h9) hS1 dX11_whole_34 ?_
  refine lv_iload_n hx hb dX11_whole_37 rfl (lv_at hl 1 rfl) ?_
  refine lv_iconst (v := nI 3) hx hb dX11_whole_38 (by decide) ?_
  refine zi_add hx hb dX11_whole_39 ?_
  refine zi_ald hx hb hK hA (by omega) (by decide) dX11_whole_40 ?_
  refine zi_mul hx hb dX11_whole_41 ?_
  refine zi_add hx hb dX11_whole_42 ?_
  exact zr_i hx hb hr hlocks (rfl) dX11_whole_43

set_option maxHeartbeats 4000000 in
set_option maxRecDepth 100000 in
theorem m_lengthOf (l : Launch) (G : zG) (o qs : Nat) (fs : List Value) (f : Nat → Nat) (k a : Nat) (hk : k < 2 ^ 31) (ha : a + 4 ≤ 18000) : Met l yX11_lengthOf wsX11_lengthOf ({ frames := 1, cells := 0, slots := 0, locals := 21 }) (zP G [.ref (o), .int (nI (k)), .int (nI (a))] (fun H => MV G o qs fs f H)) (zR (.int (nI (ln f k a)))) 0 0 (fun _ => False) := by
  refine Met.ofW (cc := cX11_lengthOf) (maxL := 3) (ret := (some .int)) (by decide) rfl ?_
  intro p en s m args below meth c s₁ B hml hv
  obtain ⟨rfl, hP, hK⟩ := hv
  have hx := B.exec
  have hb := B.bytes
  have hr := B.returns
  have hts := atoms_spec (ws := wsX11_lengthOf) B.pre
  have hz : ∀ w ∈ zW, w.before _ s = true := fun w h => hts w (List.mem_cons_of_mem _ h)
  have hown : s.vm.findClass RX11 = some m.cls := findClass_of_methodNamed B.named
  have hlocks := B.notSynchronized
  obtain ⟨hO, hA, hS1, h8⟩ := id hP
  have hl := lv_entry ([.ref (o), .int (nI (k)), .int (nI (a))]) (n := 3) (Nat.le_of_ble_eq_true rfl)
  rw [lg_entry_eq]
  generalize (lg_sl ([.ref (o), .int (nI (k)), .int (nI (a))]) ++ List.replicate (3 - (lg_sl ([.ref (o), .int (nI (k)), .int (nI (a))])).length) Slot.unset).toArray = ls at hl ⊢
  have hl : lv_has ls 3 [(0, .ref (o)), (1, .int (nI (k))), (2, .int (nI (a)))] := hl
  refine lv_iload_n hx hb dX11_lengthOf_0 rfl (lv_at hl 1 rfl) ?_
  by_cases c_1_2 : k = 2
  · refine zi_tab hx hb dX11_lengthOf_1 (by omega) 91 (by rw [c_1_2]; decide) ?_
    refine lv_iconst (v := nI 4) hx hb dX11_lengthOf_91 (by decide) ?_
    refine lv_aload_n hx hb dX11_lengthOf_92 rfl (lv_at hl 0 rfl) ?_
    refine lv_iload_n hx hb dX11_lengthOf_93 rfl (lv_at hl 2 rfl) ?_
    refine zc_V (As := [.int (nI (a))]) (rest := [.int (nI (4))]) ⟨hx, hb, hml, hown, hts⟩ (m_whole l G o qs fs f a ha) (cwV 1 hts (zgV wm_X11_128 wv_X11_whole) rfl rfl rfl (by decide +kernel) ⟨Nat.le_of_ble_eq_true rfl, Nat.le_of_ble_eq_true rfl⟩) hK hO rfl hP rfl hl.1 rfl (Nat.le_of_ble_eq_true rfl) dX11_lengthOf_94 ⟨Nat.zero_le _, Nat.zero_le _⟩ ?_
    refine zi_add hx hb dX11_lengthOf_97 ?_
    exact zr_i hx hb hr hlocks (by simp [ln, *]) dX11_lengthOf_98
  by_cases c_1_3 : k = 3
  · refine zi_tab hx hb dX11_lengthOf_1 (by omega) 99 (by rw [c_1_3]; decide) ?_
    refine lv_aload_n hx hb dX11_lengthOf_99 rfl (lv_at hl 0 rfl) ?_
    refine lv_iload_n hx hb dX11_lengthOf_100 rfl (lv_at hl 2 rfl) ?_
    refine zc_V (As := [.int (nI (a))]) (rest := []) ⟨hx, hb, hml, hown, hts⟩ (m_whole l G o qs fs f a ha) (cwV 1 hts (zgV wm_X11_128 wv_X11_whole) rfl rfl rfl (by decide +kernel) ⟨Nat.le_of_ble_eq_true rfl, Nat.le_of_ble_eq_true rfl⟩) hK hO rfl hP rfl hl.1 rfl (Nat.le_of_ble_eq_true rfl) dX11_lengthOf_101 ⟨Nat.zero_le _, Nat.zero_le _⟩ ?_
    exact zr_i hx hb hr hlocks (by simp [ln, *]) dX11_lengthOf_104
  by_cases c_1_4 : k = 4
  · refine zi_tab hx hb dX11_lengthOf_1 (by omega) 99 (by rw [c_1_4]; decide) ?_
    refine lv_aload_n hx hb dX11_lengthOf_99 rfl (lv_at hl 0 rfl) ?_
    refine lv_iload_n hx hb dX11_lengthOf_100 rfl (lv_at hl 2 rfl) ?_
    refine zc_V (As := [.int (nI (a))]) (rest := []) ⟨hx, hb, hml, hown, hts⟩ (m_whole l G o qs fs f a ha) (cwV 1 hts (zgV wm_X11_128 wv_X11_whole) rfl rfl rfl (by decide +kernel) ⟨Nat.le_of_ble_eq_true rfl, Nat.le_of_ble_eq_true rfl⟩) hK hO rfl hP rfl hl.1 rfl (Nat.le_of_ble_eq_true rfl) dX11_lengthOf_101 ⟨Nat.zero_le _, Nat.zero_le _⟩ ?_
    exact zr_i hx hb hr hlocks (by simp [ln, *]) dX11_lengthOf_104
  by_cases c_1_8 : k = 8
  · refine zi_tab hx hb dX11_lengthOf_1 (by omega) 89 (by rw [c_1_8]; decide) ?_
    refine lv_iconst (v := nI 1) hx hb dX11_lengthOf_89 (by decide) ?_
    exact zr_i hx hb hr hlocks (by simp [ln, *]) dX11_lengthOf_90
  by_cases c_1_16 : k = 16
  · refine zi_tab hx hb dX11_lengthOf_1 (by omega) 84 (by rw [c_1_16]; decide) ?_
    refine lv_iconst (v := nI 4) hx hb dX11_lengthOf_84 (by decide) ?_
    exact zr_i hx hb hr hlocks (by simp [ln, *]) dX11_lengthOf_85
  by_cases c_1_18 : k = 18
  · refine zi_tab hx hb dX11_lengthOf_1 (by omega) 86 (by rw [c_1_18]; decide) ?_
    refine lv_bipush (v := nI 8) hx hb dX11_lengthOf_86 (by decide) ?_
    exact zr_i hx hb hr hlocks (by simp [ln, *]) dX11_lengthOf_88
  refine zi_tab hx hb dX11_lengthOf_1 (by omega) 105 ((zTab_d [2, 3, 4, 8, 16, 18] (by decide +kernel) (by simp only [List.mem_cons, List.not_mem_nil, or_false, not_or]; exact ⟨c_1_2, c_1_3, c_1_4, c_1_8, c_1_16, c_1_18⟩)).trans (by decide)) ?_
  refine lv_iconst (v := nI 0) hx hb dX11_lengthOf_105 (by decide) ?_
  exact zr_i hx hb hr hlocks (by simp [ln, *]) dX11_lengthOf_106

set_option maxHeartbeats 4000000 in
set_option maxRecDepth 100000 in
theorem m_firstOf (l : Launch) (G : zG) (o qs : Nat) (fs : List Value) (f : Nat → Nat) (a : Nat) (ha : a + 4 < 18000) : Met l yX11_firstOf wsX11_firstOf ({ frames := 0, cells := 0, slots := 0, locals := 0 }) (zP G [.ref (o), .int (nI (a))] (fun H => MV G o qs fs f H)) (zR (.int (nI (fi f a)))) 0 0 (fun _ => False) := by
  refine Met.ofW (cc := cX11_firstOf) (maxL := 2) (ret := (some .int)) (by decide) rfl ?_
  intro p en s m args below meth c s₁ B hml hv
  obtain ⟨rfl, hP, hK⟩ := hv
  have hx := B.exec
  have hb := B.bytes
  have hr := B.returns
  have hts := atoms_spec (ws := wsX11_firstOf) B.pre
  have hz : ∀ w ∈ zW, w.before _ s = true := fun w h => hts w (List.mem_cons_of_mem _ h)
  have hown : s.vm.findClass RX11 = some m.cls := findClass_of_methodNamed B.named
  have hlocks := B.notSynchronized
  obtain ⟨hO, hA, hS1, h8⟩ := id hP
  have hl := lv_entry ([.ref (o), .int (nI (a))]) (n := 2) (Nat.le_of_ble_eq_true rfl)
  rw [lg_entry_eq]
  generalize (lg_sl ([.ref (o), .int (nI (a))]) ++ List.replicate (2 - (lg_sl ([.ref (o), .int (nI (a))])).length) Slot.unset).toArray = ls at hl ⊢
  have hl : lv_has ls 2 [(0, .ref (o)), (1, .int (nI (a)))] := hl
  refine lv_aload_n hx hb dX11_firstOf_0 rfl (lv_at hl 0 rfl) ?_
  refine zi_get (C := RX11) (T := TX11) (N := 23) (v := .ref (qs)) hx hb hz wo_X11 hown hK hO rfl 1 (by decide) (hz _ wf_X11_7) (fun _ h9 => h9) hS1 dX11_firstOf_1 ?_
  refine lv_iload_n hx hb dX11_firstOf_4 rfl (lv_at hl 1 rfl) ?_
  refine lv_iconst (v := nI 4) hx hb dX11_firstOf_5 (by decide) ?_
  refine zi_add hx hb dX11_firstOf_6 ?_
  refine zi_ald hx hb hK hA (by omega) (by decide) dX11_firstOf_7 ?_
  refine zi_if_ne (tgt := 15) hx hb dX11_firstOf_8 (by decide) (Nat.lt_trans (h8 _) (by decide)) (fun c_8 => ?_) (fun c_8 => ?_)
  · refine lv_iload_n hx hb dX11_firstOf_15 rfl (lv_at hl 1 rfl) ?_
    refine lv_iconst (v := nI 4) hx hb dX11_firstOf_16 (by decide) ?_
    refine zi_add hx hb dX11_firstOf_17 ?_
    exact zr_i hx hb hr hlocks (by simp [fi, *]) dX11_firstOf_18
  · refine lv_iconst (v := nI 0) hx hb dX11_firstOf_11 (by decide) ?_
    refine lv_goto (tgt := 18) hx hb dX11_firstOf_12 (by decide) ?_
    exact zr_i hx hb hr hlocks (by simp [fi, *]) dX11_firstOf_18

set_option maxHeartbeats 4000000 in
set_option maxRecDepth 100000 in
theorem m_nextOf (l : Launch) (G : zG) (o qs : Nat) (fs : List Value) (f : Nat → Nat) (e : Nat) (hok : okE 18000 f e) : Met l yX11_nextOf wsX11_nextOf ({ frames := 2, cells := 0, slots := 0, locals := 43 }) (zP G [.ref (o), .int (nI (e))] (fun H => MV G o qs fs f H)) (zR (.int (nI (nx f e)))) 0 0 (fun _ => False) := by
  refine Met.ofW (cc := cX11_nextOf) (maxL := 4) (ret := (some .int)) (by decide) rfl ?_
  intro p en s m args below meth c s₁ B hml hv
  obtain ⟨rfl, hP, hK⟩ := hv
  have hx := B.exec
  have hb := B.bytes
  have hr := B.returns
  have hts := atoms_spec (ws := wsX11_nextOf) B.pre
  have hz : ∀ w ∈ zW, w.before _ s = true := fun w h => hts w (List.mem_cons_of_mem _ h)
  have hown : s.vm.findClass RX11 = some m.cls := findClass_of_methodNamed B.named
  have hlocks := B.notSynchronized
  obtain ⟨hO, hA, hS1, h8⟩ := id hP
  have he := hok.lt
  have hl := lv_entry ([.ref (o), .int (nI (e))]) (n := 4) (Nat.le_of_ble_eq_true rfl)
  rw [lg_entry_eq]
  generalize (lg_sl ([.ref (o), .int (nI (e))]) ++ List.replicate (4 - (lg_sl ([.ref (o), .int (nI (e))])).length) Slot.unset).toArray = ls at hl ⊢
  have hl : lv_has ls 4 [(0, .ref (o)), (1, .int (nI (e)))] := hl
  refine lv_aload_n hx hb dX11_nextOf_0 rfl (lv_at hl 0 rfl) ?_
  refine lv_iload_n hx hb dX11_nextOf_1 rfl (lv_at hl 1 rfl) ?_
  refine zc_V (As := [.int (nI (e))]) (rest := []) ⟨hx, hb, hml, hown, hts⟩ (m_valueOf l G o qs fs f e hok.1) (cwV 1 hts (zgV wm_X11_131 wv_X11_valueOf) rfl rfl rfl (by decide +kernel) ⟨Nat.le_of_ble_eq_true rfl, Nat.le_of_ble_eq_true rfl⟩) hK hO rfl hP rfl hl.1 rfl (Nat.le_of_ble_eq_true rfl) dX11_nextOf_2 ⟨Nat.zero_le _, Nat.zero_le _⟩ ?_
  refine lv_istore_n (lv' := [(2, .int (nI (vo f e))), (0, .ref (o)), (1, .int (nI (e)))]) hx hb dX11_nextOf_5 rfl hl (by decide) rfl (fun ls hl => ?_)
  refine lv_iload_n hx hb dX11_nextOf_6 rfl (lv_at hl 0 rfl) ?_
  refine lv_aload_n hx hb dX11_nextOf_7 rfl (lv_at hl 1 rfl) ?_
  refine lv_aload_n hx hb dX11_nextOf_8 rfl (lv_at hl 1 rfl) ?_
  refine zi_get (C := RX11) (T := TX11) (N := 23) (v := .ref (qs)) hx hb hz wo_X11 hown hK hO rfl 1 (by decide) (hz _ wf_X11_7) (fun _ h9 => h9) hS1 dX11_nextOf_9 ?_
  refine lv_iload_n hx hb dX11_nextOf_12 rfl (lv_at hl 2 rfl) ?_
  refine zi_ald hx hb hK hA (by omega) (by decide) dX11_nextOf_13 ?_
  refine lv_iload_n hx hb dX11_nextOf_14 rfl (lv_at hl 0 rfl) ?_
  refine zc_V (As := [.int (nI (f e)), .int (nI (vo f e))]) (rest := [.int (nI (vo f e))]) ⟨hx, hb, hml, hown, hts⟩ (m_lengthOf l G o qs fs f (f e) (vo f e) (Nat.lt_trans (h8 _) (by decide)) hok.2.1) (cwV 2 hts (zgV wm_X11_134 wv_X11_lengthOf) rfl rfl rfl (by decide +kernel) ⟨Nat.le_of_ble_eq_true rfl, Nat.le_of_ble_eq_true rfl⟩) hK hO rfl hP rfl hl.1 rfl (Nat.le_of_ble_eq_true rfl) dX11_nextOf_15 ⟨Nat.zero_le _, Nat.zero_le _⟩ ?_
  refine zi_add hx hb dX11_nextOf_18 ?_
  refine lv_istore_n (lv' := [(3, .int (nI (vo f e + (ln f (f e) (vo f e))))), (2, .int (nI (vo f e))), (0, .ref (o)), (1, .int (nI (e)))]) hx hb dX11_nextOf_19 rfl hl (by decide) rfl (fun ls hl => ?_)
  refine lv_aload_n hx hb dX11_nextOf_20 rfl (lv_at hl 2 rfl) ?_
  refine zi_get (C := RX11) (T := TX11) (N := 23) (v := .ref (qs)) hx hb hz wo_X11 hown hK hO rfl 1 (by decide) (hz _ wf_X11_7) (fun _ h9 => h9) hS1 dX11_nextOf_21 ?_
  refine lv_iload_n hx hb dX11_nextOf_24 rfl (lv_at hl 0 rfl) ?_
  refine zi_ald hx hb hK hA hok.2.2.2 (by decide) dX11_nextOf_25 ?_
  refine zi_if_ne (tgt := 33) hx hb dX11_nextOf_26 (by decide) (Nat.lt_trans (h8 _) (by decide)) (fun c_26 => ?_) (fun c_26 => ?_)
  · refine lv_iload_n hx hb dX11_nextOf_33 rfl (lv_at hl 0 rfl) ?_
    exact zr_i hx hb hr hlocks (by simp [nx, th, *]) dX11_nextOf_34
  · refine lv_iconst (v := nI 0) hx hb dX11_nextOf_29 (by decide) ?_
    refine lv_goto (tgt := 34) hx hb dX11_nextOf_30 (by decide) ?_
    exact zr_i hx hb hr hlocks (by simp [nx, th, *]) dX11_nextOf_34

set_option maxHeartbeats 4000000 in
set_option maxRecDepth 100000 in
theorem m_countOf (l : Launch) (G : zG) (o qs : Nat) (fs : List Value) (f : Nat → Nat) (a : Nat) (L : List Nat) (hL : Bx 18000 f a L) : Met l yX11_countOf wsX11_countOf ({ frames := 3, cells := 0, slots := 0, locals := 66 }) (zP G [.ref (o), .int (nI (a))] (fun H => MV G o qs fs f H)) (zR (.int (nI L.length))) 0 0 (fun _ => False) := by
  refine Met.ofW (cc := cX11_countOf) (maxL := 4) (ret := (some .int)) (by decide) rfl ?_
  intro p en s m args below meth c s₁ B hml hv
  obtain ⟨rfl, hP, hK⟩ := hv
  have hx := B.exec
  have hb := B.bytes
  have hr := B.returns
  have hts := atoms_spec (ws := wsX11_countOf) B.pre
  have hz : ∀ w ∈ zW, w.before _ s = true := fun w h => hts w (List.mem_cons_of_mem _ h)
  have hown : s.vm.findClass RX11 = some m.cls := findClass_of_methodNamed B.named
  have hlocks := B.notSynchronized
  obtain ⟨hO, hA, hS1, h8⟩ := id hP
  have ha := hL.1
  have hc0 := hL.2.lt (by decide)
  have hl := lv_entry ([.ref (o), .int (nI (a))]) (n := 4) (Nat.le_of_ble_eq_true rfl)
  rw [lg_entry_eq]
  generalize (lg_sl ([.ref (o), .int (nI (a))]) ++ List.replicate (4 - (lg_sl ([.ref (o), .int (nI (a))])).length) Slot.unset).toArray = ls at hl ⊢
  have hl : lv_has ls 4 [(0, .ref (o)), (1, .int (nI (a)))] := hl
  refine lv_iconst (v := nI 0) hx hb dX11_countOf_0 (by decide) ?_
  refine lv_istore_n (lv' := [(2, .int (nI (0))), (0, .ref (o)), (1, .int (nI (a)))]) hx hb dX11_countOf_1 rfl hl (by decide) rfl (fun ls hl => ?_)
  refine lv_aload_n hx hb dX11_countOf_2 rfl (lv_at hl 1 rfl) ?_
  refine lv_iload_n hx hb dX11_countOf_3 rfl (lv_at hl 2 rfl) ?_
  refine zc_V (As := [.int (nI (a))]) (rest := []) ⟨hx, hb, hml, hown, hts⟩ (m_firstOf l G o qs fs f a ha) (cwV 1 hts (zgV wm_X11_137 wv_X11_firstOf) rfl rfl rfl (by decide +kernel) ⟨Nat.le_of_ble_eq_true rfl, Nat.le_of_ble_eq_true rfl⟩) hK hO rfl hP rfl hl.1 rfl (Nat.le_of_ble_eq_true rfl) dX11_countOf_4 ⟨Nat.zero_le _, Nat.zero_le _⟩ ?_
  refine lv_istore_n (lv' := [(3, .int (nI (fi f a))), (2, .int (nI (0))), (0, .ref (o)), (1, .int (nI (a)))]) hx hb dX11_countOf_7 rfl hl (by decide) rfl (fun ls hl => ?_)
  have L8 : ∀ (n_ : Nat) (k : Nat) (e : Nat) (M : List Nat), M.length < n_ → Ch 18000 f e M → k + M.length = L.length → e < 18000 → ∀ ls : Array Slot, lv_has ls 4 [(3, .int (nI (e))), (2, .int (nI (k))), (0, .ref (o))] → W p l en (headSpec wsX11_countOf ({ frames := 3, cells := 0, slots := 0, locals := 66 })).room s m ([.ref (o), .int (nI (a))] : List Value).toArray below meth c s.heap [] 0 0 (MQ below (zR (.int (nI L.length))) ([.ref (o), .int (nI (a))] : List Value).toArray s 0 0 (fun _ => False)) (F0 m 8 ls []) := by
    intro n_
    induction n_ with
    | zero => intro k e M hm_; exact absurd hm_ (Nat.not_lt_zero _)
    | succ n_ ih_ =>
      intro k e M hm_ hc hn he ls hl
      refine lv_iload_n hx hb dX11_countOf_8 rfl (lv_at hl 0 rfl) ?_
      refine zi_if_le (tgt := 24) hx hb dX11_countOf_9 (by decide) (by omega) (fun c_9 => ?_) (fun c_9 => ?_)
      · have hM := hc.nil c_9
        subst hM
        refine lv_iload_n hx hb dX11_countOf_24 rfl (lv_at hl 1 rfl) ?_
        exact zr_i hx hb hr hlocks (by rw [← hn]; rfl) dX11_countOf_25
      · obtain ⟨M', rfl, hok, hc'⟩ := hc.cons c_9
        refine lv_iinc (v := nI (k + 1)) (lv' := [(2, .int (nI (k + 1))), (3, .int (nI (e))), (0, .ref (o))]) hx hb dX11_countOf_12 hl (k := 1) rfl (nI_add _ _) (by decide) rfl (fun ls hl => ?_)
        refine lv_aload_n hx hb dX11_countOf_15 rfl (lv_at hl 2 rfl) ?_
        refine lv_iload_n hx hb dX11_countOf_16 rfl (lv_at hl 1 rfl) ?_
        refine zc_V (As := [.int (nI (e))]) (rest := []) ⟨hx, hb, hml, hown, hts⟩ (m_nextOf l G o qs fs f e hok) (cwV 1 hts (zgV wm_X11_140 wv_X11_nextOf) rfl rfl rfl (by decide +kernel) ⟨Nat.le_of_ble_eq_true rfl, Nat.le_of_ble_eq_true rfl⟩) hK hO rfl hP rfl hl.1 rfl (Nat.le_of_ble_eq_true rfl) dX11_countOf_17 ⟨Nat.zero_le _, Nat.zero_le _⟩ ?_
        refine lv_istore_n (lv' := [(3, .int (nI (nx f e))), (2, .int (nI (k + 1))), (0, .ref (o))]) hx hb dX11_countOf_20 rfl hl (by decide) rfl (fun ls hl => ?_)
        refine lv_goto (tgt := 8) hx hb dX11_countOf_21 (by decide) ?_
        exact ih_ (k + 1) (nx f e) (M') (by simp at hm_; omega) hc' (by simp at hn; omega) (Ch.lt (by decide) hc') ls (lv_sub hl [0, 1, 2] rfl)
  exact L8 ((L.length) + 1) 0 (fi f a) L (Nat.lt_succ_self _) hL.2 (by omega) hc0 ls (lv_sub hl [0, 1, 2] rfl)

set_option maxHeartbeats 4000000 in
set_option maxRecDepth 100000 in
theorem m_isDollar (l : Launch) (G : zG) (o qs : Nat) (fs : List Value) (f : Nat → Nat) (e : Nat) (he : e + 1 < 18000) : Met l yX11_isDollar wsX11_isDollar ({ frames := 0, cells := 0, slots := 0, locals := 0 }) (zP G [.ref (o), .int (nI (e))] (fun H => MV G o qs fs f H)) (zR (.int (nI (nB (decide (f (e + 1) = 36)))))) 0 0 (fun _ => False) := by
  refine Met.ofW (cc := cX11_isDollar) (maxL := 2) (ret := (some .boolean)) (by decide) rfl ?_
  intro p en s m args below meth c s₁ B hml hv
  obtain ⟨rfl, hP, hK⟩ := hv
  have hx := B.exec
  have hb := B.bytes
  have hr := B.returns
  have hts := atoms_spec (ws := wsX11_isDollar) B.pre
  have hz : ∀ w ∈ zW, w.before _ s = true := fun w h => hts w (List.mem_cons_of_mem _ h)
  have hown : s.vm.findClass RX11 = some m.cls := findClass_of_methodNamed B.named
  have hlocks := B.notSynchronized
  obtain ⟨hO, hA, hS1, h8⟩ := id hP
  have hl := lv_entry ([.ref (o), .int (nI (e))]) (n := 2) (Nat.le_of_ble_eq_true rfl)
  rw [lg_entry_eq]
  generalize (lg_sl ([.ref (o), .int (nI (e))]) ++ List.replicate (2 - (lg_sl ([.ref (o), .int (nI (e))])).length) Slot.unset).toArray = ls at hl ⊢
  have hl : lv_has ls 2 [(0, .ref (o)), (1, .int (nI (e)))] := hl
  refine lv_aload_n hx hb dX11_isDollar_0 rfl (lv_at hl 0 rfl) ?_
  refine zi_get (C := RX11) (T := TX11) (N := 23) (v := .ref (qs)) hx hb hz wo_X11 hown hK hO rfl 1 (by decide) (hz _ wf_X11_7) (fun _ h9 => h9) hS1 dX11_isDollar_1 ?_
  refine lv_iload_n hx hb dX11_isDollar_4 rfl (lv_at hl 1 rfl) ?_
  refine lv_iconst (v := nI 1) hx hb dX11_isDollar_5 (by decide) ?_
  refine zi_add hx hb dX11_isDollar_6 ?_
  refine zi_ald hx hb hK hA (by omega) (by decide) dX11_isDollar_7 ?_
  refine lv_bipush (v := nI 36) hx hb dX11_isDollar_8 (by decide) ?_
  refine zi_icmp_ne (tgt := 17) hx hb dX11_isDollar_10 (by decide) (Nat.lt_trans (h8 _) (by decide)) (by omega) (fun c_10 => ?_) (fun c_10 => ?_)
  · refine lv_iconst (v := nI 0) hx hb dX11_isDollar_17 (by decide) ?_
    exact zr_z hx hb hr hlocks (by simp [nB, *]) dX11_isDollar_18
  · refine lv_iconst (v := nI 1) hx hb dX11_isDollar_13 (by decide) ?_
    refine lv_goto (tgt := 18) hx hb dX11_isDollar_14 (by decide) ?_
    exact zr_z hx hb hr hlocks (by simp [nB, *]) dX11_isDollar_18
end
section
/-! ===== SPECS 2: words in bytes, characters, digits, texts, numbers, classes ===== -/
def sg (f : Nat → Nat) : Nat → Nat → List Nat
  | _, 0 => []
  | a, k + 1 => f a :: sg f (a + 1) k
def lx : List Nat → List Nat → Ordering
  | [], [] => .eq
  | [], _ :: _ => .lt
  | _ :: _, [] => .gt
  | x :: xs, y :: ys => if x < y then .lt else if y < x then .gt else lx xs ys
def oI (o : Ordering) : Int32 := match o with
  | .lt => -1
  | .eq => 0
  | .gt => 1
/-- the letters w and then a 0 stand at q -/
def isW (f : Nat → Nat) : Nat → List Nat → Bool
  | q, [] => decide (f q = 0)
  | q, x :: w => decide (f q = x) && isW f (q + 1) w
def pkW : List Nat → Nat
  | [] => 0
  | x :: w => x + 256 * pkW w
def okL (w : List Nat) : Prop := ∀ x ∈ w, 0 < x ∧ x < 256
theorem pkW_lt : ∀ {w : List Nat} (n : Nat), okL w → w.length ≤ n → pkW w < 256 ^ n
  | [], n, _, _ => Nat.pos_of_ne_zero (by simp)
  | x :: w, 0, _, h => absurd h (by simp)
  | x :: w, n + 1, h, hl => by
    have h1 := pkW_lt n (fun y hy => h y (List.mem_cons_of_mem _ hy)) (Nat.le_of_succ_le_succ hl)
    have h2 := (h x List.mem_cons_self).2
    show x + 256 * pkW w < 256 ^ (n + 1)
    rw [Nat.pow_succ]
    omega
theorem pkW_lt7 {w : List Nat} (h : okL w) (hl : w.length ≤ 7) : pkW w < 2 ^ 62 := Nat.lt_trans (pkW_lt 7 h hl) (by decide)
theorem pkW_0 {w : List Nat} (h : okL w) (h0 : pkW w = 0) : w = [] := by
  cases w with
  | nil => rfl
  | cons x w =>
    have h1 := (h x List.mem_cons_self).1
    have h2 : x + 256 * pkW w = 0 := h0
    omega
def clO (k : Nat) : Nat := if k = 10 then 1 else if k = 16 ∨ k = 18 then 2 else if k = 2 then 3 else if k = 3 then 4 else if k = 4 then 5 else if k = 8 then 6 else 0
/-- the number of kind k at a -/
def nuM (f : Nat → Nat) (k a : Nat) : Int64 := if k = 8 then lN (f a) else if k = 16 then (nI (wh f a)).toInt64 else lN (wh f a + 4294967296 * wh f (a + 4))
def isC (f : Nat → Nat) (k a : Nat) : Bool := decide (k = 3) && (decide (0 < fi f a) && decide (f (fi f a + 1) = 36))
def wAnd : List Nat := [36, 97, 110, 100]
def wOr : List Nat := [36, 111, 114]
def wNor : List Nat := [36, 110, 111, 114]
def isA (f : Nat → Nat) (e : Nat) (w : List Nat) : Bool := isW f (e + 1) w
def isJ (f : Nat → Nat) (e : Nat) : Bool := isA f e wAnd || (isA f e wOr || isA f e wNor)
def wEq : List Nat := [36, 101, 113]
def wNe : List Nat := [36, 110, 101]
def wIn : List Nat := [36, 105, 110]
def wNin : List Nat := [36, 110, 105, 110]
def wLt : List Nat := [36, 108, 116]
def wLte : List Nat := [36, 108, 116, 101]
def wGt : List Nat := [36, 103, 116]
def wGte : List Nat := [36, 103, 116, 101]
def wExists : List Nat := [36, 101, 120, 105, 115, 116, 115]
def wSize : List Nat := [36, 115, 105, 122, 101]
def wElem : List Nat := [36, 101, 108, 101, 109]
def wNot : List Nat := [36, 110, 111, 116]
def coN (f : Nat → Nat) (e : Nat) : Nat := if isA f e wEq = true then 1 else if isA f e wNe = true then 2 else if isA f e wIn = true then 3 else if isA f e wNin = true then 4 else if isA f e wLt = true then 5 else if isA f e wLte = true then 6 else if isA f e wGt = true then 7 else if isA f e wGte = true then 8 else if isA f e wExists = true then 9 else if isA f e wSize = true then 10 else if isA f e wElem = true then 11 else if isA f e wNot = true then 12 else 0
def asC (f : Nat → Nat) (v : Nat) : Bool := isC f 3 v && !isJ f (fi f v)
def isR (f : Nat → Nat) (k kd v : Nat) : Bool := if k = 3 ∨ k = 4 then decide (kd = 4) else if k = 9 then decide (kd = 8) else if k = 10 then decide (kd = 16 ∨ kd = 18) && decide (0 ≤ nuM f kd v) else if k = 11 then decide (kd = 3) else if k = 12 then isC f kd v else true
theorem z_lowI {x y : Nat} (hx : x < 256) (hb : x + 256 * y < 2 ^ 62) : (lN (x + 256 * y) &&& 255).toInt32 = nI x := by
  have h : lN (x + 256 * y) &&& lN (2 ^ 8 - 1) = lN ((x + 256 * y) % 2 ^ 8) := wb_mask (by omega) (by decide)
  have h2 : (x + 256 * y) % 2 ^ 8 = x := by omega
  rw [h2] at h
  rw [show (255 : Int64) = lN (2 ^ 8 - 1) by decide, h, lN_i]
theorem z_shr8 {x y : Nat} (hx : x < 256) (hb : x + 256 * y < 2 ^ 62) : lN (x + 256 * y) >>> ((nI 8).toInt64 &&& 63) = lN y := by
  rw [pf_shr (d := 8) (by decide) hb]
  congr 1
  omega
theorem lN_le0 {a : Nat} (h : a < 2 ^ 62) : lN a ≤ 0 ↔ a = 0 := by
  have h1 := pk_lLE (a := a) (b := 0) (Nat.lt_trans h (by decide)) (by decide)
  have h2 : lN 0 = 0 := by decide
  rw [h2] at h1
  rw [h1]
  exact Nat.le_zero
theorem lN_eq0 {a : Nat} (h : a < 2 ^ 62) : lN a = 0 ↔ a = 0 := by
  have h1 := pk_lEQ (a := a) (b := 0) (Nat.lt_trans h (by decide)) (by decide)
  have h2 : lN 0 = 0 := by decide
  rwa [h2] at h1
theorem z_shl8or {x y : Nat} (hx : x < 2 ^ 56) (hy : y < 256) : (lN x <<< ((nI 8).toInt64 &&& 63)) ||| lN y = lN (x * 256 + y) := by
  rw [g_shl (k := 8) (p := 256) (by decide) (by decide) (by decide) (by omega)]
  exact g_or (k := 8) (by decide) hy (by omega)
theorem fi_le (f : Nat → Nat) (a : Nat) : fi f a ≤ a + 4 := by
  unfold fi
  split <;> omega
theorem isC_pos {f : Nat → Nat} {k a : Nat} (h : isC f k a = true) : 0 < fi f a := by
  unfold isC at h
  simp at h
  exact h.2.1
/-- the k bytes from a + z on, lowest first -/
def sb8 (f : Nat → Nat) (a : Nat) : Nat → Nat → Nat
  | _, 0 => 0
  | z, k + 1 => f (a + z) + 256 * sb8 f a (z + 1) k
theorem sb8_lt' (f : Nat → Nat) (h8 : ∀ i, f i < 256) (a : Nat) : ∀ k z, sb8 f a z k < 256 ^ k
  | 0, z => by simp [sb8]
  | k + 1, z => by
    have h1 := sb8_lt' f h8 a k (z + 1)
    have h2 := h8 (a + z)
    unfold sb8
    rw [Nat.pow_succ]
    omega
theorem sb8_lt (f : Nat → Nat) (h8 : ∀ i, f i < 256) (a k : Nat) {z : Nat} (hk : k ≤ 7 := by omega) : sb8 f a z k < 2 ^ 56 :=
  Nat.lt_of_lt_of_le (sb8_lt' f h8 a k z) (by rw [show (2 : Nat) ^ 56 = 256 ^ 7 by decide]; exact Nat.pow_le_pow_right (by decide) hk)
theorem sb8_step (f : Nat → Nat) (a j : Nat) (hj : j < 8) : lN (sb8 f a (j + 1) (8 - (j + 1)) * 256 + f (a + j)) = lN (sb8 f a j (8 - j)) := by
  rw [show 8 - j = (8 - (j + 1)) + 1 by omega]
  congr 1
  show _ = f (a + j) + 256 * sb8 f a (j + 1) (8 - (j + 1))
  omega
theorem sb8_all (f : Nat → Nat) (a : Nat) : lN (sb8 f a 0 8) = lN (wh f a + 4294967296 * wh f (a + 4)) := by
  congr 1
  simp only [sb8, wh, Nat.add_assoc, Nat.reduceAdd, Nat.add_zero]
  omega
theorem z_m1 (x : Int32) : x + Int32.ofInt (-1) = x - 1 := by
  rw [Int32.sub_eq_add_neg]
  congr 1
end
section
set_option maxHeartbeats 4000000 in
set_option maxRecDepth 100000 in
theorem m_isNamed (l : Launch) (G : zG) (o qs : Nat) (fs : List Value) (f : Nat → Nat) (e : Nat) (w : List Nat) (hw : okL w) (hw7 : w.length ≤ 7) (hok : okN 18000 f e) : Met l yX11_isNamed wsX11_isNamed ({ frames := 0, cells := 0, slots := 0, locals := 0 }) (zP G [.ref (o), .int (nI (e)), .long (lN (pkW w))] (fun H => MV G o qs fs f H)) (zR (.int (nI (nB (isW f (e + 1) w))))) 0 0 (fun _ => False) := by
  refine Met.ofW (cc := cX11_isNamed) (maxL := 7) (ret := (some .boolean)) (by decide) rfl ?_
  intro p en s m args below meth c s₁ B hml hv
  obtain ⟨rfl, hP, hK⟩ := hv
  have hx := B.exec
  have hb := B.bytes
  have hr := B.returns
  have hts := atoms_spec (ws := wsX11_isNamed) B.pre
  have hz : ∀ w ∈ zW, w.before _ s = true := fun w h => hts w (List.mem_cons_of_mem _ h)
  have hown : s.vm.findClass RX11 = some m.cls := findClass_of_methodNamed B.named
  have hlocks := B.notSynchronized
  obtain ⟨hO, hA, hS1, h8⟩ := id hP
  have hl := lv_entry ([.ref (o), .int (nI (e)), .long (lN (pkW w))]) (n := 7) (Nat.le_of_ble_eq_true rfl)
  rw [lg_entry_eq]
  generalize (lg_sl ([.ref (o), .int (nI (e)), .long (lN (pkW w))]) ++ List.replicate (7 - (lg_sl ([.ref (o), .int (nI (e)), .long (lN (pkW w))])).length) Slot.unset).toArray = ls at hl ⊢
  have hl : lv_has ls 7 [(0, .ref (o)), (1, .int (nI (e))), (2, .long (lN (pkW w)))] := hl
  refine lv_lload_n hx hb dX11_isNamed_0 rfl (lv_at hl 2 rfl) ?_
  refine lv_lstore (lv' := [(4, .long (lN (pkW w))), (0, .ref (o)), (1, .int (nI (e))), (2, .long (lN (pkW w)))]) hx hb dX11_isNamed_1 hl (by decide) rfl (fun ls hl => ?_)
  refine lv_iload_n hx hb dX11_isNamed_3 rfl (lv_at hl 2 rfl) ?_
  refine lv_iconst (v := nI 1) hx hb dX11_isNamed_4 (by decide) ?_
  refine zi_add hx hb dX11_isNamed_5 ?_
  refine lv_istore (lv' := [(6, .int (nI (e + 1))), (4, .long (lN (pkW w))), (0, .ref (o)), (1, .int (nI (e))), (2, .long (lN (pkW w)))]) hx hb dX11_isNamed_6 hl (by decide) rfl (fun ls hl => ?_)
  have L8 : ∀ (n_ : Nat) (k : Nat) (v : List Nat), v.length < n_ → e + 1 ≤ k → k ≤ ne f e → okL v → v.length ≤ 7 → isW f (e + 1) w = isW f k v → ∀ ls : Array Slot, lv_has ls 7 [(0, .ref (o)), (4, .long (lN (pkW v))), (6, .int (nI (k)))] → W p l en (headSpec wsX11_isNamed ({ frames := 0, cells := 0, slots := 0, locals := 0 })).room s m ([.ref (o), .int (nI (e)), .long (lN (pkW w))] : List Value).toArray below meth c s.heap [] 0 0 (MQ below (zR (.int (nI (nB (isW f (e + 1) w))))) ([.ref (o), .int (nI (e)), .long (lN (pkW w))] : List Value).toArray s 0 0 (fun _ => False)) (F0 m 8 ls []) := by
    intro n_
    induction n_ with
    | zero => intro k v hm_; exact absurd hm_ (Nat.not_lt_zero _)
    | succ n_ ih_ =>
      intro k v hm_ h1 h2 hv hv7 hs ls hl
      refine lv_lload hx hb dX11_isNamed_8 (lv_at hl 1 rfl) ?_
      refine lv_lconst (v := 0) hx hb dX11_isNamed_10 (by decide) ?_
      refine W.lcmp hx hb dX11_isNamed_11 ?_
      refine lv_if_le (tgt := 45) hx hb dX11_isNamed_12 (by decide) (fun c_12 => ?_) (fun c_12 => ?_)
      · have hw0 : v = [] := pkW_0 hv ((lN_le0 (pkW_lt7 hv hv7)).mp ((lg_cmp_le _ _).mp c_12))
        subst hw0
        refine lv_lload hx hb dX11_isNamed_45 (lv_at hl 1 rfl) ?_
        refine lv_lconst (v := 0) hx hb dX11_isNamed_47 (by decide) ?_
        refine W.lcmp hx hb dX11_isNamed_48 ?_
        refine lv_if_ne (tgt := 66) hx hb dX11_isNamed_49 (by decide) (fun c_49 => ?_) (fun c_49 => ?_)
        · refine lv_iconst (v := nI 0) hx hb dX11_isNamed_66 (by decide) ?_
          exact zr_z hx hb hr hlocks (by first | (rw [hf]; rfl) | (rw [hs]; simp [isW, c_59, nB]; done) | exact absurd (by decide) c_49 | exact absurd ((lg_cmp_eq _ _).mp c_49) (fun q => hw0 ((lN_eq0 (pkW_lt7 hv hv7)).mp q))) dX11_isNamed_67
        · refine lv_aload_n hx hb dX11_isNamed_52 rfl (lv_at hl 0 rfl) ?_
          refine zi_get (C := RX11) (T := TX11) (N := 23) (v := .ref (qs)) hx hb hz wo_X11 hown hK hO rfl 1 (by decide) (hz _ wf_X11_7) (fun _ h9 => h9) hS1 dX11_isNamed_53 ?_
          refine lv_iload hx hb dX11_isNamed_56 (lv_at hl 2 rfl) ?_
          refine zi_ald hx hb hK hA (Nat.lt_of_le_of_lt h2 hok.2) (by decide) dX11_isNamed_58 ?_
          refine zi_if_ne (tgt := 66) hx hb dX11_isNamed_59 (by decide) (Nat.lt_trans (h8 _) (by decide)) (fun c_59 => ?_) (fun c_59 => ?_)
          · refine lv_iconst (v := nI 0) hx hb dX11_isNamed_66 (by decide) ?_
            exact zr_z hx hb hr hlocks (by first | (rw [hf]; rfl) | (rw [hs]; simp [isW, c_59, nB]; done) | exact absurd (by decide) c_49 | exact absurd ((lg_cmp_eq _ _).mp c_49) (fun q => hw0 ((lN_eq0 (pkW_lt7 hv hv7)).mp q))) dX11_isNamed_67
          · refine lv_iconst (v := nI 1) hx hb dX11_isNamed_62 (by decide) ?_
            refine lv_goto (tgt := 67) hx hb dX11_isNamed_63 (by decide) ?_
            exact zr_z hx hb hr hlocks (by first | (rw [hf]; rfl) | (rw [hs]; simp [isW, c_59, nB]; done) | exact absurd (by decide) c_49 | exact absurd ((lg_cmp_eq _ _).mp c_49) (fun q => hw0 ((lN_eq0 (pkW_lt7 hv hv7)).mp q))) dX11_isNamed_67
      · have hw0 : pkW v ≠ 0 := fun q => c_12 ((lg_cmp_le _ _).mpr ((lN_le0 (pkW_lt7 hv hv7)).mpr q))
        obtain ⟨x, v, rfl⟩ : ∃ x u, v = x :: u := by
          cases v with
          | nil => exact absurd rfl hw0
          | cons x u => exact ⟨x, u, rfl⟩
        have hx1 := hv x List.mem_cons_self
        have hb1 : x + 256 * pkW v < 2 ^ 62 := pkW_lt7 hv hv7
        refine lv_aload_n hx hb dX11_isNamed_15 rfl (lv_at hl 0 rfl) ?_
        refine zi_get (C := RX11) (T := TX11) (N := 23) (v := .ref (qs)) hx hb hz wo_X11 hown hK hO rfl 1 (by decide) (hz _ wf_X11_7) (fun _ h9 => h9) hS1 dX11_isNamed_16 ?_
        refine lv_iload hx hb dX11_isNamed_19 (lv_at hl 2 rfl) ?_
        refine zi_ald hx hb hK hA (Nat.lt_of_le_of_lt h2 hok.2) (by decide) dX11_isNamed_21 ?_
        refine lv_lload hx hb dX11_isNamed_22 (lv_at hl 1 rfl) ?_
        refine lv_ldc2 (v := 255) hx hb hown (hz _ wk_X11_143) dX11_isNamed_24 ?_
        refine lv_land hx hb dX11_isNamed_27 ?_
        refine lv_l2i (v := nI (x)) hx hb dX11_isNamed_28 (z_lowI hx1.2 hb1) ?_
        refine zi_icmp_ne (tgt := 45) hx hb dX11_isNamed_29 (by decide) (Nat.lt_trans (h8 _) (by decide)) (by omega) (fun c_29 => ?_) (fun c_29 => ?_)
        · have hf : isW f (e + 1) w = false := by rw [hs]; simp [isW, c_29]
          refine lv_lload hx hb dX11_isNamed_45 (lv_at hl 1 rfl) ?_
          refine lv_lconst (v := 0) hx hb dX11_isNamed_47 (by decide) ?_
          refine W.lcmp hx hb dX11_isNamed_48 ?_
          refine lv_if_ne (tgt := 66) hx hb dX11_isNamed_49 (by decide) (fun c_49 => ?_) (fun c_49 => ?_)
          · refine lv_iconst (v := nI 0) hx hb dX11_isNamed_66 (by decide) ?_
            exact zr_z hx hb hr hlocks (by first | (rw [hf]; rfl) | (rw [hs]; simp [isW, c_59, nB]; done) | exact absurd (by decide) c_49 | exact absurd ((lg_cmp_eq _ _).mp c_49) (fun q => hw0 ((lN_eq0 (pkW_lt7 hv hv7)).mp q))) dX11_isNamed_67
          · refine lv_aload_n hx hb dX11_isNamed_52 rfl (lv_at hl 0 rfl) ?_
            refine zi_get (C := RX11) (T := TX11) (N := 23) (v := .ref (qs)) hx hb hz wo_X11 hown hK hO rfl 1 (by decide) (hz _ wf_X11_7) (fun _ h9 => h9) hS1 dX11_isNamed_53 ?_
            refine lv_iload hx hb dX11_isNamed_56 (lv_at hl 2 rfl) ?_
            refine zi_ald hx hb hK hA (Nat.lt_of_le_of_lt h2 hok.2) (by decide) dX11_isNamed_58 ?_
            refine zi_if_ne (tgt := 66) hx hb dX11_isNamed_59 (by decide) (Nat.lt_trans (h8 _) (by decide)) (fun c_59 => ?_) (fun c_59 => ?_)
            · refine lv_iconst (v := nI 0) hx hb dX11_isNamed_66 (by decide) ?_
              exact zr_z hx hb hr hlocks (by first | (rw [hf]; rfl) | (rw [hs]; simp [isW, c_59, nB]; done) | exact absurd (by decide) c_49 | exact absurd ((lg_cmp_eq _ _).mp c_49) (fun q => hw0 ((lN_eq0 (pkW_lt7 hv hv7)).mp q))) dX11_isNamed_67
            · refine lv_iconst (v := nI 1) hx hb dX11_isNamed_62 (by decide) ?_
              refine lv_goto (tgt := 67) hx hb dX11_isNamed_63 (by decide) ?_
              exact zr_z hx hb hr hlocks (by first | (rw [hf]; rfl) | (rw [hs]; simp [isW, c_59, nB]; done) | exact absurd (by decide) c_49 | exact absurd ((lg_cmp_eq _ _).mp c_49) (fun q => hw0 ((lN_eq0 (pkW_lt7 hv hv7)).mp q))) dX11_isNamed_67
        · have h2' : k + 1 ≤ ne f e := by
            rcases Nat.lt_or_ge k (ne f e) with q | q
            · exact q
            · have : f k = 0 := by rw [show k = ne f e by omega]; exact hok.1
              omega
          refine lv_lload hx hb dX11_isNamed_32 (lv_at hl 1 rfl) ?_
          refine lv_bipush (v := nI 8) hx hb dX11_isNamed_34 (by decide) ?_
          refine lv_lshr (v := lN (pkW v)) hx hb dX11_isNamed_36 (z_shr8 hx1.2 hb1) ?_
          refine lv_lstore (lv' := [(4, .long (lN (pkW v))), (0, .ref (o)), (6, .int (nI (k)))]) hx hb dX11_isNamed_37 hl (by decide) rfl (fun ls hl => ?_)
          refine lv_iinc (v := nI (k + 1)) (lv' := [(6, .int (nI (k + 1))), (4, .long (lN (pkW v))), (0, .ref (o))]) hx hb dX11_isNamed_39 hl (k := 2) rfl (nI_add _ _) (by decide) rfl (fun ls hl => ?_)
          refine lv_goto (tgt := 8) hx hb dX11_isNamed_42 (by decide) ?_
          exact ih_ (k + 1) v (by simp at hm_; omega) (by omega) h2' (fun y hy => hv y (List.mem_cons_of_mem _ hy)) (by simp at hv7; omega) (by rw [hs]; simp [isW, c_29]) ls (lv_sub hl [2, 1, 0] rfl)
  exact L8 ((w.length) + 1) (e + 1) w (Nat.lt_succ_self _) (Nat.le_refl _) (ne_gt f e) hw hw7 rfl ls (lv_sub hl [2, 1, 0] rfl)

set_option maxHeartbeats 4000000 in
set_option maxRecDepth 100000 in
theorem m_isConditions (l : Launch) (G : zG) (o qs : Nat) (fs : List Value) (f : Nat → Nat) (k a : Nat) (hk : k < 2 ^ 31) (ha : k = 3 → a + 5 < 18000) : Met l yX11_isConditions wsX11_isConditions ({ frames := 1, cells := 0, slots := 0, locals := 21 }) (zP G [.ref (o), .int (nI (k)), .int (nI (a))] (fun H => MV G o qs fs f H)) (zR (.int (nI (nB (isC f k a))))) 0 0 (fun _ => False) := by
  refine Met.ofW (cc := cX11_isConditions) (maxL := 3) (ret := (some .boolean)) (by decide) rfl ?_
  intro p en s m args below meth c s₁ B hml hv
  obtain ⟨rfl, hP, hK⟩ := hv
  have hx := B.exec
  have hb := B.bytes
  have hr := B.returns
  have hts := atoms_spec (ws := wsX11_isConditions) B.pre
  have hz : ∀ w ∈ zW, w.before _ s = true := fun w h => hts w (List.mem_cons_of_mem _ h)
  have hown : s.vm.findClass RX11 = some m.cls := findClass_of_methodNamed B.named
  have hlocks := B.notSynchronized
  obtain ⟨hO, hA, hS1, h8⟩ := id hP
  have hl := lv_entry ([.ref (o), .int (nI (k)), .int (nI (a))]) (n := 3) (Nat.le_of_ble_eq_true rfl)
  rw [lg_entry_eq]
  generalize (lg_sl ([.ref (o), .int (nI (k)), .int (nI (a))]) ++ List.replicate (3 - (lg_sl ([.ref (o), .int (nI (k)), .int (nI (a))])).length) Slot.unset).toArray = ls at hl ⊢
  have hl : lv_has ls 3 [(0, .ref (o)), (1, .int (nI (k))), (2, .int (nI (a)))] := hl
  refine lv_iload_n hx hb dX11_isConditions_0 rfl (lv_at hl 1 rfl) ?_
  refine lv_iconst (v := nI 3) hx hb dX11_isConditions_1 (by decide) ?_
  refine zi_icmp_ne (tgt := 29) hx hb dX11_isConditions_2 (by decide) (by omega) (by omega) (fun c_2 => ?_) (fun c_2 => ?_)
  · refine lv_iconst (v := nI 0) hx hb dX11_isConditions_29 (by decide) ?_
    exact zr_z hx hb hr hlocks (by simp_all [isC, nB]) dX11_isConditions_30
  · refine lv_aload_n hx hb dX11_isConditions_5 rfl (lv_at hl 0 rfl) ?_
    refine lv_iload_n hx hb dX11_isConditions_6 rfl (lv_at hl 2 rfl) ?_
    refine zc_V (As := [.int (nI (a))]) (rest := []) ⟨hx, hb, hml, hown, hts⟩ (m_firstOf l G o qs fs f a (by have := ha c_2; omega)) (cwV 1 hts (zgV wm_X11_137 wv_X11_firstOf) rfl rfl rfl (by decide +kernel) ⟨Nat.le_of_ble_eq_true rfl, Nat.le_of_ble_eq_true rfl⟩) hK hO rfl hP rfl hl.1 rfl (Nat.le_of_ble_eq_true rfl) dX11_isConditions_7 ⟨Nat.zero_le _, Nat.zero_le _⟩ ?_
    refine zi_if_le (tgt := 29) hx hb dX11_isConditions_10 (by decide) (by have := ha c_2; have := fi_le f a; omega) (fun c_10 => ?_) (fun c_10 => ?_)
    · refine lv_iconst (v := nI 0) hx hb dX11_isConditions_29 (by decide) ?_
      exact zr_z hx hb hr hlocks (by simp_all [isC, nB]) dX11_isConditions_30
    · refine lv_aload_n hx hb dX11_isConditions_13 rfl (lv_at hl 0 rfl) ?_
      refine lv_aload_n hx hb dX11_isConditions_14 rfl (lv_at hl 0 rfl) ?_
      refine lv_iload_n hx hb dX11_isConditions_15 rfl (lv_at hl 2 rfl) ?_
      refine zc_V (As := [.int (nI (a))]) (rest := [.ref (o)]) ⟨hx, hb, hml, hown, hts⟩ (m_firstOf l G o qs fs f a (by have := ha c_2; omega)) (cwV 1 hts (zgV wm_X11_137 wv_X11_firstOf) rfl rfl rfl (by decide +kernel) ⟨Nat.le_of_ble_eq_true rfl, Nat.le_of_ble_eq_true rfl⟩) hK hO rfl hP rfl hl.1 rfl (Nat.le_of_ble_eq_true rfl) dX11_isConditions_16 ⟨Nat.zero_le _, Nat.zero_le _⟩ ?_
      refine zc_V (As := [.int (nI (fi f a))]) (rest := []) ⟨hx, hb, hml, hown, hts⟩ (m_isDollar l G o qs fs f (fi f a) (by have := ha c_2; have := fi_le f a; omega)) (cwV 1 hts (zgV wm_X11_145 wv_X11_isDollar) rfl rfl rfl (by decide +kernel) ⟨Nat.le_of_ble_eq_true rfl, Nat.le_of_ble_eq_true rfl⟩) hK hO rfl hP rfl hl.1 rfl (Nat.le_of_ble_eq_true rfl) dX11_isConditions_19 ⟨Nat.zero_le _, Nat.zero_le _⟩ ?_
      refine zb_if_eq (tgt := 29) hx hb dX11_isConditions_22 (by decide) (fun c_22 => ?_) (fun c_22 => ?_)
      · refine lv_iconst (v := nI 0) hx hb dX11_isConditions_29 (by decide) ?_
        exact zr_z hx hb hr hlocks (by simp_all [isC, nB]) dX11_isConditions_30
      · refine lv_iconst (v := nI 1) hx hb dX11_isConditions_25 (by decide) ?_
        refine lv_goto (tgt := 30) hx hb dX11_isConditions_26 (by decide) ?_
        exact zr_z hx hb hr hlocks (by simp_all [isC, nB]) dX11_isConditions_30

set_option maxHeartbeats 4000000 in
set_option maxRecDepth 100000 in
theorem m_isAnd (l : Launch) (G : zG) (o qs : Nat) (fs : List Value) (f : Nat → Nat) (e : Nat) (hok : okN 18000 f e) : Met l yX11_isAnd wsX11_isAnd ({ frames := 1, cells := 0, slots := 0, locals := 26 }) (zP G [.ref (o), .int (nI (e))] (fun H => MV G o qs fs f H)) (zR (.int (nI (nB (isA f e wAnd))))) 0 0 (fun _ => False) := by
  refine Met.ofW (cc := cX11_isAnd) (maxL := 2) (ret := (some .boolean)) (by decide) rfl ?_
  intro p en s m args below meth c s₁ B hml hv
  obtain ⟨rfl, hP, hK⟩ := hv
  have hx := B.exec
  have hb := B.bytes
  have hr := B.returns
  have hts := atoms_spec (ws := wsX11_isAnd) B.pre
  have hz : ∀ w ∈ zW, w.before _ s = true := fun w h => hts w (List.mem_cons_of_mem _ h)
  have hown : s.vm.findClass RX11 = some m.cls := findClass_of_methodNamed B.named
  have hlocks := B.notSynchronized
  obtain ⟨hO, hA, hS1, h8⟩ := id hP
  have hl := lv_entry ([.ref (o), .int (nI (e))]) (n := 2) (Nat.le_of_ble_eq_true rfl)
  rw [lg_entry_eq]
  generalize (lg_sl ([.ref (o), .int (nI (e))]) ++ List.replicate (2 - (lg_sl ([.ref (o), .int (nI (e))])).length) Slot.unset).toArray = ls at hl ⊢
  have hl : lv_has ls 2 [(0, .ref (o)), (1, .int (nI (e)))] := hl
  refine lv_aload_n hx hb dX11_isAnd_0 rfl (lv_at hl 0 rfl) ?_
  refine lv_iload_n hx hb dX11_isAnd_1 rfl (lv_at hl 1 rfl) ?_
  refine lv_ldc2 (v := 1684955428) hx hb hown (hz _ wk_X11_148) dX11_isAnd_2 ?_
  refine zc_V (As := [.int (nI (e)), .long (1684955428)]) (rest := []) ⟨hx, hb, hml, hown, hts⟩ (m_isNamed l G o qs fs f e wAnd (by unfold okL; decide) (by decide) hok) (cwV 2 hts (zgV wm_X11_150 wv_X11_isNamed) rfl rfl rfl (by decide +kernel) ⟨Nat.le_of_ble_eq_true rfl, Nat.le_of_ble_eq_true rfl⟩) hK hO rfl hP rfl hl.1 rfl (Nat.le_of_ble_eq_true rfl) dX11_isAnd_5 ⟨Nat.zero_le _, Nat.zero_le _⟩ ?_
  exact zr_z hx hb hr hlocks (rfl) dX11_isAnd_8

set_option maxHeartbeats 4000000 in
set_option maxRecDepth 100000 in
theorem m_isOr (l : Launch) (G : zG) (o qs : Nat) (fs : List Value) (f : Nat → Nat) (e : Nat) (hok : okN 18000 f e) : Met l yX11_isOr wsX11_isOr ({ frames := 1, cells := 0, slots := 0, locals := 26 }) (zP G [.ref (o), .int (nI (e))] (fun H => MV G o qs fs f H)) (zR (.int (nI (nB (isA f e wOr))))) 0 0 (fun _ => False) := by
  refine Met.ofW (cc := cX11_isOr) (maxL := 2) (ret := (some .boolean)) (by decide) rfl ?_
  intro p en s m args below meth c s₁ B hml hv
  obtain ⟨rfl, hP, hK⟩ := hv
  have hx := B.exec
  have hb := B.bytes
  have hr := B.returns
  have hts := atoms_spec (ws := wsX11_isOr) B.pre
  have hz : ∀ w ∈ zW, w.before _ s = true := fun w h => hts w (List.mem_cons_of_mem _ h)
  have hown : s.vm.findClass RX11 = some m.cls := findClass_of_methodNamed B.named
  have hlocks := B.notSynchronized
  obtain ⟨hO, hA, hS1, h8⟩ := id hP
  have hl := lv_entry ([.ref (o), .int (nI (e))]) (n := 2) (Nat.le_of_ble_eq_true rfl)
  rw [lg_entry_eq]
  generalize (lg_sl ([.ref (o), .int (nI (e))]) ++ List.replicate (2 - (lg_sl ([.ref (o), .int (nI (e))])).length) Slot.unset).toArray = ls at hl ⊢
  have hl : lv_has ls 2 [(0, .ref (o)), (1, .int (nI (e)))] := hl
  refine lv_aload_n hx hb dX11_isOr_0 rfl (lv_at hl 0 rfl) ?_
  refine lv_iload_n hx hb dX11_isOr_1 rfl (lv_at hl 1 rfl) ?_
  refine lv_ldc2 (v := 7499556) hx hb hown (hz _ wk_X11_154) dX11_isOr_2 ?_
  refine zc_V (As := [.int (nI (e)), .long (7499556)]) (rest := []) ⟨hx, hb, hml, hown, hts⟩ (m_isNamed l G o qs fs f e wOr (by unfold okL; decide) (by decide) hok) (cwV 2 hts (zgV wm_X11_150 wv_X11_isNamed) rfl rfl rfl (by decide +kernel) ⟨Nat.le_of_ble_eq_true rfl, Nat.le_of_ble_eq_true rfl⟩) hK hO rfl hP rfl hl.1 rfl (Nat.le_of_ble_eq_true rfl) dX11_isOr_5 ⟨Nat.zero_le _, Nat.zero_le _⟩ ?_
  exact zr_z hx hb hr hlocks (rfl) dX11_isOr_8

set_option maxHeartbeats 4000000 in
set_option maxRecDepth 100000 in
theorem m_isNor (l : Launch) (G : zG) (o qs : Nat) (fs : List Value) (f : Nat → Nat) (e : Nat) (hok : okN 18000 f e) : Met l yX11_isNor wsX11_isNor ({ frames := 1, cells := 0, slots := 0, locals := 26 }) (zP G [.ref (o), .int (nI (e))] (fun H => MV G o qs fs f H)) (zR (.int (nI (nB (isA f e wNor))))) 0 0 (fun _ => False) := by
  refine Met.ofW (cc := cX11_isNor) (maxL := 2) (ret := (some .boolean)) (by decide) rfl ?_
  intro p en s m args below meth c s₁ B hml hv
  obtain ⟨rfl, hP, hK⟩ := hv
  have hx := B.exec
  have hb := B.bytes
  have hr := B.returns
  have hts := atoms_spec (ws := wsX11_isNor) B.pre
  have hz : ∀ w ∈ zW, w.before _ s = true := fun w h => hts w (List.mem_cons_of_mem _ h)
  have hown : s.vm.findClass RX11 = some m.cls := findClass_of_methodNamed B.named
  have hlocks := B.notSynchronized
  obtain ⟨hO, hA, hS1, h8⟩ := id hP
  have hl := lv_entry ([.ref (o), .int (nI (e))]) (n := 2) (Nat.le_of_ble_eq_true rfl)
  rw [lg_entry_eq]
  generalize (lg_sl ([.ref (o), .int (nI (e))]) ++ List.replicate (2 - (lg_sl ([.ref (o), .int (nI (e))])).length) Slot.unset).toArray = ls at hl ⊢
  have hl : lv_has ls 2 [(0, .ref (o)), (1, .int (nI (e)))] := hl
  refine lv_aload_n hx hb dX11_isNor_0 rfl (lv_at hl 0 rfl) ?_
  refine lv_iload_n hx hb dX11_isNor_1 rfl (lv_at hl 1 rfl) ?_
  refine lv_ldc2 (v := 1919905316) hx hb hown (hz _ wk_X11_156) dX11_isNor_2 ?_
  refine zc_V (As := [.int (nI (e)), .long (1919905316)]) (rest := []) ⟨hx, hb, hml, hown, hts⟩ (m_isNamed l G o qs fs f e wNor (by unfold okL; decide) (by decide) hok) (cwV 2 hts (zgV wm_X11_150 wv_X11_isNamed) rfl rfl rfl (by decide +kernel) ⟨Nat.le_of_ble_eq_true rfl, Nat.le_of_ble_eq_true rfl⟩) hK hO rfl hP rfl hl.1 rfl (Nat.le_of_ble_eq_true rfl) dX11_isNor_5 ⟨Nat.zero_le _, Nat.zero_le _⟩ ?_
  exact zr_z hx hb hr hlocks (rfl) dX11_isNor_8

set_option maxHeartbeats 4000000 in
set_option maxRecDepth 100000 in
theorem m_isJoin (l : Launch) (G : zG) (o qs : Nat) (fs : List Value) (f : Nat → Nat) (e : Nat) (hok : okN 18000 f e) : Met l yX11_isJoin wsX11_isJoin ({ frames := 2, cells := 0, slots := 0, locals := 47 }) (zP G [.ref (o), .int (nI (e))] (fun H => MV G o qs fs f H)) (zR (.int (nI (nB (isJ f e))))) 0 0 (fun _ => False) := by
  refine Met.ofW (cc := cX11_isJoin) (maxL := 2) (ret := (some .boolean)) (by decide) rfl ?_
  intro p en s m args below meth c s₁ B hml hv
  obtain ⟨rfl, hP, hK⟩ := hv
  have hx := B.exec
  have hb := B.bytes
  have hr := B.returns
  have hts := atoms_spec (ws := wsX11_isJoin) B.pre
  have hz : ∀ w ∈ zW, w.before _ s = true := fun w h => hts w (List.mem_cons_of_mem _ h)
  have hown : s.vm.findClass RX11 = some m.cls := findClass_of_methodNamed B.named
  have hlocks := B.notSynchronized
  obtain ⟨hO, hA, hS1, h8⟩ := id hP
  have hl := lv_entry ([.ref (o), .int (nI (e))]) (n := 2) (Nat.le_of_ble_eq_true rfl)
  rw [lg_entry_eq]
  generalize (lg_sl ([.ref (o), .int (nI (e))]) ++ List.replicate (2 - (lg_sl ([.ref (o), .int (nI (e))])).length) Slot.unset).toArray = ls at hl ⊢
  have hl : lv_has ls 2 [(0, .ref (o)), (1, .int (nI (e)))] := hl
  refine lv_aload_n hx hb dX11_isJoin_0 rfl (lv_at hl 0 rfl) ?_
  refine lv_iload_n hx hb dX11_isJoin_1 rfl (lv_at hl 1 rfl) ?_
  refine zc_V (As := [.int (nI (e))]) (rest := []) ⟨hx, hb, hml, hown, hts⟩ (m_isAnd l G o qs fs f e hok) (cwV 1 hts (zgV wm_X11_158 wv_X11_isAnd) rfl rfl rfl (by decide +kernel) ⟨Nat.le_of_ble_eq_true rfl, Nat.le_of_ble_eq_true rfl⟩) hK hO rfl hP rfl hl.1 rfl (Nat.le_of_ble_eq_true rfl) dX11_isJoin_2 ⟨Nat.zero_le _, Nat.zero_le _⟩ ?_
  refine zb_if_ne (tgt := 24) hx hb dX11_isJoin_5 (by decide) (fun c_5 => ?_) (fun c_5 => ?_)
  · refine lv_iconst (v := nI 1) hx hb dX11_isJoin_24 (by decide) ?_
    refine lv_goto (tgt := 29) hx hb dX11_isJoin_25 (by decide) ?_
    exact zr_z hx hb hr hlocks (by simp_all [isJ, nB]) dX11_isJoin_29
  · refine lv_aload_n hx hb dX11_isJoin_8 rfl (lv_at hl 0 rfl) ?_
    refine lv_iload_n hx hb dX11_isJoin_9 rfl (lv_at hl 1 rfl) ?_
    refine zc_V (As := [.int (nI (e))]) (rest := []) ⟨hx, hb, hml, hown, hts⟩ (m_isOr l G o qs fs f e hok) (cwV 1 hts (zgV wm_X11_161 wv_X11_isOr) rfl rfl rfl (by decide +kernel) ⟨Nat.le_of_ble_eq_true rfl, Nat.le_of_ble_eq_true rfl⟩) hK hO rfl hP rfl hl.1 rfl (Nat.le_of_ble_eq_true rfl) dX11_isJoin_10 ⟨Nat.zero_le _, Nat.zero_le _⟩ ?_
    refine zb_if_ne (tgt := 24) hx hb dX11_isJoin_13 (by decide) (fun c_13 => ?_) (fun c_13 => ?_)
    · refine lv_iconst (v := nI 1) hx hb dX11_isJoin_24 (by decide) ?_
      refine lv_goto (tgt := 29) hx hb dX11_isJoin_25 (by decide) ?_
      exact zr_z hx hb hr hlocks (by simp_all [isJ, nB]) dX11_isJoin_29
    · refine lv_aload_n hx hb dX11_isJoin_16 rfl (lv_at hl 0 rfl) ?_
      refine lv_iload_n hx hb dX11_isJoin_17 rfl (lv_at hl 1 rfl) ?_
      refine zc_V (As := [.int (nI (e))]) (rest := []) ⟨hx, hb, hml, hown, hts⟩ (m_isNor l G o qs fs f e hok) (cwV 1 hts (zgV wm_X11_164 wv_X11_isNor) rfl rfl rfl (by decide +kernel) ⟨Nat.le_of_ble_eq_true rfl, Nat.le_of_ble_eq_true rfl⟩) hK hO rfl hP rfl hl.1 rfl (Nat.le_of_ble_eq_true rfl) dX11_isJoin_18 ⟨Nat.zero_le _, Nat.zero_le _⟩ ?_
      refine zb_if_eq (tgt := 28) hx hb dX11_isJoin_21 (by decide) (fun c_21 => ?_) (fun c_21 => ?_)
      · refine lv_iconst (v := nI 0) hx hb dX11_isJoin_28 (by decide) ?_
        exact zr_z hx hb hr hlocks (by simp_all [isJ, nB]) dX11_isJoin_29
      · refine lv_iconst (v := nI 1) hx hb dX11_isJoin_24 (by decide) ?_
        refine lv_goto (tgt := 29) hx hb dX11_isJoin_25 (by decide) ?_
        exact zr_z hx hb hr hlocks (by simp_all [isJ, nB]) dX11_isJoin_29

set_option maxHeartbeats 4000000 in
set_option maxRecDepth 100000 in
theorem m_condition (l : Launch) (G : zG) (o qs : Nat) (fs : List Value) (f : Nat → Nat) (e : Nat) (hok : okN 18000 f e) : Met l yX11_condition wsX11_condition ({ frames := 1, cells := 0, slots := 0, locals := 26 }) (zP G [.ref (o), .int (nI (e))] (fun H => MV G o qs fs f H)) (zR (.int (nI (coN f e)))) 0 0 (fun _ => False) := by
  refine Met.ofW (cc := cX11_condition) (maxL := 2) (ret := (some .int)) (by decide) rfl ?_
  intro p en s m args below meth c s₁ B hml hv
  obtain ⟨rfl, hP, hK⟩ := hv
  have hx := B.exec
  have hb := B.bytes
  have hr := B.returns
  have hts := atoms_spec (ws := wsX11_condition) B.pre
  have hz : ∀ w ∈ zW, w.before _ s = true := fun w h => hts w (List.mem_cons_of_mem _ h)
  have hown : s.vm.findClass RX11 = some m.cls := findClass_of_methodNamed B.named
  have hlocks := B.notSynchronized
  obtain ⟨hO, hA, hS1, h8⟩ := id hP
  have hl := lv_entry ([.ref (o), .int (nI (e))]) (n := 2) (Nat.le_of_ble_eq_true rfl)
  rw [lg_entry_eq]
  generalize (lg_sl ([.ref (o), .int (nI (e))]) ++ List.replicate (2 - (lg_sl ([.ref (o), .int (nI (e))])).length) Slot.unset).toArray = ls at hl ⊢
  have hl : lv_has ls 2 [(0, .ref (o)), (1, .int (nI (e)))] := hl
  refine lv_aload_n hx hb dX11_condition_0 rfl (lv_at hl 0 rfl) ?_
  refine lv_iload_n hx hb dX11_condition_1 rfl (lv_at hl 1 rfl) ?_
  refine lv_ldc2 (v := 7431460) hx hb hown (hz _ wk_X11_167) dX11_condition_2 ?_
  refine zc_V (As := [.int (nI (e)), .long (7431460)]) (rest := []) ⟨hx, hb, hml, hown, hts⟩ (m_isNamed l G o qs fs f e wEq (by unfold okL; decide) (by decide) hok) (cwV 2 hts (zgV wm_X11_150 wv_X11_isNamed) rfl rfl rfl (by decide +kernel) ⟨Nat.le_of_ble_eq_true rfl, Nat.le_of_ble_eq_true rfl⟩) hK hO rfl hP rfl hl.1 rfl (Nat.le_of_ble_eq_true rfl) dX11_condition_5 ⟨Nat.zero_le _, Nat.zero_le _⟩ ?_
  refine zb_if_eq (tgt := 13) hx hb dX11_condition_8 (by decide) (fun c_8 => ?_) (fun c_8 => ?_)
  · refine lv_aload_n hx hb dX11_condition_13 rfl (lv_at hl 0 rfl) ?_
    refine lv_iload_n hx hb dX11_condition_14 rfl (lv_at hl 1 rfl) ?_
    refine lv_ldc2 (v := 6647332) hx hb hown (hz _ wk_X11_169) dX11_condition_15 ?_
    refine zc_V (As := [.int (nI (e)), .long (6647332)]) (rest := []) ⟨hx, hb, hml, hown, hts⟩ (m_isNamed l G o qs fs f e wNe (by unfold okL; decide) (by decide) hok) (cwV 2 hts (zgV wm_X11_150 wv_X11_isNamed) rfl rfl rfl (by decide +kernel) ⟨Nat.le_of_ble_eq_true rfl, Nat.le_of_ble_eq_true rfl⟩) hK hO rfl hP rfl hl.1 rfl (Nat.le_of_ble_eq_true rfl) dX11_condition_18 ⟨Nat.zero_le _, Nat.zero_le _⟩ ?_
    refine zb_if_eq (tgt := 26) hx hb dX11_condition_21 (by decide) (fun c_21 => ?_) (fun c_21 => ?_)
    · refine lv_aload_n hx hb dX11_condition_26 rfl (lv_at hl 0 rfl) ?_
      refine lv_iload_n hx hb dX11_condition_27 rfl (lv_at hl 1 rfl) ?_
      refine lv_ldc2 (v := 7235876) hx hb hown (hz _ wk_X11_171) dX11_condition_28 ?_
      refine zc_V (As := [.int (nI (e)), .long (7235876)]) (rest := []) ⟨hx, hb, hml, hown, hts⟩ (m_isNamed l G o qs fs f e wIn (by unfold okL; decide) (by decide) hok) (cwV 2 hts (zgV wm_X11_150 wv_X11_isNamed) rfl rfl rfl (by decide +kernel) ⟨Nat.le_of_ble_eq_true rfl, Nat.le_of_ble_eq_true rfl⟩) hK hO rfl hP rfl hl.1 rfl (Nat.le_of_ble_eq_true rfl) dX11_condition_31 ⟨Nat.zero_le _, Nat.zero_le _⟩ ?_
      refine zb_if_eq (tgt := 39) hx hb dX11_condition_34 (by decide) (fun c_34 => ?_) (fun c_34 => ?_)
      · refine lv_aload_n hx hb dX11_condition_39 rfl (lv_at hl 0 rfl) ?_
        refine lv_iload_n hx hb dX11_condition_40 rfl (lv_at hl 1 rfl) ?_
        refine lv_ldc2 (v := 1852403236) hx hb hown (hz _ wk_X11_173) dX11_condition_41 ?_
        refine zc_V (As := [.int (nI (e)), .long (1852403236)]) (rest := []) ⟨hx, hb, hml, hown, hts⟩ (m_isNamed l G o qs fs f e wNin (by unfold okL; decide) (by decide) hok) (cwV 2 hts (zgV wm_X11_150 wv_X11_isNamed) rfl rfl rfl (by decide +kernel) ⟨Nat.le_of_ble_eq_true rfl, Nat.le_of_ble_eq_true rfl⟩) hK hO rfl hP rfl hl.1 rfl (Nat.le_of_ble_eq_true rfl) dX11_condition_44 ⟨Nat.zero_le _, Nat.zero_le _⟩ ?_
        refine zb_if_eq (tgt := 52) hx hb dX11_condition_47 (by decide) (fun c_47 => ?_) (fun c_47 => ?_)
        · refine lv_aload_n hx hb dX11_condition_52 rfl (lv_at hl 0 rfl) ?_
          refine lv_iload_n hx hb dX11_condition_53 rfl (lv_at hl 1 rfl) ?_
          refine lv_ldc2 (v := 7629860) hx hb hown (hz _ wk_X11_175) dX11_condition_54 ?_
          refine zc_V (As := [.int (nI (e)), .long (7629860)]) (rest := []) ⟨hx, hb, hml, hown, hts⟩ (m_isNamed l G o qs fs f e wLt (by unfold okL; decide) (by decide) hok) (cwV 2 hts (zgV wm_X11_150 wv_X11_isNamed) rfl rfl rfl (by decide +kernel) ⟨Nat.le_of_ble_eq_true rfl, Nat.le_of_ble_eq_true rfl⟩) hK hO rfl hP rfl hl.1 rfl (Nat.le_of_ble_eq_true rfl) dX11_condition_57 ⟨Nat.zero_le _, Nat.zero_le _⟩ ?_
          refine zb_if_eq (tgt := 65) hx hb dX11_condition_60 (by decide) (fun c_60 => ?_) (fun c_60 => ?_)
          · refine lv_aload_n hx hb dX11_condition_65 rfl (lv_at hl 0 rfl) ?_
            refine lv_iload_n hx hb dX11_condition_66 rfl (lv_at hl 1 rfl) ?_
            refine lv_ldc2 (v := 1702128676) hx hb hown (hz _ wk_X11_177) dX11_condition_67 ?_
            refine zc_V (As := [.int (nI (e)), .long (1702128676)]) (rest := []) ⟨hx, hb, hml, hown, hts⟩ (m_isNamed l G o qs fs f e wLte (by unfold okL; decide) (by decide) hok) (cwV 2 hts (zgV wm_X11_150 wv_X11_isNamed) rfl rfl rfl (by decide +kernel) ⟨Nat.le_of_ble_eq_true rfl, Nat.le_of_ble_eq_true rfl⟩) hK hO rfl hP rfl hl.1 rfl (Nat.le_of_ble_eq_true rfl) dX11_condition_70 ⟨Nat.zero_le _, Nat.zero_le _⟩ ?_
            refine zb_if_eq (tgt := 79) hx hb dX11_condition_73 (by decide) (fun c_73 => ?_) (fun c_73 => ?_)
            · refine lv_aload_n hx hb dX11_condition_79 rfl (lv_at hl 0 rfl) ?_
              refine lv_iload_n hx hb dX11_condition_80 rfl (lv_at hl 1 rfl) ?_
              refine lv_ldc2 (v := 7628580) hx hb hown (hz _ wk_X11_179) dX11_condition_81 ?_
              refine zc_V (As := [.int (nI (e)), .long (7628580)]) (rest := []) ⟨hx, hb, hml, hown, hts⟩ (m_isNamed l G o qs fs f e wGt (by unfold okL; decide) (by decide) hok) (cwV 2 hts (zgV wm_X11_150 wv_X11_isNamed) rfl rfl rfl (by decide +kernel) ⟨Nat.le_of_ble_eq_true rfl, Nat.le_of_ble_eq_true rfl⟩) hK hO rfl hP rfl hl.1 rfl (Nat.le_of_ble_eq_true rfl) dX11_condition_84 ⟨Nat.zero_le _, Nat.zero_le _⟩ ?_
              refine zb_if_eq (tgt := 93) hx hb dX11_condition_87 (by decide) (fun c_87 => ?_) (fun c_87 => ?_)
              · refine lv_aload_n hx hb dX11_condition_93 rfl (lv_at hl 0 rfl) ?_
                refine lv_iload_n hx hb dX11_condition_94 rfl (lv_at hl 1 rfl) ?_
                refine lv_ldc2 (v := 1702127396) hx hb hown (hz _ wk_X11_181) dX11_condition_95 ?_
                refine zc_V (As := [.int (nI (e)), .long (1702127396)]) (rest := []) ⟨hx, hb, hml, hown, hts⟩ (m_isNamed l G o qs fs f e wGte (by unfold okL; decide) (by decide) hok) (cwV 2 hts (zgV wm_X11_150 wv_X11_isNamed) rfl rfl rfl (by decide +kernel) ⟨Nat.le_of_ble_eq_true rfl, Nat.le_of_ble_eq_true rfl⟩) hK hO rfl hP rfl hl.1 rfl (Nat.le_of_ble_eq_true rfl) dX11_condition_98 ⟨Nat.zero_le _, Nat.zero_le _⟩ ?_
                refine zb_if_eq (tgt := 107) hx hb dX11_condition_101 (by decide) (fun c_101 => ?_) (fun c_101 => ?_)
                · refine lv_aload_n hx hb dX11_condition_107 rfl (lv_at hl 0 rfl) ?_
                  refine lv_iload_n hx hb dX11_condition_108 rfl (lv_at hl 1 rfl) ?_
                  refine lv_ldc2 (v := 32497661361284388) hx hb hown (hz _ wk_X11_183) dX11_condition_109 ?_
                  refine zc_V (As := [.int (nI (e)), .long (32497661361284388)]) (rest := []) ⟨hx, hb, hml, hown, hts⟩ (m_isNamed l G o qs fs f e wExists (by unfold okL; decide) (by decide) hok) (cwV 2 hts (zgV wm_X11_150 wv_X11_isNamed) rfl rfl rfl (by decide +kernel) ⟨Nat.le_of_ble_eq_true rfl, Nat.le_of_ble_eq_true rfl⟩) hK hO rfl hP rfl hl.1 rfl (Nat.le_of_ble_eq_true rfl) dX11_condition_112 ⟨Nat.zero_le _, Nat.zero_le _⟩ ?_
                  refine zb_if_eq (tgt := 121) hx hb dX11_condition_115 (by decide) (fun c_115 => ?_) (fun c_115 => ?_)
                  · refine lv_aload_n hx hb dX11_condition_121 rfl (lv_at hl 0 rfl) ?_
                    refine lv_iload_n hx hb dX11_condition_122 rfl (lv_at hl 1 rfl) ?_
                    refine lv_ldc2 (v := 435845428004) hx hb hown (hz _ wk_X11_185) dX11_condition_123 ?_
                    refine zc_V (As := [.int (nI (e)), .long (435845428004)]) (rest := []) ⟨hx, hb, hml, hown, hts⟩ (m_isNamed l G o qs fs f e wSize (by unfold okL; decide) (by decide) hok) (cwV 2 hts (zgV wm_X11_150 wv_X11_isNamed) rfl rfl rfl (by decide +kernel) ⟨Nat.le_of_ble_eq_true rfl, Nat.le_of_ble_eq_true rfl⟩) hK hO rfl hP rfl hl.1 rfl (Nat.le_of_ble_eq_true rfl) dX11_condition_126 ⟨Nat.zero_le _, Nat.zero_le _⟩ ?_
                    refine zb_if_eq (tgt := 135) hx hb dX11_condition_129 (by decide) (fun c_129 => ?_) (fun c_129 => ?_)
                    · refine lv_aload_n hx hb dX11_condition_135 rfl (lv_at hl 0 rfl) ?_
                      refine lv_iload_n hx hb dX11_condition_136 rfl (lv_at hl 1 rfl) ?_
                      refine lv_ldc2 (v := 469853037860) hx hb hown (hz _ wk_X11_187) dX11_condition_137 ?_
                      refine zc_V (As := [.int (nI (e)), .long (469853037860)]) (rest := []) ⟨hx, hb, hml, hown, hts⟩ (m_isNamed l G o qs fs f e wElem (by unfold okL; decide) (by decide) hok) (cwV 2 hts (zgV wm_X11_150 wv_X11_isNamed) rfl rfl rfl (by decide +kernel) ⟨Nat.le_of_ble_eq_true rfl, Nat.le_of_ble_eq_true rfl⟩) hK hO rfl hP rfl hl.1 rfl (Nat.le_of_ble_eq_true rfl) dX11_condition_140 ⟨Nat.zero_le _, Nat.zero_le _⟩ ?_
                      refine zb_if_eq (tgt := 149) hx hb dX11_condition_143 (by decide) (fun c_143 => ?_) (fun c_143 => ?_)
                      · refine lv_aload_n hx hb dX11_condition_149 rfl (lv_at hl 0 rfl) ?_
                        refine lv_iload_n hx hb dX11_condition_150 rfl (lv_at hl 1 rfl) ?_
                        refine lv_ldc2 (v := 1953459748) hx hb hown (hz _ wk_X11_189) dX11_condition_151 ?_
                        refine zc_V (As := [.int (nI (e)), .long (1953459748)]) (rest := []) ⟨hx, hb, hml, hown, hts⟩ (m_isNamed l G o qs fs f e wNot (by unfold okL; decide) (by decide) hok) (cwV 2 hts (zgV wm_X11_150 wv_X11_isNamed) rfl rfl rfl (by decide +kernel) ⟨Nat.le_of_ble_eq_true rfl, Nat.le_of_ble_eq_true rfl⟩) hK hO rfl hP rfl hl.1 rfl (Nat.le_of_ble_eq_true rfl) dX11_condition_154 ⟨Nat.zero_le _, Nat.zero_le _⟩ ?_
                        refine zb_if_eq (tgt := 165) hx hb dX11_condition_157 (by decide) (fun c_157 => ?_) (fun c_157 => ?_)
                        · refine lv_iconst (v := nI 0) hx hb dX11_condition_165 (by decide) ?_
                          exact zr_i hx hb hr hlocks (by simp [coN, isA, *]) dX11_condition_166
                        · refine lv_bipush (v := nI 12) hx hb dX11_condition_160 (by decide) ?_
                          refine lv_goto (tgt := 166) hx hb dX11_condition_162 (by decide) ?_
                          exact zr_i hx hb hr hlocks (by simp [coN, isA, *]) dX11_condition_166
                      · refine lv_bipush (v := nI 11) hx hb dX11_condition_146 (by decide) ?_
                        exact zr_i hx hb hr hlocks (by simp [coN, isA, *]) dX11_condition_148
                    · refine lv_bipush (v := nI 10) hx hb dX11_condition_132 (by decide) ?_
                      exact zr_i hx hb hr hlocks (by simp [coN, isA, *]) dX11_condition_134
                  · refine lv_bipush (v := nI 9) hx hb dX11_condition_118 (by decide) ?_
                    exact zr_i hx hb hr hlocks (by simp [coN, isA, *]) dX11_condition_120
                · refine lv_bipush (v := nI 8) hx hb dX11_condition_104 (by decide) ?_
                  exact zr_i hx hb hr hlocks (by simp [coN, isA, *]) dX11_condition_106
              · refine lv_bipush (v := nI 7) hx hb dX11_condition_90 (by decide) ?_
                exact zr_i hx hb hr hlocks (by simp [coN, isA, *]) dX11_condition_92
            · refine lv_bipush (v := nI 6) hx hb dX11_condition_76 (by decide) ?_
              exact zr_i hx hb hr hlocks (by simp [coN, isA, *]) dX11_condition_78
          · refine lv_iconst (v := nI 5) hx hb dX11_condition_63 (by decide) ?_
            exact zr_i hx hb hr hlocks (by simp [coN, isA, *]) dX11_condition_64
        · refine lv_iconst (v := nI 4) hx hb dX11_condition_50 (by decide) ?_
          exact zr_i hx hb hr hlocks (by simp [coN, isA, *]) dX11_condition_51
      · refine lv_iconst (v := nI 3) hx hb dX11_condition_37 (by decide) ?_
        exact zr_i hx hb hr hlocks (by simp [coN, isA, *]) dX11_condition_38
    · refine lv_iconst (v := nI 2) hx hb dX11_condition_24 (by decide) ?_
      exact zr_i hx hb hr hlocks (by simp [coN, isA, *]) dX11_condition_25
  · refine lv_iconst (v := nI 1) hx hb dX11_condition_11 (by decide) ?_
    exact zr_i hx hb hr hlocks (by simp [coN, isA, *]) dX11_condition_12

set_option maxHeartbeats 4000000 in
set_option maxRecDepth 100000 in
theorem m_asConditions (l : Launch) (G : zG) (o qs : Nat) (fs : List Value) (f : Nat → Nat) (v : Nat) (ha : v + 5 < 18000) (hok : 0 < fi f v → okN 18000 f (fi f v)) : Met l yX11_asConditions wsX11_asConditions ({ frames := 3, cells := 0, slots := 0, locals := 68 }) (zP G [.ref (o), .int (nI (v))] (fun H => MV G o qs fs f H)) (zR (.int (nI (nB (asC f v))))) 0 0 (fun _ => False) := by
  refine Met.ofW (cc := cX11_asConditions) (maxL := 2) (ret := (some .boolean)) (by decide) rfl ?_
  intro p en s m args below meth c s₁ B hml hv
  obtain ⟨rfl, hP, hK⟩ := hv
  have hx := B.exec
  have hb := B.bytes
  have hr := B.returns
  have hts := atoms_spec (ws := wsX11_asConditions) B.pre
  have hz : ∀ w ∈ zW, w.before _ s = true := fun w h => hts w (List.mem_cons_of_mem _ h)
  have hown : s.vm.findClass RX11 = some m.cls := findClass_of_methodNamed B.named
  have hlocks := B.notSynchronized
  obtain ⟨hO, hA, hS1, h8⟩ := id hP
  have hl := lv_entry ([.ref (o), .int (nI (v))]) (n := 2) (Nat.le_of_ble_eq_true rfl)
  rw [lg_entry_eq]
  generalize (lg_sl ([.ref (o), .int (nI (v))]) ++ List.replicate (2 - (lg_sl ([.ref (o), .int (nI (v))])).length) Slot.unset).toArray = ls at hl ⊢
  have hl : lv_has ls 2 [(0, .ref (o)), (1, .int (nI (v)))] := hl
  refine lv_aload_n hx hb dX11_asConditions_0 rfl (lv_at hl 0 rfl) ?_
  refine lv_iconst (v := nI 3) hx hb dX11_asConditions_1 (by decide) ?_
  refine lv_iload_n hx hb dX11_asConditions_2 rfl (lv_at hl 1 rfl) ?_
  refine zc_V (As := [.int (nI (3)), .int (nI (v))]) (rest := []) ⟨hx, hb, hml, hown, hts⟩ (m_isConditions l G o qs fs f 3 v (by decide) (fun _ => ha)) (cwV 2 hts (zgV wm_X11_227 wv_X11_isConditions) rfl rfl rfl (by decide +kernel) ⟨Nat.le_of_ble_eq_true rfl, Nat.le_of_ble_eq_true rfl⟩) hK hO rfl hP rfl hl.1 rfl (Nat.le_of_ble_eq_true rfl) dX11_asConditions_3 ⟨Nat.zero_le _, Nat.zero_le _⟩ ?_
  refine zb_if_eq (tgt := 25) hx hb dX11_asConditions_6 (by decide) (fun c_6 => ?_) (fun c_6 => ?_)
  · refine lv_iconst (v := nI 0) hx hb dX11_asConditions_25 (by decide) ?_
    exact zr_z hx hb hr hlocks (by simp_all [asC, nB]) dX11_asConditions_26
  · refine lv_aload_n hx hb dX11_asConditions_9 rfl (lv_at hl 0 rfl) ?_
    refine lv_aload_n hx hb dX11_asConditions_10 rfl (lv_at hl 0 rfl) ?_
    refine lv_iload_n hx hb dX11_asConditions_11 rfl (lv_at hl 1 rfl) ?_
    refine zc_V (As := [.int (nI (v))]) (rest := [.ref (o)]) ⟨hx, hb, hml, hown, hts⟩ (m_firstOf l G o qs fs f v (by omega)) (cwV 1 hts (zgV wm_X11_137 wv_X11_firstOf) rfl rfl rfl (by decide +kernel) ⟨Nat.le_of_ble_eq_true rfl, Nat.le_of_ble_eq_true rfl⟩) hK hO rfl hP rfl hl.1 rfl (Nat.le_of_ble_eq_true rfl) dX11_asConditions_12 ⟨Nat.zero_le _, Nat.zero_le _⟩ ?_
    refine zc_V (As := [.int (nI (fi f v))]) (rest := []) ⟨hx, hb, hml, hown, hts⟩ (m_isJoin l G o qs fs f (fi f v) (hok (isC_pos c_6))) (cwV 1 hts (zgV wm_X11_209 wv_X11_isJoin) rfl rfl rfl (by decide +kernel) ⟨Nat.le_of_ble_eq_true rfl, Nat.le_of_ble_eq_true rfl⟩) hK hO rfl hP rfl hl.1 rfl (Nat.le_of_ble_eq_true rfl) dX11_asConditions_15 ⟨Nat.zero_le _, Nat.zero_le _⟩ ?_
    refine zb_if_ne (tgt := 25) hx hb dX11_asConditions_18 (by decide) (fun c_18 => ?_) (fun c_18 => ?_)
    · refine lv_iconst (v := nI 0) hx hb dX11_asConditions_25 (by decide) ?_
      exact zr_z hx hb hr hlocks (by simp_all [asC, nB]) dX11_asConditions_26
    · refine lv_iconst (v := nI 1) hx hb dX11_asConditions_21 (by decide) ?_
      refine lv_goto (tgt := 26) hx hb dX11_asConditions_22 (by decide) ?_
      exact zr_z hx hb hr hlocks (by simp_all [asC, nB]) dX11_asConditions_26

set_option maxHeartbeats 4000000 in
set_option maxRecDepth 100000 in
theorem m_number (l : Launch) (G : zG) (o qs : Nat) (fs : List Value) (f : Nat → Nat) (k a : Nat) (hk : k < 2 ^ 31) (ha : k = 8 → a < 18000) (ha4 : k = 16 → a + 4 ≤ 18000) (ha8 : k ≠ 8 → k ≠ 16 → a + 8 ≤ 18000) : Met l yX11_number wsX11_number ({ frames := 1, cells := 0, slots := 0, locals := 21 }) (zP G [.ref (o), .int (nI (k)), .int (nI (a))] (fun H => MV G o qs fs f H)) (zR (.long (nuM f k a))) 0 0 (fun _ => False) := by
  refine Met.ofW (cc := cX11_number) (maxL := 6) (ret := (some .long)) (by decide) rfl ?_
  intro p en s m args below meth c s₁ B hml hv
  obtain ⟨rfl, hP, hK⟩ := hv
  have hx := B.exec
  have hb := B.bytes
  have hr := B.returns
  have hts := atoms_spec (ws := wsX11_number) B.pre
  have hz : ∀ w ∈ zW, w.before _ s = true := fun w h => hts w (List.mem_cons_of_mem _ h)
  have hown : s.vm.findClass RX11 = some m.cls := findClass_of_methodNamed B.named
  have hlocks := B.notSynchronized
  obtain ⟨hO, hA, hS1, h8⟩ := id hP
  have hl := lv_entry ([.ref (o), .int (nI (k)), .int (nI (a))]) (n := 6) (Nat.le_of_ble_eq_true rfl)
  rw [lg_entry_eq]
  generalize (lg_sl ([.ref (o), .int (nI (k)), .int (nI (a))]) ++ List.replicate (6 - (lg_sl ([.ref (o), .int (nI (k)), .int (nI (a))])).length) Slot.unset).toArray = ls at hl ⊢
  have hl : lv_has ls 6 [(0, .ref (o)), (1, .int (nI (k))), (2, .int (nI (a)))] := hl
  refine lv_iload_n hx hb dX11_number_0 rfl (lv_at hl 1 rfl) ?_
  refine lv_bipush (v := nI 8) hx hb dX11_number_1 (by decide) ?_
  refine zi_icmp_ne (tgt := 14) hx hb dX11_number_3 (by decide) (by omega) (by omega) (fun c_3 => ?_) (fun c_3 => ?_)
  · refine lv_iload_n hx hb dX11_number_14 rfl (lv_at hl 1 rfl) ?_
    refine lv_bipush (v := nI 16) hx hb dX11_number_15 (by decide) ?_
    refine zi_icmp_ne (tgt := 27) hx hb dX11_number_17 (by decide) (by omega) (by omega) (fun c_17 => ?_) (fun c_17 => ?_)
    · refine lv_lconst (v := 0) hx hb dX11_number_27 (by decide) ?_
      refine lv_lstore_n (lv' := [(3, .long (0)), (0, .ref (o)), (1, .int (nI (k))), (2, .int (nI (a)))]) hx hb dX11_number_28 rfl hl (by decide) rfl (fun ls hl => ?_)
      refine lv_bipush (v := nI 7) hx hb dX11_number_29 (by decide) ?_
      refine W.eq (g2 := F0 m 31 ls [.int (nI 8 - 1)]) rfl ?_
      refine lv_istore (lv' := [(5, .int (nI 8 - 1)), (3, .long (0)), (0, .ref (o)), (1, .int (nI (k))), (2, .int (nI (a)))]) hx hb dX11_number_31 hl (by decide) rfl (fun ls hl => ?_)
      have L33 : ∀ (n_ : Nat) (z : Nat), z < n_ → z ≤ 8 → ∀ ls : Array Slot, lv_has ls 6 [(0, .ref (o)), (2, .int (nI (a))), (3, .long (lN (sb8 f a z (8 - z)))), (5, .int (nI z - 1))] → W p l en (headSpec wsX11_number ({ frames := 1, cells := 0, slots := 0, locals := 21 })).room s m ([.ref (o), .int (nI (k)), .int (nI (a))] : List Value).toArray below meth c s.heap [] 0 0 (MQ below (zR (.long (nuM f k a))) ([.ref (o), .int (nI (k)), .int (nI (a))] : List Value).toArray s 0 0 (fun _ => False)) (F0 m 33 ls []) := by
        intro n_
        induction n_ with
        | zero => intro z hm_; exact absurd hm_ (Nat.not_lt_zero _)
        | succ n_ ih_ =>
          intro z hm_ hz8 ls hl
          refine lv_iload hx hb dX11_number_33 (lv_at hl 3 rfl) ?_
          refine lv_if_lt (tgt := 60) hx hb dX11_number_35 (by decide) (fun c_35 => ?_) (fun c_35 => ?_)
          · have hz0 : z = 0 := by
              rcases Nat.eq_zero_or_pos z with q | q
              · exact q
              · obtain ⟨j, rfl⟩ : ∃ j, z = j + 1 := ⟨z - 1, by omega⟩
                rw [nI_pred] at c_35
                exact absurd c_35 (nI_pos (by omega))
            subst hz0
            refine lv_lload_n hx hb dX11_number_60 rfl (lv_at hl 2 rfl) ?_
            exact zr_l hx hb hr hlocks (by simp [nuM, c_3, c_17, sb8_all]) dX11_number_61
          · obtain ⟨j, rfl⟩ : ∃ z9, z = z9 + 1 := ⟨z - 1, by
              have : z ≠ 0 := fun q => c_35 (by subst q; decide)
              omega⟩
            rw [nI_pred] at hl
            refine lv_lload_n hx hb dX11_number_38 rfl (lv_at hl 2 rfl) ?_
            refine lv_bipush (v := nI 8) hx hb dX11_number_39 (by decide) ?_
            refine lv_lshl (v := (lN (sb8 f a (j + 1) (8 - (j + 1)))) <<< ((nI 8).toInt64 &&& 63)) hx hb dX11_number_41 (rfl) ?_
            refine lv_aload_n hx hb dX11_number_42 rfl (lv_at hl 0 rfl) ?_
            refine zi_get (C := RX11) (T := TX11) (N := 23) (v := .ref (qs)) hx hb hz wo_X11 hown hK hO rfl 1 (by decide) (hz _ wf_X11_7) (fun _ h9 => h9) hS1 dX11_number_43 ?_
            refine lv_iload_n hx hb dX11_number_46 rfl (lv_at hl 1 rfl) ?_
            refine lv_iload hx hb dX11_number_47 (lv_at hl 3 rfl) ?_
            refine zi_add hx hb dX11_number_49 ?_
            refine zi_ald hx hb hK hA (by have := ha8 c_3 c_17; omega) (by decide) dX11_number_50 ?_
            refine lv_i2l (v := lN (f (a + j))) hx hb dX11_number_51 (nI_l (Nat.lt_trans (h8 _) (by decide))) ?_
            refine lv_lor hx hb dX11_number_52 ?_
            rw [z_shl8or (sb8_lt f h8 a _) (h8 _), sb8_step f a j (by omega)]
            refine lv_lstore_n (lv' := [(3, .long (lN (sb8 f a j (8 - j)))), (0, .ref (o)), (2, .int (nI (a))), (5, .int (nI (j)))]) hx hb dX11_number_53 rfl hl (by decide) rfl (fun ls hl => ?_)
            refine lv_iinc (v := nI j - 1) (lv' := [(5, .int (nI j - 1)), (3, .long (lN (sb8 f a j (8 - j)))), (0, .ref (o)), (2, .int (nI (a)))]) hx hb dX11_number_54 hl (k := 3) rfl (z_m1 _) (by decide) rfl (fun ls hl => ?_)
            refine lv_goto (tgt := 33) hx hb dX11_number_57 (by decide) ?_
            exact ih_ j (by omega) (by omega) ls (lv_sub hl [2, 3, 1, 0] rfl)
      exact L33 ((8) + 1) 8 (Nat.lt_succ_self _) (Nat.le_refl _) ls (lv_sub hl [2, 4, 1, 0] rfl)
    · refine lv_aload_n hx hb dX11_number_20 rfl (lv_at hl 0 rfl) ?_
      refine lv_iload_n hx hb dX11_number_21 rfl (lv_at hl 2 rfl) ?_
      refine zc_V (As := [.int (nI (a))]) (rest := []) ⟨hx, hb, hml, hown, hts⟩ (m_whole l G o qs fs f a (ha4 c_17)) (cwV 1 hts (zgV wm_X11_128 wv_X11_whole) rfl rfl rfl (by decide +kernel) ⟨Nat.le_of_ble_eq_true rfl, Nat.le_of_ble_eq_true rfl⟩) hK hO rfl hP rfl hl.1 rfl (Nat.le_of_ble_eq_true rfl) dX11_number_22 ⟨Nat.zero_le _, Nat.zero_le _⟩ ?_
      refine lv_i2l (v := (nI (wh f a)).toInt64) hx hb dX11_number_25 (rfl) ?_
      exact zr_l hx hb hr hlocks (by simp [nuM, c_17]) dX11_number_26
  · refine lv_aload_n hx hb dX11_number_6 rfl (lv_at hl 0 rfl) ?_
    refine zi_get (C := RX11) (T := TX11) (N := 23) (v := .ref (qs)) hx hb hz wo_X11 hown hK hO rfl 1 (by decide) (hz _ wf_X11_7) (fun _ h9 => h9) hS1 dX11_number_7 ?_
    refine lv_iload_n hx hb dX11_number_10 rfl (lv_at hl 2 rfl) ?_
    refine zi_ald hx hb hK hA (ha c_3) (by decide) dX11_number_11 ?_
    refine lv_i2l (v := lN (f a)) hx hb dX11_number_12 (nI_l (Nat.lt_trans (h8 _) (by decide))) ?_
    exact zr_l hx hb hr hlocks (by simp [nuM, c_3]) dX11_number_13
end
