section
-- ===== PART A: goes FIRST, ahead of the names: the tables' words, and 'selects' of the private methods out of them =====
/-- a private method of a class that the tables say can be made, by its rows of tables_1 -/
def lw_okq (q : MethodName × Nat) : Prop := (q.1.cls ≠ "java/lang/invoke/MethodHandle" ∧ q.1.cls ≠ "java/lang/invoke/VarHandle") ∧ Cond.instantiable q.1.cls q.2 ∈ tables_1 ∧ Cond.privateMethod q.1 ∈ tables_1 ∧ Cond.instanceMethod q.1 ∈ tables_1
theorem lw_p0 : lw_okq (⟨"OffsideParser$Builder", "enter", "(II)V"⟩, 9) := ⟨⟨by decide +kernel, by decide +kernel⟩, List.mem_of_getElem? (i := 126) (by decide +kernel), List.mem_of_getElem? (i := 271) (by decide +kernel), List.mem_of_getElem? (i := 272) (by decide +kernel)⟩
theorem lw_p1 : lw_okq (⟨"OffsideParser$Lexer", "beginLine", "(I)V"⟩, 13) := ⟨⟨by decide +kernel, by decide +kernel⟩, List.mem_of_getElem? (i := 74) (by decide +kernel), List.mem_of_getElem? (i := 282) (by decide +kernel), List.mem_of_getElem? (i := 283) (by decide +kernel)⟩
theorem lw_p2 : lw_okq (⟨"OffsideParser$Lexer", "takeToken", "(II)V"⟩, 13) := ⟨⟨by decide +kernel, by decide +kernel⟩, List.mem_of_getElem? (i := 74) (by decide +kernel), List.mem_of_getElem? (i := 295) (by decide +kernel), List.mem_of_getElem? (i := 296) (by decide +kernel)⟩
theorem lw_p3 : lw_okq (⟨"OffsideParser$Lexer", "endOfRun", "(IZ)I"⟩, 13) := ⟨⟨by decide +kernel, by decide +kernel⟩, List.mem_of_getElem? (i := 74) (by decide +kernel), List.mem_of_getElem? (i := 299) (by decide +kernel), List.mem_of_getElem? (i := 300) (by decide +kernel)⟩
theorem lw_p4 : lw_okq (⟨"OffsideParser$Lexer", "takeOtherByte", "(II)V"⟩, 13) := ⟨⟨by decide +kernel, by decide +kernel⟩, List.mem_of_getElem? (i := 74) (by decide +kernel), List.mem_of_getElem? (i := 303) (by decide +kernel), List.mem_of_getElem? (i := 304) (by decide +kernel)⟩
theorem lw_p5 : lw_okq (⟨"OffsideParser$Builder", "innermost", "()I"⟩, 9) := ⟨⟨by decide +kernel, by decide +kernel⟩, List.mem_of_getElem? (i := 126) (by decide +kernel), List.mem_of_getElem? (i := 320) (by decide +kernel), List.mem_of_getElem? (i := 321) (by decide +kernel)⟩
theorem lw_p6 : lw_okq (⟨"OffsideParser$Builder", "placeInGroup", "()V"⟩, 9) := ⟨⟨by decide +kernel, by decide +kernel⟩, List.mem_of_getElem? (i := 126) (by decide +kernel), List.mem_of_getElem? (i := 327) (by decide +kernel), List.mem_of_getElem? (i := 328) (by decide +kernel)⟩
theorem lw_p7 : lw_okq (⟨"OffsideParser$Builder", "addWord", "()V"⟩, 9) := ⟨⟨by decide +kernel, by decide +kernel⟩, List.mem_of_getElem? (i := 126) (by decide +kernel), List.mem_of_getElem? (i := 331) (by decide +kernel), List.mem_of_getElem? (i := 332) (by decide +kernel)⟩
theorem lw_p8 : lw_okq (⟨"OffsideParser$Builder", "addPart", "(II)I"⟩, 9) := ⟨⟨by decide +kernel, by decide +kernel⟩, List.mem_of_getElem? (i := 126) (by decide +kernel), List.mem_of_getElem? (i := 335) (by decide +kernel), List.mem_of_getElem? (i := 336) (by decide +kernel)⟩
theorem lw_p9 : lw_okq (⟨"OffsideParser$Tree", "set", "(III)V"⟩, 3) := ⟨⟨by decide +kernel, by decide +kernel⟩, List.mem_of_getElem? (i := 56) (by decide +kernel), List.mem_of_getElem? (i := 344) (by decide +kernel), List.mem_of_getElem? (i := 345) (by decide +kernel)⟩
theorem lw_p10 : lw_okq (⟨"OffsideParser$Builder", "openGroup", "()V"⟩, 9) := ⟨⟨by decide +kernel, by decide +kernel⟩, List.mem_of_getElem? (i := 126) (by decide +kernel), List.mem_of_getElem? (i := 355) (by decide +kernel), List.mem_of_getElem? (i := 356) (by decide +kernel)⟩
theorem lw_p11 : lw_okq (⟨"OffsideParser$Builder", "isDeep", "()Z"⟩, 9) := ⟨⟨by decide +kernel, by decide +kernel⟩, List.mem_of_getElem? (i := 126) (by decide +kernel), List.mem_of_getElem? (i := 359) (by decide +kernel), List.mem_of_getElem? (i := 360) (by decide +kernel)⟩
theorem lw_p12 : lw_okq (⟨"OffsideParser$Builder", "report", "(I)V"⟩, 9) := ⟨⟨by decide +kernel, by decide +kernel⟩, List.mem_of_getElem? (i := 126) (by decide +kernel), List.mem_of_getElem? (i := 363) (by decide +kernel), List.mem_of_getElem? (i := 364) (by decide +kernel)⟩
theorem lw_p13 : lw_okq (⟨"OffsideParser$Builder", "close", "(I)V"⟩, 9) := ⟨⟨by decide +kernel, by decide +kernel⟩, List.mem_of_getElem? (i := 126) (by decide +kernel), List.mem_of_getElem? (i := 368) (by decide +kernel), List.mem_of_getElem? (i := 369) (by decide +kernel)⟩
theorem lw_p14 : lw_okq (⟨"OffsideParser$Builder", "beginsBlock", "()Z"⟩, 9) := ⟨⟨by decide +kernel, by decide +kernel⟩, List.mem_of_getElem? (i := 126) (by decide +kernel), List.mem_of_getElem? (i := 372) (by decide +kernel), List.mem_of_getElem? (i := 373) (by decide +kernel)⟩
theorem lw_p15 : lw_okq (⟨"OffsideParser$Builder", "alignToColumn", "()V"⟩, 9) := ⟨⟨by decide +kernel, by decide +kernel⟩, List.mem_of_getElem? (i := 126) (by decide +kernel), List.mem_of_getElem? (i := 376) (by decide +kernel), List.mem_of_getElem? (i := 377) (by decide +kernel)⟩
def lw_privs_1 : List (MethodName × Nat) := [(⟨"OffsideParser$Builder", "enter", "(II)V"⟩, 9), (⟨"OffsideParser$Lexer", "beginLine", "(I)V"⟩, 13), (⟨"OffsideParser$Lexer", "takeToken", "(II)V"⟩, 13), (⟨"OffsideParser$Lexer", "endOfRun", "(IZ)I"⟩, 13), (⟨"OffsideParser$Lexer", "takeOtherByte", "(II)V"⟩, 13), (⟨"OffsideParser$Builder", "innermost", "()I"⟩, 9), (⟨"OffsideParser$Builder", "placeInGroup", "()V"⟩, 9), (⟨"OffsideParser$Builder", "addWord", "()V"⟩, 9), (⟨"OffsideParser$Builder", "addPart", "(II)I"⟩, 9), (⟨"OffsideParser$Tree", "set", "(III)V"⟩, 3), (⟨"OffsideParser$Builder", "openGroup", "()V"⟩, 9), (⟨"OffsideParser$Builder", "isDeep", "()Z"⟩, 9), (⟨"OffsideParser$Builder", "report", "(I)V"⟩, 9), (⟨"OffsideParser$Builder", "close", "(I)V"⟩, 9), (⟨"OffsideParser$Builder", "beginsBlock", "()Z"⟩, 9), (⟨"OffsideParser$Builder", "alignToColumn", "()V"⟩, 9)]
theorem lw_r1 : ∀ q ∈ lw_privs_1, lw_okq q := List.forall_mem_cons.mpr ⟨lw_p0, List.forall_mem_cons.mpr ⟨lw_p1, List.forall_mem_cons.mpr ⟨lw_p2, List.forall_mem_cons.mpr ⟨lw_p3, List.forall_mem_cons.mpr ⟨lw_p4, List.forall_mem_cons.mpr ⟨lw_p5, List.forall_mem_cons.mpr ⟨lw_p6, List.forall_mem_cons.mpr ⟨lw_p7, List.forall_mem_cons.mpr ⟨lw_p8, List.forall_mem_cons.mpr ⟨lw_p9, List.forall_mem_cons.mpr ⟨lw_p10, List.forall_mem_cons.mpr ⟨lw_p11, List.forall_mem_cons.mpr ⟨lw_p12, List.forall_mem_cons.mpr ⟨lw_p13, List.forall_mem_cons.mpr ⟨lw_p14, List.forall_mem_cons.mpr ⟨lw_p15, fun _ h => absurd h List.not_mem_nil⟩⟩⟩⟩⟩⟩⟩⟩⟩⟩⟩⟩⟩⟩⟩⟩
theorem lw_p16 : lw_okq (⟨"OffsideParser$Builder", "endItem", "()V"⟩, 9) := ⟨⟨by decide +kernel, by decide +kernel⟩, List.mem_of_getElem? (i := 126) (by decide +kernel), List.mem_of_getElem? (i := 380) (by decide +kernel), List.mem_of_getElem? (i := 381) (by decide +kernel)⟩
theorem lw_p17 : lw_okq (⟨"OffsideParser$Builder", "placeInBlock", "()V"⟩, 9) := ⟨⟨by decide +kernel, by decide +kernel⟩, List.mem_of_getElem? (i := 126) (by decide +kernel), List.mem_of_getElem? (i := 384) (by decide +kernel), List.mem_of_getElem? (i := 385) (by decide +kernel)⟩
theorem lw_p18 : lw_okq (⟨"OffsideParser$Builder", "takeColon", "()V"⟩, 9) := ⟨⟨by decide +kernel, by decide +kernel⟩, List.mem_of_getElem? (i := 126) (by decide +kernel), List.mem_of_getElem? (i := 388) (by decide +kernel), List.mem_of_getElem? (i := 389) (by decide +kernel)⟩
theorem lw_p19 : lw_okq (⟨"OffsideParser$Builder", "closeBraces", "()V"⟩, 9) := ⟨⟨by decide +kernel, by decide +kernel⟩, List.mem_of_getElem? (i := 126) (by decide +kernel), List.mem_of_getElem? (i := 392) (by decide +kernel), List.mem_of_getElem? (i := 393) (by decide +kernel)⟩
theorem lw_p20 : lw_okq (⟨"OffsideParser", "unpack", "(J)V"⟩, 7) := ⟨⟨by decide +kernel, by decide +kernel⟩, List.mem_of_getElem? (i := 19) (by decide +kernel), List.mem_of_getElem? (i := 420) (by decide +kernel), List.mem_of_getElem? (i := 421) (by decide +kernel)⟩
theorem lw_p21 : lw_okq (⟨"OffsideParser$Tree", "isSpelled", "(ILOffsideParser$Row;)Z"⟩, 3) := ⟨⟨by decide +kernel, by decide +kernel⟩, List.mem_of_getElem? (i := 56) (by decide +kernel), List.mem_of_getElem? (i := 430) (by decide +kernel), List.mem_of_getElem? (i := 431) (by decide +kernel)⟩
theorem lw_p22 : lw_okq (⟨"OffsideParser$Tree", "isNewWord", "(I)Z"⟩, 3) := ⟨⟨by decide +kernel, by decide +kernel⟩, List.mem_of_getElem? (i := 56) (by decide +kernel), List.mem_of_getElem? (i := 446) (by decide +kernel), List.mem_of_getElem? (i := 447) (by decide +kernel)⟩
theorem lw_p23 : lw_okq (⟨"OffsideParser$Tree", "areSame", "(II)Z"⟩, 3) := ⟨⟨by decide +kernel, by decide +kernel⟩, List.mem_of_getElem? (i := 56) (by decide +kernel), List.mem_of_getElem? (i := 450) (by decide +kernel), List.mem_of_getElem? (i := 451) (by decide +kernel)⟩
theorem lw_p24 : lw_okq (⟨"OffsideParser$Printer", "printLines", "(II)V"⟩, 2) := ⟨⟨by decide +kernel, by decide +kernel⟩, List.mem_of_getElem? (i := 162) (by decide +kernel), List.mem_of_getElem? (i := 463) (by decide +kernel), List.mem_of_getElem? (i := 464) (by decide +kernel)⟩
theorem lw_p25 : lw_okq (⟨"OffsideParser$Printer", "printLinesOfItem", "(II)V"⟩, 2) := ⟨⟨by decide +kernel, by decide +kernel⟩, List.mem_of_getElem? (i := 162) (by decide +kernel), List.mem_of_getElem? (i := 472) (by decide +kernel), List.mem_of_getElem? (i := 473) (by decide +kernel)⟩
theorem lw_p26 : lw_okq (⟨"OffsideParser$Printer", "printParts", "(III)V"⟩, 2) := ⟨⟨by decide +kernel, by decide +kernel⟩, List.mem_of_getElem? (i := 162) (by decide +kernel), List.mem_of_getElem? (i := 483) (by decide +kernel), List.mem_of_getElem? (i := 484) (by decide +kernel)⟩
theorem lw_p27 : lw_okq (⟨"OffsideParser$Printer", "printPart", "(II)V"⟩, 2) := ⟨⟨by decide +kernel, by decide +kernel⟩, List.mem_of_getElem? (i := 162) (by decide +kernel), List.mem_of_getElem? (i := 487) (by decide +kernel), List.mem_of_getElem? (i := 488) (by decide +kernel)⟩
theorem lw_p28 : lw_okq (⟨"OffsideParser$Printer", "printWord", "(I)V"⟩, 2) := ⟨⟨by decide +kernel, by decide +kernel⟩, List.mem_of_getElem? (i := 162) (by decide +kernel), List.mem_of_getElem? (i := 491) (by decide +kernel), List.mem_of_getElem? (i := 492) (by decide +kernel)⟩
theorem lw_p29 : lw_okq (⟨"OffsideParser$Printer", "printNumber", "(I)V"⟩, 2) := ⟨⟨by decide +kernel, by decide +kernel⟩, List.mem_of_getElem? (i := 162) (by decide +kernel), List.mem_of_getElem? (i := 496) (by decide +kernel), List.mem_of_getElem? (i := 497) (by decide +kernel)⟩
theorem lw_p30 : lw_okq (⟨"OffsideParser$Printer", "printBraces", "(II)V"⟩, 2) := ⟨⟨by decide +kernel, by decide +kernel⟩, List.mem_of_getElem? (i := 162) (by decide +kernel), List.mem_of_getElem? (i := 501) (by decide +kernel), List.mem_of_getElem? (i := 502) (by decide +kernel)⟩
theorem lw_p31 : lw_okq (⟨"java/lang/Throwable", "fillInStackTrace", "(I)Ljava/lang/Throwable;"⟩, 6) := ⟨⟨by decide +kernel, by decide +kernel⟩, List.mem_of_getElem? (i := 583) (by decide +kernel), List.mem_of_getElem? (i := 581) (by decide +kernel), List.mem_of_getElem? (i := 582) (by decide +kernel)⟩
def lw_privs_2 : List (MethodName × Nat) := [(⟨"OffsideParser$Builder", "endItem", "()V"⟩, 9), (⟨"OffsideParser$Builder", "placeInBlock", "()V"⟩, 9), (⟨"OffsideParser$Builder", "takeColon", "()V"⟩, 9), (⟨"OffsideParser$Builder", "closeBraces", "()V"⟩, 9), (⟨"OffsideParser", "unpack", "(J)V"⟩, 7), (⟨"OffsideParser$Tree", "isSpelled", "(ILOffsideParser$Row;)Z"⟩, 3), (⟨"OffsideParser$Tree", "isNewWord", "(I)Z"⟩, 3), (⟨"OffsideParser$Tree", "areSame", "(II)Z"⟩, 3), (⟨"OffsideParser$Printer", "printLines", "(II)V"⟩, 2), (⟨"OffsideParser$Printer", "printLinesOfItem", "(II)V"⟩, 2), (⟨"OffsideParser$Printer", "printParts", "(III)V"⟩, 2), (⟨"OffsideParser$Printer", "printPart", "(II)V"⟩, 2), (⟨"OffsideParser$Printer", "printWord", "(I)V"⟩, 2), (⟨"OffsideParser$Printer", "printNumber", "(I)V"⟩, 2), (⟨"OffsideParser$Printer", "printBraces", "(II)V"⟩, 2), (⟨"java/lang/Throwable", "fillInStackTrace", "(I)Ljava/lang/Throwable;"⟩, 6)]
theorem lw_r2 : ∀ q ∈ lw_privs_2, lw_okq q := List.forall_mem_cons.mpr ⟨lw_p16, List.forall_mem_cons.mpr ⟨lw_p17, List.forall_mem_cons.mpr ⟨lw_p18, List.forall_mem_cons.mpr ⟨lw_p19, List.forall_mem_cons.mpr ⟨lw_p20, List.forall_mem_cons.mpr ⟨lw_p21, List.forall_mem_cons.mpr ⟨lw_p22, List.forall_mem_cons.mpr ⟨lw_p23, List.forall_mem_cons.mpr ⟨lw_p24, List.forall_mem_cons.mpr ⟨lw_p25, List.forall_mem_cons.mpr ⟨lw_p26, List.forall_mem_cons.mpr ⟨lw_p27, List.forall_mem_cons.mpr ⟨lw_p28, List.forall_mem_cons.mpr ⟨lw_p29, List.forall_mem_cons.mpr ⟨lw_p30, List.forall_mem_cons.mpr ⟨lw_p31, fun _ h => absurd h List.not_mem_nil⟩⟩⟩⟩⟩⟩⟩⟩⟩⟩⟩⟩⟩⟩⟩⟩
theorem lw_p32 : lw_okq (⟨"OffsideParser", "checkNode", "(I)V"⟩, 7) := ⟨⟨by decide +kernel, by decide +kernel⟩, List.mem_of_getElem? (i := 19) (by decide +kernel), List.mem_of_getElem? (i := 673) (by decide +kernel), List.mem_of_getElem? (i := 674) (by decide +kernel)⟩
theorem lw_p33 : lw_okq (⟨"OffsideParser$Row", "reverse", "(II)V"⟩, 2) := ⟨⟨by decide +kernel, by decide +kernel⟩, List.mem_of_getElem? (i := 27) (by decide +kernel), List.mem_of_getElem? (i := 759) (by decide +kernel), List.mem_of_getElem? (i := 760) (by decide +kernel)⟩
theorem lw_p34 : lw_okq (⟨"OffsideParserModel", "begin", "()V"⟩, 32) := ⟨⟨by decide +kernel, by decide +kernel⟩, List.mem_of_getElem? (i := 827) (by decide +kernel), List.mem_of_getElem? (i := 834) (by decide +kernel), List.mem_of_getElem? (i := 835) (by decide +kernel)⟩
theorem lw_p35 : lw_okq (⟨"OffsideParserModel", "add", "(IIIII)I"⟩, 32) := ⟨⟨by decide +kernel, by decide +kernel⟩, List.mem_of_getElem? (i := 827) (by decide +kernel), List.mem_of_getElem? (i := 838) (by decide +kernel), List.mem_of_getElem? (i := 839) (by decide +kernel)⟩
theorem lw_p36 : lw_okq (⟨"OffsideParserModel", "countOf", "(I)I"⟩, 32) := ⟨⟨by decide +kernel, by decide +kernel⟩, List.mem_of_getElem? (i := 827) (by decide +kernel), List.mem_of_getElem? (i := 842) (by decide +kernel), List.mem_of_getElem? (i := 843) (by decide +kernel)⟩
theorem lw_p37 : lw_okq (⟨"OffsideParserModel", "insert", "(III)V"⟩, 32) := ⟨⟨by decide +kernel, by decide +kernel⟩, List.mem_of_getElem? (i := 827) (by decide +kernel), List.mem_of_getElem? (i := 846) (by decide +kernel), List.mem_of_getElem? (i := 847) (by decide +kernel)⟩
theorem lw_p38 : lw_okq (⟨"OffsideParserModel", "childOf", "(II)I"⟩, 32) := ⟨⟨by decide +kernel, by decide +kernel⟩, List.mem_of_getElem? (i := 827) (by decide +kernel), List.mem_of_getElem? (i := 850) (by decide +kernel), List.mem_of_getElem? (i := 851) (by decide +kernel)⟩
theorem lw_p39 : lw_okq (⟨"OffsideParserModel", "number", "()V"⟩, 32) := ⟨⟨by decide +kernel, by decide +kernel⟩, List.mem_of_getElem? (i := 827) (by decide +kernel), List.mem_of_getElem? (i := 854) (by decide +kernel), List.mem_of_getElem? (i := 855) (by decide +kernel)⟩
theorem lw_p40 : lw_okq (⟨"OffsideParserModel", "following", "(II)I"⟩, 32) := ⟨⟨by decide +kernel, by decide +kernel⟩, List.mem_of_getElem? (i := 827) (by decide +kernel), List.mem_of_getElem? (i := 858) (by decide +kernel), List.mem_of_getElem? (i := 859) (by decide +kernel)⟩
theorem lw_p41 : lw_okq (⟨"OffsideParserModel", "take", "(J)I"⟩, 32) := ⟨⟨by decide +kernel, by decide +kernel⟩, List.mem_of_getElem? (i := 827) (by decide +kernel), List.mem_of_getElem? (i := 967) (by decide +kernel), List.mem_of_getElem? (i := 968) (by decide +kernel)⟩
theorem lw_p42 : lw_okq (⟨"OffsideParserModel", "fail", "(I)I"⟩, 32) := ⟨⟨by decide +kernel, by decide +kernel⟩, List.mem_of_getElem? (i := 827) (by decide +kernel), List.mem_of_getElem? (i := 975) (by decide +kernel), List.mem_of_getElem? (i := 976) (by decide +kernel)⟩
theorem lw_p43 : lw_okq (⟨"OffsideParserModel", "push", "(II)V"⟩, 32) := ⟨⟨by decide +kernel, by decide +kernel⟩, List.mem_of_getElem? (i := 827) (by decide +kernel), List.mem_of_getElem? (i := 991) (by decide +kernel), List.mem_of_getElem? (i := 992) (by decide +kernel)⟩
theorem lw_p44 : lw_okq (⟨"OffsideParserModel", "accept", "()V"⟩, 32) := ⟨⟨by decide +kernel, by decide +kernel⟩, List.mem_of_getElem? (i := 827) (by decide +kernel), List.mem_of_getElem? (i := 1004) (by decide +kernel), List.mem_of_getElem? (i := 1005) (by decide +kernel)⟩
theorem lw_p45 : lw_okq (⟨"OffsideParserModel", "isGroupOpen", "()Z"⟩, 32) := ⟨⟨by decide +kernel, by decide +kernel⟩, List.mem_of_getElem? (i := 827) (by decide +kernel), List.mem_of_getElem? (i := 1008) (by decide +kernel), List.mem_of_getElem? (i := 1009) (by decide +kernel)⟩
theorem lw_p46 : lw_okq (⟨"OffsideParserModel", "top", "()I"⟩, 32) := ⟨⟨by decide +kernel, by decide +kernel⟩, List.mem_of_getElem? (i := 827) (by decide +kernel), List.mem_of_getElem? (i := 1012) (by decide +kernel), List.mem_of_getElem? (i := 1013) (by decide +kernel)⟩
theorem lw_p47 : lw_okq (⟨"OffsideParserModel", "isPart", "()Z"⟩, 32) := ⟨⟨by decide +kernel, by decide +kernel⟩, List.mem_of_getElem? (i := 827) (by decide +kernel), List.mem_of_getElem? (i := 1016) (by decide +kernel), List.mem_of_getElem? (i := 1017) (by decide +kernel)⟩
def lw_privs_3 : List (MethodName × Nat) := [(⟨"OffsideParser", "checkNode", "(I)V"⟩, 7), (⟨"OffsideParser$Row", "reverse", "(II)V"⟩, 2), (⟨"OffsideParserModel", "begin", "()V"⟩, 32), (⟨"OffsideParserModel", "add", "(IIIII)I"⟩, 32), (⟨"OffsideParserModel", "countOf", "(I)I"⟩, 32), (⟨"OffsideParserModel", "insert", "(III)V"⟩, 32), (⟨"OffsideParserModel", "childOf", "(II)I"⟩, 32), (⟨"OffsideParserModel", "number", "()V"⟩, 32), (⟨"OffsideParserModel", "following", "(II)I"⟩, 32), (⟨"OffsideParserModel", "take", "(J)I"⟩, 32), (⟨"OffsideParserModel", "fail", "(I)I"⟩, 32), (⟨"OffsideParserModel", "push", "(II)V"⟩, 32), (⟨"OffsideParserModel", "accept", "()V"⟩, 32), (⟨"OffsideParserModel", "isGroupOpen", "()Z"⟩, 32), (⟨"OffsideParserModel", "top", "()I"⟩, 32), (⟨"OffsideParserModel", "isPart", "()Z"⟩, 32)]
theorem lw_r3 : ∀ q ∈ lw_privs_3, lw_okq q := List.forall_mem_cons.mpr ⟨lw_p32, List.forall_mem_cons.mpr ⟨lw_p33, List.forall_mem_cons.mpr ⟨lw_p34, List.forall_mem_cons.mpr ⟨lw_p35, List.forall_mem_cons.mpr ⟨lw_p36, List.forall_mem_cons.mpr ⟨lw_p37, List.forall_mem_cons.mpr ⟨lw_p38, List.forall_mem_cons.mpr ⟨lw_p39, List.forall_mem_cons.mpr ⟨lw_p40, List.forall_mem_cons.mpr ⟨lw_p41, List.forall_mem_cons.mpr ⟨lw_p42, List.forall_mem_cons.mpr ⟨lw_p43, List.forall_mem_cons.mpr ⟨lw_p44, List.forall_mem_cons.mpr ⟨lw_p45, List.forall_mem_cons.mpr ⟨lw_p46, List.forall_mem_cons.mpr ⟨lw_p47, fun _ h => absurd h List.not_mem_nil⟩⟩⟩⟩⟩⟩⟩⟩⟩⟩⟩⟩⟩⟩⟩⟩
theorem lw_p48 : lw_okq (⟨"OffsideParserModel", "addPart", "(I)V"⟩, 32) := ⟨⟨by decide +kernel, by decide +kernel⟩, List.mem_of_getElem? (i := 827) (by decide +kernel), List.mem_of_getElem? (i := 1020) (by decide +kernel), List.mem_of_getElem? (i := 1021) (by decide +kernel)⟩
theorem lw_p49 : lw_okq (⟨"OffsideParserModel", "repair", "(I)V"⟩, 32) := ⟨⟨by decide +kernel, by decide +kernel⟩, List.mem_of_getElem? (i := 827) (by decide +kernel), List.mem_of_getElem? (i := 1024) (by decide +kernel), List.mem_of_getElem? (i := 1025) (by decide +kernel)⟩
theorem lw_p50 : lw_okq (⟨"OffsideParserModel", "align", "()V"⟩, 32) := ⟨⟨by decide +kernel, by decide +kernel⟩, List.mem_of_getElem? (i := 827) (by decide +kernel), List.mem_of_getElem? (i := 1031) (by decide +kernel), List.mem_of_getElem? (i := 1032) (by decide +kernel)⟩
theorem lw_p51 : lw_okq (⟨"OffsideParserModel", "act", "()V"⟩, 32) := ⟨⟨by decide +kernel, by decide +kernel⟩, List.mem_of_getElem? (i := 827) (by decide +kernel), List.mem_of_getElem? (i := 1035) (by decide +kernel), List.mem_of_getElem? (i := 1036) (by decide +kernel)⟩
theorem lw_p52 : lw_okq (⟨"OffsideParserModel", "addToItem", "()V"⟩, 32) := ⟨⟨by decide +kernel, by decide +kernel⟩, List.mem_of_getElem? (i := 827) (by decide +kernel), List.mem_of_getElem? (i := 1039) (by decide +kernel), List.mem_of_getElem? (i := 1040) (by decide +kernel)⟩
theorem lw_p53 : lw_okq (⟨"OffsideParserModel", "close", "()V"⟩, 32) := ⟨⟨by decide +kernel, by decide +kernel⟩, List.mem_of_getElem? (i := 827) (by decide +kernel), List.mem_of_getElem? (i := 1043) (by decide +kernel), List.mem_of_getElem? (i := 1044) (by decide +kernel)⟩
theorem lw_p54 : lw_okq (⟨"OffsideParserModel", "isNode", "(I)Z"⟩, 32) := ⟨⟨by decide +kernel, by decide +kernel⟩, List.mem_of_getElem? (i := 827) (by decide +kernel), List.mem_of_getElem? (i := 1063) (by decide +kernel), List.mem_of_getElem? (i := 1064) (by decide +kernel)⟩
theorem lw_p55 : lw_okq (⟨"OffsideParserModel", "depthOf", "(IZ)I"⟩, 32) := ⟨⟨by decide +kernel, by decide +kernel⟩, List.mem_of_getElem? (i := 827) (by decide +kernel), List.mem_of_getElem? (i := 1099) (by decide +kernel), List.mem_of_getElem? (i := 1100) (by decide +kernel)⟩
theorem lw_p56 : lw_okq (⟨"OffsideParserModel", "isFed", "(II)Z"⟩, 32) := ⟨⟨by decide +kernel, by decide +kernel⟩, List.mem_of_getElem? (i := 827) (by decide +kernel), List.mem_of_getElem? (i := 1107) (by decide +kernel), List.mem_of_getElem? (i := 1108) (by decide +kernel)⟩
theorem lw_p57 : lw_okq (⟨"OffsideParserModel", "words", "()I"⟩, 32) := ⟨⟨by decide +kernel, by decide +kernel⟩, List.mem_of_getElem? (i := 827) (by decide +kernel), List.mem_of_getElem? (i := 1115) (by decide +kernel), List.mem_of_getElem? (i := 1116) (by decide +kernel)⟩
theorem lw_p58 : lw_okq (⟨"OffsideParserModel", "areSame", "(II)Z"⟩, 32) := ⟨⟨by decide +kernel, by decide +kernel⟩, List.mem_of_getElem? (i := 827) (by decide +kernel), List.mem_of_getElem? (i := 1119) (by decide +kernel), List.mem_of_getElem? (i := 1120) (by decide +kernel)⟩
theorem lw_p59 : lw_okq (⟨"OffsideParserModel", "isItem", "(I)Z"⟩, 32) := ⟨⟨by decide +kernel, by decide +kernel⟩, List.mem_of_getElem? (i := 827) (by decide +kernel), List.mem_of_getElem? (i := 1127) (by decide +kernel), List.mem_of_getElem? (i := 1128) (by decide +kernel)⟩
theorem lw_p60 : lw_okq (⟨"OffsideParserModel", "takeOut", "(I)V"⟩, 32) := ⟨⟨by decide +kernel, by decide +kernel⟩, List.mem_of_getElem? (i := 827) (by decide +kernel), List.mem_of_getElem? (i := 1131) (by decide +kernel), List.mem_of_getElem? (i := 1132) (by decide +kernel)⟩
theorem lw_p61 : lw_okq (⟨"OffsideParserModel", "isWithin", "(II)Z"⟩, 32) := ⟨⟨by decide +kernel, by decide +kernel⟩, List.mem_of_getElem? (i := 827) (by decide +kernel), List.mem_of_getElem? (i := 1139) (by decide +kernel), List.mem_of_getElem? (i := 1140) (by decide +kernel)⟩
theorem lw_p62 : lw_okq (⟨"OffsideParserModel", "heightOf", "(I)I"⟩, 32) := ⟨⟨by decide +kernel, by decide +kernel⟩, List.mem_of_getElem? (i := 827) (by decide +kernel), List.mem_of_getElem? (i := 1143) (by decide +kernel), List.mem_of_getElem? (i := 1144) (by decide +kernel)⟩
theorem lw_p63 : lw_okq (⟨"OffsideParserModel", "putLine", "(IIZ)V"⟩, 32) := ⟨⟨by decide +kernel, by decide +kernel⟩, List.mem_of_getElem? (i := 827) (by decide +kernel), List.mem_of_getElem? (i := 1156) (by decide +kernel), List.mem_of_getElem? (i := 1157) (by decide +kernel)⟩
def lw_privs_4 : List (MethodName × Nat) := [(⟨"OffsideParserModel", "addPart", "(I)V"⟩, 32), (⟨"OffsideParserModel", "repair", "(I)V"⟩, 32), (⟨"OffsideParserModel", "align", "()V"⟩, 32), (⟨"OffsideParserModel", "act", "()V"⟩, 32), (⟨"OffsideParserModel", "addToItem", "()V"⟩, 32), (⟨"OffsideParserModel", "close", "()V"⟩, 32), (⟨"OffsideParserModel", "isNode", "(I)Z"⟩, 32), (⟨"OffsideParserModel", "depthOf", "(IZ)I"⟩, 32), (⟨"OffsideParserModel", "isFed", "(II)Z"⟩, 32), (⟨"OffsideParserModel", "words", "()I"⟩, 32), (⟨"OffsideParserModel", "areSame", "(II)Z"⟩, 32), (⟨"OffsideParserModel", "isItem", "(I)Z"⟩, 32), (⟨"OffsideParserModel", "takeOut", "(I)V"⟩, 32), (⟨"OffsideParserModel", "isWithin", "(II)Z"⟩, 32), (⟨"OffsideParserModel", "heightOf", "(I)I"⟩, 32), (⟨"OffsideParserModel", "putLine", "(IIZ)V"⟩, 32)]
theorem lw_r4 : ∀ q ∈ lw_privs_4, lw_okq q := List.forall_mem_cons.mpr ⟨lw_p48, List.forall_mem_cons.mpr ⟨lw_p49, List.forall_mem_cons.mpr ⟨lw_p50, List.forall_mem_cons.mpr ⟨lw_p51, List.forall_mem_cons.mpr ⟨lw_p52, List.forall_mem_cons.mpr ⟨lw_p53, List.forall_mem_cons.mpr ⟨lw_p54, List.forall_mem_cons.mpr ⟨lw_p55, List.forall_mem_cons.mpr ⟨lw_p56, List.forall_mem_cons.mpr ⟨lw_p57, List.forall_mem_cons.mpr ⟨lw_p58, List.forall_mem_cons.mpr ⟨lw_p59, List.forall_mem_cons.mpr ⟨lw_p60, List.forall_mem_cons.mpr ⟨lw_p61, List.forall_mem_cons.mpr ⟨lw_p62, List.forall_mem_cons.mpr ⟨lw_p63, fun _ h => absurd h List.not_mem_nil⟩⟩⟩⟩⟩⟩⟩⟩⟩⟩⟩⟩⟩⟩⟩⟩
theorem lw_p64 : lw_okq (⟨"OffsideParserModel", "put", "(I)V"⟩, 32) := ⟨⟨by decide +kernel, by decide +kernel⟩, List.mem_of_getElem? (i := 827) (by decide +kernel), List.mem_of_getElem? (i := 1160) (by decide +kernel), List.mem_of_getElem? (i := 1161) (by decide +kernel)⟩
theorem lw_p65 : lw_okq (⟨"OffsideParserModel", "lastOf", "(I)I"⟩, 32) := ⟨⟨by decide +kernel, by decide +kernel⟩, List.mem_of_getElem? (i := 827) (by decide +kernel), List.mem_of_getElem? (i := 1164) (by decide +kernel), List.mem_of_getElem? (i := 1165) (by decide +kernel)⟩
theorem lw_p66 : lw_okq (⟨"OffsideParserModel", "putAll", "(IZI)V"⟩, 32) := ⟨⟨by decide +kernel, by decide +kernel⟩, List.mem_of_getElem? (i := 827) (by decide +kernel), List.mem_of_getElem? (i := 1168) (by decide +kernel), List.mem_of_getElem? (i := 1169) (by decide +kernel)⟩
theorem lw_p67 : lw_okq (⟨"OffsideParserModel", "putNode", "(I)V"⟩, 32) := ⟨⟨by decide +kernel, by decide +kernel⟩, List.mem_of_getElem? (i := 827) (by decide +kernel), List.mem_of_getElem? (i := 1172) (by decide +kernel), List.mem_of_getElem? (i := 1173) (by decide +kernel)⟩
theorem lw_p68 : lw_okq (⟨"OffsideParserModel", "putNumber", "(I)V"⟩, 32) := ⟨⟨by decide +kernel, by decide +kernel⟩, List.mem_of_getElem? (i := 827) (by decide +kernel), List.mem_of_getElem? (i := 1176) (by decide +kernel), List.mem_of_getElem? (i := 1177) (by decide +kernel)⟩
def lw_privs_5 : List (MethodName × Nat) := [(⟨"OffsideParserModel", "put", "(I)V"⟩, 32), (⟨"OffsideParserModel", "lastOf", "(I)I"⟩, 32), (⟨"OffsideParserModel", "putAll", "(IZI)V"⟩, 32), (⟨"OffsideParserModel", "putNode", "(I)V"⟩, 32), (⟨"OffsideParserModel", "putNumber", "(I)V"⟩, 32)]
theorem lw_r5 : ∀ q ∈ lw_privs_5, lw_okq q := List.forall_mem_cons.mpr ⟨lw_p64, List.forall_mem_cons.mpr ⟨lw_p65, List.forall_mem_cons.mpr ⟨lw_p66, List.forall_mem_cons.mpr ⟨lw_p67, List.forall_mem_cons.mpr ⟨lw_p68, fun _ h => absurd h List.not_mem_nil⟩⟩⟩⟩⟩
def lw_privs : List (MethodName × Nat) := lw_privs_1 ++ (lw_privs_2 ++ (lw_privs_3 ++ (lw_privs_4 ++ (lw_privs_5))))
def lw_tbl : List Cond := k2_sels lw_privs ++ tables_1
theorem lw_privs_ok : ∀ q ∈ lw_privs, lw_okq q := by
  show ∀ q ∈ lw_privs_1 ++ (lw_privs_2 ++ (lw_privs_3 ++ (lw_privs_4 ++ (lw_privs_5)))), lw_okq q
  exact List.forall_mem_append.mpr ⟨lw_r1, List.forall_mem_append.mpr ⟨lw_r2, List.forall_mem_append.mpr ⟨lw_r3, List.forall_mem_append.mpr ⟨lw_r4, lw_r5⟩⟩⟩⟩
end
section
/-! ===== BEGIN words of one list among another's, by their places ===== -/
theorem goodIn_r {big : List Cond} (ws : List Cond) (ps : List Nat) (hp : ws = ps.filterMap (fun i => big[i]?)) (h : ws.all goodWord = true) : GoodIn big ws := by
  intro w hw
  have h1 := List.all_eq_true.mp h w hw
  rw [hp] at hw
  obtain ⟨i, -, hi⟩ := List.mem_filterMap.mp hw
  have hm : w ∈ big := by first | exact List.mem_of_getElem? hi | exact List.getElem?_mem hi
  exact ⟨hm, good_of_word h1⟩
theorem goodIn_app {big a b : List Cond} (ha : GoodIn big a) (hb : GoodIn big b) : GoodIn big (a ++ b) := fun w h => (List.mem_append.mp h).elim (ha w) (hb w)
theorem goodIn_ca {big a b : List Cond} {c : Cond} (ha : GoodIn big (c :: a)) (hb : GoodIn big b) : GoodIn big (c :: (a ++ b)) := fun w h => (List.mem_cons.mp h).elim (fun e => ha w (List.mem_cons.mpr (Or.inl e))) (fun h => (List.mem_append.mp h).elim (fun h => ha w (List.mem_cons.mpr (Or.inr h))) (hb w))
theorem goodIn_sub {big ws : List Cond} (hm : ∀ w ∈ ws, w ∈ big) (h : ws.all goodWord = true) : GoodIn big ws := fun w hw => ⟨hm w hw, good_of_word (List.all_eq_true.mp h w hw)⟩
/-! ===== END ===== -/

/-! ===== BEGIN exceptions that leave a method, and their catching by the caller (launches without stack traces) ===== -/
section VXA
/-! The laws vx_back, vx_callV, vx_callS, vx_callSW, vx_throw0, vx_throwS follow proofs of the library, with one case more: JvmDerived/Free/Laws.lean (Back.of_free), Shelf42/LK1.lean (callV, callS), Shelf/KitTraced.lean (throwNew0V, throwNewS). -/
/-- where a method has thrown q: the class by its name, the cell, what was written, the world -/
def vx_T (XC : String → State → State → Prop) (st : State) (q : Addr) (t : State) (mc ms : Nat) (free : Addr → Prop) : Prop :=
  ∃ (E : String) (ce : Cell) (L : List Loc), XC E st t ∧ t.heap[q]? = some ce ∧ ce.vm = .none ∧ st.vm.findClass E = some ce.cls ∧ st.WarmedH t.vm ∧ st.sameButNew ({ t with vm := st.vm } : State) L mc ms ∧ ∀ z ∈ L, free z.base
def vx_Q (Qc : Array Value → State → Outcome → State → Prop) (XC : String → State → State → Prop) (mc ms : Nat) (free : Addr → Prop) : Array Value → State → Outcome → State → Prop := fun a st o t =>
  (Qc a st o t ∧ ∃ L, FrameEnd st o t L mc ms ∧ ∀ q ∈ L, free q.base) ∨ ∃ q, o = .threw q ∧ vx_T XC st q t mc ms free
/-- a callee that returns or throws -/
def vx_Met (l : Launch) (y : MethodName) (ws : List Cond) (rm : Room) (Pc : Array Value → State → Prop) (Qc : Array Value → State → Outcome → State → Prop) (XC : String → State → State → Prop) (mc ms : Nat) (free : Addr → Prop) : Prop :=
  MetFree l y (headSpec ws rm) Pc (fun _ _ _ _ _ => True) (vx_Q Qc XC mc ms free)
def vx_Post (XC : String → State → State → Prop) (mc ms : Nat) (free : Addr → Prop) : Pt → Array Value → Addr → Pt → Prop := fun A a q B =>
  ∃ (g : JFrame) (mk : MethodId) (t : State) (L : List Loc) (E : String) (ce : Cell), B.U.heap = t.heap ∧ B.U.vm = t.vm ∧ XC E (A.U.calling g mk a) t ∧ t.heap[q]? = some ce ∧ ce.vm = .none ∧ A.U.vm.findClass E = some ce.cls ∧ B.locs = A.locs ++ L ∧ (∀ z ∈ L, free z.base) ∧ B.cells = A.cells + mc ∧ B.slots = A.slots + ms
def vx_Back (l : Launch) (R : Room) (p : Program) (e : Env) (below : List Frame) (s : State) (sargs : Array Value) (y : MethodName) (len W9 : Nat)
    (Pre : Pt → Array Value → Prop) (Post : Pt → Array Value → Option Value → Pt → Prop) (PostX : Pt → Array Value → Addr → Pt → Prop) : Prop :=
  ∀ (m : MethodId) (meth : Method) (c : Code) (A : Pt) (g : JFrame) (ig : Instr) (mk : MethodId) (a : Array Value),
    Stand p l e R s m sargs below meth c A.U A.locs A.cells A.slots → g.method = m → g.locals.size = c.maxLocals → decode c.code g.pc = .ok (ig, len) →
    2 * g.monitorRoom + (g.stack.map fun v => v.category).sum ≤ W9 → A.U.methodNamed? y = some mk → Pre A a →
    (∃ (v : Option Value) (B : Pt), Stand p l e R s m sargs below meth c B.U B.locs B.cells B.slots ∧ Post A a v B ∧
      Steps p.tables e below (doInvoke e (A.U.setTop g) [] mk a).1 (B.U.setTop { g with pc := g.pc + len, stack := v.toList ++ g.stack })) ∨
    (∃ (q : Addr) (B : Pt), Stand p l e R s m sargs below meth c B.U B.locs B.cells B.slots ∧ PostX A a q B ∧
      Steps p.tables e below (doInvoke e (A.U.setTop g) [] mk a).1 ((B.U.setTop g).pushFrame (.throwing q)))
section Payer
variable {l : Launch} {R : Room} {p : Program} {e : Env} {below : List Frame} {s : State} {sargs : Array Value} {y : MethodName} {len W9 : Nat}
theorem vx_back {ws : List Cond} {rm : Room} {Pc : Array Value → State → Prop} {Qc : Array Value → State → Outcome → State → Prop} {XC : String → State → State → Prop} {mc ms : Nat} {free : Addr → Prop} {bytes : ByteArray} {maxL : Nat} {ret : Option FieldType}
    (hM : vx_Met l y ws rm Pc Qc XC mc ms free) (hblind : FrameBlind Pc) (hrc : rm.cells = mc) (hrs : rm.slots = ms)
    (hframes : rm.frames + 1 ≤ R.frames) (hlocals : W9 + (maxL + 11) + rm.locals ≤ R.locals)
    (hws : ∀ w ∈ ws, ∀ a' U, s.WarmedH U.vm → w.before a' U = true) (hcode : Cond.code y bytes maxL ret ∈ ws) (hinit : ∀ a' U, s.WarmedH U.vm → (Cond.initialized y.cls).before a' U = true) :
    vx_Back l R p e below s sargs y len W9 (PreOf R mc ms Pc) (PostOf Qc mc ms free) (vx_Post XC mc ms free) := by
  intro m meth c A g ig mk a X hg hsize hdg hW hn hp
  have h1 : (headSpec ws rm).pre.before a A.U = true := atoms_intro fun w hw => hws w hw _ _ X.warmed
  have h2 : (Cond.code y bytes maxL ret).before a A.U = true := hws _ hcode _ _ X.warmed
  have h3 : (Cond.initialized y.cls).before a A.U = true := hinit _ _ X.warmed
  have h4 : A.cells + (headSpec ws rm).room.cells ≤ R.cells := by rw [show (headSpec ws rm).room.cells = mc from hrc]; exact hp.1
  have h5 : A.slots + (headSpec ws rm).room.slots ≤ R.slots := by rw [show (headSpec ws rm).room.slots = ms from hrs]; exact hp.2.1
  have hPc : Pc a (A.U.calling g mk a) := hblind _ _ _ _ hp.2.2
  obtain ⟨U, Ls, c0, s0⟩ := A
  dsimp only [Pt.U, Pt.locs, Pt.cells, Pt.slots] at h1 h2 h3 h4 h5 X hn hPc ⊢
  obtain ⟨methY, cY, hmY, hcY, -, hlY, -, -, -, -⟩ := Cond.code_spec hn h2
  obtain ⟨kY, hkY, -⟩ := className_of_methodNamed hn
  have hinitY : kY.init = .initialized := Cond.initialized_spec (findClass_of_methodNamed hn) hkY h3
  have h : At U g.method c below := by rw [hg]; exact X.here
  have hlocals9 : W9 + (maxL + 11) + (headSpec ws rm).room.locals ≤ R.locals := hlocals
  have happ : (headSpec ws rm).appliesLoose y e.platform (U.calling g mk a) = true :=
    Spec.appliesLoose_calling (g := g) h hdg hn hkY hinitY
      (X.room_calling (g := g) (R' := (headSpec ws rm).room) hsize hmY hcY hframes (by rw [hlY]; omega) h4 h5) h1
  obtain ⟨mid, hmid⟩ := h.above
  have hfr : (U.setTop g).frames = (.java g :: mid) ++ below := by rw [State.frames_setTop' g h.top, hmid]; rfl
  obtain ⟨o, s₂, hsteps, -, hend, hq⟩ := Steps.callFree hM p X.admits X.cas X.clock (acts := []) hfr happ hPc trivial
  have hq' : vx_Q Qc XC mc ms free a (U.calling g mk a) o s₂ := hq
  rw [State.frames_setTop' g h.top] at hend
  obtain ⟨g₀, hg0⟩ := Option.isSome_iff_exists.mp h.top
  obtain ⟨r, hr⟩ := State.topJava?_eq_some.mp hg0
  have hr' : (({ U with heap := s₂.heap, slotsUsed := s₂.slotsUsed } : State).setVm s₂.vm).frames = .java g₀ :: r := hr
  rcases hq' with ⟨hqc, L, hfe, hL⟩ | ⟨q, rfl, E, ce, L, hx, hce, hcv, hcl, hW₂, hsm, hL⟩
  · obtain ⟨⟨v, rfl⟩, hW₂, e2, q2, q3, q4, q5, q6⟩ := id hfe
    have e3 : s₂ = ({ (U.calling g mk a).setFrames s₂.frames with heap := s₂.heap, slotsUsed := s₂.slotsUsed } : State).setVm s₂.vm := by
      have : s₂ = ({ s₂ with vm := (U.calling g mk a).vm } : State).setVm s₂.vm := rfl
      rw [e2] at this
      exact this
    obtain ⟨c₂, i₂, len₂, hc₂, hd₂, hf₂⟩ := hend
    have hW' : U.WarmedH s₂.vm := hW₂
    have hcc : c₂ = c := by
      have h1 : s₂.code? g.method = U.code? g.method := by
        rw [State.code?_eq, State.code?_eq, hW'.alike.method?]
      exact Option.some.inj (hc₂.symm.trans (h1.trans h.code))
    subst hcc
    have hlen : len₂ = len := by rw [hdg] at hd₂; cases hd₂; rfl
    subst hlen
    have hs₂ : s₂ = (({ U with heap := s₂.heap, slotsUsed := s₂.slotsUsed } : State).setVm s₂.vm).setTop { g with pc := g.pc + len₂, stack := v.toList ++ g.stack } := by
      refine e3.trans ?_
      rw [hf₂, State.calling_eq h.top, State.setFrames_setFrames, State.setTop_of_frames _ hr', hr]
      rfl
    have hsame : U.sameButNew ({ U with heap := s₂.heap, slotsUsed := s₂.slotsUsed } : State) L mc ms := by
      refine ⟨?_, q2, q3, q4, q5, q6⟩
      obtain ⟨t, ht, -⟩ := State.frames_cons hr
      show ({ U with heap := s₂.heap, slotsUsed := s₂.slotsUsed } : State) = { U.setFrames U.frames with heap := s₂.heap, slotsUsed := s₂.slotsUsed }
      rw [State.setFrames_self ht]
    subst hg
    refine Or.inl ⟨v, ⟨(({ U with heap := s₂.heap, slotsUsed := s₂.slotsUsed } : State).setVm s₂.vm), Ls ++ L, c0 + mc, s0 + ms⟩,
      ⟨X.admits, X.cas, X.clock, X.frames, X.room, X.hears, X.method, X.code, (X.here.setHeapUsed s₂.heap s₂.slotsUsed).setVm hW'.alike, X.tail, State.WarmedH.trans X.warmed hW', X.limits, X.bytes, X.same.trans (hsame.setVm s.vm)⟩,
      ⟨g, mk, s₂, L, rfl, rfl, hqc, rfl, hL, rfl, rfl⟩, ?_⟩
    show Steps p.tables e below _ ((({ U with heap := s₂.heap, slotsUsed := s₂.slotsUsed } : State).setVm s₂.vm).setTop { g with pc := g.pc + len₂, stack := v.toList ++ g.stack })
    rw [← hs₂]
    exact hsteps
  · obtain ⟨e2, q2, q3, q4, q5, q6⟩ := id hsm
    have e3 : s₂ = ({ (U.calling g mk a).setFrames s₂.frames with heap := s₂.heap, slotsUsed := s₂.slotsUsed } : State).setVm s₂.vm := by
      have : s₂ = ({ s₂ with vm := (U.calling g mk a).vm } : State).setVm s₂.vm := rfl
      rw [e2] at this
      exact this
    have hf₂ : s₂.frames = .throwing q :: .java g :: U.frames.tail := hend
    have hW' : U.WarmedH s₂.vm := hW₂
    have hs₂ : s₂ = ((({ U with heap := s₂.heap, slotsUsed := s₂.slotsUsed } : State).setVm s₂.vm).setTop g).pushFrame (.throwing q) := by
      refine e3.trans ?_
      rw [hf₂, State.calling_eq h.top, State.setFrames_setFrames, State.pushFrame, State.frames_setTop _ hr', State.setTop_of_frames _ hr', State.setFrames_setFrames, hr]
      rfl
    have hsame : U.sameButNew ({ U with heap := s₂.heap, slotsUsed := s₂.slotsUsed } : State) L mc ms := by
      refine ⟨?_, q2, q3, q4, q5, q6⟩
      obtain ⟨t, ht, -⟩ := State.frames_cons hr
      show ({ U with heap := s₂.heap, slotsUsed := s₂.slotsUsed } : State) = { U.setFrames U.frames with heap := s₂.heap, slotsUsed := s₂.slotsUsed }
      rw [State.setFrames_self ht]
    subst hg
    refine Or.inr ⟨q, ⟨(({ U with heap := s₂.heap, slotsUsed := s₂.slotsUsed } : State).setVm s₂.vm), Ls ++ L, c0 + mc, s0 + ms⟩,
      ⟨X.admits, X.cas, X.clock, X.frames, X.room, X.hears, X.method, X.code, (X.here.setHeapUsed s₂.heap s₂.slotsUsed).setVm hW'.alike, X.tail, State.WarmedH.trans X.warmed hW', X.limits, X.bytes, X.same.trans (hsame.setVm s.vm)⟩,
      ⟨g, mk, s₂, L, E, ce, rfl, rfl, hx, hce, hcv, hcl, rfl, hL, rfl, rfl⟩, ?_⟩
    show Steps p.tables e below _ (((({ U with heap := s₂.heap, slotsUsed := s₂.slotsUsed } : State).setVm s₂.vm).setTop g).pushFrame (.throwing q))
    rw [← hs₂]
    exact hsteps
end Payer
section Calls
variable {p : Program} {l : Launch} {e : Env} {R : Room} {s : State} {m : MethodId} {args : Array Value} {below : List Frame} {meth : Method} {c : Code} {T : State} {locs : List Loc} {cells slots : Nat}
theorem vx_callV (X : Stand p l e R s m args below meth c T locs cells slots) (hexec : p.tables.exec = Jvm.exec) {own C : String} {index : Nat} {y : MethodName} {bytes : ByteArray} {maxL : Nat} {ret : Option FieldType}
    (hown : s.vm.findClass own = some m.cls) (hlink : (Cond.methodLink own index y).before args s = true) (hinst : (Cond.instanceMethod y).before args s = true) (hsel : (Cond.selects C y y).before args s = true)
    (hcode : (Cond.code y bytes maxL ret).before args s = true) (hy : y.cls ≠ "java/lang/invoke/MethodHandle" ∧ y.cls ≠ "java/lang/invoke/VarHandle")
    {W9 : Nat} {Pre : Pt → Array Value → Prop} {Post : Pt → Array Value → Option Value → Pt → Prop} {PostX : Pt → Array Value → Addr → Pt → Prop} (hK : vx_Back l R p e below s args y 3 W9 Pre Post PostX)
    {b : Addr} {cellB : Cell} (hcell : T.heap[b]? = some cellB) (hobj : cellB.vm.isStatics = false) (hcls : s.vm.findClass C = some cellB.cls)
    {g : JFrame} (hg : g.method = m) (hsize : g.locals.size = c.maxLocals) {argsL rest : List Value} (hlen : ∀ sig, parseMethodDescriptor y.desc = some sig → argsL.length = sig.parameters.length)
    (hstack : g.stack = argsL.reverse ++ .ref b :: rest) (hW : 2 * g.monitorRoom + (rest.map fun v => v.category).sum ≤ W9) (hdg : decode c.code g.pc = .ok (.invokevirtual index, 3))
    (hpre : ∀ vm₁, s.WarmedH vm₁ → Pre ⟨T.setVm vm₁, locs, cells, slots⟩ (Value.ref b :: argsL).toArray) :
    (∃ (v : Option Value) (vm₁ : Vm) (B : Pt), s.WarmedH vm₁ ∧ Stand p l e R s m args below meth c B.U B.locs B.cells B.slots ∧ Post ⟨T.setVm vm₁, locs, cells, slots⟩ (Value.ref b :: argsL).toArray v B ∧
      ∀ target, Steps p.tables e below (B.U.setTop { g with pc := g.pc + 3, stack := v.toList ++ rest }) target → Steps p.tables e below (T.setTop g) target) ∨
    (∃ (q : Addr) (vm₁ : Vm) (B : Pt), s.WarmedH vm₁ ∧ Stand p l e R s m args below meth c B.U B.locs B.cells B.slots ∧ PostX ⟨T.setVm vm₁, locs, cells, slots⟩ (Value.ref b :: argsL).toArray q B ∧
      Steps p.tables e below (T.setTop g) ((B.U.setTop { g with stack := rest }).pushFrame (.throwing q))) := by
  obtain ⟨mk, methM, hnamed, hmethM, hstM, habM⟩ := Cond.instanceMethod_spec hinst
  obtain ⟨methM', cM, hmethM', -, -, -, -, -, -, hsigM⟩ := Cond.code_spec hnamed hcode
  cases hmethM.symm.trans hmethM'
  obtain ⟨c2, r2, m2, q1, q2, q3, q4, kP, hkP, hkPi⟩ := Cond.selects_spec hsel
  cases hcls.symm.trans q1
  cases (State.methodFound?_of_named hnamed hy).symm.trans q2
  cases hnamed.symm.trans q3
  have hselP : selectMethod e.platform s.vm cellB.cls mk = .method mk := by rw [Launch.admits_selectMethod X.admits]; exact q4
  obtain ⟨vm₁, X₁, hstep₁⟩ := X.invokevirtual hexec hown hlink hnamed hmethM hstM hkP hkPi hy (a := b) (cell := cellB) hcell
    (fun z h => by rw [h] at hobj; cases hobj) hselP hmethM habM hkP hkPi (g := g) hg (argsL := argsL) (rest := rest) (hlen _ hsigM) hstack hdg
  rcases hK m meth c ⟨T.setVm vm₁, locs, cells, slots⟩ { g with stack := rest } (.invokevirtual index) mk (Value.ref b :: argsL).toArray X₁ hg hsize hdg hW (X₁.named hnamed) (hpre vm₁ X₁.warmed) with ⟨v, B, X', hpost, hsteps⟩ | ⟨q, B, X', hpost, hsteps⟩
  · exact Or.inl ⟨v, vm₁, B, X₁.warmed, X', hpost, fun target h => hstep₁ _ fun acts => by rw [doInvoke_state]; exact hsteps.trans h⟩
  · exact Or.inr ⟨q, vm₁, B, X₁.warmed, X', hpost, hstep₁ _ fun acts => by rw [doInvoke_state]; exact hsteps⟩
theorem vx_callS (X : Stand p l e R s m args below meth c T locs cells slots) (hexec : p.tables.exec = Jvm.exec) {own : String} {index : Nat} {y : MethodName} {bytes : ByteArray} {maxL : Nat} {ret : Option FieldType}
    (hown : s.vm.findClass own = some m.cls) (hlink : (Cond.methodLink own index y).before args s = true) (hstat : (Cond.static y).before args s = true) (hinit : (Cond.initialized y.cls).before args s = true)
    (hcode : (Cond.code y bytes maxL ret).before args s = true) (hy : y.cls ≠ "java/lang/invoke/MethodHandle" ∧ y.cls ≠ "java/lang/invoke/VarHandle")
    {W9 : Nat} {Pre : Pt → Array Value → Prop} {Post : Pt → Array Value → Option Value → Pt → Prop} {PostX : Pt → Array Value → Addr → Pt → Prop} (hK : vx_Back l R p e below s args y 3 W9 Pre Post PostX)
    {g : JFrame} (hg : g.method = m) (hsize : g.locals.size = c.maxLocals) {argsL rest : List Value} (hlen : ∀ sig, parseMethodDescriptor y.desc = some sig → argsL.length = sig.parameters.length)
    (hstack : g.stack = argsL.reverse ++ rest) (hW : 2 * g.monitorRoom + (rest.map fun v => v.category).sum ≤ W9) (hdg : decode c.code g.pc = .ok (.invokestatic index, 3))
    (hpre : ∀ vm₁, s.WarmedH vm₁ → Pre ⟨T.setVm vm₁, locs, cells, slots⟩ argsL.toArray) :
    (∃ (v : Option Value) (vm₁ : Vm) (B : Pt), s.WarmedH vm₁ ∧ Stand p l e R s m args below meth c B.U B.locs B.cells B.slots ∧ Post ⟨T.setVm vm₁, locs, cells, slots⟩ argsL.toArray v B ∧
      ∀ target, Steps p.tables e below (B.U.setTop { g with pc := g.pc + 3, stack := v.toList ++ rest }) target → Steps p.tables e below (T.setTop g) target) ∨
    (∃ (q : Addr) (vm₁ : Vm) (B : Pt), s.WarmedH vm₁ ∧ Stand p l e R s m args below meth c B.U B.locs B.cells B.slots ∧ PostX ⟨T.setVm vm₁, locs, cells, slots⟩ argsL.toArray q B ∧
      Steps p.tables e below (T.setTop g) ((B.U.setTop { g with stack := rest }).pushFrame (.throwing q))) := by
  obtain ⟨mk, hnamed⟩ := Cond.code_named hcode
  obtain ⟨methM, cM, hmethM, -, -, -, -, -, -, hsigM⟩ := Cond.code_spec hnamed hcode
  have hstatic : methM.isStatic = true := Cond.static_spec hnamed hmethM hstat
  obtain ⟨kP, hkP, -⟩ := className_of_methodNamed hnamed
  have hinitP : kP.init = .initialized := Cond.initialized_spec (findClass_of_methodNamed hnamed) hkP hinit
  obtain ⟨vm₁, X₁, hstep₁⟩ := X.invokestatic hexec hown hlink hnamed hmethM hstatic hkP hinitP hy (g := g) hg (argsL := argsL) (rest := rest) (hlen _ hsigM) hstack hdg
  rcases hK m meth c ⟨T.setVm vm₁, locs, cells, slots⟩ { g with stack := rest } (.invokestatic index) mk argsL.toArray X₁ hg hsize hdg hW (X₁.named hnamed) (hpre vm₁ X₁.warmed) with ⟨v, B, X', hpost, hsteps⟩ | ⟨q, B, X', hpost, hsteps⟩
  · exact Or.inl ⟨v, vm₁, B, X₁.warmed, X', hpost, fun target h => hstep₁ _ fun acts => by rw [doInvoke_state]; exact hsteps.trans h⟩
  · exact Or.inr ⟨q, vm₁, B, X₁.warmed, X', hpost, hstep₁ _ fun acts => by rw [doInvoke_state]; exact hsteps⟩
end Calls
theorem vx_cls {s : State} {T : State} {vm₁ : Vm} {E : String} {k : ClassId} (hW : s.WarmedH vm₁) (h : (T.setVm vm₁).vm.findClass E = some k) : s.vm.findClass E = some k := by
  have h1 : vm₁.findClass E = some k := h
  rw [hW.alike.findClass] at h1
  exact h1
/-- the method's frame g, with q thrown over it -/
def vx_W (p : Program) (l : Launch) (e : Env) (R : Room) (s : State) (m : MethodId) (args : Array Value) (below : List Frame) (meth : Method) (c : Code) (H : Heap) (locs : List Loc) (cells slots : Nat) (Q : State → Prop) (g : JFrame) (q : Addr) : Prop :=
  ∀ T : State, T.heap = H → Stand p l e R s m args below meth c T locs cells slots → ∃ t, Steps p.tables e below ((T.setTop g).pushFrame (.throwing q)) t ∧ Q t
def vx_Run (p : Program) (l : Launch) (e : Env) (R : Room) (s : State) (m : MethodId) (args : Array Value) (below : List Frame) (meth : Method) (c : Code) (H : Heap) (locs : List Loc) (cells slots mc ms : Nat) (g : JFrame) (rest : List Value) (Qa : State → Outcome → State → Prop) (XC : String → State → State → Prop) (free : Addr → Prop) : Prop :=
  ∀ T : State, T.heap = H → Stand p l e R s m args below meth c T locs cells slots →
    (∃ (v : Option Value) (st₀ t T' : State) (L : List Loc), st₀.heap = H ∧ Stand p l e R s m args below meth c T' (locs ++ L) (cells + mc) (slots + ms) ∧ (∀ q ∈ L, free q.base) ∧ T'.heap = t.heap ∧ T'.vm = t.vm ∧ Qa st₀ (.returned v) t ∧
      Goes p e below T g T' { g with pc := g.pc + 3, stack := v.toList ++ rest }) ∨
    (∃ (q : Addr) (st₀ t T' : State) (L : List Loc) (E : String) (ce : Cell), st₀.heap = H ∧ Stand p l e R s m args below meth c T' (locs ++ L) (cells + mc) (slots + ms) ∧ (∀ z ∈ L, free z.base) ∧ T'.heap = t.heap ∧ T'.vm = t.vm ∧ XC E st₀ t ∧ t.heap[q]? = some ce ∧ ce.vm = .none ∧ s.vm.findClass E = some ce.cls ∧
      Steps p.tables e below (T.setTop g) ((T'.setTop { g with stack := rest }).pushFrame (.throwing q)))
def vx_X {S : Type} (px : S → Prop) (B : String → S → State → Prop) (A : Nat → Prop) : String → State → State → Prop := fun E st t => ∃ u : S, px u ∧ B E u t ∧ va_F A st t
section Runs
variable {p : Program} {l : Launch} {e : Env} {R : Room} {s : State} {m : MethodId} {args : Array Value} {below : List Frame} {meth : Method} {c : Code} {H : Heap} {locs : List Loc} {cells slots : Nat}
variable {y : MethodName} {bytes cc : ByteArray} {maxL nL mc ms n index : Nat} {ret : Option FieldType} {ws : List Cond} {rm : Room} {Pc : Array Value → State → Prop} {Qc : Array Value → State → Outcome → State → Prop} {XC : String → State → State → Prop} {free : Addr → Prop} {Ts : List Cond} {own C : String} {b : Addr} {As rest : List Value} {g : JFrame}
theorem vx_callBack (cb : CallB R s args own index y bytes maxL ret ws rm mc ms n) (hM : vx_Met l y ws rm Pc Qc XC mc ms free) (hbl : FrameBlind Pc) : vx_Back l R p e below s args y 3 8 (PreOf R mc ms Pc) (PostOf Qc mc ms free) (vx_Post XC mc ms free) := by
  obtain ⟨hrc, hrs, hfr, hlo, hws, hcw, -, hini, -⟩ := cb
  exact vx_back (bytes := bytes) (maxL := maxL) (ret := ret) hM hbl hrc hrs hfr hlo hws hcw (fun a' U hW => word_at hW (Or.inl (by first | rfl | simp [Cond.onTables, Cond.keeps, Cond.steady])) hini)
theorem vx_runV (S : CallFix p m c cc nL s args Ts own) (hM : vx_Met l y ws rm Pc Qc XC mc ms free) (cw : CallW R s args own C index y bytes maxL ret ws rm mc ms n) (hp : PreV s H C b Pc As)
    (hg : g.method = m) (hn : As.length = n) (hsize : g.locals.size = nL) (hstack : g.stack = As.reverse ++ .ref b :: rest) (hW : 2 * g.monitorRoom + (rest.map fun v => v.category).sum ≤ 8) (hdg : decode cc g.pc = .ok (.invokevirtual index, 3)) (hf : cells + mc ≤ R.cells ∧ slots + ms ≤ R.slots) :
    vx_Run p l e R s m args below meth c H locs cells slots mc ms g rest (Qc (Value.ref b :: As).toArray) XC free := by
  have hK : vx_Back l R p e below s args y 3 8 (PreOf R mc ms Pc) (PostOf Qc mc ms free) (vx_Post XC mc ms free) := vx_callBack cw.1 hM hp.1
  obtain ⟨⟨-, -, -, -, -, -, hcode, -, hy, hlen, hl⟩, hin, hse⟩ := cw
  obtain ⟨hx, hb, hml, ho, -⟩ := S
  obtain ⟨-, ⟨cellB, hcB, hoB, hclB⟩, hPc⟩ := hp
  intro T hT X
  rcases vx_callV X hx (C := C) (bytes := bytes) (maxL := maxL) (ret := ret) ho hl hin hse hcode hy hK (by rw [hT]; exact hcB) hoB hclB hg (hsize.trans hml.symm) (argsL := As) (rest := rest) (fun sig h => hn.trans (hlen sig h)) hstack hW (by rw [hb]; exact hdg)
    (fun vm₁ hW₁ => ⟨hf.1, hf.2, hPc (T.setVm vm₁) hT hW₁⟩) with ⟨v, vm₁, ⟨U', l2, c2, s2⟩, hW₁, X', ⟨g', mk, t, L, e1, e2, hq, h1, hL, h2, h3⟩, st⟩ | ⟨q, vm₁, ⟨U', l2, c2, s2⟩, hW₁, X', ⟨g', mk, t, L, E, ce, e1, e2, hq, hce, hcv, hcl, h1, hL, h2, h3⟩, st⟩
  · dsimp only [Pt.U, Pt.locs, Pt.cells, Pt.slots] at X' e1 e2 h1 h2 h3 st
    subst h1; subst h2; subst h3
    exact Or.inl ⟨v, (T.setVm vm₁).calling g' mk (Value.ref b :: As).toArray, t, U', L, hT, X', hL, e1, e2, hq, st⟩
  · dsimp only [Pt.U, Pt.locs, Pt.cells, Pt.slots] at X' e1 e2 h1 h2 h3 st hcl
    subst h1; subst h2; subst h3
    exact Or.inr ⟨q, (T.setVm vm₁).calling g' mk (Value.ref b :: As).toArray, t, U', L, E, ce, hT, X', hL, e1, e2, hq, hce, hcv, vx_cls hW₁ hcl, st⟩
theorem vx_runS (S : CallFix p m c cc nL s args Ts own) (hM : vx_Met l y ws rm Pc Qc XC mc ms free) (cw : CallB R s args own index y bytes maxL ret ws rm mc ms n ∧ (Cond.static y).before args s = true) (hp : PreS s H Pc As)
    (hg : g.method = m) (hn : As.length = n) (hsize : g.locals.size = nL) (hstack : g.stack = As.reverse ++ rest) (hW : 2 * g.monitorRoom + (rest.map fun v => v.category).sum ≤ 8) (hdg : decode cc g.pc = .ok (.invokestatic index, 3)) (hf : cells + mc ≤ R.cells ∧ slots + ms ≤ R.slots) :
    vx_Run p l e R s m args below meth c H locs cells slots mc ms g rest (Qc As.toArray) XC free := by
  have hK : vx_Back l R p e below s args y 3 8 (PreOf R mc ms Pc) (PostOf Qc mc ms free) (vx_Post XC mc ms free) := vx_callBack cw.1 hM hp.1
  obtain ⟨⟨-, -, -, -, -, -, hcode, hini, hy, hlen, hl⟩, hstt⟩ := cw
  obtain ⟨hx, hb, hml, ho, -⟩ := S
  intro T hT X
  rcases vx_callS X hx (bytes := bytes) (maxL := maxL) (ret := ret) ho hl hstt hini hcode hy hK hg (hsize.trans hml.symm) (argsL := As) (rest := rest) (fun sig h => hn.trans (hlen sig h)) hstack hW (by rw [hb]; exact hdg)
    (fun vm₁ hW₁ => ⟨hf.1, hf.2, hp.2 (T.setVm vm₁) hT hW₁⟩) with ⟨v, vm₁, ⟨U', l2, c2, s2⟩, hW₁, X', ⟨g', mk, t, L, e1, e2, hq, h1, hL, h2, h3⟩, st⟩ | ⟨q, vm₁, ⟨U', l2, c2, s2⟩, hW₁, X', ⟨g', mk, t, L, E, ce, e1, e2, hq, hce, hcv, hcl, h1, hL, h2, h3⟩, st⟩
  · dsimp only [Pt.U, Pt.locs, Pt.cells, Pt.slots] at X' e1 e2 h1 h2 h3 st
    subst h1; subst h2; subst h3
    exact Or.inl ⟨v, (T.setVm vm₁).calling g' mk As.toArray, t, U', L, hT, X', hL, e1, e2, hq, st⟩
  · dsimp only [Pt.U, Pt.locs, Pt.cells, Pt.slots] at X' e1 e2 h1 h2 h3 st hcl
    subst h1; subst h2; subst h3
    exact Or.inr ⟨q, (T.setVm vm₁).calling g' mk As.toArray, t, U', L, E, ce, hT, X', hL, e1, e2, hq, hce, hcv, vx_cls hW₁ hcl, st⟩
end Runs
section Rows
variable {p : Program} {l : Launch} {e : Env} {R : Room} {s : State} {m : MethodId} {args : Array Value} {below : List Frame} {meth : Method} {c : Code} {H : Heap} {locs : List Loc} {cells slots : Nat} {Q : State → Prop}
variable {mc ms : Nat} {free : Addr → Prop} {A0 A1 : Nat → Prop} {H0 : Heap} {a : Array Value} {pc : Nat} {ls : Array Slot} {st0 rest : List Value}
theorem vx_keep {st₀ t T' : State} {L : List Loc} (h0 : st₀.heap = H) (e1 : T'.heap = t.heap) (hS : va_S A0 H0 H locs) (hA : ∀ q, q < H.size → A1 q → A0 q) (hf : ∀ q, free q → A0 q) (hL : ∀ q ∈ L, free q.base) (hF : va_F A1 st₀ t) :
    H.size ≤ T'.heap.size ∧ (∀ q : Nat, q < H.size → ¬ A1 q → T'.heap[q]? = H[q]?) ∧ va_S A0 H0 T'.heap (locs ++ L) := by
  obtain ⟨hz, hk⟩ := hF
  rw [h0] at hz hk
  exact ⟨by rw [e1]; exact hz, fun q h1 h2 => by rw [e1]; exact hk q h1 h2,
    ⟨Nat.le_trans hS.1 (by rw [e1]; exact hz), fun q h1 h2 => by rw [e1, hk q (Nat.lt_of_lt_of_le h1 hS.1) (fun z => h2 (hA q (Nat.lt_of_lt_of_le h1 hS.1) z))]; exact hS.2.1 q h1 h2, fun q hq => by
      rcases List.mem_append.mp hq with h | h
      · exact hS.2.2 q h
      · exact hf _ (hL q h)⟩⟩
theorem vx_calli {S SX : Type} {post : Int32 → S → Prop} {px : SX → Prop} {B : S → State → Prop} {BX : String → SX → State → Prop} {AX : Nat → Prop} (hr : vx_Run p l e R s m args below meth c H locs cells slots mc ms (F0 m pc ls st0) rest (va_Qi post B A1 a) (vx_X px BX AX) free) (hS : va_S A0 H0 H locs) (hA : ∀ q, q < H.size → A1 q → A0 q) (hf : ∀ q, free q → A0 q) (hAX : ∀ q, q < H.size → AX q → A0 q)
    (kx : ∀ (E : String) (ce : Cell) (q9 : Addr) (u : SX) (t : State) (H1 : Heap) (locs1 : List Loc), t.heap = H1 → s.vm.Alike t.vm → px u → BX E u t → H.size ≤ H1.size → (∀ q : Nat, q < H.size → ¬ AX q → H1[q]? = H[q]?) → va_S A0 H0 H1 locs1 → H1[q9]? = some ce → ce.vm = .none → s.vm.findClass E = some ce.cls → vx_W p l e R s m args below meth c H1 locs1 (cells + mc) (slots + ms) Q (F0 m pc ls rest) q9)
    (kk : ∀ (r : Int32) (u : S) (t : State) (H1 : Heap) (locs1 : List Loc), t.heap = H1 → s.vm.Alike t.vm → post r u → B u t → H.size ≤ H1.size → (∀ q : Nat, q < H.size → ¬ A1 q → H1[q]? = H[q]?) → va_S A0 H0 H1 locs1 → W p l e R s m args below meth c H1 locs1 (cells + mc) (slots + ms) Q (F0 m (pc + 3) ls (.int r :: rest))) : W p l e R s m args below meth c H locs cells slots Q (F0 m pc ls st0) := by
  intro T hT X
  rcases hr T hT X with ⟨v, st₀, t, T', L, h0, X', hL, e1, e2, ⟨⟨r, u, hv, hp, hb⟩, hF⟩, st⟩ | ⟨q, st₀, t, T', L, E, ce, h0, X', hL, e1, e2, ⟨u, hp, hb, hF⟩, hce, hcv, hcl, st⟩
  · cases hv
    obtain ⟨k1, k2, k3⟩ := vx_keep h0 e1 hS hA hf hL hF
    obtain ⟨t2, a1, b1⟩ := kk r u t T'.heap (locs ++ L) e1.symm (by rw [← e2]; exact X'.warmed.alike) hp hb k1 k2 k3 T' rfl X'
    exact ⟨t2, st t2 a1, b1⟩
  · obtain ⟨k1, k2, k3⟩ := vx_keep h0 e1 hS hAX hf hL hF
    obtain ⟨t2, a1, b1⟩ := kx E ce q u t T'.heap (locs ++ L) e1.symm (by rw [← e2]; exact X'.warmed.alike) hp hb k1 k2 k3 (by rw [e1]; exact hce) hcv hcl T' rfl X'
    exact ⟨t2, st.trans a1, b1⟩
theorem vx_calll {S SX : Type} {post : Int64 → S → Prop} {px : SX → Prop} {B : S → State → Prop} {BX : String → SX → State → Prop} {AX : Nat → Prop} (hr : vx_Run p l e R s m args below meth c H locs cells slots mc ms (F0 m pc ls st0) rest (va_Ql post B A1 a) (vx_X px BX AX) free) (hS : va_S A0 H0 H locs) (hA : ∀ q, q < H.size → A1 q → A0 q) (hf : ∀ q, free q → A0 q) (hAX : ∀ q, q < H.size → AX q → A0 q)
    (kx : ∀ (E : String) (ce : Cell) (q9 : Addr) (u : SX) (t : State) (H1 : Heap) (locs1 : List Loc), t.heap = H1 → s.vm.Alike t.vm → px u → BX E u t → H.size ≤ H1.size → (∀ q : Nat, q < H.size → ¬ AX q → H1[q]? = H[q]?) → va_S A0 H0 H1 locs1 → H1[q9]? = some ce → ce.vm = .none → s.vm.findClass E = some ce.cls → vx_W p l e R s m args below meth c H1 locs1 (cells + mc) (slots + ms) Q (F0 m pc ls rest) q9)
    (kk : ∀ (r : Int64) (u : S) (t : State) (H1 : Heap) (locs1 : List Loc), t.heap = H1 → s.vm.Alike t.vm → post r u → B u t → H.size ≤ H1.size → (∀ q : Nat, q < H.size → ¬ A1 q → H1[q]? = H[q]?) → va_S A0 H0 H1 locs1 → W p l e R s m args below meth c H1 locs1 (cells + mc) (slots + ms) Q (F0 m (pc + 3) ls (.long r :: rest))) : W p l e R s m args below meth c H locs cells slots Q (F0 m pc ls st0) := by
  intro T hT X
  rcases hr T hT X with ⟨v, st₀, t, T', L, h0, X', hL, e1, e2, ⟨⟨r, u, hv, hp, hb⟩, hF⟩, st⟩ | ⟨q, st₀, t, T', L, E, ce, h0, X', hL, e1, e2, ⟨u, hp, hb, hF⟩, hce, hcv, hcl, st⟩
  · cases hv
    obtain ⟨k1, k2, k3⟩ := vx_keep h0 e1 hS hA hf hL hF
    obtain ⟨t2, a1, b1⟩ := kk r u t T'.heap (locs ++ L) e1.symm (by rw [← e2]; exact X'.warmed.alike) hp hb k1 k2 k3 T' rfl X'
    exact ⟨t2, st t2 a1, b1⟩
  · obtain ⟨k1, k2, k3⟩ := vx_keep h0 e1 hS hAX hf hL hF
    obtain ⟨t2, a1, b1⟩ := kx E ce q u t T'.heap (locs ++ L) e1.symm (by rw [← e2]; exact X'.warmed.alike) hp hb k1 k2 k3 (by rw [e1]; exact hce) hcv hcl T' rfl X'
    exact ⟨t2, st.trans a1, b1⟩
theorem vx_callf {S SX : Type} {post : UInt32 → S → Prop} {px : SX → Prop} {B : S → State → Prop} {BX : String → SX → State → Prop} {AX : Nat → Prop} (hr : vx_Run p l e R s m args below meth c H locs cells slots mc ms (F0 m pc ls st0) rest (va_Qf post B A1 a) (vx_X px BX AX) free) (hS : va_S A0 H0 H locs) (hA : ∀ q, q < H.size → A1 q → A0 q) (hf : ∀ q, free q → A0 q) (hAX : ∀ q, q < H.size → AX q → A0 q)
    (kx : ∀ (E : String) (ce : Cell) (q9 : Addr) (u : SX) (t : State) (H1 : Heap) (locs1 : List Loc), t.heap = H1 → s.vm.Alike t.vm → px u → BX E u t → H.size ≤ H1.size → (∀ q : Nat, q < H.size → ¬ AX q → H1[q]? = H[q]?) → va_S A0 H0 H1 locs1 → H1[q9]? = some ce → ce.vm = .none → s.vm.findClass E = some ce.cls → vx_W p l e R s m args below meth c H1 locs1 (cells + mc) (slots + ms) Q (F0 m pc ls rest) q9)
    (kk : ∀ (r : UInt32) (u : S) (t : State) (H1 : Heap) (locs1 : List Loc), t.heap = H1 → s.vm.Alike t.vm → post r u → B u t → H.size ≤ H1.size → (∀ q : Nat, q < H.size → ¬ A1 q → H1[q]? = H[q]?) → va_S A0 H0 H1 locs1 → W p l e R s m args below meth c H1 locs1 (cells + mc) (slots + ms) Q (F0 m (pc + 3) ls (.float r :: rest))) : W p l e R s m args below meth c H locs cells slots Q (F0 m pc ls st0) := by
  intro T hT X
  rcases hr T hT X with ⟨v, st₀, t, T', L, h0, X', hL, e1, e2, ⟨⟨r, u, hv, hp, hb⟩, hF⟩, st⟩ | ⟨q, st₀, t, T', L, E, ce, h0, X', hL, e1, e2, ⟨u, hp, hb, hF⟩, hce, hcv, hcl, st⟩
  · cases hv
    obtain ⟨k1, k2, k3⟩ := vx_keep h0 e1 hS hA hf hL hF
    obtain ⟨t2, a1, b1⟩ := kk r u t T'.heap (locs ++ L) e1.symm (by rw [← e2]; exact X'.warmed.alike) hp hb k1 k2 k3 T' rfl X'
    exact ⟨t2, st t2 a1, b1⟩
  · obtain ⟨k1, k2, k3⟩ := vx_keep h0 e1 hS hAX hf hL hF
    obtain ⟨t2, a1, b1⟩ := kx E ce q u t T'.heap (locs ++ L) e1.symm (by rw [← e2]; exact X'.warmed.alike) hp hb k1 k2 k3 (by rw [e1]; exact hce) hcv hcl T' rfl X'
    exact ⟨t2, st.trans a1, b1⟩
theorem vx_calld {S SX : Type} {post : UInt64 → S → Prop} {px : SX → Prop} {B : S → State → Prop} {BX : String → SX → State → Prop} {AX : Nat → Prop} (hr : vx_Run p l e R s m args below meth c H locs cells slots mc ms (F0 m pc ls st0) rest (va_Qd post B A1 a) (vx_X px BX AX) free) (hS : va_S A0 H0 H locs) (hA : ∀ q, q < H.size → A1 q → A0 q) (hf : ∀ q, free q → A0 q) (hAX : ∀ q, q < H.size → AX q → A0 q)
    (kx : ∀ (E : String) (ce : Cell) (q9 : Addr) (u : SX) (t : State) (H1 : Heap) (locs1 : List Loc), t.heap = H1 → s.vm.Alike t.vm → px u → BX E u t → H.size ≤ H1.size → (∀ q : Nat, q < H.size → ¬ AX q → H1[q]? = H[q]?) → va_S A0 H0 H1 locs1 → H1[q9]? = some ce → ce.vm = .none → s.vm.findClass E = some ce.cls → vx_W p l e R s m args below meth c H1 locs1 (cells + mc) (slots + ms) Q (F0 m pc ls rest) q9)
    (kk : ∀ (r : UInt64) (u : S) (t : State) (H1 : Heap) (locs1 : List Loc), t.heap = H1 → s.vm.Alike t.vm → post r u → B u t → H.size ≤ H1.size → (∀ q : Nat, q < H.size → ¬ A1 q → H1[q]? = H[q]?) → va_S A0 H0 H1 locs1 → W p l e R s m args below meth c H1 locs1 (cells + mc) (slots + ms) Q (F0 m (pc + 3) ls (.double r :: rest))) : W p l e R s m args below meth c H locs cells slots Q (F0 m pc ls st0) := by
  intro T hT X
  rcases hr T hT X with ⟨v, st₀, t, T', L, h0, X', hL, e1, e2, ⟨⟨r, u, hv, hp, hb⟩, hF⟩, st⟩ | ⟨q, st₀, t, T', L, E, ce, h0, X', hL, e1, e2, ⟨u, hp, hb, hF⟩, hce, hcv, hcl, st⟩
  · cases hv
    obtain ⟨k1, k2, k3⟩ := vx_keep h0 e1 hS hA hf hL hF
    obtain ⟨t2, a1, b1⟩ := kk r u t T'.heap (locs ++ L) e1.symm (by rw [← e2]; exact X'.warmed.alike) hp hb k1 k2 k3 T' rfl X'
    exact ⟨t2, st t2 a1, b1⟩
  · obtain ⟨k1, k2, k3⟩ := vx_keep h0 e1 hS hAX hf hL hF
    obtain ⟨t2, a1, b1⟩ := kx E ce q u t T'.heap (locs ++ L) e1.symm (by rw [← e2]; exact X'.warmed.alike) hp hb k1 k2 k3 (by rw [e1]; exact hce) hcv hcl T' rfl X'
    exact ⟨t2, st.trans a1, b1⟩
theorem vx_callv {S SX : Type} {post : S → Prop} {px : SX → Prop} {B : S → State → Prop} {BX : String → SX → State → Prop} {AX : Nat → Prop} (hr : vx_Run p l e R s m args below meth c H locs cells slots mc ms (F0 m pc ls st0) rest (va_Qv post B A1 a) (vx_X px BX AX) free) (hS : va_S A0 H0 H locs) (hA : ∀ q, q < H.size → A1 q → A0 q) (hf : ∀ q, free q → A0 q) (hAX : ∀ q, q < H.size → AX q → A0 q)
    (kx : ∀ (E : String) (ce : Cell) (q9 : Addr) (u : SX) (t : State) (H1 : Heap) (locs1 : List Loc), t.heap = H1 → s.vm.Alike t.vm → px u → BX E u t → H.size ≤ H1.size → (∀ q : Nat, q < H.size → ¬ AX q → H1[q]? = H[q]?) → va_S A0 H0 H1 locs1 → H1[q9]? = some ce → ce.vm = .none → s.vm.findClass E = some ce.cls → vx_W p l e R s m args below meth c H1 locs1 (cells + mc) (slots + ms) Q (F0 m pc ls rest) q9)
    (kk : ∀ (u : S) (t : State) (H1 : Heap) (locs1 : List Loc), t.heap = H1 → s.vm.Alike t.vm → post u → B u t → H.size ≤ H1.size → (∀ q : Nat, q < H.size → ¬ A1 q → H1[q]? = H[q]?) → va_S A0 H0 H1 locs1 → W p l e R s m args below meth c H1 locs1 (cells + mc) (slots + ms) Q (F0 m (pc + 3) ls (rest))) : W p l e R s m args below meth c H locs cells slots Q (F0 m pc ls st0) := by
  intro T hT X
  rcases hr T hT X with ⟨v, st₀, t, T', L, h0, X', hL, e1, e2, ⟨⟨u, hv, hp, hb⟩, hF⟩, st⟩ | ⟨q, st₀, t, T', L, E, ce, h0, X', hL, e1, e2, ⟨u, hp, hb, hF⟩, hce, hcv, hcl, st⟩
  · cases hv
    obtain ⟨k1, k2, k3⟩ := vx_keep h0 e1 hS hA hf hL hF
    obtain ⟨t2, a1, b1⟩ := kk u t T'.heap (locs ++ L) e1.symm (by rw [← e2]; exact X'.warmed.alike) hp hb k1 k2 k3 T' rfl X'
    exact ⟨t2, st t2 a1, b1⟩
  · obtain ⟨k1, k2, k3⟩ := vx_keep h0 e1 hS hAX hf hL hF
    obtain ⟨t2, a1, b1⟩ := kx E ce q u t T'.heap (locs ++ L) e1.symm (by rw [← e2]; exact X'.warmed.alike) hp hb k1 k2 k3 (by rw [e1]; exact hce) hcv hcl T' rfl X'
    exact ⟨t2, st.trans a1, b1⟩
/-- caught by the row x of this method's table; the rows ahead don't take it -/
theorem vx_catch {own name : String} {E : String} {ce : Cell} {q : Addr} (hown : s.vm.findClass own = some m.cls) (pre : List ExceptionTableEntry) (x : ExceptionTableEntry) (suf : List ExceptionTableEntry) (hsplit : c.exceptionTable.toList = pre ++ x :: suf)
    (hpass : ∀ z ∈ pre, covers z pc = false ∨ (z.catchType ≠ 0 ∧ ∃ nm : String, (Cond.classLink own z.catchType nm).before args s = true ∧ va_Nc E nm s)) (hx : covers x pc = true) (h0 : x.catchType ≠ 0)
    (hlink : (Cond.classLink own x.catchType name).before args s = true) (hcast : (Cond.castable E name).before args s = true) (hcell : H[q]? = some ce) (hv : ce.vm = .none) (hcl : s.vm.findClass E = some ce.cls)
    (kk : W p l e R s m args below meth c H locs cells slots Q (F0 m x.handlerPc ls [.ref q])) : vx_W p l e R s m args below meth c H locs cells slots Q (F0 m pc ls rest) q := by
  intro T hT X
  have hpl : e.platform.magicAccessors = ({} : Platform).magicAccessors := by rw [X.admits.platform]
  obtain ⟨c3, c4, hc3, hc4, hasg⟩ := Cond.castable_spec hcast
  cases Option.some.inj (hc3.symm.trans hcl)
  obtain ⟨c5, hc5, hcl5⟩ := Cond.classLink_spec hown hlink e.platform hpl
  cases Option.some.inj (hc4.symm.trans hc5)
  obtain ⟨vm', X', st⟩ := X.thenCaughtThrough q (g := F0 m pc ls rest) rfl (Steps.refl _) (by rw [hT]; exact hcell) (by rw [hv]; rfl) (by obtain ⟨k9, h9, -⟩ := Vm.findClass_spec hcl; exact ⟨k9, h9⟩) pre x suf hsplit
    (fun z hz => by
      rcases hpass z hz with h | ⟨hz0, nm, hl1, hn1⟩
      · exact Or.inl h
      · obtain ⟨c6, hc6, hcl6⟩ := Cond.classLink_spec hown hl1 e.platform hpl
        obtain ⟨a8, b8, h1, h2, h3⟩ := hn1
        cases Option.some.inj (h1.symm.trans hcl)
        cases Option.some.inj (h2.symm.trans hc6)
        exact Or.inr ⟨hz0, _, hcl6, h3⟩) hx (Or.inr ⟨h0, c4, hcl5, hasg⟩)
  obtain ⟨t, a1, b1⟩ := kk (T.setVm vm') hT X'
  exact ⟨t, st.trans a1, b1⟩
end Rows
section Ends
variable {p : Program} {l : Launch} {e : Env} {R : Room} {s : State} {m : MethodId} {args : Array Value} {below : List Frame} {meth : Method} {c : Code} {H : Heap} {locs : List Loc} {cells slots : Nat} {Q : State → Prop}
variable {mc ms : Nat} {free : Addr → Prop} {A0 A1 : Nat → Prop} {H0 : Heap} {a : Array Value} {ls : Array Slot} {st0 rest : List Value}
variable {Qc : Array Value → State → Outcome → State → Prop} {XC : String → State → State → Prop}
/-- what a body that may throw owes at its end -/
def vx_MQ (below : List Frame) (Qc : Array Value → State → Outcome → State → Prop) (XC : String → State → State → Prop) (a : Array Value) (s : State) (mc ms : Nat) (free : Addr → Prop) : State → Prop := fun t =>
  ∃ o, t.status = .running ∧ Ended t below o ∧ vx_Q Qc XC mc ms free a s o t
theorem vx_ret {g : JFrame} {mc ms : Nat} (k : W p l e R s m args below meth c H locs cells slots (MQ below Qc args s mc ms free) g) : W p l e R s m args below meth c H locs cells slots (vx_MQ below Qc XC args s mc ms free) g := by
  intro T hT X
  obtain ⟨t, a1, o, b1, b2, b3, b4⟩ := k T hT X
  exact ⟨t, a1, o, b1, b2, Or.inl ⟨b3, b4⟩⟩
/-- not caught here: it goes on to the caller -/
theorem vx_widen {g : JFrame} {q : Addr} {k n : Nat} (h1 : cells ≤ k) (h2 : slots ≤ n) (kk : vx_W p l e R s m args below meth c H locs k n Q g q) : vx_W p l e R s m args below meth c H locs cells slots Q g q := fun T hT X => kk T hT (stand_widen X h1 h2)
theorem vx_out {pc : Nat} {E : String} {ce : Cell} {q : Addr} {mc ms : Nat} (hout : ∀ x ∈ c.exceptionTable.toList, covers x pc = false) (hlocks : meth.locks = false) (hcell : H[q]? = some ce) (hv : ce.vm = .none) (hcl : s.vm.findClass E = some ce.cls)
    (hx : ∀ t : State, t.heap = H → s.vm.Alike t.vm → XC E s t) (hf : ∀ z ∈ locs, free z.base) (hc : cells ≤ mc) (hs : slots ≤ ms) :
    vx_W p l e R s m args below meth c H locs cells slots (vx_MQ below Qc XC args s mc ms free) (F0 m pc ls rest) q := by
  intro T hT X
  obtain ⟨st1, hrun, hend, hW, hsm⟩ := X.leaveThrown q (g := F0 m pc ls rest) rfl rfl rfl hout hlocks
  have hcell9 : (T.setFrames (.throwing q :: below)).heap[q]? = some ce := by
    show T.heap[q]? = some ce
    rw [hT]; exact hcell
  exact ⟨_, st1, .threw q, hrun, hend, Or.inr ⟨q, rfl, E, ce, locs, hx _ hT hW.alike, hcell9, hv, hcl, hW, hsm.mono hc hs, hf⟩⟩
theorem vx_frame {U : State} {k n : Nat} (h : s.sameButNew ({ U with vm := s.vm } : State) locs k n) : s.heap.size ≤ U.heap.size ∧ ∀ q : Nat, q < s.heap.size → (∀ z ∈ locs, z.base ≠ q) → U.heap[q]? = s.heap[q]? := by
  obtain ⟨-, h2, -, -, -, h6⟩ := h
  refine ⟨h2, fun q hq hz => ?_⟩
  obtain ⟨c9, e1, e2, e3, e4⟩ := h6 q _ (Array.getElem?_eq_getElem hq)
  have hs : c9.slots = (s.heap[q]).slots := Array.ext_getElem? fun i => e4 i fun hm => hz _ hm rfl
  have h9 : c9 = s.heap[q] := by
    rw [hs] at e2
    exact e2
  have e5 : U.heap[q]? = some c9 := e1
  rw [e5, h9, Array.getElem?_eq_getElem hq]
/-- the words of a throw but the four that speak of the heap -/
def vx_no (w : Cond) : Bool := decide (w ≠ .isRef (.static Bundle.tN "UNASSIGNED_STACK" Bundle.steD)) && decide (w ≠ .isRef (.static Bundle.tN "SUPPRESSED_SENTINEL" Bundle.listD)) && decide (w ≠ .laysStatic Bundle.tN "UNASSIGNED_STACK" Bundle.steD) && decide (w ≠ .laysStatic Bundle.tN "SUPPRESSED_SENTINEL" Bundle.listD)
def vx_at0 (own : String) (ic : Nat) (X : String) (names : List String) : List Cond := (Bundle.ownAtoms0 own ic X names).filter vx_no
def vx_atS (own : String) (ic : Nat) (X : String) (names : List String) : List Cond := (Bundle.ownAtoms own ic X names).filter vx_no
/-- a word that the tables alone decide, or a good one -/
def vx_ot (w : Cond) : Bool := w.onTables || goodWord w
theorem vx_ot_at {args a' : Array Value} {s U : State} {w : Cond} (hW : s.WarmedH U.vm) (hvm : s.vm = U.vm) (hg : vx_ot w = true) (h : w.before args s = true) : w.before a' U = true := by
  simp only [vx_ot, Bool.or_eq_true] at hg
  rcases hg with hg | hg
  · exact va_tabs hg hvm h
  · exact word_at hW (good_of_word hg) h
/-- a list's words: the good ones out of the method's own list, the others by premises of their own -/
theorem vx_hat {args : Array Value} {s : State} {L B : List Cond} (h1 : ∀ w ∈ L.filter goodWord, w.before args s = true) (h2 : ∀ w ∈ L.filter (fun w => !goodWord w), w ∈ B) (h3 : ∀ w ∈ B, w.before args s = true) : ∀ w ∈ L, w.before args s = true := by
  intro w hw
  by_cases g : goodWord w = true
  · exact h1 w (List.mem_filter.mpr ⟨hw, g⟩)
  · refine h3 w (h2 w (List.mem_filter.mpr ⟨hw, ?_⟩))
    show (!goodWord w) = true
    cases hgw : goodWord w
    · rfl
    · exact absurd hgw g
theorem vx_c {args : Array Value} {s : State} {w : Cond} {B : List Cond} (h : w.before args s = true) (t : ∀ w ∈ B, w.before args s = true) : ∀ w' ∈ w :: B, w'.before args s = true := fun w' h' => (List.mem_cons.mp h').elim (fun e => by rw [e]; exact h) (t w')
theorem vx_n {args : Array Value} {s : State} : ∀ w ∈ ([] : List Cond), w.before args s = true := fun _ h => nomatch h
theorem vx_own {args : Array Value} {s : State} {L : List Cond} (h1 : ∀ w ∈ L.filter vx_no, w.before args s = true)
    (hU : (Cond.isRef (.static Bundle.tN "UNASSIGNED_STACK" Bundle.steD)).before args s = true) (hN : (Cond.isRef (.static Bundle.tN "SUPPRESSED_SENTINEL" Bundle.listD)).before args s = true)
    (lU : (Cond.laysStatic Bundle.tN "UNASSIGNED_STACK" Bundle.steD).before args s = true) (lN : (Cond.laysStatic Bundle.tN "SUPPRESSED_SENTINEL" Bundle.listD).before args s = true) : ∀ w ∈ L, w.before args s = true := by
  intro w hw
  by_cases e1 : w = .isRef (.static Bundle.tN "UNASSIGNED_STACK" Bundle.steD)
  · rw [e1]; exact hU
  · by_cases e2 : w = .isRef (.static Bundle.tN "SUPPRESSED_SENTINEL" Bundle.listD)
    · rw [e2]; exact hN
    · by_cases e3 : w = .laysStatic Bundle.tN "UNASSIGNED_STACK" Bundle.steD
      · rw [e3]; exact lU
      · by_cases e4 : w = .laysStatic Bundle.tN "SUPPRESSED_SENTINEL" Bundle.listD
        · rw [e4]; exact lN
        · exact h1 w (List.mem_filter.mpr ⟨hw, by unfold vx_no; rw [decide_eq_true e1, decide_eq_true e2, decide_eq_true e3, decide_eq_true e4]; rfl⟩)
/-- where a static field lies, its class's statics cell in H -/
def vx_L (C n d : String) (A : Nat → Prop) (U : State) (H : Heap) : Prop := ∃ (c : ClassId) (k : Class) (i : Nat) (f : Field) (a : Nat) (cell : Cell), U.vm.findClass C = some c ∧ U.fieldFound? C n d = some (c, k, i, f) ∧ f.isStatic = true ∧ k.statics = some a ∧ H[a]? = some cell ∧ cell.vm.isStatics = true ∧ cell.cls = c ∧ f.slot < cell.slots.size ∧ k.staticTypes[f.slot]? = some f.type ∧ ¬ A a
theorem vx_L.moved {C n d : String} {A : Nat → Prop} {u U : State} {H : Heap} (hvm : u.vm.Alike U.vm) (h : vx_L C n d A u H) : vx_L C n d A U H := by
  obtain ⟨c, k, i, f, a, cell, h1, h2, h3, h4, h5, h6, h7, h8, h9, h10⟩ := h
  obtain ⟨k', hi', he⟩ := State.fieldFound?_setVm hvm h2
  exact ⟨c, k', i, f, a, cell, by rw [hvm.findClass]; exact h1, hi', h3, by rw [he]; exact h4, h5, h6, h7, h8, by rw [he]; exact h9, h10⟩
theorem vx_L.kept {C n d : String} {A : Nat → Prop} {U : State} {H H1 : Heap} (h : vx_L C n d A U H) (hq : ∀ a : Nat, a < H.size → ¬ A a → H1[a]? = H[a]?) : vx_L C n d A U H1 := by
  obtain ⟨c, k, i, f, a, cell, h1, h2, h3, h4, h5, h6, h7, h8, h9, h10⟩ := h
  exact ⟨c, k, i, f, a, cell, h1, h2, h3, h4, by rw [hq a (Array.getElem?_eq_some_iff.mp h5).1 h10]; exact h5, h6, h7, h8, h9, h10⟩
theorem vx_L.narrow {C n d : String} {A B : Nat → Prop} {U : State} {H : Heap} (h : vx_L C n d A U H) (hAB : ∀ q, B q → A q) : vx_L C n d B U H := by
  obtain ⟨c, k, i, f, a, cell, h1, h2, h3, h4, h5, h6, h7, h8, h9, h10⟩ := h
  exact ⟨c, k, i, f, a, cell, h1, h2, h3, h4, h5, h6, h7, h8, h9, fun z => h10 (hAB _ z)⟩
theorem vx_L.word {C n d : String} {A : Nat → Prop} {s : State} {args : Array Value} (h : vx_L C n d A s s.heap) : (Cond.laysStatic C n d).before args s = true := by
  obtain ⟨c, k, i, f, a, cell, h1, h2, h3, h4, h5, h6, h7, h8, h9, -⟩ := h
  show (Cond.laysStatic C n d).holds args s none s [] = true
  exact Cond.laysStatic_of h1 h2 h3 h4 h5 h6 h7 h8 h9
/-- .. and what it holds: null or some reference -/
def vx_Zq (C n d : String) (A : Nat → Prop) (U : State) (H : Heap) : Prop := va_Zq C n d A U H ∧ vx_L C n d A U H
theorem vx_Zq.moved {C n d : String} {A : Nat → Prop} {u U : State} {H : Heap} (hvm : u.vm.Alike U.vm) (h : vx_Zq C n d A u H) : vx_Zq C n d A U H := ⟨va_Zq.moved hvm h.1, vx_L.moved hvm h.2⟩
theorem vx_Zq.kept {C n d : String} {A : Nat → Prop} {U : State} {H H1 : Heap} (h : vx_Zq C n d A U H) (hq : ∀ a : Nat, a < H.size → ¬ A a → H1[a]? = H[a]?) : vx_Zq C n d A U H1 := ⟨va_Zq.kept h.1 hq, vx_L.kept h.2 hq⟩
theorem vx_Zq.narrow {C n d : String} {A B : Nat → Prop} {U : State} {H : Heap} (h : vx_Zq C n d A U H) (hAB : ∀ q, B q → A q) : vx_Zq C n d B U H := ⟨va_Zq.narrow h.1 hAB, vx_L.narrow h.2 hAB⟩
theorem vx_Zqof {args : Array Value} {s : State} {C n d : String} {A : Nat → Prop} (hl : (Cond.laysStatic C n d).before args s = true) (hini : (Cond.initialized C).before args s = true) (h : (Cond.isRef (.static C n d)).before args s = true) (hA : ∀ a : Nat, a < s.heap.size → ¬ A a) : vx_Zq C n d A s s.heap := by
  refine ⟨va_Zqof hl hini h hA, ?_⟩
  obtain ⟨c, k, i, f, a, cell, h1, h2, h3, h4, h5, h6, h7, h8, h9⟩ := Cond.laysStatic_spec hl
  exact ⟨c, k, i, f, a, cell, h1, h2, h3, h4, h5, h6, h7, h8, h9, hA a (Array.getElem?_eq_some_iff.mp h5).1⟩
theorem vx_isRef {C n d : String} {v : Value} {A : Nat → Prop} {s : State} {args : Array Value} (h : va_Z C n d v A s s.heap) (hv : v.isRef = true) : (Cond.isRef (.static C n d)).before args s = true := by
  obtain ⟨cf, kf, fi, f, a, cell, h1, h2, h3, h4, h5, h6, h7, -⟩ := h
  have he : (Term.static C n d).eval args s none [] s = some v := by
    simp [Term.eval, State.fieldNamed?, h1, h2, h4, h5, h6, h7]
  simp only [Cond.before, Cond.holds, Cond.value, he]
  cases v <;> simp_all [Value.isRef]
theorem vx_isRefq {C n d : String} {A : Nat → Prop} {s : State} {args : Array Value} (h : va_Zq C n d A s s.heap) : (Cond.isRef (.static C n d)).before args s = true := by
  rcases h with h | ⟨t, h⟩
  · exact vx_isRef h rfl
  · exact vx_isRef h rfl
/-- the same frame, seen from here: as if the method were called anew in this heap -/
theorem vx_rebase {T : State} (X : Stand p l e R s m args below meth c T locs cells slots) {R' : Room} (hf : R'.frames ≤ R.frames) (hl : R'.locals ≤ R.locals) (hc : cells + R'.cells ≤ R.cells) (hs : slots + R'.slots ≤ R.slots) :
    Stand p l e R' ((T.setVm s.vm).setFrames (.invoking m args :: below)) m args below meth c T [] 0 0 := by
  have htop : (T.setVm s.vm).topJava?.isSome := X.here.top
  have hF : ((T.setVm s.vm).setFrames (.invoking m args :: below)).frames = .invoking m args :: below := State.frames_setFrames _ (State.cur_lt_of_top htop)
  obtain ⟨g₀, hg0⟩ := Option.isSome_iff_exists.mp htop
  obtain ⟨r, hr⟩ := State.topJava?_eq_some.mp hg0
  have hl9 : e.platform.stackLimits (T.setVm s.vm).me = e.platform.stackLimits s.me := X.limits
  have hb9 : (T.setVm s.vm).me.stackBytes = s.me.stackBytes := X.bytes
  refine ⟨X.admits, X.cas, X.clock, hF, ?_, X.hears, X.method, X.code, X.here, X.tail, X.warmed, ?_, ?_, ?_⟩
  · have h := X.room
    have hU : ((T.setVm s.vm).setFrames (.invoking m args :: below)).localsInUse = s.localsInUse := by
      rw [State.localsInUse_invoking hF (meth := meth) (c := c) X.method X.code, State.localsInUse_invoking X.frames X.method X.code]
    simp only [State.hasRoom, Bool.and_eq_true, decide_eq_true_eq] at h ⊢
    obtain ⟨⟨⟨⟨h1, h2, h3, h4, h5, h6⟩, h7⟩, h8⟩, h9⟩ := h
    rw [X.frames, List.length_cons] at h2 h3
    have q1 := X.heapSize
    have q2 := X.used
    simp only [hF, hU, List.length_cons, State.stackLimits_setFrames, State.stackBytes_setFrames, hl9, hb9]
    refine ⟨⟨⟨⟨by omega, by omega, by omega, by omega, by omega, h6⟩, ?_⟩, ?_⟩, X.book⟩
    · show T.heap.size + R'.cells ≤ e.platform.maxCells
      omega
    · show T.slotsUsed + R'.slots ≤ e.platform.maxSlots
      omega
  · rw [State.stackLimits_setFrames]; rfl
  · rw [State.stackBytes_setFrames]; rfl
  · refine ⟨?_, Nat.le_refl _, Nat.le_refl _, ?_, ?_, fun a c9 h9 => ⟨c9, h9, rfl, rfl, fun _ _ => rfl⟩⟩
    · obtain ⟨t, ht, -⟩ := State.frames_cons hr
      show T.setVm s.vm = { ((T.setVm s.vm).setFrames (.invoking m args :: below)).setFrames (T.setVm s.vm).frames with heap := T.heap, slotsUsed := T.slotsUsed }
      rw [State.setFrames_setFrames, State.setFrames_self ht]
      rfl
    · show T.slotsUsed = T.slotsUsed + ((T.heap.toList.drop T.heap.size).map (·.slots.size)).sum
      rw [List.drop_eq_nil_of_le (Nat.le_of_eq Array.length_toList)]
      rfl
    · show ((T.heap.toList.drop T.heap.size).map (·.slots.size)).sum ≤ 0
      rw [List.drop_eq_nil_of_le (Nat.le_of_eq Array.length_toList)]
      exact Nat.le_refl _
/-- 'throw new E()': new; dup; invokespecial; athrow -/
theorem vx_throw0 {cc : ByteArray} {pc : Nat} (hexec : p.tables.exec = Jvm.exec) (hb : c.code = cc) (hl : l.stackTraces = false) {own cls : String} {names : List String} {ik ic mc ms : Nat} {A : Nat → Prop}
    (hown : s.vm.findClass own = some m.cls) (hcls : Bundle.fit cls = true) (hnames : ∀ n ∈ names, Bundle.fit n = true)
    (hk : (Cond.classLink own ik cls).before args s = true) (hini : (Cond.initialized cls).before args s = true) (hat : ∀ w ∈ vx_at0 own ic cls names, w.before args s = true)
    (hgood : ∀ w ∈ Cond.classLink own ik cls :: Cond.initialized cls :: vx_at0 own ic cls names, vx_ot w = true)
    (hU : vx_Zq Bundle.tN "UNASSIGNED_STACK" Bundle.steD A s s.heap) (hN : vx_Zq Bundle.tN "SUPPRESSED_SENTINEL" Bundle.listD A s s.heap) (hS : va_S A s.heap H locs) (hsize : ls.size = c.maxLocals)
    (d0 : decode cc pc = .ok (.new ik, 3)) (d3 : decode cc (pc + 3) = .ok (.dup, 1)) (d4 : decode cc (pc + 4) = .ok (.invokespecial ic, 3)) (d7 : decode cc (pc + 7) = .ok (.athrow, 1))
    (hout : ∀ x ∈ c.exceptionTable.toList, covers x (pc + 7) = false)
    (hRframes : names.length + 3 < R.frames) (hRlocals : (rest.map fun v => v.category).sum + (13 * (names.length + 1) + 42) ≤ R.locals) (hRcells : cells + 1 ≤ R.cells) (hRslots : slots + 6 ≤ R.slots) (hlocks : meth.locks = false)
    (hx : ∀ t : State, s.vm.Alike t.vm → H.size ≤ t.heap.size → (∀ q : Nat, q < H.size → t.heap[q]? = H[q]?) → XC cls s t)
    (hf : ∀ z ∈ locs, free z.base) (hc : cells + 1 ≤ mc) (hs : slots + 6 ≤ ms) :
    W p l e R s m args below meth c H locs cells slots (vx_MQ below Qc XC args s mc ms free) (F0 m pc ls rest) := by
  intro T hT X
  have htr : e.platform.stackTraces = false := (show e.platform.stackTraces = l.stackTraces by rw [X.admits.platform]).trans hl
  have Y := vx_rebase X (R' := { frames := R.frames, locals := R.locals, cells := 1, slots := 6 }) (Nat.le_refl _) (Nat.le_refl _) hRcells hRslots
  obtain ⟨s', hA⟩ : ∃ z, z = (T.setVm s.vm).setFrames (.invoking m args :: below) := ⟨_, rfl⟩
  rw [← hA] at Y
  have hvm : s'.vm = s.vm := by rw [hA]; rfl
  have hhp : s'.heap = H := by rw [hA]; exact hT
  have hW0 : s.WarmedH s'.vm := by rw [hvm]; exact State.WarmedH.refl s
  have hat' : ∀ w ∈ vx_at0 own ic cls names, w.before args s' = true := fun w hw => vx_ot_at hW0 hvm.symm (hgood w (List.mem_cons_of_mem _ (List.mem_cons_of_mem _ hw))) (hat w hw)
  have hk' : (Cond.classLink own ik cls).before args s' = true := vx_ot_at hW0 hvm.symm (hgood _ List.mem_cons_self) hk
  have hini' : (Cond.initialized cls).before args s' = true := vx_ot_at hW0 hvm.symm (hgood _ (List.mem_cons_of_mem _ List.mem_cons_self)) hini
  have hU' : vx_Zq Bundle.tN "UNASSIGNED_STACK" Bundle.steD A s' s'.heap := by rw [hhp]; exact vx_Zq.moved hW0.alike (hU.kept hS.2.1)
  have hN' : vx_Zq Bundle.tN "SUPPRESSED_SENTINEL" Bundle.listD A s' s'.heap := by rw [hhp]; exact vx_Zq.moved hW0.alike (hN.kept hS.2.1)
  have h : ∀ w ∈ Bundle.ownAtoms0 own ic cls names, w.before args s' = true := vx_own hat' (vx_isRefq hU'.1) (vx_isRefq hN'.1) hU'.2.word hN'.2.word
  have hown' : s'.vm.findClass own = some m.cls := by rw [hvm]; exact hown
  have hins : (Cond.instantiable cls 6).before args s' = true := h _ (by simp [Bundle.ownAtoms0])
  obtain ⟨vm₁, cX, kX, hfX, hkX, -, -, X₁, st1⟩ := Y.newCold hexec (own := own) (C := cls) (index := ik) (n := 6) hown' hk' hins hini'
    (g := F0 m pc ls rest) rfl (by rw [hb]; exact d0) (Nat.le_refl _) (Nat.le_refl _)
  generalize hT1 : (T.setVm vm₁).pushCell { cls := cX, slots := kX.instanceTypes.map defaultValue, vm := .none } = T1 at X₁ st1
  have hcat : (Value.ref T.heap.size).category = 1 := rfl
  have hcellA : T1.heap[T.heap.size]? = some (freshCell cX kX) := by rw [← hT1]; exact State.heap_pushCell_size _ _
  have d3' : decode c.code (pc + 3) = .ok (.dup, 1) := by rw [hb]; exact d3
  obtain ⟨U, hsteps, hrun, hend, hW, hsame, ce, hce, hO⟩ := X₁.ctorThrow0 hexec htr (own := own) (cls := cls) (names := names) (ic := ic) hown' hcls hnames h (fun x hx => nomatch hx) hfX hkX hcellA (by rw [hhp, hT]; exact Nat.le_refl _)
    (g := { method := m, pc := pc + 4, locals := ls, stack := .ref T.heap.size :: .ref T.heap.size :: rest, locked := none }) rfl hsize rfl rfl (rest := rest) rfl
    (by rw [hb]; exact d4) (by rw [hb]; exact d7) hout hRframes (by simp only [List.map_cons, List.sum_cons, hcat]; omega) hlocks
  obtain ⟨f1, f2⟩ := vx_frame hsame
  rw [hhp] at f1 f2
  have hWs : s.WarmedH U.vm := State.WarmedH.trans hW0 hW
  have hcl : s.vm.findClass cls = some ce.cls := by
    have h9 := hO.cls
    rw [hvm] at h9
    exact h9
  have hall : s.sameButNew ({ U with vm := s.vm } : State) locs mc ms := by
    subst hA
    obtain ⟨e1, e2⟩ := hsame
    rw [State.setFrames_setFrames] at e1
    have h2 : (T.setVm s.vm).sameButNew ({ U with vm := s.vm } : State) [] (0 + 1) (0 + 6) := ⟨e1, e2⟩
    have h3 := X.same.trans h2
    rw [List.append_nil] at h3
    exact h3.mono hc hs
  refine ⟨U, ?_, .threw T.heap.size, hrun, hend, Or.inr ⟨T.heap.size, rfl, cls, ce, locs, hx U hWs.alike f1 (fun q hq => f2 q hq (fun z hz => nomatch hz)), hce, hO.vm, hcl, hWs, hall, hf⟩⟩
  refine st1 _ ?_
  show Steps p.tables e below (T1.setTop { method := m, pc := pc + 3, locals := ls, stack := .ref T.heap.size :: rest, locked := none }) _
  jvm_step X₁.here [X₁.here.top, hexec, d3', Value.category]
  exact hsteps
/-- 'throw new E("text")': new; dup; ldc; invokespecial; athrow -/
theorem vx_throwS {cc : ByteArray} {pc : Nat} (hexec : p.tables.exec = Jvm.exec) (hb : c.code = cc) (hl : l.stackTraces = false) {own cls text : String} {names : List String} {ik is ic mc ms sa : Nat} {A : Nat → Prop}
    (hown : s.vm.findClass own = some m.cls) (hcls : Bundle.fit cls = true) (hnames : ∀ n ∈ names, Bundle.fit n = true)
    (hk : (Cond.classLink own ik cls).before args s = true) (hini : (Cond.initialized cls).before args s = true) (hstr : vk_R own is text sa s) (hat : ∀ w ∈ vx_atS own ic cls names, w.before args s = true)
    (hgood : ∀ w ∈ Cond.classLink own ik cls :: Cond.initialized cls :: vx_atS own ic cls names, vx_ot w = true)
    (hU : vx_Zq Bundle.tN "UNASSIGNED_STACK" Bundle.steD A s s.heap) (hN : vx_Zq Bundle.tN "SUPPRESSED_SENTINEL" Bundle.listD A s s.heap) (hS : va_S A s.heap H locs) (hsize : ls.size = c.maxLocals)
    (d0 : decode cc pc = .ok (.new ik, 3)) (d3 : decode cc (pc + 3) = .ok (.dup, 1)) (d4 : decode cc (pc + 4) = .ok (.ldc is, 2)) (d6 : decode cc (pc + 6) = .ok (.invokespecial ic, 3)) (d9 : decode cc (pc + 9) = .ok (.athrow, 1))
    (hout : ∀ x ∈ c.exceptionTable.toList, covers x (pc + 9) = false)
    (hRframes : names.length + 3 < R.frames) (hRlocals : (rest.map fun v => v.category).sum + (13 * (names.length + 1) + 43) ≤ R.locals) (hRcells : cells + 1 ≤ R.cells) (hRslots : slots + 6 ≤ R.slots) (hlocks : meth.locks = false)
    (hx : ∀ t : State, s.vm.Alike t.vm → H.size ≤ t.heap.size → (∀ q : Nat, q < H.size → t.heap[q]? = H[q]?) → XC cls s t)
    (hf : ∀ z ∈ locs, free z.base) (hc : cells + 1 ≤ mc) (hs : slots + 6 ≤ ms) :
    W p l e R s m args below meth c H locs cells slots (vx_MQ below Qc XC args s mc ms free) (F0 m pc ls rest) := by
  intro T hT X
  have htr : e.platform.stackTraces = false := (show e.platform.stackTraces = l.stackTraces by rw [X.admits.platform]).trans hl
  have Y := vx_rebase X (R' := { frames := R.frames, locals := R.locals, cells := 1, slots := 6 }) (Nat.le_refl _) (Nat.le_refl _) hRcells hRslots
  obtain ⟨s', hA⟩ : ∃ z, z = (T.setVm s.vm).setFrames (.invoking m args :: below) := ⟨_, rfl⟩
  rw [← hA] at Y
  have hvm : s'.vm = s.vm := by rw [hA]; rfl
  have hhp : s'.heap = H := by rw [hA]; exact hT
  have hW0 : s.WarmedH s'.vm := by rw [hvm]; exact State.WarmedH.refl s
  have hat' : ∀ w ∈ vx_atS own ic cls names, w.before args s' = true := fun w hw => vx_ot_at hW0 hvm.symm (hgood w (List.mem_cons_of_mem _ (List.mem_cons_of_mem _ hw))) (hat w hw)
  have hk' : (Cond.classLink own ik cls).before args s' = true := vx_ot_at hW0 hvm.symm (hgood _ List.mem_cons_self) hk
  have hini' : (Cond.initialized cls).before args s' = true := vx_ot_at hW0 hvm.symm (hgood _ (List.mem_cons_of_mem _ List.mem_cons_self)) hini
  have hU' : vx_Zq Bundle.tN "UNASSIGNED_STACK" Bundle.steD A s' s'.heap := by rw [hhp]; exact vx_Zq.moved hW0.alike (hU.kept hS.2.1)
  have hN' : vx_Zq Bundle.tN "SUPPRESSED_SENTINEL" Bundle.listD A s' s'.heap := by rw [hhp]; exact vx_Zq.moved hW0.alike (hN.kept hS.2.1)
  have h : ∀ w ∈ Bundle.ownAtoms own ic cls names, w.before args s' = true := vx_own hat' (vx_isRefq hU'.1) (vx_isRefq hN'.1) hU'.2.word hN'.2.word
  have hown' : s'.vm.findClass own = some m.cls := by rw [hvm]; exact hown
  have hins : (Cond.instantiable cls 6).before args s' = true := h _ (by simp [Bundle.ownAtoms])
  obtain ⟨vm₁, cX, kX, hfX, hkX, -, -, X₁, st1⟩ := Y.newCold hexec (own := own) (C := cls) (index := ik) (n := 6) hown' hk' hins hini'
    (g := F0 m pc ls rest) rfl (by rw [hb]; exact d0) (Nat.le_refl _) (Nat.le_refl _)
  generalize hT1 : (T.setVm vm₁).pushCell { cls := cX, slots := kX.instanceTypes.map defaultValue, vm := .none } = T1 at X₁ st1
  have hcat : (Value.ref T.heap.size).category = 1 := rfl
  have hcellA : T1.heap[T.heap.size]? = some (freshCell cX kX) := by rw [← hT1]; exact State.heap_pushCell_size _ _
  have d3' : decode c.code (pc + 3) = .ok (.dup, 1) := by rw [hb]; exact d3
  have d4' : decode c.code (pc + 4) = .ok (.ldc is, 2) := by rw [hb]; exact d4
  have hstr' : vk_R own is text sa s' := vk_R.warm hW0 hstr
  obtain ⟨U, hsteps, hrun, hend, hW, hsame, ce, hce, hO⟩ := X₁.ctorThrowS hexec htr (own := own) (cls := cls) (names := names) (ic := ic) hown' hcls hnames h (fun x hx => nomatch hx) hfX hkX hcellA (by rw [hhp, hT]; exact Nat.le_refl _) (msg := .ref sa) rfl
    (g := { method := m, pc := pc + 6, locals := ls, stack := .ref sa :: .ref T.heap.size :: .ref T.heap.size :: rest, locked := none }) rfl hsize rfl rfl (rest := rest) rfl
    (by rw [hb]; exact d6) (by rw [hb]; exact d9) hout hRframes (by simp only [List.map_cons, List.sum_cons, hcat]; omega) hlocks
  obtain ⟨f1, f2⟩ := vx_frame hsame
  rw [hhp] at f1 f2
  have hWs : s.WarmedH U.vm := State.WarmedH.trans hW0 hW
  have hcl : s.vm.findClass cls = some ce.cls := by
    have h9 := hO.cls
    rw [hvm] at h9
    exact h9
  have hall : s.sameButNew ({ U with vm := s.vm } : State) locs mc ms := by
    subst hA
    obtain ⟨e1, e2⟩ := hsame
    rw [State.setFrames_setFrames] at e1
    have h2 : (T.setVm s.vm).sameButNew ({ U with vm := s.vm } : State) [] (0 + 1) (0 + 6) := ⟨e1, e2⟩
    have h3 := X.same.trans h2
    rw [List.append_nil] at h3
    exact h3.mono hc hs
  refine ⟨U, ?_, .threw T.heap.size, hrun, hend, Or.inr ⟨T.heap.size, rfl, cls, ce, locs, hx U hWs.alike f1 (fun q hq => f2 q hq (fun z hz => nomatch hz)), hce, hO.vm, hcl, hWs, hall, hf⟩⟩
  refine st1 _ ?_
  show Steps p.tables e below (T1.setTop { method := m, pc := pc + 3, locals := ls, stack := .ref T.heap.size :: rest, locked := none }) _
  jvm_step X₁.here [X₁.here.top, hexec, d3', Value.category]
  exact X₁.ldcString hexec (own := own) (text := text) (index := is) (a := sa) hown' hstr'.1 hstr'.2
    (g := { method := m, pc := pc + 4, locals := ls, stack := .ref T.heap.size :: .ref T.heap.size :: rest, locked := none }) rfl d4' _ hsteps
/-- 'throw new E("text")', the text by a wide index -/
theorem vx_throwSW {cc : ByteArray} {pc : Nat} (hexec : p.tables.exec = Jvm.exec) (hb : c.code = cc) (hl : l.stackTraces = false) {own cls text : String} {names : List String} {ik is ic mc ms sa : Nat} {A : Nat → Prop}
    (hown : s.vm.findClass own = some m.cls) (hcls : Bundle.fit cls = true) (hnames : ∀ n ∈ names, Bundle.fit n = true)
    (hk : (Cond.classLink own ik cls).before args s = true) (hini : (Cond.initialized cls).before args s = true) (hstr : vk_R own is text sa s) (hat : ∀ w ∈ vx_atS own ic cls names, w.before args s = true)
    (hgood : ∀ w ∈ Cond.classLink own ik cls :: Cond.initialized cls :: vx_atS own ic cls names, vx_ot w = true)
    (hU : vx_Zq Bundle.tN "UNASSIGNED_STACK" Bundle.steD A s s.heap) (hN : vx_Zq Bundle.tN "SUPPRESSED_SENTINEL" Bundle.listD A s s.heap) (hS : va_S A s.heap H locs) (hsize : ls.size = c.maxLocals)
    (d0 : decode cc pc = .ok (.new ik, 3)) (d3 : decode cc (pc + 3) = .ok (.dup, 1)) (d4 : decode cc (pc + 4) = .ok (.ldc_w is, 3)) (d7 : decode cc (pc + 7) = .ok (.invokespecial ic, 3)) (d10 : decode cc (pc + 10) = .ok (.athrow, 1))
    (hout : ∀ x ∈ c.exceptionTable.toList, covers x (pc + 10) = false)
    (hRframes : names.length + 3 < R.frames) (hRlocals : (rest.map fun v => v.category).sum + (13 * (names.length + 1) + 43) ≤ R.locals) (hRcells : cells + 1 ≤ R.cells) (hRslots : slots + 6 ≤ R.slots) (hlocks : meth.locks = false)
    (hx : ∀ t : State, s.vm.Alike t.vm → H.size ≤ t.heap.size → (∀ q : Nat, q < H.size → t.heap[q]? = H[q]?) → XC cls s t)
    (hf : ∀ z ∈ locs, free z.base) (hc : cells + 1 ≤ mc) (hs : slots + 6 ≤ ms) :
    W p l e R s m args below meth c H locs cells slots (vx_MQ below Qc XC args s mc ms free) (F0 m pc ls rest) := by
  intro T hT X
  have htr : e.platform.stackTraces = false := (show e.platform.stackTraces = l.stackTraces by rw [X.admits.platform]).trans hl
  have Y := vx_rebase X (R' := { frames := R.frames, locals := R.locals, cells := 1, slots := 6 }) (Nat.le_refl _) (Nat.le_refl _) hRcells hRslots
  obtain ⟨s', hA⟩ : ∃ z, z = (T.setVm s.vm).setFrames (.invoking m args :: below) := ⟨_, rfl⟩
  rw [← hA] at Y
  have hvm : s'.vm = s.vm := by rw [hA]; rfl
  have hhp : s'.heap = H := by rw [hA]; exact hT
  have hW0 : s.WarmedH s'.vm := by rw [hvm]; exact State.WarmedH.refl s
  have hat' : ∀ w ∈ vx_atS own ic cls names, w.before args s' = true := fun w hw => vx_ot_at hW0 hvm.symm (hgood w (List.mem_cons_of_mem _ (List.mem_cons_of_mem _ hw))) (hat w hw)
  have hk' : (Cond.classLink own ik cls).before args s' = true := vx_ot_at hW0 hvm.symm (hgood _ List.mem_cons_self) hk
  have hini' : (Cond.initialized cls).before args s' = true := vx_ot_at hW0 hvm.symm (hgood _ (List.mem_cons_of_mem _ List.mem_cons_self)) hini
  have hU' : vx_Zq Bundle.tN "UNASSIGNED_STACK" Bundle.steD A s' s'.heap := by rw [hhp]; exact vx_Zq.moved hW0.alike (hU.kept hS.2.1)
  have hN' : vx_Zq Bundle.tN "SUPPRESSED_SENTINEL" Bundle.listD A s' s'.heap := by rw [hhp]; exact vx_Zq.moved hW0.alike (hN.kept hS.2.1)
  have h : ∀ w ∈ Bundle.ownAtoms own ic cls names, w.before args s' = true := vx_own hat' (vx_isRefq hU'.1) (vx_isRefq hN'.1) hU'.2.word hN'.2.word
  have hown' : s'.vm.findClass own = some m.cls := by rw [hvm]; exact hown
  have hins : (Cond.instantiable cls 6).before args s' = true := h _ (by simp [Bundle.ownAtoms])
  obtain ⟨vm₁, cX, kX, hfX, hkX, -, -, X₁, st1⟩ := Y.newCold hexec (own := own) (C := cls) (index := ik) (n := 6) hown' hk' hins hini'
    (g := F0 m pc ls rest) rfl (by rw [hb]; exact d0) (Nat.le_refl _) (Nat.le_refl _)
  generalize hT1 : (T.setVm vm₁).pushCell { cls := cX, slots := kX.instanceTypes.map defaultValue, vm := .none } = T1 at X₁ st1
  have hcat : (Value.ref T.heap.size).category = 1 := rfl
  have hcellA : T1.heap[T.heap.size]? = some (freshCell cX kX) := by rw [← hT1]; exact State.heap_pushCell_size _ _
  have d3' : decode c.code (pc + 3) = .ok (.dup, 1) := by rw [hb]; exact d3
  have d4' : decode c.code (pc + 4) = .ok (.ldc_w is, 3) := by rw [hb]; exact d4
  have hstr' : vk_R own is text sa s' := vk_R.warm hW0 hstr
  obtain ⟨U, hsteps, hrun, hend, hW, hsame, ce, hce, hO⟩ := X₁.ctorThrowS hexec htr (own := own) (cls := cls) (names := names) (ic := ic) hown' hcls hnames h (fun x hx => nomatch hx) hfX hkX hcellA (by rw [hhp, hT]; exact Nat.le_refl _) (msg := .ref sa) rfl
    (g := { method := m, pc := pc + 7, locals := ls, stack := .ref sa :: .ref T.heap.size :: .ref T.heap.size :: rest, locked := none }) rfl hsize rfl rfl (rest := rest) rfl
    (by rw [hb]; exact d7) (by rw [hb]; exact d10) hout hRframes (by simp only [List.map_cons, List.sum_cons, hcat]; omega) hlocks
  obtain ⟨f1, f2⟩ := vx_frame hsame
  rw [hhp] at f1 f2
  have hWs : s.WarmedH U.vm := State.WarmedH.trans hW0 hW
  have hcl : s.vm.findClass cls = some ce.cls := by
    have h9 := hO.cls
    rw [hvm] at h9
    exact h9
  have hall : s.sameButNew ({ U with vm := s.vm } : State) locs mc ms := by
    subst hA
    obtain ⟨e1, e2⟩ := hsame
    rw [State.setFrames_setFrames] at e1
    have h2 : (T.setVm s.vm).sameButNew ({ U with vm := s.vm } : State) [] (0 + 1) (0 + 6) := ⟨e1, e2⟩
    have h3 := X.same.trans h2
    rw [List.append_nil] at h3
    exact h3.mono hc hs
  refine ⟨U, ?_, .threw T.heap.size, hrun, hend, Or.inr ⟨T.heap.size, rfl, cls, ce, locs, hx U hWs.alike f1 (fun q hq => f2 q hq (fun z hz => nomatch hz)), hce, hO.vm, hcl, hWs, hall, hf⟩⟩
  refine st1 _ ?_
  show Steps p.tables e below (T1.setTop { method := m, pc := pc + 3, locals := ls, stack := .ref T.heap.size :: rest, locked := none }) _
  jvm_step X₁.here [X₁.here.top, hexec, d3', Value.category]
  exact X₁.ldcStringW hexec (own := own) (text := text) (index := is) (a := sa) hown' hstr'.1 hstr'.2
    (g := { method := m, pc := pc + 4, locals := ls, stack := .ref T.heap.size :: .ref T.heap.size :: rest, locked := none }) rfl d4' _ hsteps
end Ends
section Bodies
variable {l : Launch}
theorem vx_ofW {y : MethodName} {ws ws' : List Cond} {rm : Room} {Pc : Array Value → State → Prop} {Qc : Array Value → State → Outcome → State → Prop} {XC : String → State → State → Prop} {mc ms : Nat} {free : Addr → Prop} {cc : ByteArray} {maxL : Nat} {ret : Option FieldType}
    (hy : plainName y.cls = true) (hw : ws = Cond.code y cc maxL ret :: ws')
    (body : ∀ p e s m args below meth c s₁, BodyLoose p l y (headSpec ws rm) cc maxL ret e s m args below meth c s₁ → c.maxLocals = maxL → (∀ x ∈ c.exceptionTable.toList, False) → Pc args s →
      W p l e (headSpec ws rm).room s m args below meth c s.heap [] 0 0 (vx_MQ below Qc XC args s mc ms free) (entryFrame m args maxL)) : vx_Met l y ws rm Pc Qc XC mc ms free := by
  refine MetFree.of_bodyS (code := cc) (maxLocals := maxL) (ret := ret) hy ?_ ?_
  · intro args s m h hn
    obtain ⟨meth, c, h1, h2, h3, h4, h5, h6, -, -⟩ := Cond.code_spec hn (atoms_spec (ws := ws) h _ (by rw [hw]; exact List.mem_cons_self))
    exact ⟨meth, c, h1, h2, h3, h4, h5, h6⟩
  · intro p e s m args below meth c s₁ B hml hP _
    have hh0 : s₁.heap = s.heap := by rw [B.state]; rfl
    have ht : ∀ x ∈ c.exceptionTable.toList, False := by
      obtain ⟨meth9, c9, h1, h2, -, -, -, -, h7, -⟩ := Cond.code_spec B.named (atoms_spec (ws := ws) B.pre _ (by rw [hw]; exact List.mem_cons_self))
      cases Option.some.inj (h1.symm.trans B.method)
      cases Option.some.inj (h2.symm.trans (Stand.of_body B).code)
      intro x hx
      rw [Array.isEmpty_iff.mp h7] at hx
      cases hx
    obtain ⟨t, a1, o, b1, b2, b3⟩ := body p e s m args below meth c s₁ B hml ht hP s₁ hh0 (Stand.of_body B)
    exact ⟨t, o, a1, b1, b2, b3⟩
/-- the table of a body with handlers -/
theorem vx_table {p : Program} {x y : MethodName} {S : Spec} {cc bytes : ByteArray} {maxL maxL' : Nat} {ret ret' : Option FieldType} {e : Env} {s s₁ : State} {m : MethodId} {args : Array Value} {below : List Frame} {meth : Method} {c : Code} {hh : List (Nat × Nat × Nat × Nat)}
    (B : BodyLoose p l y S cc maxL ret e s m args below meth c s₁) (h : (Cond.codeWith y bytes maxL' ret' hh).before args s = true) : c.exceptionTable.toList = tableOf hh := by
  obtain ⟨m9, meth9, c9, hn9, h1, h2, -, -, h6, -⟩ := Cond.codeWith_spec h
  cases Option.some.inj (hn9.symm.trans B.named)
  cases Option.some.inj (h1.symm.trans B.method)
  cases Option.some.inj (h2.symm.trans (Stand.of_body B).code)
  rw [← h6, table_eq]
end Bodies
end VXA
/-! ===== END ===== -/
/-! ===== BEGIN a static call of a method with an exception table ===== -/
section VXS
variable {p : Program} {l : Launch} {e : Env} {R : Room} {s : State} {m : MethodId} {args : Array Value} {below : List Frame} {meth : Method} {c : Code} {T : State} {H : Heap} {locs : List Loc} {cells slots : Nat}
abbrev vx_CSW (R : Room) (s : State) (args : Array Value) (own : String) (index : Nat) (y : MethodName) (bytes : ByteArray) (maxL : Nat) (ret : Option FieldType) (hh : List (Nat × Nat × Nat × Nat)) (ws : List Cond) (rm : Room) (mc ms n : Nat) : Prop :=
  (rm.cells = mc ∧ rm.slots = ms ∧ rm.frames + 1 ≤ R.frames ∧ 8 + (maxL + 11) + rm.locals ≤ R.locals ∧ (∀ w ∈ ws, ∀ (a' : Array Value) (U : State), s.WarmedH U.vm → w.before a' U = true) ∧ Cond.codeWith y bytes maxL ret hh ∈ ws) ∧
  (Cond.codeWith y bytes maxL ret hh).before args s = true ∧ (Cond.initialized y.cls).before args s = true ∧ (y.cls ≠ "java/lang/invoke/MethodHandle" ∧ y.cls ≠ "java/lang/invoke/VarHandle") ∧
  (∀ sig, parseMethodDescriptor y.desc = some sig → n = sig.parameters.length) ∧ (Cond.methodLink own index y).before args s = true ∧ (Cond.static y).before args s = true
theorem vx_cwSW {own : String} {index maxL mc ms : Nat} {y : MethodName} {bytes : ByteArray} {ret : Option FieldType} {hh : List (Nat × Nat × Nat × Nat)} {Ts ws ws' : List Cond} {rm : Room} (n : Nat) (ht : ∀ w ∈ Ts, w.before args s = true) (hT : GoodIn Ts (va_wsS own index y ws)) (hw : ws = Cond.codeWith y bytes maxL ret hh :: ws') (hrc : rm.cells = mc) (hrs : rm.slots = ms)
    (hd : y.cls ≠ "java/lang/invoke/MethodHandle" ∧ y.cls ≠ "java/lang/invoke/VarHandle" ∧ (parseMethodDescriptor y.desc).map (fun d => d.parameters.length) = some n) (hR : rm.frames + 1 ≤ R.frames ∧ 8 + (maxL + 11) + rm.locals ≤ R.locals) :
    vx_CSW R s args own index y bytes maxL ret hh ws rm mc ms n := by
  have ok : ∀ w ∈ va_wsS own index y ws, w.before args s = true := fun w h => ht w (hT w h).1
  have hG : GoodIn Ts ws := fun w h => hT w (by unfold va_wsS; exact List.mem_append_right _ h)
  have hc : Cond.codeWith y bytes maxL ret hh ∈ ws := by rw [hw]; exact List.mem_cons_self
  refine ⟨⟨hrc, hrs, hR.1, hR.2, pay_in ht hG, hc⟩, ht _ (hG _ hc).1, ok _ (by simp [va_wsS]), ⟨hd.1, hd.2.1⟩, fun sig h => ?_, ok _ (by simp [va_wsS]), ok _ (by simp [va_wsS])⟩
  have h2 := hd.2.2
  rw [h] at h2
  exact (Option.some.inj h2).symm
theorem vx_callSW (X : Stand p l e R s m args below meth c T locs cells slots) (hexec : p.tables.exec = Jvm.exec) {own : String} {index : Nat} {y : MethodName} {bytes : ByteArray} {maxL : Nat} {ret : Option FieldType} {hh : List (Nat × Nat × Nat × Nat)}
    (hown : s.vm.findClass own = some m.cls) (hlink : (Cond.methodLink own index y).before args s = true) (hstat : (Cond.static y).before args s = true) (hinit : (Cond.initialized y.cls).before args s = true)
    (hcode : (Cond.codeWith y bytes maxL ret hh).before args s = true) (hy : y.cls ≠ "java/lang/invoke/MethodHandle" ∧ y.cls ≠ "java/lang/invoke/VarHandle")
    {W9 : Nat} {Pre : Pt → Array Value → Prop} {Post : Pt → Array Value → Option Value → Pt → Prop} (hK : Back l R p e below s args y 3 W9 Pre Post)
    {g : JFrame} (hg : g.method = m) (hsize : g.locals.size = c.maxLocals) {argsL rest : List Value} (hlen : ∀ sig, parseMethodDescriptor y.desc = some sig → argsL.length = sig.parameters.length)
    (hstack : g.stack = argsL.reverse ++ rest) (hW : 2 * g.monitorRoom + (rest.map fun v => v.category).sum ≤ W9) (hdg : decode c.code g.pc = .ok (.invokestatic index, 3))
    (hpre : ∀ vm₁, s.WarmedH vm₁ → Pre ⟨T.setVm vm₁, locs, cells, slots⟩ argsL.toArray) :
    ∃ (v : Option Value) (vm₁ : Vm) (B : Pt), s.WarmedH vm₁ ∧ Stand p l e R s m args below meth c B.U B.locs B.cells B.slots ∧ Post ⟨T.setVm vm₁, locs, cells, slots⟩ argsL.toArray v B ∧
      ∀ target, Steps p.tables e below (B.U.setTop { g with pc := g.pc + 3, stack := v.toList ++ rest }) target → Steps p.tables e below (T.setTop g) target := by
  obtain ⟨mk, methM, cM, hnamed, hmethM, -, -, -, -, -, -, hsigM⟩ := Cond.codeWith_spec hcode
  have hstatic : methM.isStatic = true := Cond.static_spec hnamed hmethM hstat
  obtain ⟨kP, hkP, -⟩ := className_of_methodNamed hnamed
  have hinitP : kP.init = .initialized := Cond.initialized_spec (findClass_of_methodNamed hnamed) hkP hinit
  obtain ⟨vm₁, X₁, hstep₁⟩ := X.invokestatic hexec hown hlink hnamed hmethM hstatic hkP hinitP hy (g := g) hg (argsL := argsL) (rest := rest) (hlen _ hsigM) hstack hdg
  obtain ⟨v, B, X', hpost, hsteps⟩ := hK m meth c ⟨T.setVm vm₁, locs, cells, slots⟩ { g with stack := rest } (.invokestatic index) mk argsL.toArray X₁ hg hsize hdg hW (X₁.named hnamed) (hpre vm₁ X₁.warmed)
  exact ⟨v, vm₁, B, X₁.warmed, X', hpost, fun target h => hstep₁ _ fun acts => by rw [doInvoke_state]; exact hsteps.trans h⟩
theorem vx_runSW {y : MethodName} {bytes cc : ByteArray} {maxL nL mc ms n index : Nat} {ret : Option FieldType} {hh : List (Nat × Nat × Nat × Nat)} {ws : List Cond} {rm : Room} {Pc : Array Value → State → Prop} {Qc : Array Value → State → Outcome → State → Prop} {free : Addr → Prop} {Ts : List Cond} {own : String} {As rest : List Value} {g : JFrame}
    (S : CallFix p m c cc nL s args Ts own) (hM : Met l y ws rm Pc Qc mc ms free) (cw : vx_CSW R s args own index y bytes maxL ret hh ws rm mc ms n) (hp : PreS s H Pc As)
    (hg : g.method = m) (hn : As.length = n) (hsize : g.locals.size = nL) (hstack : g.stack = As.reverse ++ rest) (hW : 2 * g.monitorRoom + (rest.map fun v => v.category).sum ≤ 8) (hdg : decode cc g.pc = .ok (.invokestatic index, 3)) (hf : cells + mc ≤ R.cells ∧ slots + ms ≤ R.slots) :
    va_Run p l e R s m args below meth c H locs cells slots mc ms g rest (Qc As.toArray) (free) := by
  obtain ⟨⟨hrc, hrs, hfr, hlo, hws, hcw⟩, hcode, hini, hy, hlen, hl, hstt⟩ := cw
  have hK : Back l R p e below s args y 3 8 (PreOf R mc ms Pc) (PostOf Qc mc ms free) := va_backW (hh := hh) (bytes := bytes) (maxL := maxL) (ret := ret) hM hp.1 hrc hrs hfr hlo hws hcw (fun a' U hW => word_at hW (Or.inl (by first | rfl | simp [Cond.onTables, Cond.keeps, Cond.steady])) hini)
  obtain ⟨hx, hb, hml, ho, -⟩ := S
  intro T hT X
  obtain ⟨v, vm₁, ⟨U', l2, c2, s2⟩, hW₁, X', ⟨g', mk, t, L, e1, e2, hq, h1, hL, h2, h3⟩, st⟩ := vx_callSW X hx (hh := hh) (bytes := bytes) (maxL := maxL) (ret := ret) ho hl hstt hini hcode hy hK hg (hsize.trans hml.symm) (argsL := As) (rest := rest) (fun sig h => hn.trans (hlen sig h)) hstack hW (by rw [hb]; exact hdg)
    (fun vm₁ hW₁ => ⟨hf.1, hf.2, hp.2 (T.setVm vm₁) hT hW₁⟩)
  dsimp only [Pt.U, Pt.locs, Pt.cells, Pt.slots] at X' e1 e2 h1 h2 h3 st
  subst h1; subst h2; subst h3
  exact ⟨v, (T.setVm vm₁).calling g' mk As.toArray, t, U', L, hT, X', hL, e1, e2, hq, st⟩
/-- not caught here, past rows that name other classes: it goes on to the caller -/
theorem vx_outP {p : Program} {l : Launch} {e : Env} {R : Room} {s : State} {m : MethodId} {args : Array Value} {below : List Frame} {meth : Method} {c : Code} {H : Heap} {locs : List Loc} {cells slots : Nat} {free : Addr → Prop} {ls : Array Slot} {rest : List Value} {Qc : Array Value → State → Outcome → State → Prop} {XC : String → State → State → Prop}
    {pc : Nat} {own E : String} {ce : Cell} {q : Addr} {mc ms : Nat} (hown : s.vm.findClass own = some m.cls) (hlocks : meth.locks = false)
    (hpass : ∀ z ∈ c.exceptionTable.toList, covers z pc = false ∨ (z.catchType ≠ 0 ∧ ∃ nm : String, (Cond.classLink own z.catchType nm).before args s = true ∧ va_Nc E nm s)) (hcell : H[q]? = some ce) (hv : ce.vm = .none) (hcl : s.vm.findClass E = some ce.cls)
    (hx : ∀ t : State, t.heap = H → s.vm.Alike t.vm → XC E s t) (hf : ∀ z ∈ locs, free z.base) (hc : cells ≤ mc) (hs : slots ≤ ms) :
    vx_W p l e R s m args below meth c H locs cells slots (vx_MQ below Qc XC args s mc ms free) (F0 m pc ls rest) q := by
  intro T hT X
  have hpl : e.platform.magicAccessors = ({} : Platform).magicAccessors := by rw [X.admits.platform]
  obtain ⟨vm', hW', X', st⟩ := X.outThrough hlocks q (g := F0 m pc ls rest) rfl rfl rfl (cell := ce) (by rw [hT]; exact hcell) (by rw [hv]; rfl)
    (by obtain ⟨k9, h9, -⟩ := Vm.findClass_spec hcl; exact ⟨k9, h9⟩) (fun z hz => by
      rcases hpass z hz with h | ⟨hz0, nm, hl1, hn1⟩
      · exact Or.inl h
      · obtain ⟨c6, hc6, hcl6⟩ := Cond.classLink_spec hown hl1 e.platform hpl
        obtain ⟨a8, b8, h1, h2, h3⟩ := hn1
        cases Option.some.inj (h1.symm.trans hcl)
        cases Option.some.inj (h2.symm.trans hc6)
        exact Or.inr ⟨hz0, _, hcl6, h3⟩)
  obtain ⟨g₀, hfr⟩ := X'.frames_eq
  have hcell9 : ((T.setVm vm').setFrames (.throwing q :: below)).heap[q]? = some ce := by
    show T.heap[q]? = some ce
    rw [hT]; exact hcell
  have hend : Ended ((T.setVm vm').setFrames (.throwing q :: below)) below (.threw q) := State.frames_setFrames _ (State.cur_lt_of_frames hfr)
  refine ⟨(T.setVm vm').setFrames (.throwing q :: below), ?_, .threw q, X'.here.running, hend, Or.inr ⟨q, rfl, E, ce, locs, hx _ hT (X'.ends _).1.alike, hcell9, hv, hcl, (X'.ends _).1, (X'.ends _).2.mono hc hs, hf⟩⟩
  rw [X.pushThrowing_eq]
  exact st
/-- a thing of a world lies in the heap -/
theorem vx_lt {D : va_G} {cl : List vw_C} {ws : va_W} {H1 : Heap} (h : va_P D cl ws H1) {k : Nat} {q : Nat × va_E} (hk : ws[k]? = some q) : q.1 < H1.size := (h k q hk).lt
end VXS
/-! ===== END ===== -/
/-! ===== BEGIN methods with a table of their own: called by a name, returning or throwing ===== -/
section VXH
/-! vx_backW, vx_callVX, vx_callSX, vx_callVW, vx_runVW, vx_runVX, vx_runSX, vx_ofWH follow the same proofs as their sisters above (Free/Laws.lean, Shelf42/LK1.lean); vx_outP calls Shelf42/NT130.lean (outThrough). -/
section
variable {l : Launch} {R : Room} {p : Program} {e : Env} {below : List Frame} {s : State} {sargs : Array Value} {y : MethodName} {len W9 : Nat}
theorem vx_backW {ws : List Cond} {rm : Room} {Pc : Array Value → State → Prop} {Qc : Array Value → State → Outcome → State → Prop} {XC : String → State → State → Prop} {mc ms : Nat} {free : Addr → Prop} {bytes : ByteArray} {maxL : Nat} {ret : Option FieldType} {hh : List (Nat × Nat × Nat × Nat)}
    (hM : vx_Met l y ws rm Pc Qc XC mc ms free) (hblind : FrameBlind Pc) (hrc : rm.cells = mc) (hrs : rm.slots = ms)
    (hframes : rm.frames + 1 ≤ R.frames) (hlocals : W9 + (maxL + 11) + rm.locals ≤ R.locals)
    (hws : ∀ w ∈ ws, ∀ a' U, s.WarmedH U.vm → w.before a' U = true) (hcode : Cond.codeWith y bytes maxL ret hh ∈ ws) (hinit : ∀ a' U, s.WarmedH U.vm → (Cond.initialized y.cls).before a' U = true) :
    vx_Back l R p e below s sargs y len W9 (PreOf R mc ms Pc) (PostOf Qc mc ms free) (vx_Post XC mc ms free) := by
  intro m meth c A g ig mk a X hg hsize hdg hW hn hp
  have h1 : (headSpec ws rm).pre.before a A.U = true := atoms_intro fun w hw => hws w hw _ _ X.warmed
  have h2 : (Cond.codeWith y bytes maxL ret hh).before a A.U = true := hws _ hcode _ _ X.warmed
  have h3 : (Cond.initialized y.cls).before a A.U = true := hinit _ _ X.warmed
  have h4 : A.cells + (headSpec ws rm).room.cells ≤ R.cells := by rw [show (headSpec ws rm).room.cells = mc from hrc]; exact hp.1
  have h5 : A.slots + (headSpec ws rm).room.slots ≤ R.slots := by rw [show (headSpec ws rm).room.slots = ms from hrs]; exact hp.2.1
  have hPc : Pc a (A.U.calling g mk a) := hblind _ _ _ _ hp.2.2
  obtain ⟨U, Ls, c0, s0⟩ := A
  dsimp only [Pt.U, Pt.locs, Pt.cells, Pt.slots] at h1 h2 h3 h4 h5 X hn hPc ⊢
  obtain ⟨m9, methY, cY, hn9, hmY, hcY, -, hlY, -⟩ := Cond.codeWith_spec h2
  cases Option.some.inj (hn9.symm.trans hn)
  obtain ⟨kY, hkY, -⟩ := className_of_methodNamed hn
  have hinitY : kY.init = .initialized := Cond.initialized_spec (findClass_of_methodNamed hn) hkY h3
  have h : At U g.method c below := by rw [hg]; exact X.here
  have hlocals9 : W9 + (maxL + 11) + (headSpec ws rm).room.locals ≤ R.locals := hlocals
  have happ : (headSpec ws rm).appliesLoose y e.platform (U.calling g mk a) = true :=
    Spec.appliesLoose_calling (g := g) h hdg hn hkY hinitY
      (X.room_calling (g := g) (R' := (headSpec ws rm).room) hsize hmY hcY hframes (by rw [hlY]; omega) h4 h5) h1
  obtain ⟨mid, hmid⟩ := h.above
  have hfr : (U.setTop g).frames = (.java g :: mid) ++ below := by rw [State.frames_setTop' g h.top, hmid]; rfl
  obtain ⟨o, s₂, hsteps, -, hend, hq⟩ := Steps.callFree hM p X.admits X.cas X.clock (acts := []) hfr happ hPc trivial
  have hq' : vx_Q Qc XC mc ms free a (U.calling g mk a) o s₂ := hq
  rw [State.frames_setTop' g h.top] at hend
  obtain ⟨g₀, hg0⟩ := Option.isSome_iff_exists.mp h.top
  obtain ⟨r, hr⟩ := State.topJava?_eq_some.mp hg0
  have hr' : (({ U with heap := s₂.heap, slotsUsed := s₂.slotsUsed } : State).setVm s₂.vm).frames = .java g₀ :: r := hr
  rcases hq' with ⟨hqc, L, hfe, hL⟩ | ⟨q, rfl, E, ce, L, hx, hce, hcv, hcl, hW₂, hsm, hL⟩
  · obtain ⟨⟨v, rfl⟩, hW₂, e2, q2, q3, q4, q5, q6⟩ := id hfe
    have e3 : s₂ = ({ (U.calling g mk a).setFrames s₂.frames with heap := s₂.heap, slotsUsed := s₂.slotsUsed } : State).setVm s₂.vm := by
      have : s₂ = ({ s₂ with vm := (U.calling g mk a).vm } : State).setVm s₂.vm := rfl
      rw [e2] at this
      exact this
    obtain ⟨c₂, i₂, len₂, hc₂, hd₂, hf₂⟩ := hend
    have hW' : U.WarmedH s₂.vm := hW₂
    have hcc : c₂ = c := by
      have h1 : s₂.code? g.method = U.code? g.method := by
        rw [State.code?_eq, State.code?_eq, hW'.alike.method?]
      exact Option.some.inj (hc₂.symm.trans (h1.trans h.code))
    subst hcc
    have hlen : len₂ = len := by rw [hdg] at hd₂; cases hd₂; rfl
    subst hlen
    have hs₂ : s₂ = (({ U with heap := s₂.heap, slotsUsed := s₂.slotsUsed } : State).setVm s₂.vm).setTop { g with pc := g.pc + len₂, stack := v.toList ++ g.stack } := by
      refine e3.trans ?_
      rw [hf₂, State.calling_eq h.top, State.setFrames_setFrames, State.setTop_of_frames _ hr', hr]
      rfl
    have hsame : U.sameButNew ({ U with heap := s₂.heap, slotsUsed := s₂.slotsUsed } : State) L mc ms := by
      refine ⟨?_, q2, q3, q4, q5, q6⟩
      obtain ⟨t, ht, -⟩ := State.frames_cons hr
      show ({ U with heap := s₂.heap, slotsUsed := s₂.slotsUsed } : State) = { U.setFrames U.frames with heap := s₂.heap, slotsUsed := s₂.slotsUsed }
      rw [State.setFrames_self ht]
    subst hg
    refine Or.inl ⟨v, ⟨(({ U with heap := s₂.heap, slotsUsed := s₂.slotsUsed } : State).setVm s₂.vm), Ls ++ L, c0 + mc, s0 + ms⟩,
      ⟨X.admits, X.cas, X.clock, X.frames, X.room, X.hears, X.method, X.code, (X.here.setHeapUsed s₂.heap s₂.slotsUsed).setVm hW'.alike, X.tail, State.WarmedH.trans X.warmed hW', X.limits, X.bytes, X.same.trans (hsame.setVm s.vm)⟩,
      ⟨g, mk, s₂, L, rfl, rfl, hqc, rfl, hL, rfl, rfl⟩, ?_⟩
    show Steps p.tables e below _ ((({ U with heap := s₂.heap, slotsUsed := s₂.slotsUsed } : State).setVm s₂.vm).setTop { g with pc := g.pc + len₂, stack := v.toList ++ g.stack })
    rw [← hs₂]
    exact hsteps
  · obtain ⟨e2, q2, q3, q4, q5, q6⟩ := id hsm
    have e3 : s₂ = ({ (U.calling g mk a).setFrames s₂.frames with heap := s₂.heap, slotsUsed := s₂.slotsUsed } : State).setVm s₂.vm := by
      have : s₂ = ({ s₂ with vm := (U.calling g mk a).vm } : State).setVm s₂.vm := rfl
      rw [e2] at this
      exact this
    have hf₂ : s₂.frames = .throwing q :: .java g :: U.frames.tail := hend
    have hW' : U.WarmedH s₂.vm := hW₂
    have hs₂ : s₂ = ((({ U with heap := s₂.heap, slotsUsed := s₂.slotsUsed } : State).setVm s₂.vm).setTop g).pushFrame (.throwing q) := by
      refine e3.trans ?_
      rw [hf₂, State.calling_eq h.top, State.setFrames_setFrames, State.pushFrame, State.frames_setTop _ hr', State.setTop_of_frames _ hr', State.setFrames_setFrames, hr]
      rfl
    have hsame : U.sameButNew ({ U with heap := s₂.heap, slotsUsed := s₂.slotsUsed } : State) L mc ms := by
      refine ⟨?_, q2, q3, q4, q5, q6⟩
      obtain ⟨t, ht, -⟩ := State.frames_cons hr
      show ({ U with heap := s₂.heap, slotsUsed := s₂.slotsUsed } : State) = { U.setFrames U.frames with heap := s₂.heap, slotsUsed := s₂.slotsUsed }
      rw [State.setFrames_self ht]
    subst hg
    refine Or.inr ⟨q, ⟨(({ U with heap := s₂.heap, slotsUsed := s₂.slotsUsed } : State).setVm s₂.vm), Ls ++ L, c0 + mc, s0 + ms⟩,
      ⟨X.admits, X.cas, X.clock, X.frames, X.room, X.hears, X.method, X.code, (X.here.setHeapUsed s₂.heap s₂.slotsUsed).setVm hW'.alike, X.tail, State.WarmedH.trans X.warmed hW', X.limits, X.bytes, X.same.trans (hsame.setVm s.vm)⟩,
      ⟨g, mk, s₂, L, E, ce, rfl, rfl, hx, hce, hcv, hcl, rfl, hL, rfl, rfl⟩, ?_⟩
    show Steps p.tables e below _ (((({ U with heap := s₂.heap, slotsUsed := s₂.slotsUsed } : State).setVm s₂.vm).setTop g).pushFrame (.throwing q))
    rw [← hs₂]
    exact hsteps
end
variable {p : Program} {l : Launch} {e : Env} {R : Room} {s : State} {m : MethodId} {args : Array Value} {below : List Frame} {meth : Method} {c : Code} {T : State} {H : Heap} {locs : List Loc} {cells slots : Nat}
theorem vx_callVX (X : Stand p l e R s m args below meth c T locs cells slots) (hexec : p.tables.exec = Jvm.exec) {own C : String} {index : Nat} {y : MethodName} {bytes : ByteArray} {maxL : Nat} {ret : Option FieldType} {hh : List (Nat × Nat × Nat × Nat)}
    (hown : s.vm.findClass own = some m.cls) (hlink : (Cond.methodLink own index y).before args s = true) (hinst : (Cond.instanceMethod y).before args s = true) (hsel : (Cond.selects C y y).before args s = true)
    (hcode : (Cond.codeWith y bytes maxL ret hh).before args s = true) (hy : y.cls ≠ "java/lang/invoke/MethodHandle" ∧ y.cls ≠ "java/lang/invoke/VarHandle")
    {W9 : Nat} {Pre : Pt → Array Value → Prop} {Post : Pt → Array Value → Option Value → Pt → Prop} {PostX : Pt → Array Value → Addr → Pt → Prop} (hK : vx_Back l R p e below s args y 3 W9 Pre Post PostX)
    {b : Addr} {cellB : Cell} (hcell : T.heap[b]? = some cellB) (hobj : cellB.vm.isStatics = false) (hcls : s.vm.findClass C = some cellB.cls)
    {g : JFrame} (hg : g.method = m) (hsize : g.locals.size = c.maxLocals) {argsL rest : List Value} (hlen : ∀ sig, parseMethodDescriptor y.desc = some sig → argsL.length = sig.parameters.length)
    (hstack : g.stack = argsL.reverse ++ .ref b :: rest) (hW : 2 * g.monitorRoom + (rest.map fun v => v.category).sum ≤ W9) (hdg : decode c.code g.pc = .ok (.invokevirtual index, 3))
    (hpre : ∀ vm₁, s.WarmedH vm₁ → Pre ⟨T.setVm vm₁, locs, cells, slots⟩ (Value.ref b :: argsL).toArray) :
    (∃ (v : Option Value) (vm₁ : Vm) (B : Pt), s.WarmedH vm₁ ∧ Stand p l e R s m args below meth c B.U B.locs B.cells B.slots ∧ Post ⟨T.setVm vm₁, locs, cells, slots⟩ (Value.ref b :: argsL).toArray v B ∧
      ∀ target, Steps p.tables e below (B.U.setTop { g with pc := g.pc + 3, stack := v.toList ++ rest }) target → Steps p.tables e below (T.setTop g) target) ∨
    (∃ (q : Addr) (vm₁ : Vm) (B : Pt), s.WarmedH vm₁ ∧ Stand p l e R s m args below meth c B.U B.locs B.cells B.slots ∧ PostX ⟨T.setVm vm₁, locs, cells, slots⟩ (Value.ref b :: argsL).toArray q B ∧
      Steps p.tables e below (T.setTop g) ((B.U.setTop { g with stack := rest }).pushFrame (.throwing q))) := by
  obtain ⟨mk, methM, hnamed, hmethM, hstM, habM⟩ := Cond.instanceMethod_spec hinst
  obtain ⟨m8, methM', cM, hn8, hmethM', -, -, -, -, -, -, hsigM⟩ := Cond.codeWith_spec hcode
  cases Option.some.inj (hn8.symm.trans hnamed)
  cases hmethM.symm.trans hmethM'
  obtain ⟨c2, r2, m2, q1, q2, q3, q4, kP, hkP, hkPi⟩ := Cond.selects_spec hsel
  cases hcls.symm.trans q1
  cases (State.methodFound?_of_named hnamed hy).symm.trans q2
  cases hnamed.symm.trans q3
  have hselP : selectMethod e.platform s.vm cellB.cls mk = .method mk := by rw [Launch.admits_selectMethod X.admits]; exact q4
  obtain ⟨vm₁, X₁, hstep₁⟩ := X.invokevirtual hexec hown hlink hnamed hmethM hstM hkP hkPi hy (a := b) (cell := cellB) hcell
    (fun z h => by rw [h] at hobj; cases hobj) hselP hmethM habM hkP hkPi (g := g) hg (argsL := argsL) (rest := rest) (hlen _ hsigM) hstack hdg
  rcases hK m meth c ⟨T.setVm vm₁, locs, cells, slots⟩ { g with stack := rest } (.invokevirtual index) mk (Value.ref b :: argsL).toArray X₁ hg hsize hdg hW (X₁.named hnamed) (hpre vm₁ X₁.warmed) with ⟨v, B, X', hpost, hsteps⟩ | ⟨q, B, X', hpost, hsteps⟩
  · exact Or.inl ⟨v, vm₁, B, X₁.warmed, X', hpost, fun target h => hstep₁ _ fun acts => by rw [doInvoke_state]; exact hsteps.trans h⟩
  · exact Or.inr ⟨q, vm₁, B, X₁.warmed, X', hpost, hstep₁ _ fun acts => by rw [doInvoke_state]; exact hsteps⟩
theorem vx_callSX (X : Stand p l e R s m args below meth c T locs cells slots) (hexec : p.tables.exec = Jvm.exec) {own : String} {index : Nat} {y : MethodName} {bytes : ByteArray} {maxL : Nat} {ret : Option FieldType} {hh : List (Nat × Nat × Nat × Nat)}
    (hown : s.vm.findClass own = some m.cls) (hlink : (Cond.methodLink own index y).before args s = true) (hstat : (Cond.static y).before args s = true) (hinit : (Cond.initialized y.cls).before args s = true)
    (hcode : (Cond.codeWith y bytes maxL ret hh).before args s = true) (hy : y.cls ≠ "java/lang/invoke/MethodHandle" ∧ y.cls ≠ "java/lang/invoke/VarHandle")
    {W9 : Nat} {Pre : Pt → Array Value → Prop} {Post : Pt → Array Value → Option Value → Pt → Prop} {PostX : Pt → Array Value → Addr → Pt → Prop} (hK : vx_Back l R p e below s args y 3 W9 Pre Post PostX)
    {g : JFrame} (hg : g.method = m) (hsize : g.locals.size = c.maxLocals) {argsL rest : List Value} (hlen : ∀ sig, parseMethodDescriptor y.desc = some sig → argsL.length = sig.parameters.length)
    (hstack : g.stack = argsL.reverse ++ rest) (hW : 2 * g.monitorRoom + (rest.map fun v => v.category).sum ≤ W9) (hdg : decode c.code g.pc = .ok (.invokestatic index, 3))
    (hpre : ∀ vm₁, s.WarmedH vm₁ → Pre ⟨T.setVm vm₁, locs, cells, slots⟩ argsL.toArray) :
    (∃ (v : Option Value) (vm₁ : Vm) (B : Pt), s.WarmedH vm₁ ∧ Stand p l e R s m args below meth c B.U B.locs B.cells B.slots ∧ Post ⟨T.setVm vm₁, locs, cells, slots⟩ argsL.toArray v B ∧
      ∀ target, Steps p.tables e below (B.U.setTop { g with pc := g.pc + 3, stack := v.toList ++ rest }) target → Steps p.tables e below (T.setTop g) target) ∨
    (∃ (q : Addr) (vm₁ : Vm) (B : Pt), s.WarmedH vm₁ ∧ Stand p l e R s m args below meth c B.U B.locs B.cells B.slots ∧ PostX ⟨T.setVm vm₁, locs, cells, slots⟩ argsL.toArray q B ∧
      Steps p.tables e below (T.setTop g) ((B.U.setTop { g with stack := rest }).pushFrame (.throwing q))) := by
  obtain ⟨mk, methM, cM, hnamed, hmethM, -, -, -, -, -, -, hsigM⟩ := Cond.codeWith_spec hcode
  have hstatic : methM.isStatic = true := Cond.static_spec hnamed hmethM hstat
  obtain ⟨kP, hkP, -⟩ := className_of_methodNamed hnamed
  have hinitP : kP.init = .initialized := Cond.initialized_spec (findClass_of_methodNamed hnamed) hkP hinit
  obtain ⟨vm₁, X₁, hstep₁⟩ := X.invokestatic hexec hown hlink hnamed hmethM hstatic hkP hinitP hy (g := g) hg (argsL := argsL) (rest := rest) (hlen _ hsigM) hstack hdg
  rcases hK m meth c ⟨T.setVm vm₁, locs, cells, slots⟩ { g with stack := rest } (.invokestatic index) mk argsL.toArray X₁ hg hsize hdg hW (X₁.named hnamed) (hpre vm₁ X₁.warmed) with ⟨v, B, X', hpost, hsteps⟩ | ⟨q, B, X', hpost, hsteps⟩
  · exact Or.inl ⟨v, vm₁, B, X₁.warmed, X', hpost, fun target h => hstep₁ _ fun acts => by rw [doInvoke_state]; exact hsteps.trans h⟩
  · exact Or.inr ⟨q, vm₁, B, X₁.warmed, X', hpost, hstep₁ _ fun acts => by rw [doInvoke_state]; exact hsteps⟩
theorem vx_callVW (X : Stand p l e R s m args below meth c T locs cells slots) (hexec : p.tables.exec = Jvm.exec) {own C : String} {index : Nat} {y : MethodName} {bytes : ByteArray} {maxL : Nat} {ret : Option FieldType} {hh : List (Nat × Nat × Nat × Nat)}
    (hown : s.vm.findClass own = some m.cls) (hlink : (Cond.methodLink own index y).before args s = true) (hinst : (Cond.instanceMethod y).before args s = true) (hsel : (Cond.selects C y y).before args s = true)
    (hcode : (Cond.codeWith y bytes maxL ret hh).before args s = true) (hy : y.cls ≠ "java/lang/invoke/MethodHandle" ∧ y.cls ≠ "java/lang/invoke/VarHandle")
    {W9 : Nat} {Pre : Pt → Array Value → Prop} {Post : Pt → Array Value → Option Value → Pt → Prop} (hK : Back l R p e below s args y 3 W9 Pre Post)
    {b : Addr} {cellB : Cell} (hcell : T.heap[b]? = some cellB) (hobj : cellB.vm.isStatics = false) (hcls : s.vm.findClass C = some cellB.cls)
    {g : JFrame} (hg : g.method = m) (hsize : g.locals.size = c.maxLocals) {argsL rest : List Value} (hlen : ∀ sig, parseMethodDescriptor y.desc = some sig → argsL.length = sig.parameters.length)
    (hstack : g.stack = argsL.reverse ++ .ref b :: rest) (hW : 2 * g.monitorRoom + (rest.map fun v => v.category).sum ≤ W9) (hdg : decode c.code g.pc = .ok (.invokevirtual index, 3))
    (hpre : ∀ vm₁, s.WarmedH vm₁ → Pre ⟨T.setVm vm₁, locs, cells, slots⟩ (Value.ref b :: argsL).toArray) :
    ∃ (v : Option Value) (vm₁ : Vm) (B : Pt), s.WarmedH vm₁ ∧ Stand p l e R s m args below meth c B.U B.locs B.cells B.slots ∧ Post ⟨T.setVm vm₁, locs, cells, slots⟩ (Value.ref b :: argsL).toArray v B ∧
      ∀ target, Steps p.tables e below (B.U.setTop { g with pc := g.pc + 3, stack := v.toList ++ rest }) target → Steps p.tables e below (T.setTop g) target := by
  obtain ⟨mk, methM, hnamed, hmethM, hstM, habM⟩ := Cond.instanceMethod_spec hinst
  obtain ⟨m8, methM', cM, hn8, hmethM', -, -, -, -, -, -, hsigM⟩ := Cond.codeWith_spec hcode
  cases Option.some.inj (hn8.symm.trans hnamed)
  cases hmethM.symm.trans hmethM'
  obtain ⟨c2, r2, m2, q1, q2, q3, q4, kP, hkP, hkPi⟩ := Cond.selects_spec hsel
  cases hcls.symm.trans q1
  cases (State.methodFound?_of_named hnamed hy).symm.trans q2
  cases hnamed.symm.trans q3
  have hselP : selectMethod e.platform s.vm cellB.cls mk = .method mk := by rw [Launch.admits_selectMethod X.admits]; exact q4
  obtain ⟨vm₁, X₁, hstep₁⟩ := X.invokevirtual hexec hown hlink hnamed hmethM hstM hkP hkPi hy (a := b) (cell := cellB) hcell
    (fun z h => by rw [h] at hobj; cases hobj) hselP hmethM habM hkP hkPi (g := g) hg (argsL := argsL) (rest := rest) (hlen _ hsigM) hstack hdg
  obtain ⟨v, B, X', hpost, hsteps⟩ := hK m meth c ⟨T.setVm vm₁, locs, cells, slots⟩ { g with stack := rest } (.invokevirtual index) mk (Value.ref b :: argsL).toArray X₁ hg hsize hdg hW (X₁.named hnamed) (hpre vm₁ X₁.warmed)
  exact ⟨v, vm₁, B, X₁.warmed, X', hpost, fun target h => hstep₁ _ fun acts => by rw [doInvoke_state]; exact hsteps.trans h⟩
abbrev vx_CVW (R : Room) (s : State) (args : Array Value) (own C : String) (index : Nat) (y : MethodName) (bytes : ByteArray) (maxL : Nat) (ret : Option FieldType) (hh : List (Nat × Nat × Nat × Nat)) (ws : List Cond) (rm : Room) (mc ms n : Nat) : Prop :=
  (rm.cells = mc ∧ rm.slots = ms ∧ rm.frames + 1 ≤ R.frames ∧ 8 + (maxL + 11) + rm.locals ≤ R.locals ∧ (∀ w ∈ ws, ∀ (a' : Array Value) (U : State), s.WarmedH U.vm → w.before a' U = true) ∧ Cond.codeWith y bytes maxL ret hh ∈ ws) ∧
  (Cond.codeWith y bytes maxL ret hh).before args s = true ∧ (Cond.initialized y.cls).before args s = true ∧ (y.cls ≠ "java/lang/invoke/MethodHandle" ∧ y.cls ≠ "java/lang/invoke/VarHandle") ∧
  (∀ sig, parseMethodDescriptor y.desc = some sig → n = sig.parameters.length) ∧ (Cond.methodLink own index y).before args s = true ∧ (Cond.instanceMethod y).before args s = true ∧ (Cond.selects C y y).before args s = true
theorem vx_cwVW {own C : String} {index maxL mc ms : Nat} {y : MethodName} {bytes : ByteArray} {ret : Option FieldType} {hh : List (Nat × Nat × Nat × Nat)} {Ts ws ws' : List Cond} {rm : Room} (n : Nat) (ht : ∀ w ∈ Ts, w.before args s = true) (hT : GoodIn Ts (wsV own index C y ws)) (hw : ws = Cond.codeWith y bytes maxL ret hh :: ws') (hrc : rm.cells = mc) (hrs : rm.slots = ms)
    (hd : y.cls = C ∧ y.cls ≠ "java/lang/invoke/MethodHandle" ∧ y.cls ≠ "java/lang/invoke/VarHandle" ∧ (parseMethodDescriptor y.desc).map (fun d => d.parameters.length) = some n) (hR : rm.frames + 1 ≤ R.frames ∧ 8 + (maxL + 11) + rm.locals ≤ R.locals) :
    vx_CVW R s args own C index y bytes maxL ret hh ws rm mc ms n := by
  obtain ⟨hC, hd⟩ := hd
  subst hC
  have ok : ∀ w ∈ wsV own index y.cls y ws, w.before args s = true := fun w h => ht w (hT w h).1
  have hG : GoodIn Ts ws := fun w h => hT w (by unfold wsV; exact List.mem_append_right _ h)
  have hc : Cond.codeWith y bytes maxL ret hh ∈ ws := by rw [hw]; exact List.mem_cons_self
  refine ⟨⟨hrc, hrs, hR.1, hR.2, pay_in ht hG, hc⟩, ht _ (hG _ hc).1, ok _ (by simp [wsV]), ⟨hd.1, hd.2.1⟩, fun sig h => ?_, ok _ (by simp [wsV]), ok _ (by simp [wsV]), ok _ (by simp [wsV])⟩
  have h2 := hd.2.2
  rw [h] at h2
  exact (Option.some.inj h2).symm
theorem vx_runVW {y : MethodName} {bytes cc : ByteArray} {maxL nL mc ms n index : Nat} {ret : Option FieldType} {hh : List (Nat × Nat × Nat × Nat)} {ws : List Cond} {rm : Room} {Pc : Array Value → State → Prop} {Qc : Array Value → State → Outcome → State → Prop} {free : Addr → Prop} {Ts : List Cond} {own C : String} {b : Addr} {As rest : List Value} {g : JFrame}
    (S : CallFix p m c cc nL s args Ts own) (hM : Met l y ws rm Pc Qc mc ms free) (cw : vx_CVW R s args own C index y bytes maxL ret hh ws rm mc ms n) (hp : PreV s H C b Pc As)
    (hg : g.method = m) (hn : As.length = n) (hsize : g.locals.size = nL) (hstack : g.stack = As.reverse ++ .ref b :: rest) (hW : 2 * g.monitorRoom + (rest.map fun v => v.category).sum ≤ 8) (hdg : decode cc g.pc = .ok (.invokevirtual index, 3)) (hf : cells + mc ≤ R.cells ∧ slots + ms ≤ R.slots) :
    va_Run p l e R s m args below meth c H locs cells slots mc ms g rest (Qc (Value.ref b :: As).toArray) free := by
  obtain ⟨⟨hrc, hrs, hfr, hlo, hws, hcw⟩, hcode, hini, hy, hlen, hl, hin, hse⟩ := cw
  have hK : Back l R p e below s args y 3 8 (PreOf R mc ms Pc) (PostOf Qc mc ms free) := va_backW (hh := hh) (bytes := bytes) (maxL := maxL) (ret := ret) hM hp.1 hrc hrs hfr hlo hws hcw (fun a' U hW => word_at hW (Or.inl (by first | rfl | simp [Cond.onTables, Cond.keeps, Cond.steady])) hini)
  obtain ⟨hx, hb, hml, ho, -⟩ := S
  obtain ⟨-, ⟨cellB, hcB, hoB, hclB⟩, hPc⟩ := hp
  intro T hT X
  obtain ⟨v, vm₁, ⟨U', l2, c2, s2⟩, hW₁, X', ⟨g', mk, t, L, e1, e2, hq, h1, hL, h2, h3⟩, st⟩ := vx_callVW X hx (C := C) (hh := hh) (bytes := bytes) (maxL := maxL) (ret := ret) ho hl hin hse hcode hy hK (by rw [hT]; exact hcB) hoB hclB hg (hsize.trans hml.symm) (argsL := As) (rest := rest) (fun sig h => hn.trans (hlen sig h)) hstack hW (by rw [hb]; exact hdg)
    (fun vm₁ hW₁ => ⟨hf.1, hf.2, hPc (T.setVm vm₁) hT hW₁⟩)
  dsimp only [Pt.U, Pt.locs, Pt.cells, Pt.slots] at X' e1 e2 h1 h2 h3 st
  subst h1; subst h2; subst h3
  exact ⟨v, (T.setVm vm₁).calling g' mk (Value.ref b :: As).toArray, t, U', L, hT, X', hL, e1, e2, hq, st⟩
section
variable {y : MethodName} {bytes cc : ByteArray} {maxL nL mc ms n index : Nat} {ret : Option FieldType} {ws : List Cond} {rm : Room} {Pc : Array Value → State → Prop} {Qc : Array Value → State → Outcome → State → Prop} {XC : String → State → State → Prop} {free : Addr → Prop} {Ts : List Cond} {own C : String} {b : Addr} {As rest : List Value} {g : JFrame}
theorem vx_runVX {hh : List (Nat × Nat × Nat × Nat)} (S : CallFix p m c cc nL s args Ts own) (hM : vx_Met l y ws rm Pc Qc XC mc ms free) (cw : vx_CVW R s args own C index y bytes maxL ret hh ws rm mc ms n) (hp : PreV s H C b Pc As)
    (hg : g.method = m) (hn : As.length = n) (hsize : g.locals.size = nL) (hstack : g.stack = As.reverse ++ .ref b :: rest) (hW : 2 * g.monitorRoom + (rest.map fun v => v.category).sum ≤ 8) (hdg : decode cc g.pc = .ok (.invokevirtual index, 3)) (hf : cells + mc ≤ R.cells ∧ slots + ms ≤ R.slots) :
    vx_Run p l e R s m args below meth c H locs cells slots mc ms g rest (Qc (Value.ref b :: As).toArray) XC free := by
  obtain ⟨⟨hrc, hrs, hfr, hlo, hws, hcw⟩, hcode, hini, hy, hlen, hl, hin, hse⟩ := cw
  have hK : vx_Back l R p e below s args y 3 8 (PreOf R mc ms Pc) (PostOf Qc mc ms free) (vx_Post XC mc ms free) := vx_backW (hh := hh) (bytes := bytes) (maxL := maxL) (ret := ret) hM hp.1 hrc hrs hfr hlo hws hcw (fun a' U hW => word_at hW (Or.inl (by first | rfl | simp [Cond.onTables, Cond.keeps, Cond.steady])) hini)
  obtain ⟨hx, hb, hml, ho, -⟩ := S
  obtain ⟨-, ⟨cellB, hcB, hoB, hclB⟩, hPc⟩ := hp
  intro T hT X
  rcases vx_callVX X hx (C := C) (hh := hh) (bytes := bytes) (maxL := maxL) (ret := ret) ho hl hin hse hcode hy hK (by rw [hT]; exact hcB) hoB hclB hg (hsize.trans hml.symm) (argsL := As) (rest := rest) (fun sig h => hn.trans (hlen sig h)) hstack hW (by rw [hb]; exact hdg)
    (fun vm₁ hW₁ => ⟨hf.1, hf.2, hPc (T.setVm vm₁) hT hW₁⟩) with ⟨v, vm₁, ⟨U', l2, c2, s2⟩, hW₁, X', ⟨g', mk, t, L, e1, e2, hq, h1, hL, h2, h3⟩, st⟩ | ⟨q, vm₁, ⟨U', l2, c2, s2⟩, hW₁, X', ⟨g', mk, t, L, E, ce, e1, e2, hq, hce, hcv, hcl, h1, hL, h2, h3⟩, st⟩
  · dsimp only [Pt.U, Pt.locs, Pt.cells, Pt.slots] at X' e1 e2 h1 h2 h3 st
    subst h1; subst h2; subst h3
    exact Or.inl ⟨v, (T.setVm vm₁).calling g' mk (Value.ref b :: As).toArray, t, U', L, hT, X', hL, e1, e2, hq, st⟩
  · dsimp only [Pt.U, Pt.locs, Pt.cells, Pt.slots] at X' e1 e2 h1 h2 h3 st hcl
    subst h1; subst h2; subst h3
    exact Or.inr ⟨q, (T.setVm vm₁).calling g' mk (Value.ref b :: As).toArray, t, U', L, E, ce, hT, X', hL, e1, e2, hq, hce, hcv, vx_cls hW₁ hcl, st⟩
theorem vx_runSX {hh : List (Nat × Nat × Nat × Nat)} (S : CallFix p m c cc nL s args Ts own) (hM : vx_Met l y ws rm Pc Qc XC mc ms free) (cw : vx_CSW R s args own index y bytes maxL ret hh ws rm mc ms n) (hp : PreS s H Pc As)
    (hg : g.method = m) (hn : As.length = n) (hsize : g.locals.size = nL) (hstack : g.stack = As.reverse ++ rest) (hW : 2 * g.monitorRoom + (rest.map fun v => v.category).sum ≤ 8) (hdg : decode cc g.pc = .ok (.invokestatic index, 3)) (hf : cells + mc ≤ R.cells ∧ slots + ms ≤ R.slots) :
    vx_Run p l e R s m args below meth c H locs cells slots mc ms g rest (Qc As.toArray) XC free := by
  obtain ⟨⟨hrc, hrs, hfr, hlo, hws, hcw⟩, hcode, hini, hy, hlen, hl, hstt⟩ := cw
  have hK : vx_Back l R p e below s args y 3 8 (PreOf R mc ms Pc) (PostOf Qc mc ms free) (vx_Post XC mc ms free) := vx_backW (hh := hh) (bytes := bytes) (maxL := maxL) (ret := ret) hM hp.1 hrc hrs hfr hlo hws hcw (fun a' U hW => word_at hW (Or.inl (by first | rfl | simp [Cond.onTables, Cond.keeps, Cond.steady])) hini)
  obtain ⟨hx, hb, hml, ho, -⟩ := S
  intro T hT X
  rcases vx_callSX X hx (hh := hh) (bytes := bytes) (maxL := maxL) (ret := ret) ho hl hstt hini hcode hy hK hg (hsize.trans hml.symm) (argsL := As) (rest := rest) (fun sig h => hn.trans (hlen sig h)) hstack hW (by rw [hb]; exact hdg)
    (fun vm₁ hW₁ => ⟨hf.1, hf.2, hp.2 (T.setVm vm₁) hT hW₁⟩) with ⟨v, vm₁, ⟨U', l2, c2, s2⟩, hW₁, X', ⟨g', mk, t, L, e1, e2, hq, h1, hL, h2, h3⟩, st⟩ | ⟨q, vm₁, ⟨U', l2, c2, s2⟩, hW₁, X', ⟨g', mk, t, L, E, ce, e1, e2, hq, hce, hcv, hcl, h1, hL, h2, h3⟩, st⟩
  · dsimp only [Pt.U, Pt.locs, Pt.cells, Pt.slots] at X' e1 e2 h1 h2 h3 st
    subst h1; subst h2; subst h3
    exact Or.inl ⟨v, (T.setVm vm₁).calling g' mk As.toArray, t, U', L, hT, X', hL, e1, e2, hq, st⟩
  · dsimp only [Pt.U, Pt.locs, Pt.cells, Pt.slots] at X' e1 e2 h1 h2 h3 st hcl
    subst h1; subst h2; subst h3
    exact Or.inr ⟨q, (T.setVm vm₁).calling g' mk As.toArray, t, U', L, E, ce, hT, X', hL, e1, e2, hq, hce, hcv, vx_cls hW₁ hcl, st⟩
end
end VXH
theorem vx_ofWH {l : Launch} {y : MethodName} {ws ws' : List Cond} {rm : Room} {Pc : Array Value → State → Prop} {Qc : Array Value → State → Outcome → State → Prop} {XC : String → State → State → Prop} {mc ms : Nat} {free : Addr → Prop} {cc : ByteArray} {maxL : Nat} {ret : Option FieldType} {hh : List (Nat × Nat × Nat × Nat)}
    (hy : plainName y.cls = true) (hw : ws = Cond.codeWith y cc maxL ret hh :: ws')
    (body : ∀ p e s m args below meth c s₁, BodyLoose p l y (headSpec ws rm) cc maxL ret e s m args below meth c s₁ → c.maxLocals = maxL → Pc args s →
      W p l e (headSpec ws rm).room s m args below meth c s.heap [] 0 0 (vx_MQ below Qc XC args s mc ms free) (entryFrame m args maxL)) : vx_Met l y ws rm Pc Qc XC mc ms free := by
  refine MetFree.of_bodyS (code := cc) (maxLocals := maxL) (ret := ret) hy ?_ ?_
  · intro args s m h hn
    obtain ⟨m9, meth, c, hn9, h1, h2, h3, h4, -, h5, h6, -⟩ := Cond.codeWith_spec (atoms_spec (ws := ws) h _ (by rw [hw]; exact List.mem_cons_self))
    cases hn.symm.trans hn9
    exact ⟨meth, c, h1, h2, h3, h4, h5, h6⟩
  · intro p e s m args below meth c s₁ B hml hP _
    have hh0 : s₁.heap = s.heap := by rw [B.state]; rfl
    obtain ⟨t, a1, o, b1, b2, b3⟩ := body p e s m args below meth c s₁ B hml hP s₁ hh0 (Stand.of_body B)
    exact ⟨t, o, a1, b1, b2, b3⟩
/-! ===== END ===== -/
end
section
def RX0 : String := "OffsideParser$Builder"
def TX0 : u_T := fun k => match k with
  | 0 => ("OffsideParser$Builder", "text", "LOffsideParser$Row;", true)
  | 1 => ("OffsideParser$Builder", "lexer", "LOffsideParser$Lexer;", true)
  | 2 => ("OffsideParser$Builder", "tree", "LOffsideParser$Tree;", true)
  | 3 => ("OffsideParser$Builder", "repairs", "LOffsideParser$Repairs;", true)
  | 4 => ("OffsideParser$Builder", "openNodes", "LOffsideParser$Row;", true)
  | 5 => ("OffsideParser$Builder", "openColumns", "LOffsideParser$Row;", true)
  | 6 => ("OffsideParser$Builder", "currentItems", "LOffsideParser$Row;", true)
  | 7 => ("OffsideParser$Builder", "hasBegun", "Z", false)
  | _ => ("OffsideParser$Builder", "colonBefore", "Z", false)
def tyX0 : Nat → FieldType := fun k => match k with
  | 0 => .object "OffsideParser$Row"
  | 1 => .object "OffsideParser$Lexer"
  | 2 => .object "OffsideParser$Tree"
  | 3 => .object "OffsideParser$Repairs"
  | 4 => .object "OffsideParser$Row"
  | 5 => .object "OffsideParser$Row"
  | 6 => .object "OffsideParser$Row"
  | 7 => .boolean
  | _ => .boolean
abbrev wsX00 : List Cond := u_ws RX0 TX0 9
theorem nmX0 : ∀ a, a < 9 → ∀ b, b < 9 → a ≠ b → (TX0 a).2.1 ≠ (TX0 b).2.1 := by decide +kernel
theorem tyX0_ok : ∀ k, k < 9 → parseFieldDescriptor (TX0 k).2.2.1 = some (tyX0 k) := by decide +kernel
abbrev cX0_init : ByteArray := prog_2_method_1_code
def yX0_init : MethodName := ⟨RX0, "<init>", "(LOffsideParser$Row;LOffsideParser$Lexer;LOffsideParser$Tree;LOffsideParser$Repairs;)V"⟩
abbrev cX0_startAgain : ByteArray := prog_2_method_2_code
def yX0_startAgain : MethodName := ⟨RX0, "startAgain", "()V"⟩
abbrev cX0_take : ByteArray := prog_2_method_3_code
def yX0_take : MethodName := ⟨RX0, "take", "()V"⟩
abbrev cX0_finish : ByteArray := prog_2_method_4_code
def yX0_finish : MethodName := ⟨RX0, "finish", "()V"⟩
abbrev cX0_innermost : ByteArray := prog_2_method_5_code
def yX0_innermost : MethodName := ⟨RX0, "innermost", "()I"⟩
abbrev cX0_enter : ByteArray := prog_2_method_6_code
def yX0_enter : MethodName := ⟨RX0, "enter", "(II)V"⟩
abbrev cX0_close : ByteArray := prog_2_method_7_code
def yX0_close : MethodName := ⟨RX0, "close", "(I)V"⟩
abbrev cX0_endItem : ByteArray := prog_2_method_8_code
def yX0_endItem : MethodName := ⟨RX0, "endItem", "()V"⟩
abbrev cX0_report : ByteArray := prog_2_method_9_code
def yX0_report : MethodName := ⟨RX0, "report", "(I)V"⟩
abbrev cX0_isDeep : ByteArray := prog_2_method_10_code
def yX0_isDeep : MethodName := ⟨RX0, "isDeep", "()Z"⟩
abbrev cX0_beginsBlock : ByteArray := prog_2_method_11_code
def yX0_beginsBlock : MethodName := ⟨RX0, "beginsBlock", "()Z"⟩
abbrev cX0_alignToColumn : ByteArray := prog_2_method_12_code
def yX0_alignToColumn : MethodName := ⟨RX0, "alignToColumn", "()V"⟩
abbrev cX0_placeInGroup : ByteArray := prog_2_method_13_code
def yX0_placeInGroup : MethodName := ⟨RX0, "placeInGroup", "()V"⟩
abbrev cX0_placeInBlock : ByteArray := prog_2_method_14_code
def yX0_placeInBlock : MethodName := ⟨RX0, "placeInBlock", "()V"⟩
abbrev cX0_addWord : ByteArray := prog_2_method_15_code
def yX0_addWord : MethodName := ⟨RX0, "addWord", "()V"⟩
abbrev cX0_openGroup : ByteArray := prog_2_method_16_code
def yX0_openGroup : MethodName := ⟨RX0, "openGroup", "()V"⟩
abbrev cX0_takeColon : ByteArray := prog_2_method_17_code
def yX0_takeColon : MethodName := ⟨RX0, "takeColon", "()V"⟩
abbrev cX0_closeBraces : ByteArray := prog_2_method_18_code
def yX0_closeBraces : MethodName := ⟨RX0, "closeBraces", "()V"⟩
abbrev cX0_addPart : ByteArray := prog_2_method_19_code
def yX0_addPart : MethodName := ⟨RX0, "addPart", "(II)I"⟩
def RX1 : String := "OffsideParser$Lexer"
def TX1 : u_T := fun k => match k with
  | 0 => ("OffsideParser$Lexer", "text", "LOffsideParser$Row;", true)
  | 1 => ("OffsideParser$Lexer", "repairs", "LOffsideParser$Repairs;", true)
  | 2 => ("OffsideParser$Lexer", "position", "I", false)
  | 3 => ("OffsideParser$Lexer", "lineNumber", "I", false)
  | 4 => ("OffsideParser$Lexer", "lineStart", "I", false)
  | 5 => ("OffsideParser$Lexer", "inComment", "Z", false)
  | 6 => ("OffsideParser$Lexer", "joinsNextLine", "Z", false)
  | 7 => ("OffsideParser$Lexer", "firstIsGone", "Z", false)
  | 8 => ("OffsideParser$Lexer", "token", "I", false)
  | 9 => ("OffsideParser$Lexer", "start", "I", false)
  | 10 => ("OffsideParser$Lexer", "atLine", "I", false)
  | 11 => ("OffsideParser$Lexer", "atColumn", "I", false)
  | _ => ("OffsideParser$Lexer", "isFirst", "Z", false)
def tyX1 : Nat → FieldType := fun k => match k with
  | 0 => .object "OffsideParser$Row"
  | 1 => .object "OffsideParser$Repairs"
  | 2 => .int
  | 3 => .int
  | 4 => .int
  | 5 => .boolean
  | 6 => .boolean
  | 7 => .boolean
  | 8 => .int
  | 9 => .int
  | 10 => .int
  | 11 => .int
  | _ => .boolean
abbrev wsX10 : List Cond := u_ws RX1 TX1 13
theorem nmX1 : ∀ a, a < 13 → ∀ b, b < 13 → a ≠ b → (TX1 a).2.1 ≠ (TX1 b).2.1 := by decide +kernel
theorem tyX1_ok : ∀ k, k < 13 → parseFieldDescriptor (TX1 k).2.2.1 = some (tyX1 k) := by decide +kernel
abbrev cX1_init : ByteArray := prog_3_method_1_code
def yX1_init : MethodName := ⟨RX1, "<init>", "(LOffsideParser$Row;LOffsideParser$Repairs;)V"⟩
abbrev cX1_startAgain : ByteArray := prog_3_method_2_code
def yX1_startAgain : MethodName := ⟨RX1, "startAgain", "()V"⟩
abbrev cX1_readToken : ByteArray := prog_3_method_3_code
def yX1_readToken : MethodName := ⟨RX1, "readToken", "()Z"⟩
abbrev cX1_beginLine : ByteArray := prog_3_method_4_code
def yX1_beginLine : MethodName := ⟨RX1, "beginLine", "(I)V"⟩
abbrev cX1_takeOtherByte : ByteArray := prog_3_method_5_code
def yX1_takeOtherByte : MethodName := ⟨RX1, "takeOtherByte", "(II)V"⟩
abbrev cX1_startsToken : ByteArray := prog_3_method_6_code
def yX1_startsToken : MethodName := ⟨RX1, "startsToken", "(I)Z"⟩
abbrev cX1_takeToken : ByteArray := prog_3_method_7_code
def yX1_takeToken : MethodName := ⟨RX1, "takeToken", "(II)V"⟩
abbrev cX1_endOfRun : ByteArray := prog_3_method_8_code
def yX1_endOfRun : MethodName := ⟨RX1, "endOfRun", "(IZ)I"⟩
abbrev cX1_numberRead : ByteArray := prog_3_method_9_code
def yX1_numberRead : MethodName := ⟨RX1, "numberRead", "()I"⟩
def RX2 : String := "OffsideParser$Printer"
def TX2 : u_T := fun k => match k with
  | 0 => ("OffsideParser$Printer", "tree", "LOffsideParser$Tree;", true)
  | _ => ("OffsideParser$Printer", "out", "LOffsideParser$Row;", true)
def tyX2 : Nat → FieldType := fun k => match k with
  | 0 => .object "OffsideParser$Tree"
  | _ => .object "OffsideParser$Row"
abbrev wsX20 : List Cond := u_ws RX2 TX2 2
theorem nmX2 : ∀ a, a < 2 → ∀ b, b < 2 → a ≠ b → (TX2 a).2.1 ≠ (TX2 b).2.1 := by decide +kernel
theorem tyX2_ok : ∀ k, k < 2 → parseFieldDescriptor (TX2 k).2.2.1 = some (tyX2 k) := by decide +kernel
abbrev cX2_init : ByteArray := prog_4_method_1_code
def yX2_init : MethodName := ⟨RX2, "<init>", "(LOffsideParser$Tree;)V"⟩
abbrev cX2_size : ByteArray := prog_4_method_2_code
def yX2_size : MethodName := ⟨RX2, "size", "()I"⟩
abbrev cX2_get : ByteArray := prog_4_method_3_code
def yX2_get : MethodName := ⟨RX2, "get", "(I)I"⟩
abbrev cX2_startAgain : ByteArray := prog_4_method_4_code
def yX2_startAgain : MethodName := ⟨RX2, "startAgain", "()V"⟩
abbrev cX2_printItems : ByteArray := prog_4_method_5_code
def yX2_printItems : MethodName := ⟨RX2, "printItems", "()V"⟩
abbrev cX2_printLines : ByteArray := prog_4_method_6_code
def yX2_printLines : MethodName := ⟨RX2, "printLines", "(II)V"⟩
abbrev cX2_printLinesOfItem : ByteArray := prog_4_method_7_code
def yX2_printLinesOfItem : MethodName := ⟨RX2, "printLinesOfItem", "(II)V"⟩
abbrev cX2_printParts : ByteArray := prog_4_method_8_code
def yX2_printParts : MethodName := ⟨RX2, "printParts", "(III)V"⟩
abbrev cX2_printPart : ByteArray := prog_4_method_9_code
def yX2_printPart : MethodName := ⟨RX2, "printPart", "(II)V"⟩
abbrev cX2_printBraces : ByteArray := prog_4_method_10_code
def yX2_printBraces : MethodName := ⟨RX2, "printBraces", "(II)V"⟩
abbrev cX2_printWord : ByteArray := prog_4_method_11_code
def yX2_printWord : MethodName := ⟨RX2, "printWord", "(I)V"⟩
abbrev cX2_printNumber : ByteArray := prog_4_method_12_code
def yX2_printNumber : MethodName := ⟨RX2, "printNumber", "(I)V"⟩
def RX3 : String := "OffsideParser$Repairs"
def TX3 : u_T := fun k => match k with
  | 0 => ("OffsideParser$Repairs", "cells", "LOffsideParser$Row;", true)
  | _ => ("OffsideParser$Repairs", "count", "I", false)
def tyX3 : Nat → FieldType := fun k => match k with
  | 0 => .object "OffsideParser$Row"
  | _ => .int
abbrev wsX30 : List Cond := u_ws RX3 TX3 2
theorem nmX3 : ∀ a, a < 2 → ∀ b, b < 2 → a ≠ b → (TX3 a).2.1 ≠ (TX3 b).2.1 := by decide +kernel
theorem tyX3_ok : ∀ k, k < 2 → parseFieldDescriptor (TX3 k).2.2.1 = some (tyX3 k) := by decide +kernel
abbrev cX3_init : ByteArray := prog_5_method_1_code
def yX3_init : MethodName := ⟨RX3, "<init>", "()V"⟩
abbrev cX3_startAgain : ByteArray := prog_5_method_2_code
def yX3_startAgain : MethodName := ⟨RX3, "startAgain", "()V"⟩
abbrev cX3_size : ByteArray := prog_5_method_3_code
def yX3_size : MethodName := ⟨RX3, "size", "()I"⟩
abbrev cX3_get : ByteArray := prog_5_method_4_code
def yX3_get : MethodName := ⟨RX3, "get", "(II)I"⟩
abbrev cX3_add : ByteArray := prog_5_method_5_code
def yX3_add : MethodName := ⟨RX3, "add", "(III)V"⟩
def RX4 : String := "OffsideParser$Row"
def TX4 : u_T := fun k => match k with
  | 0 => ("OffsideParser$Row", "cells", "[I", false)
  | _ => ("OffsideParser$Row", "count", "I", false)
def tyX4 : Nat → FieldType := fun k => match k with
  | 0 => .array .int
  | _ => .int
abbrev wsX40 : List Cond := u_ws RX4 TX4 2
theorem nmX4 : ∀ a, a < 2 → ∀ b, b < 2 → a ≠ b → (TX4 a).2.1 ≠ (TX4 b).2.1 := by decide +kernel
theorem tyX4_ok : ∀ k, k < 2 → parseFieldDescriptor (TX4 k).2.2.1 = some (tyX4 k) := by decide +kernel
abbrev cX4_init : ByteArray := prog_6_method_1_code
def yX4_init : MethodName := ⟨RX4, "<init>", "()V"⟩
abbrev cX4_size : ByteArray := prog_6_method_2_code
def yX4_size : MethodName := ⟨RX4, "size", "()I"⟩
abbrev cX4_at : ByteArray := prog_6_method_3_code
def yX4_at : MethodName := ⟨RX4, "at", "(I)I"⟩
abbrev cX4_put : ByteArray := prog_6_method_4_code
def yX4_put : MethodName := ⟨RX4, "put", "(II)V"⟩
abbrev cX4_push : ByteArray := prog_6_method_5_code
def yX4_push : MethodName := ⟨RX4, "push", "(I)V"⟩
abbrev cX4_cut : ByteArray := prog_6_method_6_code
def yX4_cut : MethodName := ⟨RX4, "cut", "(I)V"⟩
abbrev cX4_turn : ByteArray := prog_6_method_7_code
def yX4_turn : MethodName := ⟨RX4, "turn", "(III)V"⟩
abbrev cX4_reverse : ByteArray := prog_6_method_8_code
def yX4_reverse : MethodName := ⟨RX4, "reverse", "(II)V"⟩
def RX5 : String := "OffsideParser$Tree"
def TX5 : u_T := fun k => match k with
  | 0 => ("OffsideParser$Tree", "cells", "LOffsideParser$Row;", true)
  | 1 => ("OffsideParser$Tree", "letters", "LOffsideParser$Row;", true)
  | _ => ("OffsideParser$Tree", "count", "I", false)
def tyX5 : Nat → FieldType := fun k => match k with
  | 0 => .object "OffsideParser$Row"
  | 1 => .object "OffsideParser$Row"
  | _ => .int
abbrev wsX50 : List Cond := u_ws RX5 TX5 3
theorem nmX5 : ∀ a, a < 3 → ∀ b, b < 3 → a ≠ b → (TX5 a).2.1 ≠ (TX5 b).2.1 := by decide +kernel
theorem tyX5_ok : ∀ k, k < 3 → parseFieldDescriptor (TX5 k).2.2.1 = some (tyX5 k) := by decide +kernel
abbrev cX5_init : ByteArray := prog_7_method_1_code
def yX5_init : MethodName := ⟨RX5, "<init>", "()V"⟩
abbrev cX5_startAgain : ByteArray := prog_7_method_2_code
def yX5_startAgain : MethodName := ⟨RX5, "startAgain", "()V"⟩
abbrev cX5_size : ByteArray := prog_7_method_3_code
def yX5_size : MethodName := ⟨RX5, "size", "()I"⟩
abbrev cX5_get : ByteArray := prog_7_method_4_code
def yX5_get : MethodName := ⟨RX5, "get", "(II)I"⟩
abbrev cX5_set : ByteArray := prog_7_method_5_code
def yX5_set : MethodName := ⟨RX5, "set", "(III)V"⟩
abbrev cX5_is : ByteArray := prog_7_method_6_code
def yX5_is : MethodName := ⟨RX5, "is", "(II)Z"⟩
abbrev cX5_add : ByteArray := prog_7_method_7_code
def yX5_add : MethodName := ⟨RX5, "add", "(IIIII)I"⟩
abbrev cX5_spell : ByteArray := prog_7_method_8_code
def yX5_spell : MethodName := ⟨RX5, "spell", "(ILOffsideParser$Row;II)V"⟩
abbrev cX5_respell : ByteArray := prog_7_method_9_code
def yX5_respell : MethodName := ⟨RX5, "respell", "(ILOffsideParser$Row;)V"⟩
abbrev cX5_letterOf : ByteArray := prog_7_method_10_code
def yX5_letterOf : MethodName := ⟨RX5, "letterOf", "(II)I"⟩
abbrev cX5_holder : ByteArray := prog_7_method_11_code
def yX5_holder : MethodName := ⟨RX5, "holder", "(I)I"⟩
abbrev cX5_after : ByteArray := prog_7_method_12_code
def yX5_after : MethodName := ⟨RX5, "after", "(I)I"⟩
abbrev cX5_countChildren : ByteArray := prog_7_method_13_code
def yX5_countChildren : MethodName := ⟨RX5, "countChildren", "(I)I"⟩
abbrev cX5_nthChild : ByteArray := prog_7_method_14_code
def yX5_nthChild : MethodName := ⟨RX5, "nthChild", "(II)I"⟩
abbrev cX5_lastChild : ByteArray := prog_7_method_15_code
def yX5_lastChild : MethodName := ⟨RX5, "lastChild", "(I)I"⟩
abbrev cX5_nthWord : ByteArray := prog_7_method_16_code
def yX5_nthWord : MethodName := ⟨RX5, "nthWord", "(LOffsideParser$Row;I)I"⟩
abbrev cX5_isSpelled : ByteArray := prog_7_method_17_code
def yX5_isSpelled : MethodName := ⟨RX5, "isSpelled", "(ILOffsideParser$Row;)Z"⟩
abbrev cX5_countDifferentWords : ByteArray := prog_7_method_18_code
def yX5_countDifferentWords : MethodName := ⟨RX5, "countDifferentWords", "()I"⟩
abbrev cX5_isNewWord : ByteArray := prog_7_method_19_code
def yX5_isNewWord : MethodName := ⟨RX5, "isNewWord", "(I)Z"⟩
abbrev cX5_areSame : ByteArray := prog_7_method_20_code
def yX5_areSame : MethodName := ⟨RX5, "areSame", "(II)Z"⟩
abbrev cX5_nesting : ByteArray := prog_7_method_21_code
def yX5_nesting : MethodName := ⟨RX5, "nesting", "(I)I"⟩
abbrev cX5_innerNesting : ByteArray := prog_7_method_22_code
def yX5_innerNesting : MethodName := ⟨RX5, "innerNesting", "(I)I"⟩
abbrev cX5_erase : ByteArray := prog_7_method_23_code
def yX5_erase : MethodName := ⟨RX5, "erase", "(I)V"⟩
abbrev cX5_placeFor : ByteArray := prog_7_method_24_code
def yX5_placeFor : MethodName := ⟨RX5, "placeFor", "(III)I"⟩
abbrev cX5_carry : ByteArray := prog_7_method_25_code
def yX5_carry : MethodName := ⟨RX5, "carry", "(III)I"⟩
def RX6 : String := "OffsideParser"
def TX6 : u_T := fun k => match k with
  | 0 => ("OffsideParser", "text", "LOffsideParser$Row;", true)
  | 1 => ("OffsideParser", "unpacked", "LOffsideParser$Row;", true)
  | 2 => ("OffsideParser", "repairs", "LOffsideParser$Repairs;", true)
  | 3 => ("OffsideParser", "tree", "LOffsideParser$Tree;", true)
  | 4 => ("OffsideParser", "lexer", "LOffsideParser$Lexer;", true)
  | 5 => ("OffsideParser", "builder", "LOffsideParser$Builder;", true)
  | _ => ("OffsideParser", "printer", "LOffsideParser$Printer;", true)
def tyX6 : Nat → FieldType := fun k => match k with
  | 0 => .object "OffsideParser$Row"
  | 1 => .object "OffsideParser$Row"
  | 2 => .object "OffsideParser$Repairs"
  | 3 => .object "OffsideParser$Tree"
  | 4 => .object "OffsideParser$Lexer"
  | 5 => .object "OffsideParser$Builder"
  | _ => .object "OffsideParser$Printer"
abbrev wsX60 : List Cond := u_ws RX6 TX6 7
theorem nmX6 : ∀ a, a < 7 → ∀ b, b < 7 → a ≠ b → (TX6 a).2.1 ≠ (TX6 b).2.1 := by decide +kernel
theorem tyX6_ok : ∀ k, k < 7 → parseFieldDescriptor (TX6 k).2.2.1 = some (tyX6 k) := by decide +kernel
abbrev cX6_init : ByteArray := prog_1_method_1_code
def yX6_init : MethodName := ⟨RX6, "<init>", "()V"⟩
abbrev cX6_feed : ByteArray := prog_1_method_2_code
def yX6_feed : MethodName := ⟨RX6, "feed", "(J)I"⟩
abbrev cX6_trim : ByteArray := prog_1_method_3_code
def yX6_trim : MethodName := ⟨RX6, "trim", "(I)I"⟩
abbrev cX6_length : ByteArray := prog_1_method_4_code
def yX6_length : MethodName := ⟨RX6, "length", "()I"⟩
abbrev cX6_parse : ByteArray := prog_1_method_5_code
def yX6_parse : MethodName := ⟨RX6, "parse", "()I"⟩
abbrev cX6_repairCount : ByteArray := prog_1_method_6_code
def yX6_repairCount : MethodName := ⟨RX6, "repairCount", "()I"⟩
abbrev cX6_repair : ByteArray := prog_1_method_7_code
def yX6_repair : MethodName := ⟨RX6, "repair", "(II)I"⟩
abbrev cX6_nodeCount : ByteArray := prog_1_method_8_code
def yX6_nodeCount : MethodName := ⟨RX6, "nodeCount", "()I"⟩
abbrev cX6_kind : ByteArray := prog_1_method_9_code
def yX6_kind : MethodName := ⟨RX6, "kind", "(I)I"⟩
abbrev cX6_parent : ByteArray := prog_1_method_10_code
def yX6_parent : MethodName := ⟨RX6, "parent", "(I)I"⟩
abbrev cX6_childCount : ByteArray := prog_1_method_11_code
def yX6_childCount : MethodName := ⟨RX6, "childCount", "(I)I"⟩
abbrev cX6_child : ByteArray := prog_1_method_12_code
def yX6_child : MethodName := ⟨RX6, "child", "(II)I"⟩
abbrev cX6_line : ByteArray := prog_1_method_13_code
def yX6_line : MethodName := ⟨RX6, "line", "(I)I"⟩
abbrev cX6_column : ByteArray := prog_1_method_14_code
def yX6_column : MethodName := ⟨RX6, "column", "(I)I"⟩
abbrev cX6_value : ByteArray := prog_1_method_15_code
def yX6_value : MethodName := ⟨RX6, "value", "(I)I"⟩
abbrev cX6_letter : ByteArray := prog_1_method_16_code
def yX6_letter : MethodName := ⟨RX6, "letter", "(II)I"⟩
abbrev cX6_depth : ByteArray := prog_1_method_17_code
def yX6_depth : MethodName := ⟨RX6, "depth", "(I)I"⟩
abbrev cX6_find : ByteArray := prog_1_method_18_code
def yX6_find : MethodName := ⟨RX6, "find", "(JI)I"⟩
abbrev cX6_wordCount : ByteArray := prog_1_method_19_code
def yX6_wordCount : MethodName := ⟨RX6, "wordCount", "()I"⟩
abbrev cX6_remove : ByteArray := prog_1_method_20_code
def yX6_remove : MethodName := ⟨RX6, "remove", "(I)I"⟩
abbrev cX6_move : ByteArray := prog_1_method_21_code
def yX6_move : MethodName := ⟨RX6, "move", "(III)I"⟩
abbrev cX6_rename : ByteArray := prog_1_method_22_code
def yX6_rename : MethodName := ⟨RX6, "rename", "(IJ)I"⟩
abbrev cX6_write : ByteArray := prog_1_method_23_code
def yX6_write : MethodName := ⟨RX6, "write", "(Z)I"⟩
abbrev cX6_written : ByteArray := prog_1_method_24_code
def yX6_written : MethodName := ⟨RX6, "written", "(I)I"⟩
abbrev cX6_digest : ByteArray := prog_1_method_25_code
def yX6_digest : MethodName := ⟨RX6, "digest", "()J"⟩
abbrev cX6_mix : ByteArray := prog_1_method_26_code
def yX6_mix : MethodName := ⟨RX6, "mix", "(JJ)J"⟩
abbrev cX6_checkNode : ByteArray := prog_1_method_27_code
def yX6_checkNode : MethodName := ⟨RX6, "checkNode", "(I)V"⟩
abbrev cX6_unpack : ByteArray := prog_1_method_28_code
def yX6_unpack : MethodName := ⟨RX6, "unpack", "(J)V"⟩
abbrev cX6_isTextByte : ByteArray := prog_1_method_29_code
def yX6_isTextByte : MethodName := ⟨RX6, "isTextByte", "(I)Z"⟩
abbrev cX6_isLetter : ByteArray := prog_1_method_30_code
def yX6_isLetter : MethodName := ⟨RX6, "isLetter", "(I)Z"⟩
abbrev cX6_isDigit : ByteArray := prog_1_method_31_code
def yX6_isDigit : MethodName := ⟨RX6, "isDigit", "(I)Z"⟩
abbrev cX6_isWord : ByteArray := prog_1_method_32_code
def yX6_isWord : MethodName := ⟨RX6, "isWord", "(LOffsideParser$Row;)Z"⟩
def RX7 : String := "OffsideParserModel"
def TX7 : u_T := fun k => match k with
  | 0 => ("OffsideParserModel", "thrown", "I", false)
  | 1 => ("OffsideParserModel", "text", "[I", true)
  | 2 => ("OffsideParserModel", "size", "I", false)
  | 3 => ("OffsideParserModel", "made", "I", false)
  | 4 => ("OffsideParserModel", "kinds", "[I", true)
  | 5 => ("OffsideParserModel", "parents", "[I", true)
  | 6 => ("OffsideParserModel", "firsts", "[I", true)
  | 7 => ("OffsideParserModel", "nexts", "[I", true)
  | 8 => ("OffsideParserModel", "lines", "[I", true)
  | 9 => ("OffsideParserModel", "columns", "[I", true)
  | 10 => ("OffsideParserModel", "values", "[I", true)
  | 11 => ("OffsideParserModel", "starts", "[I", true)
  | 12 => ("OffsideParserModel", "letters", "[I", true)
  | 13 => ("OffsideParserModel", "nodes", "I", false)
  | 14 => ("OffsideParserModel", "idOf", "[I", true)
  | 15 => ("OffsideParserModel", "numberOf", "[I", true)
  | 16 => ("OffsideParserModel", "repairs", "I", false)
  | 17 => ("OffsideParserModel", "repairParts", "[I", true)
  | 18 => ("OffsideParserModel", "output", "[I", true)
  | 19 => ("OffsideParserModel", "written", "I", false)
  | 20 => ("OffsideParserModel", "fed", "[I", true)
  | 21 => ("OffsideParserModel", "open", "I", false)
  | 22 => ("OffsideParserModel", "openIds", "[I", true)
  | 23 => ("OffsideParserModel", "openColumns", "[I", true)
  | 24 => ("OffsideParserModel", "items", "[I", true)
  | 25 => ("OffsideParserModel", "hasColon", "Z", false)
  | 26 => ("OffsideParserModel", "token", "I", false)
  | 27 => ("OffsideParserModel", "start", "I", false)
  | 28 => ("OffsideParserModel", "end", "I", false)
  | 29 => ("OffsideParserModel", "line", "I", false)
  | 30 => ("OffsideParserModel", "column", "I", false)
  | _ => ("OffsideParserModel", "isFirst", "Z", false)
def tyX7 : Nat → FieldType := fun k => match k with
  | 0 => .int
  | 1 => .array .int
  | 2 => .int
  | 3 => .int
  | 4 => .array .int
  | 5 => .array .int
  | 6 => .array .int
  | 7 => .array .int
  | 8 => .array .int
  | 9 => .array .int
  | 10 => .array .int
  | 11 => .array .int
  | 12 => .array .int
  | 13 => .int
  | 14 => .array .int
  | 15 => .array .int
  | 16 => .int
  | 17 => .array .int
  | 18 => .array .int
  | 19 => .int
  | 20 => .array .int
  | 21 => .int
  | 22 => .array .int
  | 23 => .array .int
  | 24 => .array .int
  | 25 => .boolean
  | 26 => .int
  | 27 => .int
  | 28 => .int
  | 29 => .int
  | 30 => .int
  | _ => .boolean
abbrev wsX70 : List Cond := u_ws RX7 TX7 32
theorem nmX7 : ∀ a, a < 32 → ∀ b, b < 32 → a ≠ b → (TX7 a).2.1 ≠ (TX7 b).2.1 := by decide +kernel
theorem tyX7_ok : ∀ k, k < 32 → parseFieldDescriptor (TX7 k).2.2.1 = some (tyX7 k) := by decide +kernel
abbrev cX7_init : ByteArray := prog_9_method_1_code
def yX7_init : MethodName := ⟨RX7, "<init>", "()V"⟩
abbrev cX7_thrown : ByteArray := prog_9_method_2_code
def yX7_thrown : MethodName := ⟨RX7, "thrown", "()I"⟩
abbrev cX7_fail : ByteArray := prog_9_method_3_code
def yX7_fail : MethodName := ⟨RX7, "fail", "(I)I"⟩
abbrev cX7_byteOf : ByteArray := prog_9_method_4_code
def yX7_byteOf : MethodName := ⟨RX7, "byteOf", "(JI)I"⟩
abbrev cX7_take : ByteArray := prog_9_method_5_code
def yX7_take : MethodName := ⟨RX7, "take", "(J)I"⟩
abbrev cX7_feed : ByteArray := prog_9_method_6_code
def yX7_feed : MethodName := ⟨RX7, "feed", "(J)I"⟩
abbrev cX7_trim : ByteArray := prog_9_method_7_code
def yX7_trim : MethodName := ⟨RX7, "trim", "(I)I"⟩
abbrev cX7_length : ByteArray := prog_9_method_8_code
def yX7_length : MethodName := ⟨RX7, "length", "()I"⟩
abbrev cX7_begin : ByteArray := prog_9_method_9_code
def yX7_begin : MethodName := ⟨RX7, "begin", "()V"⟩
abbrev cX7_add : ByteArray := prog_9_method_10_code
def yX7_add : MethodName := ⟨RX7, "add", "(IIIII)I"⟩
abbrev cX7_countOf : ByteArray := prog_9_method_11_code
def yX7_countOf : MethodName := ⟨RX7, "countOf", "(I)I"⟩
abbrev cX7_childOf : ByteArray := prog_9_method_12_code
def yX7_childOf : MethodName := ⟨RX7, "childOf", "(II)I"⟩
abbrev cX7_insert : ByteArray := prog_9_method_13_code
def yX7_insert : MethodName := ⟨RX7, "insert", "(III)V"⟩
abbrev cX7_takeOut : ByteArray := prog_9_method_14_code
def yX7_takeOut : MethodName := ⟨RX7, "takeOut", "(I)V"⟩
abbrev cX7_following : ByteArray := prog_9_method_15_code
def yX7_following : MethodName := ⟨RX7, "following", "(II)I"⟩
abbrev cX7_number : ByteArray := prog_9_method_16_code
def yX7_number : MethodName := ⟨RX7, "number", "()V"⟩
abbrev cX7_repair : ByteArray := prog_9_method_17_code
def yX7_repair : MethodName := ⟨RX7, "repair", "(I)V"⟩
abbrev cX7_push : ByteArray := prog_9_method_18_code
def yX7_push : MethodName := ⟨RX7, "push", "(II)V"⟩
abbrev cX7_top : ByteArray := prog_9_method_19_code
def yX7_top : MethodName := ⟨RX7, "top", "()I"⟩
abbrev cX7_isGroupOpen : ByteArray := prog_9_method_20_code
def yX7_isGroupOpen : MethodName := ⟨RX7, "isGroupOpen", "()Z"⟩
abbrev cX7_isDigit : ByteArray := prog_9_method_21_code
def yX7_isDigit : MethodName := ⟨RX7, "isDigit", "(I)Z"⟩
abbrev cX7_isLetter : ByteArray := prog_9_method_22_code
def yX7_isLetter : MethodName := ⟨RX7, "isLetter", "(I)Z"⟩
abbrev cX7_isSign : ByteArray := prog_9_method_23_code
def yX7_isSign : MethodName := ⟨RX7, "isSign", "(I)Z"⟩
abbrev cX7_parse : ByteArray := prog_9_method_24_code
def yX7_parse : MethodName := ⟨RX7, "parse", "()I"⟩
abbrev cX7_isPart : ByteArray := prog_9_method_25_code
def yX7_isPart : MethodName := ⟨RX7, "isPart", "()Z"⟩
abbrev cX7_accept : ByteArray := prog_9_method_26_code
def yX7_accept : MethodName := ⟨RX7, "accept", "()V"⟩
abbrev cX7_align : ByteArray := prog_9_method_27_code
def yX7_align : MethodName := ⟨RX7, "align", "()V"⟩
abbrev cX7_act : ByteArray := prog_9_method_28_code
def yX7_act : MethodName := ⟨RX7, "act", "()V"⟩
abbrev cX7_close : ByteArray := prog_9_method_29_code
def yX7_close : MethodName := ⟨RX7, "close", "()V"⟩
abbrev cX7_addToItem : ByteArray := prog_9_method_30_code
def yX7_addToItem : MethodName := ⟨RX7, "addToItem", "()V"⟩
abbrev cX7_addPart : ByteArray := prog_9_method_31_code
def yX7_addPart : MethodName := ⟨RX7, "addPart", "(I)V"⟩
abbrev cX7_repairCount : ByteArray := prog_9_method_32_code
def yX7_repairCount : MethodName := ⟨RX7, "repairCount", "()I"⟩
abbrev cX7_repair_ : ByteArray := prog_9_method_33_code
def yX7_repair_ : MethodName := ⟨RX7, "repair", "(II)I"⟩
abbrev cX7_isNode : ByteArray := prog_9_method_34_code
def yX7_isNode : MethodName := ⟨RX7, "isNode", "(I)Z"⟩
abbrev cX7_nodeCount : ByteArray := prog_9_method_35_code
def yX7_nodeCount : MethodName := ⟨RX7, "nodeCount", "()I"⟩
abbrev cX7_kind : ByteArray := prog_9_method_36_code
def yX7_kind : MethodName := ⟨RX7, "kind", "(I)I"⟩
abbrev cX7_parent : ByteArray := prog_9_method_37_code
def yX7_parent : MethodName := ⟨RX7, "parent", "(I)I"⟩
abbrev cX7_childCount : ByteArray := prog_9_method_38_code
def yX7_childCount : MethodName := ⟨RX7, "childCount", "(I)I"⟩
abbrev cX7_child : ByteArray := prog_9_method_39_code
def yX7_child : MethodName := ⟨RX7, "child", "(II)I"⟩
abbrev cX7_line : ByteArray := prog_9_method_40_code
def yX7_line : MethodName := ⟨RX7, "line", "(I)I"⟩
abbrev cX7_column : ByteArray := prog_9_method_41_code
def yX7_column : MethodName := ⟨RX7, "column", "(I)I"⟩
abbrev cX7_value : ByteArray := prog_9_method_42_code
def yX7_value : MethodName := ⟨RX7, "value", "(I)I"⟩
abbrev cX7_letter : ByteArray := prog_9_method_43_code
def yX7_letter : MethodName := ⟨RX7, "letter", "(II)I"⟩
abbrev cX7_depthOf : ByteArray := prog_9_method_44_code
def yX7_depthOf : MethodName := ⟨RX7, "depthOf", "(IZ)I"⟩
abbrev cX7_depth : ByteArray := prog_9_method_45_code
def yX7_depth : MethodName := ⟨RX7, "depth", "(I)I"⟩
abbrev cX7_isFed : ByteArray := prog_9_method_46_code
def yX7_isFed : MethodName := ⟨RX7, "isFed", "(II)Z"⟩
abbrev cX7_find : ByteArray := prog_9_method_47_code
def yX7_find : MethodName := ⟨RX7, "find", "(JI)I"⟩
abbrev cX7_areSame : ByteArray := prog_9_method_48_code
def yX7_areSame : MethodName := ⟨RX7, "areSame", "(II)Z"⟩
abbrev cX7_words : ByteArray := prog_9_method_49_code
def yX7_words : MethodName := ⟨RX7, "words", "()I"⟩
abbrev cX7_wordCount : ByteArray := prog_9_method_50_code
def yX7_wordCount : MethodName := ⟨RX7, "wordCount", "()I"⟩
abbrev cX7_isItem : ByteArray := prog_9_method_51_code
def yX7_isItem : MethodName := ⟨RX7, "isItem", "(I)Z"⟩
abbrev cX7_remove : ByteArray := prog_9_method_52_code
def yX7_remove : MethodName := ⟨RX7, "remove", "(I)I"⟩
abbrev cX7_isWithin : ByteArray := prog_9_method_53_code
def yX7_isWithin : MethodName := ⟨RX7, "isWithin", "(II)Z"⟩
abbrev cX7_heightOf : ByteArray := prog_9_method_54_code
def yX7_heightOf : MethodName := ⟨RX7, "heightOf", "(I)I"⟩
abbrev cX7_move : ByteArray := prog_9_method_55_code
def yX7_move : MethodName := ⟨RX7, "move", "(III)I"⟩
abbrev cX7_rename : ByteArray := prog_9_method_56_code
def yX7_rename : MethodName := ⟨RX7, "rename", "(IJ)I"⟩
abbrev cX7_put : ByteArray := prog_9_method_57_code
def yX7_put : MethodName := ⟨RX7, "put", "(I)V"⟩
abbrev cX7_putNumber : ByteArray := prog_9_method_58_code
def yX7_putNumber : MethodName := ⟨RX7, "putNumber", "(I)V"⟩
abbrev cX7_putAll : ByteArray := prog_9_method_59_code
def yX7_putAll : MethodName := ⟨RX7, "putAll", "(IZI)V"⟩
abbrev cX7_putNode : ByteArray := prog_9_method_60_code
def yX7_putNode : MethodName := ⟨RX7, "putNode", "(I)V"⟩
abbrev cX7_lastOf : ByteArray := prog_9_method_61_code
def yX7_lastOf : MethodName := ⟨RX7, "lastOf", "(I)I"⟩
abbrev cX7_putLine : ByteArray := prog_9_method_62_code
def yX7_putLine : MethodName := ⟨RX7, "putLine", "(IIZ)V"⟩
abbrev cX7_write : ByteArray := prog_9_method_63_code
def yX7_write : MethodName := ⟨RX7, "write", "(Z)I"⟩
abbrev cX7_written : ByteArray := prog_9_method_64_code
def yX7_written : MethodName := ⟨RX7, "written", "(I)I"⟩
abbrev cX7_digest : ByteArray := prog_9_method_65_code
def yX7_digest : MethodName := ⟨RX7, "digest", "()J"⟩
def RJx145de : String := "java/io/Serializable"
def TJx145de : u_T := fun k => match k with
  | _ => ("", "", "", false)
def tyJx145de : Nat → FieldType := fun k => match k with
  | _ => .int
abbrev wsJx145de0 : List Cond := u_ws RJx145de TJx145de 0
theorem nmJx145de : ∀ a, a < 0 → ∀ b, b < 0 → a ≠ b → (TJx145de a).2.1 ≠ (TJx145de b).2.1 := by decide +kernel
theorem tyJx145de_ok : ∀ k, k < 0 → parseFieldDescriptor (TJx145de k).2.2.1 = some (tyJx145de k) := by decide +kernel
def RJx8e188 : String := "java/lang/Cloneable"
def TJx8e188 : u_T := fun k => match k with
  | _ => ("", "", "", false)
def tyJx8e188 : Nat → FieldType := fun k => match k with
  | _ => .int
abbrev wsJx8e1880 : List Cond := u_ws RJx8e188 TJx8e188 0
theorem nmJx8e188 : ∀ a, a < 0 → ∀ b, b < 0 → a ≠ b → (TJx8e188 a).2.1 ≠ (TJx8e188 b).2.1 := by decide +kernel
theorem tyJx8e188_ok : ∀ k, k < 0 → parseFieldDescriptor (TJx8e188 k).2.2.1 = some (tyJx8e188 k) := by decide +kernel
def RJ9 : String := "java/lang/Math"
def TJ9 : u_T := fun k => match k with
  | _ => ("", "", "", false)
def tyJ9 : Nat → FieldType := fun k => match k with
  | _ => .int
abbrev wsJ90 : List Cond := u_ws RJ9 TJ9 0
theorem nmJ9 : ∀ a, a < 0 → ∀ b, b < 0 → a ≠ b → (TJ9 a).2.1 ≠ (TJ9 b).2.1 := by decide +kernel
theorem tyJ9_ok : ∀ k, k < 0 → parseFieldDescriptor (TJ9 k).2.2.1 = some (tyJ9 k) := by decide +kernel
abbrev cJ9_max_7cf53 : ByteArray := prog_15_method_65_code
def yJ9_max_7cf53 : MethodName := ⟨RJ9, "max", "(II)I"⟩
abbrev cJ9_min_7cf53 : ByteArray := prog_15_method_69_code
def yJ9_min_7cf53 : MethodName := ⟨RJ9, "min", "(II)I"⟩
def RJ0 : String := "java/lang/String"
def TJ0 : u_T := fun k => match k with
  | _ => ("", "", "", false)
def tyJ0 : Nat → FieldType := fun k => match k with
  | _ => .int
abbrev wsJ00 : List Cond := u_ws RJ0 TJ0 0
theorem nmJ0 : ∀ a, a < 0 → ∀ b, b < 0 → a ≠ b → (TJ0 a).2.1 ≠ (TJ0 b).2.1 := by decide +kernel
theorem tyJ0_ok : ∀ k, k < 0 → parseFieldDescriptor (TJ0 k).2.2.1 = some (tyJ0 k) := by decide +kernel
def RJ10 : String := "java/lang/System"
def TJ10 : u_T := fun k => match k with
  | _ => ("", "", "", false)
def tyJ10 : Nat → FieldType := fun k => match k with
  | _ => .int
abbrev wsJ100 : List Cond := u_ws RJ10 TJ10 0
theorem nmJ10 : ∀ a, a < 0 → ∀ b, b < 0 → a ≠ b → (TJ10 a).2.1 ≠ (TJ10 b).2.1 := by decide +kernel
theorem tyJ10_ok : ∀ k, k < 0 → parseFieldDescriptor (TJ10 k).2.2.1 = some (tyJ10 k) := by decide +kernel
def RJ7 : String := "java/util/Arrays"
def TJ7 : u_T := fun k => match k with
  | _ => ("", "", "", false)
def tyJ7 : Nat → FieldType := fun k => match k with
  | _ => .int
abbrev wsJ70 : List Cond := u_ws RJ7 TJ7 0
theorem nmJ7 : ∀ a, a < 0 → ∀ b, b < 0 → a ≠ b → (TJ7 a).2.1 ≠ (TJ7 b).2.1 := by decide +kernel
theorem tyJ7_ok : ∀ k, k < 0 → parseFieldDescriptor (TJ7 k).2.2.1 = some (tyJ7 k) := by decide +kernel
abbrev cJ7_copyOf_59c91 : ByteArray := prog_20_method_123_code
def yJ7_copyOf_59c91 : MethodName := ⟨RJ7, "copyOf", "([II)[I"⟩
def RL : String := "OffsideParserLaw"
abbrev cL_feed : ByteArray := method_3_code
def yL_feed : MethodName := ⟨RL, "feed", "(LOffsideParser;J[J)I"⟩
abbrev cL_trim : ByteArray := method_4_code
def yL_trim : MethodName := ⟨RL, "trim", "(LOffsideParser;I[J)I"⟩
abbrev cL_repair : ByteArray := method_5_code
def yL_repair : MethodName := ⟨RL, "repair", "(LOffsideParser;II[J)I"⟩
abbrev cL_kind : ByteArray := method_6_code
def yL_kind : MethodName := ⟨RL, "kind", "(LOffsideParser;I[J)I"⟩
abbrev cL_parent : ByteArray := method_7_code
def yL_parent : MethodName := ⟨RL, "parent", "(LOffsideParser;I[J)I"⟩
abbrev cL_childCount : ByteArray := method_8_code
def yL_childCount : MethodName := ⟨RL, "childCount", "(LOffsideParser;I[J)I"⟩
abbrev cL_child : ByteArray := method_9_code
def yL_child : MethodName := ⟨RL, "child", "(LOffsideParser;II[J)I"⟩
abbrev cL_line : ByteArray := method_10_code
def yL_line : MethodName := ⟨RL, "line", "(LOffsideParser;I[J)I"⟩
abbrev cL_column : ByteArray := method_11_code
def yL_column : MethodName := ⟨RL, "column", "(LOffsideParser;I[J)I"⟩
abbrev cL_value : ByteArray := method_12_code
def yL_value : MethodName := ⟨RL, "value", "(LOffsideParser;I[J)I"⟩
abbrev cL_letter : ByteArray := method_13_code
def yL_letter : MethodName := ⟨RL, "letter", "(LOffsideParser;II[J)I"⟩
abbrev cL_depth : ByteArray := method_14_code
def yL_depth : MethodName := ⟨RL, "depth", "(LOffsideParser;I[J)I"⟩
abbrev cL_remove : ByteArray := method_15_code
def yL_remove : MethodName := ⟨RL, "remove", "(LOffsideParser;I[J)I"⟩
abbrev cL_move : ByteArray := method_16_code
def yL_move : MethodName := ⟨RL, "move", "(LOffsideParser;III[J)I"⟩
abbrev cL_rename : ByteArray := method_17_code
def yL_rename : MethodName := ⟨RL, "rename", "(LOffsideParser;IJ[J)I"⟩
abbrev cL_written : ByteArray := method_18_code
def yL_written : MethodName := ⟨RL, "written", "(LOffsideParser;I[J)I"⟩
abbrev cL_law : ByteArray := code
def yL_law : MethodName := ⟨RL, "law", "([I)Z"⟩
end
section
theorem dX0_init_0 : decode cX0_init 0 = .ok (.aload_n 0, 1) := by decide +kernel
theorem dX0_init_1 : decode cX0_init 1 = .ok (.invokespecial 3, 3) := by decide +kernel
theorem dX0_init_4 : decode cX0_init 4 = .ok (.aload_n 0, 1) := by decide +kernel
theorem dX0_init_5 : decode cX0_init 5 = .ok (.new 9, 3) := by decide +kernel
theorem dX0_init_8 : decode cX0_init 8 = .ok (.dup, 1) := by decide +kernel
theorem dX0_init_9 : decode cX0_init 9 = .ok (.invokespecial 11, 3) := by decide +kernel
theorem dX0_init_12 : decode cX0_init 12 = .ok (.putfield 12, 3) := by decide +kernel
theorem dX0_init_15 : decode cX0_init 15 = .ok (.aload_n 0, 1) := by decide +kernel
theorem dX0_init_16 : decode cX0_init 16 = .ok (.new 9, 3) := by decide +kernel
theorem dX0_init_19 : decode cX0_init 19 = .ok (.dup, 1) := by decide +kernel
theorem dX0_init_20 : decode cX0_init 20 = .ok (.invokespecial 11, 3) := by decide +kernel
theorem dX0_init_23 : decode cX0_init 23 = .ok (.putfield 18, 3) := by decide +kernel
theorem dX0_init_26 : decode cX0_init 26 = .ok (.aload_n 0, 1) := by decide +kernel
theorem dX0_init_27 : decode cX0_init 27 = .ok (.new 9, 3) := by decide +kernel
theorem dX0_init_30 : decode cX0_init 30 = .ok (.dup, 1) := by decide +kernel
theorem dX0_init_31 : decode cX0_init 31 = .ok (.invokespecial 11, 3) := by decide +kernel
theorem dX0_init_34 : decode cX0_init 34 = .ok (.putfield 21, 3) := by decide +kernel
theorem dX0_init_37 : decode cX0_init 37 = .ok (.aload_n 0, 1) := by decide +kernel
theorem dX0_init_38 : decode cX0_init 38 = .ok (.iconst 0, 1) := by decide +kernel
theorem dX0_init_39 : decode cX0_init 39 = .ok (.putfield 24, 3) := by decide +kernel
theorem dX0_init_42 : decode cX0_init 42 = .ok (.aload_n 0, 1) := by decide +kernel
theorem dX0_init_43 : decode cX0_init 43 = .ok (.iconst 0, 1) := by decide +kernel
theorem dX0_init_44 : decode cX0_init 44 = .ok (.putfield 28, 3) := by decide +kernel
theorem dX0_init_47 : decode cX0_init 47 = .ok (.aload_n 0, 1) := by decide +kernel
theorem dX0_init_48 : decode cX0_init 48 = .ok (.aload_n 1, 1) := by decide +kernel
theorem dX0_init_49 : decode cX0_init 49 = .ok (.putfield 31, 3) := by decide +kernel
theorem dX0_init_52 : decode cX0_init 52 = .ok (.aload_n 0, 1) := by decide +kernel
theorem dX0_init_53 : decode cX0_init 53 = .ok (.aload_n 2, 1) := by decide +kernel
theorem dX0_init_54 : decode cX0_init 54 = .ok (.putfield 34, 3) := by decide +kernel
theorem dX0_init_57 : decode cX0_init 57 = .ok (.aload_n 0, 1) := by decide +kernel
theorem dX0_init_58 : decode cX0_init 58 = .ok (.aload_n 3, 1) := by decide +kernel
theorem dX0_init_59 : decode cX0_init 59 = .ok (.putfield 38, 3) := by decide +kernel
theorem dX0_init_62 : decode cX0_init 62 = .ok (.aload_n 0, 1) := by decide +kernel
theorem dX0_init_63 : decode cX0_init 63 = .ok (.aload 4, 2) := by decide +kernel
theorem dX0_init_65 : decode cX0_init 65 = .ok (.putfield 42, 3) := by decide +kernel
theorem dX0_init_68 : decode cX0_init 68 = .ok (.return_, 1) := by decide +kernel
theorem dX0_startAgain_0 : decode cX0_startAgain 0 = .ok (.aload_n 0, 1) := by decide +kernel
theorem dX0_startAgain_1 : decode cX0_startAgain 1 = .ok (.getfield 12, 3) := by decide +kernel
theorem dX0_startAgain_4 : decode cX0_startAgain 4 = .ok (.iconst 0, 1) := by decide +kernel
theorem dX0_startAgain_5 : decode cX0_startAgain 5 = .ok (.invokevirtual 46, 3) := by decide +kernel
theorem dX0_startAgain_8 : decode cX0_startAgain 8 = .ok (.aload_n 0, 1) := by decide +kernel
theorem dX0_startAgain_9 : decode cX0_startAgain 9 = .ok (.getfield 18, 3) := by decide +kernel
theorem dX0_startAgain_12 : decode cX0_startAgain 12 = .ok (.iconst 0, 1) := by decide +kernel
theorem dX0_startAgain_13 : decode cX0_startAgain 13 = .ok (.invokevirtual 46, 3) := by decide +kernel
theorem dX0_startAgain_16 : decode cX0_startAgain 16 = .ok (.aload_n 0, 1) := by decide +kernel
theorem dX0_startAgain_17 : decode cX0_startAgain 17 = .ok (.getfield 21, 3) := by decide +kernel
theorem dX0_startAgain_20 : decode cX0_startAgain 20 = .ok (.iconst 0, 1) := by decide +kernel
theorem dX0_startAgain_21 : decode cX0_startAgain 21 = .ok (.invokevirtual 46, 3) := by decide +kernel
theorem dX0_startAgain_24 : decode cX0_startAgain 24 = .ok (.aload_n 0, 1) := by decide +kernel
theorem dX0_startAgain_25 : decode cX0_startAgain 25 = .ok (.iconst 0, 1) := by decide +kernel
theorem dX0_startAgain_26 : decode cX0_startAgain 26 = .ok (.putfield 24, 3) := by decide +kernel
theorem dX0_startAgain_29 : decode cX0_startAgain 29 = .ok (.aload_n 0, 1) := by decide +kernel
theorem dX0_startAgain_30 : decode cX0_startAgain 30 = .ok (.iconst 0, 1) := by decide +kernel
theorem dX0_startAgain_31 : decode cX0_startAgain 31 = .ok (.putfield 28, 3) := by decide +kernel
theorem dX0_startAgain_34 : decode cX0_startAgain 34 = .ok (.aload_n 0, 1) := by decide +kernel
theorem dX0_startAgain_35 : decode cX0_startAgain 35 = .ok (.iconst 0, 1) := by decide +kernel
theorem dX0_startAgain_36 : decode cX0_startAgain 36 = .ok (.iconst 0, 1) := by decide +kernel
theorem dX0_startAgain_37 : decode cX0_startAgain 37 = .ok (.invokevirtual 50, 3) := by decide +kernel
theorem dX0_startAgain_40 : decode cX0_startAgain 40 = .ok (.return_, 1) := by decide +kernel
theorem dX0_take_0 : decode cX0_take 0 = .ok (.aload_n 0, 1) := by decide +kernel
theorem dX0_take_1 : decode cX0_take 1 = .ok (.getfield 28, 3) := by decide +kernel
theorem dX0_take_4 : decode cX0_take 4 = .ok (.istore_n 1, 1) := by decide +kernel
theorem dX0_take_5 : decode cX0_take 5 = .ok (.aload_n 0, 1) := by decide +kernel
theorem dX0_take_6 : decode cX0_take 6 = .ok (.iconst 0, 1) := by decide +kernel
theorem dX0_take_7 : decode cX0_take 7 = .ok (.putfield 28, 3) := by decide +kernel
theorem dX0_take_10 : decode cX0_take 10 = .ok (.aload_n 0, 1) := by decide +kernel
theorem dX0_take_11 : decode cX0_take 11 = .ok (.getfield 24, 3) := by decide +kernel
theorem dX0_take_14 : decode cX0_take 14 = .ok (.ifCond .ne 23, 3) := by decide +kernel
theorem dX0_take_17 : decode cX0_take 17 = .ok (.aload_n 0, 1) := by decide +kernel
theorem dX0_take_18 : decode cX0_take 18 = .ok (.iconst 1, 1) := by decide +kernel
theorem dX0_take_19 : decode cX0_take 19 = .ok (.putfield 24, 3) := by decide +kernel
theorem dX0_take_22 : decode cX0_take 22 = .ok (.aload_n 0, 1) := by decide +kernel
theorem dX0_take_23 : decode cX0_take 23 = .ok (.getfield 18, 3) := by decide +kernel
theorem dX0_take_26 : decode cX0_take 26 = .ok (.iconst 0, 1) := by decide +kernel
theorem dX0_take_27 : decode cX0_take 27 = .ok (.aload_n 0, 1) := by decide +kernel
theorem dX0_take_28 : decode cX0_take 28 = .ok (.getfield 34, 3) := by decide +kernel
theorem dX0_take_31 : decode cX0_take 31 = .ok (.getfield 54, 3) := by decide +kernel
theorem dX0_take_34 : decode cX0_take 34 = .ok (.invokevirtual 60, 3) := by decide +kernel
theorem dX0_take_37 : decode cX0_take 37 = .ok (.aload_n 0, 1) := by decide +kernel
theorem dX0_take_38 : decode cX0_take 38 = .ok (.getfield 38, 3) := by decide +kernel
theorem dX0_take_41 : decode cX0_take 41 = .ok (.aload_n 0, 1) := by decide +kernel
theorem dX0_take_42 : decode cX0_take 42 = .ok (.getfield 12, 3) := by decide +kernel
theorem dX0_take_45 : decode cX0_take 45 = .ok (.aload_n 0, 1) := by decide +kernel
theorem dX0_take_46 : decode cX0_take 46 = .ok (.invokevirtual 63, 3) := by decide +kernel
theorem dX0_take_49 : decode cX0_take 49 = .ok (.invokevirtual 67, 3) := by decide +kernel
theorem dX0_take_52 : decode cX0_take 52 = .ok (.iconst 4, 1) := by decide +kernel
theorem dX0_take_53 : decode cX0_take 53 = .ok (.invokevirtual 71, 3) := by decide +kernel
theorem dX0_take_56 : decode cX0_take 56 = .ok (.ifCond .eq 10, 3) := by decide +kernel
theorem dX0_take_59 : decode cX0_take 59 = .ok (.aload_n 0, 1) := by decide +kernel
theorem dX0_take_60 : decode cX0_take 60 = .ok (.invokevirtual 77, 3) := by decide +kernel
theorem dX0_take_63 : decode cX0_take 63 = .ok (.goto 83, 3) := by decide +kernel
theorem dX0_take_66 : decode cX0_take 66 = .ok (.iload_n 1, 1) := by decide +kernel
theorem dX0_take_67 : decode cX0_take 67 = .ok (.ifCond .eq 29, 3) := by decide +kernel
theorem dX0_take_70 : decode cX0_take 70 = .ok (.aload_n 0, 1) := by decide +kernel
theorem dX0_take_71 : decode cX0_take 71 = .ok (.getfield 34, 3) := by decide +kernel
theorem dX0_take_74 : decode cX0_take 74 = .ok (.getfield 80, 3) := by decide +kernel
theorem dX0_take_77 : decode cX0_take 77 = .ok (.bipush 123, 2) := by decide +kernel
theorem dX0_take_79 : decode cX0_take 79 = .ok (.if_icmp .ne 17, 3) := by decide +kernel
theorem dX0_take_82 : decode cX0_take 82 = .ok (.aload_n 0, 1) := by decide +kernel
theorem dX0_take_83 : decode cX0_take 83 = .ok (.aload_n 0, 1) := by decide +kernel
theorem dX0_take_84 : decode cX0_take 84 = .ok (.iconst 0, 1) := by decide +kernel
theorem dX0_take_85 : decode cX0_take 85 = .ok (.iconst 1, 1) := by decide +kernel
theorem dX0_take_86 : decode cX0_take 86 = .ok (.invokevirtual 83, 3) := by decide +kernel
theorem dX0_take_89 : decode cX0_take 89 = .ok (.iconst (-1), 1) := by decide +kernel
theorem dX0_take_90 : decode cX0_take 90 = .ok (.invokevirtual 50, 3) := by decide +kernel
theorem dX0_take_93 : decode cX0_take 93 = .ok (.goto 53, 3) := by decide +kernel
theorem dX0_take_96 : decode cX0_take 96 = .ok (.iload_n 1, 1) := by decide +kernel
theorem dX0_take_97 : decode cX0_take 97 = .ok (.ifCond .eq 30, 3) := by decide +kernel
theorem dX0_take_100 : decode cX0_take 100 = .ok (.aload_n 0, 1) := by decide +kernel
theorem dX0_take_101 : decode cX0_take 101 = .ok (.invokevirtual 87, 3) := by decide +kernel
theorem dX0_take_104 : decode cX0_take 104 = .ok (.ifCond .eq 23, 3) := by decide +kernel
theorem dX0_take_107 : decode cX0_take 107 = .ok (.aload_n 0, 1) := by decide +kernel
theorem dX0_take_108 : decode cX0_take 108 = .ok (.aload_n 0, 1) := by decide +kernel
theorem dX0_take_109 : decode cX0_take 109 = .ok (.iconst 0, 1) := by decide +kernel
theorem dX0_take_110 : decode cX0_take 110 = .ok (.iconst 0, 1) := by decide +kernel
theorem dX0_take_111 : decode cX0_take 111 = .ok (.invokevirtual 83, 3) := by decide +kernel
theorem dX0_take_114 : decode cX0_take 114 = .ok (.aload_n 0, 1) := by decide +kernel
theorem dX0_take_115 : decode cX0_take 115 = .ok (.getfield 34, 3) := by decide +kernel
theorem dX0_take_118 : decode cX0_take 118 = .ok (.getfield 54, 3) := by decide +kernel
theorem dX0_take_121 : decode cX0_take 121 = .ok (.invokevirtual 50, 3) := by decide +kernel
theorem dX0_take_124 : decode cX0_take 124 = .ok (.goto 18, 3) := by decide +kernel
theorem dX0_take_127 : decode cX0_take 127 = .ok (.iload_n 1, 1) := by decide +kernel
theorem dX0_take_128 : decode cX0_take 128 = .ok (.ifCond .eq 10, 3) := by decide +kernel
theorem dX0_take_131 : decode cX0_take 131 = .ok (.aload_n 0, 1) := by decide +kernel
theorem dX0_take_132 : decode cX0_take 132 = .ok (.iconst 0, 1) := by decide +kernel
theorem dX0_take_133 : decode cX0_take 133 = .ok (.iconst 0, 1) := by decide +kernel
theorem dX0_take_134 : decode cX0_take 134 = .ok (.invokevirtual 83, 3) := by decide +kernel
theorem dX0_take_137 : decode cX0_take 137 = .ok (.pop, 1) := by decide +kernel
theorem dX0_take_138 : decode cX0_take 138 = .ok (.aload_n 0, 1) := by decide +kernel
theorem dX0_take_139 : decode cX0_take 139 = .ok (.invokevirtual 91, 3) := by decide +kernel
theorem dX0_take_142 : decode cX0_take 142 = .ok (.aload_n 0, 1) := by decide +kernel
theorem dX0_take_143 : decode cX0_take 143 = .ok (.invokevirtual 94, 3) := by decide +kernel
theorem dX0_take_146 : decode cX0_take 146 = .ok (.return_, 1) := by decide +kernel
theorem dX0_finish_0 : decode cX0_finish 0 = .ok (.aload_n 0, 1) := by decide +kernel
theorem dX0_finish_1 : decode cX0_finish 1 = .ok (.getfield 28, 3) := by decide +kernel
theorem dX0_finish_4 : decode cX0_finish 4 = .ok (.ifCond .eq 10, 3) := by decide +kernel
theorem dX0_finish_7 : decode cX0_finish 7 = .ok (.aload_n 0, 1) := by decide +kernel
theorem dX0_finish_8 : decode cX0_finish 8 = .ok (.iconst 0, 1) := by decide +kernel
theorem dX0_finish_9 : decode cX0_finish 9 = .ok (.iconst 0, 1) := by decide +kernel
theorem dX0_finish_10 : decode cX0_finish 10 = .ok (.invokevirtual 83, 3) := by decide +kernel
theorem dX0_finish_13 : decode cX0_finish 13 = .ok (.pop, 1) := by decide +kernel
theorem dX0_finish_14 : decode cX0_finish 14 = .ok (.aload_n 0, 1) := by decide +kernel
theorem dX0_finish_15 : decode cX0_finish 15 = .ok (.invokevirtual 63, 3) := by decide +kernel
theorem dX0_finish_18 : decode cX0_finish 18 = .ok (.istore_n 1, 1) := by decide +kernel
theorem dX0_finish_19 : decode cX0_finish 19 = .ok (.iload_n 1, 1) := by decide +kernel
theorem dX0_finish_20 : decode cX0_finish 20 = .ok (.ifCond .le 27, 3) := by decide +kernel
theorem dX0_finish_23 : decode cX0_finish 23 = .ok (.aload_n 0, 1) := by decide +kernel
theorem dX0_finish_24 : decode cX0_finish 24 = .ok (.getfield 18, 3) := by decide +kernel
theorem dX0_finish_27 : decode cX0_finish 27 = .ok (.iload_n 1, 1) := by decide +kernel
theorem dX0_finish_28 : decode cX0_finish 28 = .ok (.invokevirtual 67, 3) := by decide +kernel
theorem dX0_finish_31 : decode cX0_finish 31 = .ok (.iconst (-1), 1) := by decide +kernel
theorem dX0_finish_32 : decode cX0_finish 32 = .ok (.if_icmp .ne 9, 3) := by decide +kernel
theorem dX0_finish_35 : decode cX0_finish 35 = .ok (.aload_n 0, 1) := by decide +kernel
theorem dX0_finish_36 : decode cX0_finish 36 = .ok (.bipush 6, 2) := by decide +kernel
theorem dX0_finish_38 : decode cX0_finish 38 = .ok (.invokevirtual 97, 3) := by decide +kernel
theorem dX0_finish_41 : decode cX0_finish 41 = .ok (.iinc 1 (-1), 3) := by decide +kernel
theorem dX0_finish_44 : decode cX0_finish 44 = .ok (.goto (-25), 3) := by decide +kernel
theorem dX0_finish_47 : decode cX0_finish 47 = .ok (.return_, 1) := by decide +kernel
theorem dX0_innermost_0 : decode cX0_innermost 0 = .ok (.aload_n 0, 1) := by decide +kernel
theorem dX0_innermost_1 : decode cX0_innermost 1 = .ok (.getfield 12, 3) := by decide +kernel
theorem dX0_innermost_4 : decode cX0_innermost 4 = .ok (.invokevirtual 100, 3) := by decide +kernel
theorem dX0_innermost_7 : decode cX0_innermost 7 = .ok (.iconst 1, 1) := by decide +kernel
theorem dX0_innermost_8 : decode cX0_innermost 8 = .ok (.isub, 1) := by decide +kernel
theorem dX0_innermost_9 : decode cX0_innermost 9 = .ok (.ireturn, 1) := by decide +kernel
theorem dX0_enter_0 : decode cX0_enter 0 = .ok (.aload_n 0, 1) := by decide +kernel
theorem dX0_enter_1 : decode cX0_enter 1 = .ok (.getfield 12, 3) := by decide +kernel
theorem dX0_enter_4 : decode cX0_enter 4 = .ok (.iload_n 1, 1) := by decide +kernel
theorem dX0_enter_5 : decode cX0_enter 5 = .ok (.invokevirtual 103, 3) := by decide +kernel
theorem dX0_enter_8 : decode cX0_enter 8 = .ok (.aload_n 0, 1) := by decide +kernel
theorem dX0_enter_9 : decode cX0_enter 9 = .ok (.getfield 18, 3) := by decide +kernel
theorem dX0_enter_12 : decode cX0_enter 12 = .ok (.iload_n 2, 1) := by decide +kernel
theorem dX0_enter_13 : decode cX0_enter 13 = .ok (.invokevirtual 103, 3) := by decide +kernel
theorem dX0_enter_16 : decode cX0_enter 16 = .ok (.aload_n 0, 1) := by decide +kernel
theorem dX0_enter_17 : decode cX0_enter 17 = .ok (.getfield 21, 3) := by decide +kernel
theorem dX0_enter_20 : decode cX0_enter 20 = .ok (.iconst (-1), 1) := by decide +kernel
theorem dX0_enter_21 : decode cX0_enter 21 = .ok (.invokevirtual 103, 3) := by decide +kernel
theorem dX0_enter_24 : decode cX0_enter 24 = .ok (.return_, 1) := by decide +kernel
theorem dX0_close_0 : decode cX0_close 0 = .ok (.aload_n 0, 1) := by decide +kernel
theorem dX0_close_1 : decode cX0_close 1 = .ok (.getfield 12, 3) := by decide +kernel
theorem dX0_close_4 : decode cX0_close 4 = .ok (.iload_n 1, 1) := by decide +kernel
theorem dX0_close_5 : decode cX0_close 5 = .ok (.invokevirtual 46, 3) := by decide +kernel
theorem dX0_close_8 : decode cX0_close 8 = .ok (.aload_n 0, 1) := by decide +kernel
theorem dX0_close_9 : decode cX0_close 9 = .ok (.getfield 18, 3) := by decide +kernel
theorem dX0_close_12 : decode cX0_close 12 = .ok (.iload_n 1, 1) := by decide +kernel
theorem dX0_close_13 : decode cX0_close 13 = .ok (.invokevirtual 46, 3) := by decide +kernel
theorem dX0_close_16 : decode cX0_close 16 = .ok (.aload_n 0, 1) := by decide +kernel
theorem dX0_close_17 : decode cX0_close 17 = .ok (.getfield 21, 3) := by decide +kernel
theorem dX0_close_20 : decode cX0_close 20 = .ok (.iload_n 1, 1) := by decide +kernel
theorem dX0_close_21 : decode cX0_close 21 = .ok (.invokevirtual 46, 3) := by decide +kernel
theorem dX0_close_24 : decode cX0_close 24 = .ok (.return_, 1) := by decide +kernel
theorem dX0_endItem_0 : decode cX0_endItem 0 = .ok (.aload_n 0, 1) := by decide +kernel
theorem dX0_endItem_1 : decode cX0_endItem 1 = .ok (.getfield 21, 3) := by decide +kernel
theorem dX0_endItem_4 : decode cX0_endItem 4 = .ok (.aload_n 0, 1) := by decide +kernel
theorem dX0_endItem_5 : decode cX0_endItem 5 = .ok (.invokevirtual 63, 3) := by decide +kernel
theorem dX0_endItem_8 : decode cX0_endItem 8 = .ok (.iconst (-1), 1) := by decide +kernel
theorem dX0_endItem_9 : decode cX0_endItem 9 = .ok (.invokevirtual 60, 3) := by decide +kernel
theorem dX0_endItem_12 : decode cX0_endItem 12 = .ok (.return_, 1) := by decide +kernel
theorem dX0_report_0 : decode cX0_report 0 = .ok (.aload_n 0, 1) := by decide +kernel
theorem dX0_report_1 : decode cX0_report 1 = .ok (.getfield 42, 3) := by decide +kernel
theorem dX0_report_4 : decode cX0_report 4 = .ok (.iload_n 1, 1) := by decide +kernel
theorem dX0_report_5 : decode cX0_report 5 = .ok (.aload_n 0, 1) := by decide +kernel
theorem dX0_report_6 : decode cX0_report 6 = .ok (.getfield 34, 3) := by decide +kernel
theorem dX0_report_9 : decode cX0_report 9 = .ok (.getfield 106, 3) := by decide +kernel
theorem dX0_report_12 : decode cX0_report 12 = .ok (.aload_n 0, 1) := by decide +kernel
theorem dX0_report_13 : decode cX0_report 13 = .ok (.getfield 34, 3) := by decide +kernel
theorem dX0_report_16 : decode cX0_report 16 = .ok (.getfield 54, 3) := by decide +kernel
theorem dX0_report_19 : decode cX0_report 19 = .ok (.invokevirtual 109, 3) := by decide +kernel
theorem dX0_report_22 : decode cX0_report 22 = .ok (.return_, 1) := by decide +kernel
theorem dX0_isDeep_0 : decode cX0_isDeep 0 = .ok (.aload_n 0, 1) := by decide +kernel
theorem dX0_isDeep_1 : decode cX0_isDeep 1 = .ok (.invokevirtual 63, 3) := by decide +kernel
theorem dX0_isDeep_4 : decode cX0_isDeep 4 = .ok (.bipush 30, 2) := by decide +kernel
theorem dX0_isDeep_6 : decode cX0_isDeep 6 = .ok (.if_icmp .lt 7, 3) := by decide +kernel
theorem dX0_isDeep_9 : decode cX0_isDeep 9 = .ok (.iconst 1, 1) := by decide +kernel
theorem dX0_isDeep_10 : decode cX0_isDeep 10 = .ok (.goto 4, 3) := by decide +kernel
theorem dX0_isDeep_13 : decode cX0_isDeep 13 = .ok (.iconst 0, 1) := by decide +kernel
theorem dX0_isDeep_14 : decode cX0_isDeep 14 = .ok (.ireturn, 1) := by decide +kernel
theorem dX0_beginsBlock_0 : decode cX0_beginsBlock 0 = .ok (.aload_n 0, 1) := by decide +kernel
theorem dX0_beginsBlock_1 : decode cX0_beginsBlock 1 = .ok (.getfield 34, 3) := by decide +kernel
theorem dX0_beginsBlock_4 : decode cX0_beginsBlock 4 = .ok (.getfield 80, 3) := by decide +kernel
theorem dX0_beginsBlock_7 : decode cX0_beginsBlock 7 = .ok (.iconst 2, 1) := by decide +kernel
theorem dX0_beginsBlock_8 : decode cX0_beginsBlock 8 = .ok (.if_icmp .eq 26, 3) := by decide +kernel
theorem dX0_beginsBlock_11 : decode cX0_beginsBlock 11 = .ok (.aload_n 0, 1) := by decide +kernel
theorem dX0_beginsBlock_12 : decode cX0_beginsBlock 12 = .ok (.getfield 34, 3) := by decide +kernel
theorem dX0_beginsBlock_15 : decode cX0_beginsBlock 15 = .ok (.getfield 80, 3) := by decide +kernel
theorem dX0_beginsBlock_18 : decode cX0_beginsBlock 18 = .ok (.iconst 3, 1) := by decide +kernel
theorem dX0_beginsBlock_19 : decode cX0_beginsBlock 19 = .ok (.if_icmp .eq 15, 3) := by decide +kernel
theorem dX0_beginsBlock_22 : decode cX0_beginsBlock 22 = .ok (.aload_n 0, 1) := by decide +kernel
theorem dX0_beginsBlock_23 : decode cX0_beginsBlock 23 = .ok (.getfield 34, 3) := by decide +kernel
theorem dX0_beginsBlock_26 : decode cX0_beginsBlock 26 = .ok (.getfield 80, 3) := by decide +kernel
theorem dX0_beginsBlock_29 : decode cX0_beginsBlock 29 = .ok (.bipush 40, 2) := by decide +kernel
theorem dX0_beginsBlock_31 : decode cX0_beginsBlock 31 = .ok (.if_icmp .ne 7, 3) := by decide +kernel
theorem dX0_beginsBlock_34 : decode cX0_beginsBlock 34 = .ok (.iconst 1, 1) := by decide +kernel
theorem dX0_beginsBlock_35 : decode cX0_beginsBlock 35 = .ok (.goto 4, 3) := by decide +kernel
theorem dX0_beginsBlock_38 : decode cX0_beginsBlock 38 = .ok (.iconst 0, 1) := by decide +kernel
theorem dX0_beginsBlock_39 : decode cX0_beginsBlock 39 = .ok (.istore_n 1, 1) := by decide +kernel
theorem dX0_beginsBlock_40 : decode cX0_beginsBlock 40 = .ok (.iload_n 1, 1) := by decide +kernel
theorem dX0_beginsBlock_41 : decode cX0_beginsBlock 41 = .ok (.ifCond .eq 28, 3) := by decide +kernel
theorem dX0_beginsBlock_44 : decode cX0_beginsBlock 44 = .ok (.aload_n 0, 1) := by decide +kernel
theorem dX0_beginsBlock_45 : decode cX0_beginsBlock 45 = .ok (.getfield 18, 3) := by decide +kernel
theorem dX0_beginsBlock_48 : decode cX0_beginsBlock 48 = .ok (.aload_n 0, 1) := by decide +kernel
theorem dX0_beginsBlock_49 : decode cX0_beginsBlock 49 = .ok (.invokevirtual 63, 3) := by decide +kernel
theorem dX0_beginsBlock_52 : decode cX0_beginsBlock 52 = .ok (.invokevirtual 67, 3) := by decide +kernel
theorem dX0_beginsBlock_55 : decode cX0_beginsBlock 55 = .ok (.aload_n 0, 1) := by decide +kernel
theorem dX0_beginsBlock_56 : decode cX0_beginsBlock 56 = .ok (.getfield 34, 3) := by decide +kernel
theorem dX0_beginsBlock_59 : decode cX0_beginsBlock 59 = .ok (.getfield 54, 3) := by decide +kernel
theorem dX0_beginsBlock_62 : decode cX0_beginsBlock 62 = .ok (.if_icmp .ge 7, 3) := by decide +kernel
theorem dX0_beginsBlock_65 : decode cX0_beginsBlock 65 = .ok (.iconst 1, 1) := by decide +kernel
theorem dX0_beginsBlock_66 : decode cX0_beginsBlock 66 = .ok (.goto 4, 3) := by decide +kernel
theorem dX0_beginsBlock_69 : decode cX0_beginsBlock 69 = .ok (.iconst 0, 1) := by decide +kernel
theorem dX0_beginsBlock_70 : decode cX0_beginsBlock 70 = .ok (.ireturn, 1) := by decide +kernel
theorem dX0_alignToColumn_0 : decode cX0_alignToColumn 0 = .ok (.aload_n 0, 1) := by decide +kernel
theorem dX0_alignToColumn_1 : decode cX0_alignToColumn 1 = .ok (.getfield 34, 3) := by decide +kernel
theorem dX0_alignToColumn_4 : decode cX0_alignToColumn 4 = .ok (.getfield 115, 3) := by decide +kernel
theorem dX0_alignToColumn_7 : decode cX0_alignToColumn 7 = .ok (.ifCond .ne 4, 3) := by decide +kernel
theorem dX0_alignToColumn_10 : decode cX0_alignToColumn 10 = .ok (.return_, 1) := by decide +kernel
theorem dX0_alignToColumn_11 : decode cX0_alignToColumn 11 = .ok (.aload_n 0, 1) := by decide +kernel
theorem dX0_alignToColumn_12 : decode cX0_alignToColumn 12 = .ok (.invokevirtual 63, 3) := by decide +kernel
theorem dX0_alignToColumn_15 : decode cX0_alignToColumn 15 = .ok (.istore_n 1, 1) := by decide +kernel
theorem dX0_alignToColumn_16 : decode cX0_alignToColumn 16 = .ok (.iload_n 1, 1) := by decide +kernel
theorem dX0_alignToColumn_17 : decode cX0_alignToColumn 17 = .ok (.istore_n 2, 1) := by decide +kernel
theorem dX0_alignToColumn_18 : decode cX0_alignToColumn 18 = .ok (.iload_n 2, 1) := by decide +kernel
theorem dX0_alignToColumn_19 : decode cX0_alignToColumn 19 = .ok (.ifCond .le 27, 3) := by decide +kernel
theorem dX0_alignToColumn_22 : decode cX0_alignToColumn 22 = .ok (.aload_n 0, 1) := by decide +kernel
theorem dX0_alignToColumn_23 : decode cX0_alignToColumn 23 = .ok (.getfield 18, 3) := by decide +kernel
theorem dX0_alignToColumn_26 : decode cX0_alignToColumn 26 = .ok (.iload_n 2, 1) := by decide +kernel
theorem dX0_alignToColumn_27 : decode cX0_alignToColumn 27 = .ok (.invokevirtual 67, 3) := by decide +kernel
theorem dX0_alignToColumn_30 : decode cX0_alignToColumn 30 = .ok (.aload_n 0, 1) := by decide +kernel
theorem dX0_alignToColumn_31 : decode cX0_alignToColumn 31 = .ok (.getfield 34, 3) := by decide +kernel
theorem dX0_alignToColumn_34 : decode cX0_alignToColumn 34 = .ok (.getfield 54, 3) := by decide +kernel
theorem dX0_alignToColumn_37 : decode cX0_alignToColumn 37 = .ok (.if_icmp .le 9, 3) := by decide +kernel
theorem dX0_alignToColumn_40 : decode cX0_alignToColumn 40 = .ok (.iinc 2 (-1), 3) := by decide +kernel
theorem dX0_alignToColumn_43 : decode cX0_alignToColumn 43 = .ok (.goto (-25), 3) := by decide +kernel
theorem dX0_alignToColumn_46 : decode cX0_alignToColumn 46 = .ok (.aload_n 0, 1) := by decide +kernel
theorem dX0_alignToColumn_47 : decode cX0_alignToColumn 47 = .ok (.iload_n 2, 1) := by decide +kernel
theorem dX0_alignToColumn_48 : decode cX0_alignToColumn 48 = .ok (.iconst 1, 1) := by decide +kernel
theorem dX0_alignToColumn_49 : decode cX0_alignToColumn 49 = .ok (.iadd, 1) := by decide +kernel
theorem dX0_alignToColumn_50 : decode cX0_alignToColumn 50 = .ok (.invokevirtual 118, 3) := by decide +kernel
theorem dX0_alignToColumn_53 : decode cX0_alignToColumn 53 = .ok (.aload_n 0, 1) := by decide +kernel
theorem dX0_alignToColumn_54 : decode cX0_alignToColumn 54 = .ok (.getfield 18, 3) := by decide +kernel
theorem dX0_alignToColumn_57 : decode cX0_alignToColumn 57 = .ok (.iload_n 2, 1) := by decide +kernel
theorem dX0_alignToColumn_58 : decode cX0_alignToColumn 58 = .ok (.invokevirtual 67, 3) := by decide +kernel
theorem dX0_alignToColumn_61 : decode cX0_alignToColumn 61 = .ok (.istore_n 3, 1) := by decide +kernel
theorem dX0_alignToColumn_62 : decode cX0_alignToColumn 62 = .ok (.iload_n 3, 1) := by decide +kernel
theorem dX0_alignToColumn_63 : decode cX0_alignToColumn 63 = .ok (.aload_n 0, 1) := by decide +kernel
theorem dX0_alignToColumn_64 : decode cX0_alignToColumn 64 = .ok (.getfield 34, 3) := by decide +kernel
theorem dX0_alignToColumn_67 : decode cX0_alignToColumn 67 = .ok (.getfield 54, 3) := by decide +kernel
theorem dX0_alignToColumn_70 : decode cX0_alignToColumn 70 = .ok (.if_icmp .ne 10, 3) := by decide +kernel
theorem dX0_alignToColumn_73 : decode cX0_alignToColumn 73 = .ok (.aload_n 0, 1) := by decide +kernel
theorem dX0_alignToColumn_74 : decode cX0_alignToColumn 74 = .ok (.invokevirtual 121, 3) := by decide +kernel
theorem dX0_alignToColumn_77 : decode cX0_alignToColumn 77 = .ok (.goto 33, 3) := by decide +kernel
theorem dX0_alignToColumn_80 : decode cX0_alignToColumn 80 = .ok (.iload_n 3, 1) := by decide +kernel
theorem dX0_alignToColumn_81 : decode cX0_alignToColumn 81 = .ok (.aload_n 0, 1) := by decide +kernel
theorem dX0_alignToColumn_82 : decode cX0_alignToColumn 82 = .ok (.getfield 34, 3) := by decide +kernel
theorem dX0_alignToColumn_85 : decode cX0_alignToColumn 85 = .ok (.getfield 54, 3) := by decide +kernel
theorem dX0_alignToColumn_88 : decode cX0_alignToColumn 88 = .ok (.if_icmp .gt 13, 3) := by decide +kernel
theorem dX0_alignToColumn_91 : decode cX0_alignToColumn 91 = .ok (.iload_n 3, 1) := by decide +kernel
theorem dX0_alignToColumn_92 : decode cX0_alignToColumn 92 = .ok (.iconst (-1), 1) := by decide +kernel
theorem dX0_alignToColumn_93 : decode cX0_alignToColumn 93 = .ok (.if_icmp .eq 17, 3) := by decide +kernel
theorem dX0_alignToColumn_96 : decode cX0_alignToColumn 96 = .ok (.iload_n 2, 1) := by decide +kernel
theorem dX0_alignToColumn_97 : decode cX0_alignToColumn 97 = .ok (.iload_n 1, 1) := by decide +kernel
theorem dX0_alignToColumn_98 : decode cX0_alignToColumn 98 = .ok (.if_icmp .ge 12, 3) := by decide +kernel
theorem dX0_alignToColumn_101 : decode cX0_alignToColumn 101 = .ok (.aload_n 0, 1) := by decide +kernel
theorem dX0_alignToColumn_102 : decode cX0_alignToColumn 102 = .ok (.iconst 2, 1) := by decide +kernel
theorem dX0_alignToColumn_103 : decode cX0_alignToColumn 103 = .ok (.invokevirtual 97, 3) := by decide +kernel
theorem dX0_alignToColumn_106 : decode cX0_alignToColumn 106 = .ok (.aload_n 0, 1) := by decide +kernel
theorem dX0_alignToColumn_107 : decode cX0_alignToColumn 107 = .ok (.invokevirtual 121, 3) := by decide +kernel
theorem dX0_alignToColumn_110 : decode cX0_alignToColumn 110 = .ok (.return_, 1) := by decide +kernel
theorem dX0_placeInGroup_0 : decode cX0_placeInGroup 0 = .ok (.aload_n 0, 1) := by decide +kernel
theorem dX0_placeInGroup_1 : decode cX0_placeInGroup 1 = .ok (.getfield 34, 3) := by decide +kernel
theorem dX0_placeInGroup_4 : decode cX0_placeInGroup 4 = .ok (.getfield 80, 3) := by decide +kernel
theorem dX0_placeInGroup_7 : decode cX0_placeInGroup 7 = .ok (.lookupswitch 82 #[(2, 41), (3, 48), (40, 64), (41, 71)], 41) := by decide +kernel
theorem dX0_placeInGroup_48 : decode cX0_placeInGroup 48 = .ok (.aload_n 0, 1) := by decide +kernel
theorem dX0_placeInGroup_49 : decode cX0_placeInGroup 49 = .ok (.invokevirtual 124, 3) := by decide +kernel
theorem dX0_placeInGroup_52 : decode cX0_placeInGroup 52 = .ok (.goto 42, 3) := by decide +kernel
theorem dX0_placeInGroup_55 : decode cX0_placeInGroup 55 = .ok (.aload_n 0, 1) := by decide +kernel
theorem dX0_placeInGroup_56 : decode cX0_placeInGroup 56 = .ok (.iconst 3, 1) := by decide +kernel
theorem dX0_placeInGroup_57 : decode cX0_placeInGroup 57 = .ok (.aload_n 0, 1) := by decide +kernel
theorem dX0_placeInGroup_58 : decode cX0_placeInGroup 58 = .ok (.getfield 34, 3) := by decide +kernel
theorem dX0_placeInGroup_61 : decode cX0_placeInGroup 61 = .ok (.invokevirtual 127, 3) := by decide +kernel
theorem dX0_placeInGroup_64 : decode cX0_placeInGroup 64 = .ok (.invokevirtual 83, 3) := by decide +kernel
theorem dX0_placeInGroup_67 : decode cX0_placeInGroup 67 = .ok (.pop, 1) := by decide +kernel
theorem dX0_placeInGroup_68 : decode cX0_placeInGroup 68 = .ok (.goto 26, 3) := by decide +kernel
theorem dX0_placeInGroup_71 : decode cX0_placeInGroup 71 = .ok (.aload_n 0, 1) := by decide +kernel
theorem dX0_placeInGroup_72 : decode cX0_placeInGroup 72 = .ok (.invokevirtual 130, 3) := by decide +kernel
theorem dX0_placeInGroup_75 : decode cX0_placeInGroup 75 = .ok (.goto 19, 3) := by decide +kernel
theorem dX0_placeInGroup_78 : decode cX0_placeInGroup 78 = .ok (.aload_n 0, 1) := by decide +kernel
theorem dX0_placeInGroup_79 : decode cX0_placeInGroup 79 = .ok (.aload_n 0, 1) := by decide +kernel
theorem dX0_placeInGroup_80 : decode cX0_placeInGroup 80 = .ok (.invokevirtual 63, 3) := by decide +kernel
theorem dX0_placeInGroup_83 : decode cX0_placeInGroup 83 = .ok (.invokevirtual 118, 3) := by decide +kernel
theorem dX0_placeInGroup_86 : decode cX0_placeInGroup 86 = .ok (.goto 8, 3) := by decide +kernel
theorem dX0_placeInGroup_89 : decode cX0_placeInGroup 89 = .ok (.aload_n 0, 1) := by decide +kernel
theorem dX0_placeInGroup_90 : decode cX0_placeInGroup 90 = .ok (.iconst 1, 1) := by decide +kernel
theorem dX0_placeInGroup_91 : decode cX0_placeInGroup 91 = .ok (.invokevirtual 97, 3) := by decide +kernel
theorem dX0_placeInGroup_94 : decode cX0_placeInGroup 94 = .ok (.return_, 1) := by decide +kernel
theorem dX0_placeInBlock_0 : decode cX0_placeInBlock 0 = .ok (.aload_n 0, 1) := by decide +kernel
theorem dX0_placeInBlock_1 : decode cX0_placeInBlock 1 = .ok (.getfield 34, 3) := by decide +kernel
theorem dX0_placeInBlock_4 : decode cX0_placeInBlock 4 = .ok (.getfield 80, 3) := by decide +kernel
theorem dX0_placeInBlock_7 : decode cX0_placeInBlock 7 = .ok (.lookupswitch 124 #[(2, 65), (3, 72), (40, 88), (58, 102), (59, 95), (123, 116), (125, 109)], 65) := by decide +kernel
theorem dX0_placeInBlock_72 : decode cX0_placeInBlock 72 = .ok (.aload_n 0, 1) := by decide +kernel
theorem dX0_placeInBlock_73 : decode cX0_placeInBlock 73 = .ok (.invokevirtual 124, 3) := by decide +kernel
theorem dX0_placeInBlock_76 : decode cX0_placeInBlock 76 = .ok (.goto 60, 3) := by decide +kernel
theorem dX0_placeInBlock_79 : decode cX0_placeInBlock 79 = .ok (.aload_n 0, 1) := by decide +kernel
theorem dX0_placeInBlock_80 : decode cX0_placeInBlock 80 = .ok (.iconst 3, 1) := by decide +kernel
theorem dX0_placeInBlock_81 : decode cX0_placeInBlock 81 = .ok (.aload_n 0, 1) := by decide +kernel
theorem dX0_placeInBlock_82 : decode cX0_placeInBlock 82 = .ok (.getfield 34, 3) := by decide +kernel
theorem dX0_placeInBlock_85 : decode cX0_placeInBlock 85 = .ok (.invokevirtual 127, 3) := by decide +kernel
theorem dX0_placeInBlock_88 : decode cX0_placeInBlock 88 = .ok (.invokevirtual 83, 3) := by decide +kernel
theorem dX0_placeInBlock_91 : decode cX0_placeInBlock 91 = .ok (.pop, 1) := by decide +kernel
theorem dX0_placeInBlock_92 : decode cX0_placeInBlock 92 = .ok (.goto 44, 3) := by decide +kernel
theorem dX0_placeInBlock_95 : decode cX0_placeInBlock 95 = .ok (.aload_n 0, 1) := by decide +kernel
theorem dX0_placeInBlock_96 : decode cX0_placeInBlock 96 = .ok (.invokevirtual 130, 3) := by decide +kernel
theorem dX0_placeInBlock_99 : decode cX0_placeInBlock 99 = .ok (.goto 37, 3) := by decide +kernel
theorem dX0_placeInBlock_102 : decode cX0_placeInBlock 102 = .ok (.aload_n 0, 1) := by decide +kernel
theorem dX0_placeInBlock_103 : decode cX0_placeInBlock 103 = .ok (.invokevirtual 121, 3) := by decide +kernel
theorem dX0_placeInBlock_106 : decode cX0_placeInBlock 106 = .ok (.goto 30, 3) := by decide +kernel
theorem dX0_placeInBlock_109 : decode cX0_placeInBlock 109 = .ok (.aload_n 0, 1) := by decide +kernel
theorem dX0_placeInBlock_110 : decode cX0_placeInBlock 110 = .ok (.invokevirtual 133, 3) := by decide +kernel
theorem dX0_placeInBlock_113 : decode cX0_placeInBlock 113 = .ok (.goto 23, 3) := by decide +kernel
theorem dX0_placeInBlock_116 : decode cX0_placeInBlock 116 = .ok (.aload_n 0, 1) := by decide +kernel
theorem dX0_placeInBlock_117 : decode cX0_placeInBlock 117 = .ok (.invokevirtual 136, 3) := by decide +kernel
theorem dX0_placeInBlock_120 : decode cX0_placeInBlock 120 = .ok (.goto 16, 3) := by decide +kernel
theorem dX0_placeInBlock_123 : decode cX0_placeInBlock 123 = .ok (.aload_n 0, 1) := by decide +kernel
theorem dX0_placeInBlock_124 : decode cX0_placeInBlock 124 = .ok (.iconst 3, 1) := by decide +kernel
theorem dX0_placeInBlock_125 : decode cX0_placeInBlock 125 = .ok (.invokevirtual 97, 3) := by decide +kernel
theorem dX0_placeInBlock_128 : decode cX0_placeInBlock 128 = .ok (.goto 8, 3) := by decide +kernel
theorem dX0_placeInBlock_131 : decode cX0_placeInBlock 131 = .ok (.aload_n 0, 1) := by decide +kernel
theorem dX0_placeInBlock_132 : decode cX0_placeInBlock 132 = .ok (.iconst 4, 1) := by decide +kernel
theorem dX0_placeInBlock_133 : decode cX0_placeInBlock 133 = .ok (.invokevirtual 97, 3) := by decide +kernel
theorem dX0_placeInBlock_136 : decode cX0_placeInBlock 136 = .ok (.return_, 1) := by decide +kernel
theorem dX0_addWord_0 : decode cX0_addWord 0 = .ok (.aload_n 0, 1) := by decide +kernel
theorem dX0_addWord_1 : decode cX0_addWord 1 = .ok (.getfield 38, 3) := by decide +kernel
theorem dX0_addWord_4 : decode cX0_addWord 4 = .ok (.aload_n 0, 1) := by decide +kernel
theorem dX0_addWord_5 : decode cX0_addWord 5 = .ok (.iconst 2, 1) := by decide +kernel
theorem dX0_addWord_6 : decode cX0_addWord 6 = .ok (.iconst 0, 1) := by decide +kernel
theorem dX0_addWord_7 : decode cX0_addWord 7 = .ok (.invokevirtual 83, 3) := by decide +kernel
theorem dX0_addWord_10 : decode cX0_addWord 10 = .ok (.aload_n 0, 1) := by decide +kernel
theorem dX0_addWord_11 : decode cX0_addWord 11 = .ok (.getfield 31, 3) := by decide +kernel
theorem dX0_addWord_14 : decode cX0_addWord 14 = .ok (.aload_n 0, 1) := by decide +kernel
theorem dX0_addWord_15 : decode cX0_addWord 15 = .ok (.getfield 34, 3) := by decide +kernel
theorem dX0_addWord_18 : decode cX0_addWord 18 = .ok (.getfield 139, 3) := by decide +kernel
theorem dX0_addWord_21 : decode cX0_addWord 21 = .ok (.aload_n 0, 1) := by decide +kernel
theorem dX0_addWord_22 : decode cX0_addWord 22 = .ok (.getfield 34, 3) := by decide +kernel
theorem dX0_addWord_25 : decode cX0_addWord 25 = .ok (.getfield 142, 3) := by decide +kernel
theorem dX0_addWord_28 : decode cX0_addWord 28 = .ok (.invokevirtual 145, 3) := by decide +kernel
theorem dX0_addWord_31 : decode cX0_addWord 31 = .ok (.return_, 1) := by decide +kernel
theorem dX0_openGroup_0 : decode cX0_openGroup 0 = .ok (.aload_n 0, 1) := by decide +kernel
theorem dX0_openGroup_1 : decode cX0_openGroup 1 = .ok (.invokevirtual 149, 3) := by decide +kernel
theorem dX0_openGroup_4 : decode cX0_openGroup 4 = .ok (.ifCond .eq 11, 3) := by decide +kernel
theorem dX0_openGroup_7 : decode cX0_openGroup 7 = .ok (.aload_n 0, 1) := by decide +kernel
theorem dX0_openGroup_8 : decode cX0_openGroup 8 = .ok (.iconst 5, 1) := by decide +kernel
theorem dX0_openGroup_9 : decode cX0_openGroup 9 = .ok (.invokevirtual 97, 3) := by decide +kernel
theorem dX0_openGroup_12 : decode cX0_openGroup 12 = .ok (.goto 14, 3) := by decide +kernel
theorem dX0_openGroup_15 : decode cX0_openGroup 15 = .ok (.aload_n 0, 1) := by decide +kernel
theorem dX0_openGroup_16 : decode cX0_openGroup 16 = .ok (.aload_n 0, 1) := by decide +kernel
theorem dX0_openGroup_17 : decode cX0_openGroup 17 = .ok (.iconst 4, 1) := by decide +kernel
theorem dX0_openGroup_18 : decode cX0_openGroup 18 = .ok (.iconst 0, 1) := by decide +kernel
theorem dX0_openGroup_19 : decode cX0_openGroup 19 = .ok (.invokevirtual 83, 3) := by decide +kernel
theorem dX0_openGroup_22 : decode cX0_openGroup 22 = .ok (.iconst (-1), 1) := by decide +kernel
theorem dX0_openGroup_23 : decode cX0_openGroup 23 = .ok (.invokevirtual 50, 3) := by decide +kernel
theorem dX0_openGroup_26 : decode cX0_openGroup 26 = .ok (.return_, 1) := by decide +kernel
theorem dX0_takeColon_0 : decode cX0_takeColon 0 = .ok (.aload_n 0, 1) := by decide +kernel
theorem dX0_takeColon_1 : decode cX0_takeColon 1 = .ok (.getfield 21, 3) := by decide +kernel
theorem dX0_takeColon_4 : decode cX0_takeColon 4 = .ok (.aload_n 0, 1) := by decide +kernel
theorem dX0_takeColon_5 : decode cX0_takeColon 5 = .ok (.invokevirtual 63, 3) := by decide +kernel
theorem dX0_takeColon_8 : decode cX0_takeColon 8 = .ok (.invokevirtual 67, 3) := by decide +kernel
theorem dX0_takeColon_11 : decode cX0_takeColon 11 = .ok (.iconst (-1), 1) := by decide +kernel
theorem dX0_takeColon_12 : decode cX0_takeColon 12 = .ok (.if_icmp .ne 11, 3) := by decide +kernel
theorem dX0_takeColon_15 : decode cX0_takeColon 15 = .ok (.aload_n 0, 1) := by decide +kernel
theorem dX0_takeColon_16 : decode cX0_takeColon 16 = .ok (.iconst 3, 1) := by decide +kernel
theorem dX0_takeColon_17 : decode cX0_takeColon 17 = .ok (.invokevirtual 97, 3) := by decide +kernel
theorem dX0_takeColon_20 : decode cX0_takeColon 20 = .ok (.goto 23, 3) := by decide +kernel
theorem dX0_takeColon_23 : decode cX0_takeColon 23 = .ok (.aload_n 0, 1) := by decide +kernel
theorem dX0_takeColon_24 : decode cX0_takeColon 24 = .ok (.invokevirtual 149, 3) := by decide +kernel
theorem dX0_takeColon_27 : decode cX0_takeColon 27 = .ok (.ifCond .eq 11, 3) := by decide +kernel
theorem dX0_takeColon_30 : decode cX0_takeColon 30 = .ok (.aload_n 0, 1) := by decide +kernel
theorem dX0_takeColon_31 : decode cX0_takeColon 31 = .ok (.iconst 5, 1) := by decide +kernel
theorem dX0_takeColon_32 : decode cX0_takeColon 32 = .ok (.invokevirtual 97, 3) := by decide +kernel
theorem dX0_takeColon_35 : decode cX0_takeColon 35 = .ok (.goto 8, 3) := by decide +kernel
theorem dX0_takeColon_38 : decode cX0_takeColon 38 = .ok (.aload_n 0, 1) := by decide +kernel
theorem dX0_takeColon_39 : decode cX0_takeColon 39 = .ok (.iconst 1, 1) := by decide +kernel
theorem dX0_takeColon_40 : decode cX0_takeColon 40 = .ok (.putfield 28, 3) := by decide +kernel
theorem dX0_takeColon_43 : decode cX0_takeColon 43 = .ok (.return_, 1) := by decide +kernel
theorem dX0_closeBraces_0 : decode cX0_closeBraces 0 = .ok (.aload_n 0, 1) := by decide +kernel
theorem dX0_closeBraces_1 : decode cX0_closeBraces 1 = .ok (.invokevirtual 63, 3) := by decide +kernel
theorem dX0_closeBraces_4 : decode cX0_closeBraces 4 = .ok (.istore_n 1, 1) := by decide +kernel
theorem dX0_closeBraces_5 : decode cX0_closeBraces 5 = .ok (.iload_n 1, 1) := by decide +kernel
theorem dX0_closeBraces_6 : decode cX0_closeBraces 6 = .ok (.ifCond .le 21, 3) := by decide +kernel
theorem dX0_closeBraces_9 : decode cX0_closeBraces 9 = .ok (.aload_n 0, 1) := by decide +kernel
theorem dX0_closeBraces_10 : decode cX0_closeBraces 10 = .ok (.getfield 18, 3) := by decide +kernel
theorem dX0_closeBraces_13 : decode cX0_closeBraces 13 = .ok (.iload_n 1, 1) := by decide +kernel
theorem dX0_closeBraces_14 : decode cX0_closeBraces 14 = .ok (.invokevirtual 67, 3) := by decide +kernel
theorem dX0_closeBraces_17 : decode cX0_closeBraces 17 = .ok (.iconst (-1), 1) := by decide +kernel
theorem dX0_closeBraces_18 : decode cX0_closeBraces 18 = .ok (.if_icmp .eq 9, 3) := by decide +kernel
theorem dX0_closeBraces_21 : decode cX0_closeBraces 21 = .ok (.iinc 1 (-1), 3) := by decide +kernel
theorem dX0_closeBraces_24 : decode cX0_closeBraces 24 = .ok (.goto (-19), 3) := by decide +kernel
theorem dX0_closeBraces_27 : decode cX0_closeBraces 27 = .ok (.iload_n 1, 1) := by decide +kernel
theorem dX0_closeBraces_28 : decode cX0_closeBraces 28 = .ok (.ifCond .le 11, 3) := by decide +kernel
theorem dX0_closeBraces_31 : decode cX0_closeBraces 31 = .ok (.aload_n 0, 1) := by decide +kernel
theorem dX0_closeBraces_32 : decode cX0_closeBraces 32 = .ok (.iload_n 1, 1) := by decide +kernel
theorem dX0_closeBraces_33 : decode cX0_closeBraces 33 = .ok (.invokevirtual 118, 3) := by decide +kernel
theorem dX0_closeBraces_36 : decode cX0_closeBraces 36 = .ok (.goto 8, 3) := by decide +kernel
theorem dX0_closeBraces_39 : decode cX0_closeBraces 39 = .ok (.aload_n 0, 1) := by decide +kernel
theorem dX0_closeBraces_40 : decode cX0_closeBraces 40 = .ok (.iconst 4, 1) := by decide +kernel
theorem dX0_closeBraces_41 : decode cX0_closeBraces 41 = .ok (.invokevirtual 97, 3) := by decide +kernel
theorem dX0_closeBraces_44 : decode cX0_closeBraces 44 = .ok (.return_, 1) := by decide +kernel
theorem dX0_addPart_0 : decode cX0_addPart 0 = .ok (.aload_n 0, 1) := by decide +kernel
theorem dX0_addPart_1 : decode cX0_addPart 1 = .ok (.invokevirtual 63, 3) := by decide +kernel
theorem dX0_addPart_4 : decode cX0_addPart 4 = .ok (.istore_n 3, 1) := by decide +kernel
theorem dX0_addPart_5 : decode cX0_addPart 5 = .ok (.aload_n 0, 1) := by decide +kernel
theorem dX0_addPart_6 : decode cX0_addPart 6 = .ok (.getfield 12, 3) := by decide +kernel
theorem dX0_addPart_9 : decode cX0_addPart 9 = .ok (.iload_n 3, 1) := by decide +kernel
theorem dX0_addPart_10 : decode cX0_addPart 10 = .ok (.invokevirtual 67, 3) := by decide +kernel
theorem dX0_addPart_13 : decode cX0_addPart 13 = .ok (.istore 4, 2) := by decide +kernel
theorem dX0_addPart_15 : decode cX0_addPart 15 = .ok (.aload_n 0, 1) := by decide +kernel
theorem dX0_addPart_16 : decode cX0_addPart 16 = .ok (.getfield 38, 3) := by decide +kernel
theorem dX0_addPart_19 : decode cX0_addPart 19 = .ok (.iload 4, 2) := by decide +kernel
theorem dX0_addPart_21 : decode cX0_addPart 21 = .ok (.iconst 0, 1) := by decide +kernel
theorem dX0_addPart_22 : decode cX0_addPart 22 = .ok (.invokevirtual 71, 3) := by decide +kernel
theorem dX0_addPart_25 : decode cX0_addPart 25 = .ok (.ifCond .eq 58, 3) := by decide +kernel
theorem dX0_addPart_28 : decode cX0_addPart 28 = .ok (.aload_n 0, 1) := by decide +kernel
theorem dX0_addPart_29 : decode cX0_addPart 29 = .ok (.getfield 21, 3) := by decide +kernel
theorem dX0_addPart_32 : decode cX0_addPart 32 = .ok (.iload_n 3, 1) := by decide +kernel
theorem dX0_addPart_33 : decode cX0_addPart 33 = .ok (.invokevirtual 67, 3) := by decide +kernel
theorem dX0_addPart_36 : decode cX0_addPart 36 = .ok (.iconst (-1), 1) := by decide +kernel
theorem dX0_addPart_37 : decode cX0_addPart 37 = .ok (.if_icmp .ne 36, 3) := by decide +kernel
theorem dX0_addPart_40 : decode cX0_addPart 40 = .ok (.aload_n 0, 1) := by decide +kernel
theorem dX0_addPart_41 : decode cX0_addPart 41 = .ok (.getfield 21, 3) := by decide +kernel
theorem dX0_addPart_44 : decode cX0_addPart 44 = .ok (.iload_n 3, 1) := by decide +kernel
theorem dX0_addPart_45 : decode cX0_addPart 45 = .ok (.aload_n 0, 1) := by decide +kernel
theorem dX0_addPart_46 : decode cX0_addPart 46 = .ok (.getfield 38, 3) := by decide +kernel
theorem dX0_addPart_49 : decode cX0_addPart 49 = .ok (.iload 4, 2) := by decide +kernel
theorem dX0_addPart_51 : decode cX0_addPart 51 = .ok (.iconst 1, 1) := by decide +kernel
theorem dX0_addPart_52 : decode cX0_addPart 52 = .ok (.aload_n 0, 1) := by decide +kernel
theorem dX0_addPart_53 : decode cX0_addPart 53 = .ok (.getfield 34, 3) := by decide +kernel
theorem dX0_addPart_56 : decode cX0_addPart 56 = .ok (.getfield 106, 3) := by decide +kernel
theorem dX0_addPart_59 : decode cX0_addPart 59 = .ok (.aload_n 0, 1) := by decide +kernel
theorem dX0_addPart_60 : decode cX0_addPart 60 = .ok (.getfield 34, 3) := by decide +kernel
theorem dX0_addPart_63 : decode cX0_addPart 63 = .ok (.getfield 54, 3) := by decide +kernel
theorem dX0_addPart_66 : decode cX0_addPart 66 = .ok (.iconst 0, 1) := by decide +kernel
theorem dX0_addPart_67 : decode cX0_addPart 67 = .ok (.invokevirtual 152, 3) := by decide +kernel
theorem dX0_addPart_70 : decode cX0_addPart 70 = .ok (.invokevirtual 60, 3) := by decide +kernel
theorem dX0_addPart_73 : decode cX0_addPart 73 = .ok (.aload_n 0, 1) := by decide +kernel
theorem dX0_addPart_74 : decode cX0_addPart 74 = .ok (.getfield 21, 3) := by decide +kernel
theorem dX0_addPart_77 : decode cX0_addPart 77 = .ok (.iload_n 3, 1) := by decide +kernel
theorem dX0_addPart_78 : decode cX0_addPart 78 = .ok (.invokevirtual 67, 3) := by decide +kernel
theorem dX0_addPart_81 : decode cX0_addPart 81 = .ok (.istore 4, 2) := by decide +kernel
theorem dX0_addPart_83 : decode cX0_addPart 83 = .ok (.aload_n 0, 1) := by decide +kernel
theorem dX0_addPart_84 : decode cX0_addPart 84 = .ok (.getfield 38, 3) := by decide +kernel
theorem dX0_addPart_87 : decode cX0_addPart 87 = .ok (.iload 4, 2) := by decide +kernel
theorem dX0_addPart_89 : decode cX0_addPart 89 = .ok (.iload_n 1, 1) := by decide +kernel
theorem dX0_addPart_90 : decode cX0_addPart 90 = .ok (.aload_n 0, 1) := by decide +kernel
theorem dX0_addPart_91 : decode cX0_addPart 91 = .ok (.getfield 34, 3) := by decide +kernel
theorem dX0_addPart_94 : decode cX0_addPart 94 = .ok (.getfield 106, 3) := by decide +kernel
theorem dX0_addPart_97 : decode cX0_addPart 97 = .ok (.aload_n 0, 1) := by decide +kernel
theorem dX0_addPart_98 : decode cX0_addPart 98 = .ok (.getfield 34, 3) := by decide +kernel
theorem dX0_addPart_101 : decode cX0_addPart 101 = .ok (.getfield 54, 3) := by decide +kernel
theorem dX0_addPart_104 : decode cX0_addPart 104 = .ok (.iload_n 2, 1) := by decide +kernel
theorem dX0_addPart_105 : decode cX0_addPart 105 = .ok (.invokevirtual 152, 3) := by decide +kernel
theorem dX0_addPart_108 : decode cX0_addPart 108 = .ok (.ireturn, 1) := by decide +kernel
theorem dX1_init_0 : decode cX1_init 0 = .ok (.aload_n 0, 1) := by decide +kernel
theorem dX1_init_1 : decode cX1_init 1 = .ok (.invokespecial 3, 3) := by decide +kernel
theorem dX1_init_4 : decode cX1_init 4 = .ok (.aload_n 0, 1) := by decide +kernel
theorem dX1_init_5 : decode cX1_init 5 = .ok (.iconst 0, 1) := by decide +kernel
theorem dX1_init_6 : decode cX1_init 6 = .ok (.putfield 9, 3) := by decide +kernel
theorem dX1_init_9 : decode cX1_init 9 = .ok (.aload_n 0, 1) := by decide +kernel
theorem dX1_init_10 : decode cX1_init 10 = .ok (.iconst 0, 1) := by decide +kernel
theorem dX1_init_11 : decode cX1_init 11 = .ok (.putfield 15, 3) := by decide +kernel
theorem dX1_init_14 : decode cX1_init 14 = .ok (.aload_n 0, 1) := by decide +kernel
theorem dX1_init_15 : decode cX1_init 15 = .ok (.iconst 0, 1) := by decide +kernel
theorem dX1_init_16 : decode cX1_init 16 = .ok (.putfield 18, 3) := by decide +kernel
theorem dX1_init_19 : decode cX1_init 19 = .ok (.aload_n 0, 1) := by decide +kernel
theorem dX1_init_20 : decode cX1_init 20 = .ok (.iconst 0, 1) := by decide +kernel
theorem dX1_init_21 : decode cX1_init 21 = .ok (.putfield 21, 3) := by decide +kernel
theorem dX1_init_24 : decode cX1_init 24 = .ok (.aload_n 0, 1) := by decide +kernel
theorem dX1_init_25 : decode cX1_init 25 = .ok (.iconst 0, 1) := by decide +kernel
theorem dX1_init_26 : decode cX1_init 26 = .ok (.putfield 25, 3) := by decide +kernel
theorem dX1_init_29 : decode cX1_init 29 = .ok (.aload_n 0, 1) := by decide +kernel
theorem dX1_init_30 : decode cX1_init 30 = .ok (.iconst 0, 1) := by decide +kernel
theorem dX1_init_31 : decode cX1_init 31 = .ok (.putfield 28, 3) := by decide +kernel
theorem dX1_init_34 : decode cX1_init 34 = .ok (.aload_n 0, 1) := by decide +kernel
theorem dX1_init_35 : decode cX1_init 35 = .ok (.iconst (-1), 1) := by decide +kernel
theorem dX1_init_36 : decode cX1_init 36 = .ok (.putfield 31, 3) := by decide +kernel
theorem dX1_init_39 : decode cX1_init 39 = .ok (.aload_n 0, 1) := by decide +kernel
theorem dX1_init_40 : decode cX1_init 40 = .ok (.iconst 0, 1) := by decide +kernel
theorem dX1_init_41 : decode cX1_init 41 = .ok (.putfield 34, 3) := by decide +kernel
theorem dX1_init_44 : decode cX1_init 44 = .ok (.aload_n 0, 1) := by decide +kernel
theorem dX1_init_45 : decode cX1_init 45 = .ok (.iconst 0, 1) := by decide +kernel
theorem dX1_init_46 : decode cX1_init 46 = .ok (.putfield 37, 3) := by decide +kernel
theorem dX1_init_49 : decode cX1_init 49 = .ok (.aload_n 0, 1) := by decide +kernel
theorem dX1_init_50 : decode cX1_init 50 = .ok (.iconst 0, 1) := by decide +kernel
theorem dX1_init_51 : decode cX1_init 51 = .ok (.putfield 40, 3) := by decide +kernel
theorem dX1_init_54 : decode cX1_init 54 = .ok (.aload_n 0, 1) := by decide +kernel
theorem dX1_init_55 : decode cX1_init 55 = .ok (.iconst 0, 1) := by decide +kernel
theorem dX1_init_56 : decode cX1_init 56 = .ok (.putfield 43, 3) := by decide +kernel
theorem dX1_init_59 : decode cX1_init 59 = .ok (.aload_n 0, 1) := by decide +kernel
theorem dX1_init_60 : decode cX1_init 60 = .ok (.aload_n 1, 1) := by decide +kernel
theorem dX1_init_61 : decode cX1_init 61 = .ok (.putfield 46, 3) := by decide +kernel
theorem dX1_init_64 : decode cX1_init 64 = .ok (.aload_n 0, 1) := by decide +kernel
theorem dX1_init_65 : decode cX1_init 65 = .ok (.aload_n 2, 1) := by decide +kernel
theorem dX1_init_66 : decode cX1_init 66 = .ok (.putfield 50, 3) := by decide +kernel
theorem dX1_init_69 : decode cX1_init 69 = .ok (.return_, 1) := by decide +kernel
theorem dX1_startAgain_0 : decode cX1_startAgain 0 = .ok (.aload_n 0, 1) := by decide +kernel
theorem dX1_startAgain_1 : decode cX1_startAgain 1 = .ok (.iconst 0, 1) := by decide +kernel
theorem dX1_startAgain_2 : decode cX1_startAgain 2 = .ok (.putfield 9, 3) := by decide +kernel
theorem dX1_startAgain_5 : decode cX1_startAgain 5 = .ok (.aload_n 0, 1) := by decide +kernel
theorem dX1_startAgain_6 : decode cX1_startAgain 6 = .ok (.iconst 0, 1) := by decide +kernel
theorem dX1_startAgain_7 : decode cX1_startAgain 7 = .ok (.putfield 15, 3) := by decide +kernel
theorem dX1_startAgain_10 : decode cX1_startAgain 10 = .ok (.aload_n 0, 1) := by decide +kernel
theorem dX1_startAgain_11 : decode cX1_startAgain 11 = .ok (.iconst 0, 1) := by decide +kernel
theorem dX1_startAgain_12 : decode cX1_startAgain 12 = .ok (.putfield 18, 3) := by decide +kernel
theorem dX1_startAgain_15 : decode cX1_startAgain 15 = .ok (.aload_n 0, 1) := by decide +kernel
theorem dX1_startAgain_16 : decode cX1_startAgain 16 = .ok (.iconst 0, 1) := by decide +kernel
theorem dX1_startAgain_17 : decode cX1_startAgain 17 = .ok (.putfield 21, 3) := by decide +kernel
theorem dX1_startAgain_20 : decode cX1_startAgain 20 = .ok (.aload_n 0, 1) := by decide +kernel
theorem dX1_startAgain_21 : decode cX1_startAgain 21 = .ok (.iconst 0, 1) := by decide +kernel
theorem dX1_startAgain_22 : decode cX1_startAgain 22 = .ok (.putfield 25, 3) := by decide +kernel
theorem dX1_startAgain_25 : decode cX1_startAgain 25 = .ok (.aload_n 0, 1) := by decide +kernel
theorem dX1_startAgain_26 : decode cX1_startAgain 26 = .ok (.iconst 0, 1) := by decide +kernel
theorem dX1_startAgain_27 : decode cX1_startAgain 27 = .ok (.putfield 28, 3) := by decide +kernel
theorem dX1_startAgain_30 : decode cX1_startAgain 30 = .ok (.return_, 1) := by decide +kernel
theorem dX1_readToken_0 : decode cX1_readToken 0 = .ok (.aload_n 0, 1) := by decide +kernel
theorem dX1_readToken_1 : decode cX1_readToken 1 = .ok (.getfield 9, 3) := by decide +kernel
theorem dX1_readToken_4 : decode cX1_readToken 4 = .ok (.istore_n 1, 1) := by decide +kernel
theorem dX1_readToken_5 : decode cX1_readToken 5 = .ok (.iload_n 1, 1) := by decide +kernel
theorem dX1_readToken_6 : decode cX1_readToken 6 = .ok (.aload_n 0, 1) := by decide +kernel
theorem dX1_readToken_7 : decode cX1_readToken 7 = .ok (.getfield 46, 3) := by decide +kernel
theorem dX1_readToken_10 : decode cX1_readToken 10 = .ok (.invokevirtual 54, 3) := by decide +kernel
theorem dX1_readToken_13 : decode cX1_readToken 13 = .ok (.if_icmp .ge 89, 3) := by decide +kernel
theorem dX1_readToken_16 : decode cX1_readToken 16 = .ok (.aload_n 0, 1) := by decide +kernel
theorem dX1_readToken_17 : decode cX1_readToken 17 = .ok (.getfield 46, 3) := by decide +kernel
theorem dX1_readToken_20 : decode cX1_readToken 20 = .ok (.iload_n 1, 1) := by decide +kernel
theorem dX1_readToken_21 : decode cX1_readToken 21 = .ok (.invokevirtual 60, 3) := by decide +kernel
theorem dX1_readToken_24 : decode cX1_readToken 24 = .ok (.istore_n 2, 1) := by decide +kernel
theorem dX1_readToken_25 : decode cX1_readToken 25 = .ok (.iload_n 2, 1) := by decide +kernel
theorem dX1_readToken_26 : decode cX1_readToken 26 = .ok (.bipush 10, 2) := by decide +kernel
theorem dX1_readToken_28 : decode cX1_readToken 28 = .ok (.if_icmp .ne 13, 3) := by decide +kernel
theorem dX1_readToken_31 : decode cX1_readToken 31 = .ok (.aload_n 0, 1) := by decide +kernel
theorem dX1_readToken_32 : decode cX1_readToken 32 = .ok (.iload_n 1, 1) := by decide +kernel
theorem dX1_readToken_33 : decode cX1_readToken 33 = .ok (.iconst 1, 1) := by decide +kernel
theorem dX1_readToken_34 : decode cX1_readToken 34 = .ok (.iadd, 1) := by decide +kernel
theorem dX1_readToken_35 : decode cX1_readToken 35 = .ok (.invokevirtual 64, 3) := by decide +kernel
theorem dX1_readToken_38 : decode cX1_readToken 38 = .ok (.goto 58, 3) := by decide +kernel
theorem dX1_readToken_41 : decode cX1_readToken 41 = .ok (.iload_n 2, 1) := by decide +kernel
theorem dX1_readToken_42 : decode cX1_readToken 42 = .ok (.bipush 35, 2) := by decide +kernel
theorem dX1_readToken_44 : decode cX1_readToken 44 = .ok (.if_icmp .ne 11, 3) := by decide +kernel
theorem dX1_readToken_47 : decode cX1_readToken 47 = .ok (.aload_n 0, 1) := by decide +kernel
theorem dX1_readToken_48 : decode cX1_readToken 48 = .ok (.iconst 1, 1) := by decide +kernel
theorem dX1_readToken_49 : decode cX1_readToken 49 = .ok (.putfield 21, 3) := by decide +kernel
theorem dX1_readToken_52 : decode cX1_readToken 52 = .ok (.goto 44, 3) := by decide +kernel
theorem dX1_readToken_55 : decode cX1_readToken 55 = .ok (.aload_n 0, 1) := by decide +kernel
theorem dX1_readToken_56 : decode cX1_readToken 56 = .ok (.getfield 21, 3) := by decide +kernel
theorem dX1_readToken_59 : decode cX1_readToken 59 = .ok (.ifCond .ne 18, 3) := by decide +kernel
theorem dX1_readToken_62 : decode cX1_readToken 62 = .ok (.iload_n 2, 1) := by decide +kernel
theorem dX1_readToken_63 : decode cX1_readToken 63 = .ok (.invokestatic 68, 3) := by decide +kernel
theorem dX1_readToken_66 : decode cX1_readToken 66 = .ok (.ifCond .eq 11, 3) := by decide +kernel
theorem dX1_readToken_69 : decode cX1_readToken 69 = .ok (.aload_n 0, 1) := by decide +kernel
theorem dX1_readToken_70 : decode cX1_readToken 70 = .ok (.iload_n 1, 1) := by decide +kernel
theorem dX1_readToken_71 : decode cX1_readToken 71 = .ok (.iload_n 2, 1) := by decide +kernel
theorem dX1_readToken_72 : decode cX1_readToken 72 = .ok (.invokevirtual 72, 3) := by decide +kernel
theorem dX1_readToken_75 : decode cX1_readToken 75 = .ok (.iconst 1, 1) := by decide +kernel
theorem dX1_readToken_76 : decode cX1_readToken 76 = .ok (.ireturn, 1) := by decide +kernel
theorem dX1_readToken_77 : decode cX1_readToken 77 = .ok (.aload_n 0, 1) := by decide +kernel
theorem dX1_readToken_78 : decode cX1_readToken 78 = .ok (.getfield 21, 3) := by decide +kernel
theorem dX1_readToken_81 : decode cX1_readToken 81 = .ok (.ifCond .ne 15, 3) := by decide +kernel
theorem dX1_readToken_84 : decode cX1_readToken 84 = .ok (.iload_n 2, 1) := by decide +kernel
theorem dX1_readToken_85 : decode cX1_readToken 85 = .ok (.bipush 32, 2) := by decide +kernel
theorem dX1_readToken_87 : decode cX1_readToken 87 = .ok (.if_icmp .eq 9, 3) := by decide +kernel
theorem dX1_readToken_90 : decode cX1_readToken 90 = .ok (.aload_n 0, 1) := by decide +kernel
theorem dX1_readToken_91 : decode cX1_readToken 91 = .ok (.iload_n 1, 1) := by decide +kernel
theorem dX1_readToken_92 : decode cX1_readToken 92 = .ok (.iload_n 2, 1) := by decide +kernel
theorem dX1_readToken_93 : decode cX1_readToken 93 = .ok (.invokevirtual 76, 3) := by decide +kernel
theorem dX1_readToken_96 : decode cX1_readToken 96 = .ok (.iinc 1 1, 3) := by decide +kernel
theorem dX1_readToken_99 : decode cX1_readToken 99 = .ok (.goto (-94), 3) := by decide +kernel
theorem dX1_readToken_102 : decode cX1_readToken 102 = .ok (.aload_n 0, 1) := by decide +kernel
theorem dX1_readToken_103 : decode cX1_readToken 103 = .ok (.aload_n 0, 1) := by decide +kernel
theorem dX1_readToken_104 : decode cX1_readToken 104 = .ok (.getfield 46, 3) := by decide +kernel
theorem dX1_readToken_107 : decode cX1_readToken 107 = .ok (.invokevirtual 54, 3) := by decide +kernel
theorem dX1_readToken_110 : decode cX1_readToken 110 = .ok (.putfield 9, 3) := by decide +kernel
theorem dX1_readToken_113 : decode cX1_readToken 113 = .ok (.aload_n 0, 1) := by decide +kernel
theorem dX1_readToken_114 : decode cX1_readToken 114 = .ok (.iconst (-1), 1) := by decide +kernel
theorem dX1_readToken_115 : decode cX1_readToken 115 = .ok (.putfield 31, 3) := by decide +kernel
theorem dX1_readToken_118 : decode cX1_readToken 118 = .ok (.aload_n 0, 1) := by decide +kernel
theorem dX1_readToken_119 : decode cX1_readToken 119 = .ok (.aload_n 0, 1) := by decide +kernel
theorem dX1_readToken_120 : decode cX1_readToken 120 = .ok (.getfield 15, 3) := by decide +kernel
theorem dX1_readToken_123 : decode cX1_readToken 123 = .ok (.putfield 37, 3) := by decide +kernel
theorem dX1_readToken_126 : decode cX1_readToken 126 = .ok (.aload_n 0, 1) := by decide +kernel
theorem dX1_readToken_127 : decode cX1_readToken 127 = .ok (.aload_n 0, 1) := by decide +kernel
theorem dX1_readToken_128 : decode cX1_readToken 128 = .ok (.getfield 9, 3) := by decide +kernel
theorem dX1_readToken_131 : decode cX1_readToken 131 = .ok (.aload_n 0, 1) := by decide +kernel
theorem dX1_readToken_132 : decode cX1_readToken 132 = .ok (.getfield 18, 3) := by decide +kernel
theorem dX1_readToken_135 : decode cX1_readToken 135 = .ok (.isub, 1) := by decide +kernel
theorem dX1_readToken_136 : decode cX1_readToken 136 = .ok (.putfield 40, 3) := by decide +kernel
theorem dX1_readToken_139 : decode cX1_readToken 139 = .ok (.iconst 0, 1) := by decide +kernel
theorem dX1_readToken_140 : decode cX1_readToken 140 = .ok (.ireturn, 1) := by decide +kernel
theorem dX1_beginLine_0 : decode cX1_beginLine 0 = .ok (.aload_n 0, 1) := by decide +kernel
theorem dX1_beginLine_1 : decode cX1_beginLine 1 = .ok (.dup, 1) := by decide +kernel
theorem dX1_beginLine_2 : decode cX1_beginLine 2 = .ok (.getfield 15, 3) := by decide +kernel
theorem dX1_beginLine_5 : decode cX1_beginLine 5 = .ok (.iconst 1, 1) := by decide +kernel
theorem dX1_beginLine_6 : decode cX1_beginLine 6 = .ok (.iadd, 1) := by decide +kernel
theorem dX1_beginLine_7 : decode cX1_beginLine 7 = .ok (.putfield 15, 3) := by decide +kernel
theorem dX1_beginLine_10 : decode cX1_beginLine 10 = .ok (.aload_n 0, 1) := by decide +kernel
theorem dX1_beginLine_11 : decode cX1_beginLine 11 = .ok (.iload_n 1, 1) := by decide +kernel
theorem dX1_beginLine_12 : decode cX1_beginLine 12 = .ok (.putfield 18, 3) := by decide +kernel
theorem dX1_beginLine_15 : decode cX1_beginLine 15 = .ok (.aload_n 0, 1) := by decide +kernel
theorem dX1_beginLine_16 : decode cX1_beginLine 16 = .ok (.iconst 0, 1) := by decide +kernel
theorem dX1_beginLine_17 : decode cX1_beginLine 17 = .ok (.putfield 21, 3) := by decide +kernel
theorem dX1_beginLine_20 : decode cX1_beginLine 20 = .ok (.aload_n 0, 1) := by decide +kernel
theorem dX1_beginLine_21 : decode cX1_beginLine 21 = .ok (.aload_n 0, 1) := by decide +kernel
theorem dX1_beginLine_22 : decode cX1_beginLine 22 = .ok (.getfield 25, 3) := by decide +kernel
theorem dX1_beginLine_25 : decode cX1_beginLine 25 = .ok (.putfield 28, 3) := by decide +kernel
theorem dX1_beginLine_28 : decode cX1_beginLine 28 = .ok (.aload_n 0, 1) := by decide +kernel
theorem dX1_beginLine_29 : decode cX1_beginLine 29 = .ok (.iconst 0, 1) := by decide +kernel
theorem dX1_beginLine_30 : decode cX1_beginLine 30 = .ok (.putfield 25, 3) := by decide +kernel
theorem dX1_beginLine_33 : decode cX1_beginLine 33 = .ok (.return_, 1) := by decide +kernel
theorem dX1_takeOtherByte_0 : decode cX1_takeOtherByte 0 = .ok (.iload_n 2, 1) := by decide +kernel
theorem dX1_takeOtherByte_1 : decode cX1_takeOtherByte 1 = .ok (.bipush 92, 2) := by decide +kernel
theorem dX1_takeOtherByte_3 : decode cX1_takeOtherByte 3 = .ok (.if_icmp .ne 26, 3) := by decide +kernel
theorem dX1_takeOtherByte_6 : decode cX1_takeOtherByte 6 = .ok (.aload_n 0, 1) := by decide +kernel
theorem dX1_takeOtherByte_7 : decode cX1_takeOtherByte 7 = .ok (.getfield 46, 3) := by decide +kernel
theorem dX1_takeOtherByte_10 : decode cX1_takeOtherByte 10 = .ok (.iload_n 1, 1) := by decide +kernel
theorem dX1_takeOtherByte_11 : decode cX1_takeOtherByte 11 = .ok (.iconst 1, 1) := by decide +kernel
theorem dX1_takeOtherByte_12 : decode cX1_takeOtherByte 12 = .ok (.iadd, 1) := by decide +kernel
theorem dX1_takeOtherByte_13 : decode cX1_takeOtherByte 13 = .ok (.invokevirtual 60, 3) := by decide +kernel
theorem dX1_takeOtherByte_16 : decode cX1_takeOtherByte 16 = .ok (.bipush 10, 2) := by decide +kernel
theorem dX1_takeOtherByte_18 : decode cX1_takeOtherByte 18 = .ok (.if_icmp .ne 11, 3) := by decide +kernel
theorem dX1_takeOtherByte_21 : decode cX1_takeOtherByte 21 = .ok (.aload_n 0, 1) := by decide +kernel
theorem dX1_takeOtherByte_22 : decode cX1_takeOtherByte 22 = .ok (.iconst 1, 1) := by decide +kernel
theorem dX1_takeOtherByte_23 : decode cX1_takeOtherByte 23 = .ok (.putfield 25, 3) := by decide +kernel
theorem dX1_takeOtherByte_26 : decode cX1_takeOtherByte 26 = .ok (.goto 21, 3) := by decide +kernel
theorem dX1_takeOtherByte_29 : decode cX1_takeOtherByte 29 = .ok (.aload_n 0, 1) := by decide +kernel
theorem dX1_takeOtherByte_30 : decode cX1_takeOtherByte 30 = .ok (.getfield 50, 3) := by decide +kernel
theorem dX1_takeOtherByte_33 : decode cX1_takeOtherByte 33 = .ok (.iconst 1, 1) := by decide +kernel
theorem dX1_takeOtherByte_34 : decode cX1_takeOtherByte 34 = .ok (.aload_n 0, 1) := by decide +kernel
theorem dX1_takeOtherByte_35 : decode cX1_takeOtherByte 35 = .ok (.getfield 15, 3) := by decide +kernel
theorem dX1_takeOtherByte_38 : decode cX1_takeOtherByte 38 = .ok (.iload_n 1, 1) := by decide +kernel
theorem dX1_takeOtherByte_39 : decode cX1_takeOtherByte 39 = .ok (.aload_n 0, 1) := by decide +kernel
theorem dX1_takeOtherByte_40 : decode cX1_takeOtherByte 40 = .ok (.getfield 18, 3) := by decide +kernel
theorem dX1_takeOtherByte_43 : decode cX1_takeOtherByte 43 = .ok (.isub, 1) := by decide +kernel
theorem dX1_takeOtherByte_44 : decode cX1_takeOtherByte 44 = .ok (.invokevirtual 79, 3) := by decide +kernel
theorem dX1_takeOtherByte_47 : decode cX1_takeOtherByte 47 = .ok (.return_, 1) := by decide +kernel
theorem dX1_startsToken_0 : decode cX1_startsToken 0 = .ok (.iload_n 0, 1) := by decide +kernel
theorem dX1_startsToken_1 : decode cX1_startsToken 1 = .ok (.invokestatic 85, 3) := by decide +kernel
theorem dX1_startsToken_4 : decode cX1_startsToken 4 = .ok (.ifCond .ne 46, 3) := by decide +kernel
theorem dX1_startsToken_7 : decode cX1_startsToken 7 = .ok (.iload_n 0, 1) := by decide +kernel
theorem dX1_startsToken_8 : decode cX1_startsToken 8 = .ok (.invokestatic 88, 3) := by decide +kernel
theorem dX1_startsToken_11 : decode cX1_startsToken 11 = .ok (.ifCond .ne 39, 3) := by decide +kernel
theorem dX1_startsToken_14 : decode cX1_startsToken 14 = .ok (.iload_n 0, 1) := by decide +kernel
theorem dX1_startsToken_15 : decode cX1_startsToken 15 = .ok (.bipush 123, 2) := by decide +kernel
theorem dX1_startsToken_17 : decode cX1_startsToken 17 = .ok (.if_icmp .eq 33, 3) := by decide +kernel
theorem dX1_startsToken_20 : decode cX1_startsToken 20 = .ok (.iload_n 0, 1) := by decide +kernel
theorem dX1_startsToken_21 : decode cX1_startsToken 21 = .ok (.bipush 125, 2) := by decide +kernel
theorem dX1_startsToken_23 : decode cX1_startsToken 23 = .ok (.if_icmp .eq 27, 3) := by decide +kernel
theorem dX1_startsToken_26 : decode cX1_startsToken 26 = .ok (.iload_n 0, 1) := by decide +kernel
theorem dX1_startsToken_27 : decode cX1_startsToken 27 = .ok (.bipush 40, 2) := by decide +kernel
theorem dX1_startsToken_29 : decode cX1_startsToken 29 = .ok (.if_icmp .eq 21, 3) := by decide +kernel
theorem dX1_startsToken_32 : decode cX1_startsToken 32 = .ok (.iload_n 0, 1) := by decide +kernel
theorem dX1_startsToken_33 : decode cX1_startsToken 33 = .ok (.bipush 41, 2) := by decide +kernel
theorem dX1_startsToken_35 : decode cX1_startsToken 35 = .ok (.if_icmp .eq 15, 3) := by decide +kernel
theorem dX1_startsToken_38 : decode cX1_startsToken 38 = .ok (.iload_n 0, 1) := by decide +kernel
theorem dX1_startsToken_39 : decode cX1_startsToken 39 = .ok (.bipush 58, 2) := by decide +kernel
theorem dX1_startsToken_41 : decode cX1_startsToken 41 = .ok (.if_icmp .eq 9, 3) := by decide +kernel
theorem dX1_startsToken_44 : decode cX1_startsToken 44 = .ok (.iload_n 0, 1) := by decide +kernel
theorem dX1_startsToken_45 : decode cX1_startsToken 45 = .ok (.bipush 59, 2) := by decide +kernel
theorem dX1_startsToken_47 : decode cX1_startsToken 47 = .ok (.if_icmp .ne 7, 3) := by decide +kernel
theorem dX1_startsToken_50 : decode cX1_startsToken 50 = .ok (.iconst 1, 1) := by decide +kernel
theorem dX1_startsToken_51 : decode cX1_startsToken 51 = .ok (.goto 4, 3) := by decide +kernel
theorem dX1_startsToken_54 : decode cX1_startsToken 54 = .ok (.iconst 0, 1) := by decide +kernel
theorem dX1_startsToken_55 : decode cX1_startsToken 55 = .ok (.ireturn, 1) := by decide +kernel
theorem dX1_takeToken_0 : decode cX1_takeToken 0 = .ok (.aload_n 0, 1) := by decide +kernel
theorem dX1_takeToken_1 : decode cX1_takeToken 1 = .ok (.iload_n 1, 1) := by decide +kernel
theorem dX1_takeToken_2 : decode cX1_takeToken 2 = .ok (.putfield 34, 3) := by decide +kernel
theorem dX1_takeToken_5 : decode cX1_takeToken 5 = .ok (.aload_n 0, 1) := by decide +kernel
theorem dX1_takeToken_6 : decode cX1_takeToken 6 = .ok (.aload_n 0, 1) := by decide +kernel
theorem dX1_takeToken_7 : decode cX1_takeToken 7 = .ok (.getfield 15, 3) := by decide +kernel
theorem dX1_takeToken_10 : decode cX1_takeToken 10 = .ok (.putfield 37, 3) := by decide +kernel
theorem dX1_takeToken_13 : decode cX1_takeToken 13 = .ok (.aload_n 0, 1) := by decide +kernel
theorem dX1_takeToken_14 : decode cX1_takeToken 14 = .ok (.iload_n 1, 1) := by decide +kernel
theorem dX1_takeToken_15 : decode cX1_takeToken 15 = .ok (.aload_n 0, 1) := by decide +kernel
theorem dX1_takeToken_16 : decode cX1_takeToken 16 = .ok (.getfield 18, 3) := by decide +kernel
theorem dX1_takeToken_19 : decode cX1_takeToken 19 = .ok (.isub, 1) := by decide +kernel
theorem dX1_takeToken_20 : decode cX1_takeToken 20 = .ok (.putfield 40, 3) := by decide +kernel
theorem dX1_takeToken_23 : decode cX1_takeToken 23 = .ok (.aload_n 0, 1) := by decide +kernel
theorem dX1_takeToken_24 : decode cX1_takeToken 24 = .ok (.aload_n 0, 1) := by decide +kernel
theorem dX1_takeToken_25 : decode cX1_takeToken 25 = .ok (.getfield 28, 3) := by decide +kernel
theorem dX1_takeToken_28 : decode cX1_takeToken 28 = .ok (.ifCond .ne 7, 3) := by decide +kernel
theorem dX1_takeToken_31 : decode cX1_takeToken 31 = .ok (.iconst 1, 1) := by decide +kernel
theorem dX1_takeToken_32 : decode cX1_takeToken 32 = .ok (.goto 4, 3) := by decide +kernel
theorem dX1_takeToken_35 : decode cX1_takeToken 35 = .ok (.iconst 0, 1) := by decide +kernel
theorem dX1_takeToken_36 : decode cX1_takeToken 36 = .ok (.putfield 43, 3) := by decide +kernel
theorem dX1_takeToken_39 : decode cX1_takeToken 39 = .ok (.aload_n 0, 1) := by decide +kernel
theorem dX1_takeToken_40 : decode cX1_takeToken 40 = .ok (.iconst 1, 1) := by decide +kernel
theorem dX1_takeToken_41 : decode cX1_takeToken 41 = .ok (.putfield 28, 3) := by decide +kernel
theorem dX1_takeToken_44 : decode cX1_takeToken 44 = .ok (.aload_n 0, 1) := by decide +kernel
theorem dX1_takeToken_45 : decode cX1_takeToken 45 = .ok (.iload_n 2, 1) := by decide +kernel
theorem dX1_takeToken_46 : decode cX1_takeToken 46 = .ok (.invokestatic 85, 3) := by decide +kernel
theorem dX1_takeToken_49 : decode cX1_takeToken 49 = .ok (.ifCond .eq 7, 3) := by decide +kernel
theorem dX1_takeToken_52 : decode cX1_takeToken 52 = .ok (.iconst 2, 1) := by decide +kernel
theorem dX1_takeToken_53 : decode cX1_takeToken 53 = .ok (.goto 15, 3) := by decide +kernel
theorem dX1_takeToken_56 : decode cX1_takeToken 56 = .ok (.iload_n 2, 1) := by decide +kernel
theorem dX1_takeToken_57 : decode cX1_takeToken 57 = .ok (.invokestatic 88, 3) := by decide +kernel
theorem dX1_takeToken_60 : decode cX1_takeToken 60 = .ok (.ifCond .eq 7, 3) := by decide +kernel
theorem dX1_takeToken_63 : decode cX1_takeToken 63 = .ok (.iconst 3, 1) := by decide +kernel
theorem dX1_takeToken_64 : decode cX1_takeToken 64 = .ok (.goto 4, 3) := by decide +kernel
theorem dX1_takeToken_67 : decode cX1_takeToken 67 = .ok (.iload_n 2, 1) := by decide +kernel
theorem dX1_takeToken_68 : decode cX1_takeToken 68 = .ok (.putfield 31, 3) := by decide +kernel
theorem dX1_takeToken_71 : decode cX1_takeToken 71 = .ok (.aload_n 0, 1) := by decide +kernel
theorem dX1_takeToken_72 : decode cX1_takeToken 72 = .ok (.iload_n 1, 1) := by decide +kernel
theorem dX1_takeToken_73 : decode cX1_takeToken 73 = .ok (.iconst 1, 1) := by decide +kernel
theorem dX1_takeToken_74 : decode cX1_takeToken 74 = .ok (.iadd, 1) := by decide +kernel
theorem dX1_takeToken_75 : decode cX1_takeToken 75 = .ok (.putfield 9, 3) := by decide +kernel
theorem dX1_takeToken_78 : decode cX1_takeToken 78 = .ok (.aload_n 0, 1) := by decide +kernel
theorem dX1_takeToken_79 : decode cX1_takeToken 79 = .ok (.getfield 31, 3) := by decide +kernel
theorem dX1_takeToken_82 : decode cX1_takeToken 82 = .ok (.iconst 2, 1) := by decide +kernel
theorem dX1_takeToken_83 : decode cX1_takeToken 83 = .ok (.if_icmp .eq 11, 3) := by decide +kernel
theorem dX1_takeToken_86 : decode cX1_takeToken 86 = .ok (.aload_n 0, 1) := by decide +kernel
theorem dX1_takeToken_87 : decode cX1_takeToken 87 = .ok (.getfield 31, 3) := by decide +kernel
theorem dX1_takeToken_90 : decode cX1_takeToken 90 = .ok (.iconst 3, 1) := by decide +kernel
theorem dX1_takeToken_91 : decode cX1_takeToken 91 = .ok (.if_icmp .ne 25, 3) := by decide +kernel
theorem dX1_takeToken_94 : decode cX1_takeToken 94 = .ok (.aload_n 0, 1) := by decide +kernel
theorem dX1_takeToken_95 : decode cX1_takeToken 95 = .ok (.aload_n 0, 1) := by decide +kernel
theorem dX1_takeToken_96 : decode cX1_takeToken 96 = .ok (.iload_n 1, 1) := by decide +kernel
theorem dX1_takeToken_97 : decode cX1_takeToken 97 = .ok (.aload_n 0, 1) := by decide +kernel
theorem dX1_takeToken_98 : decode cX1_takeToken 98 = .ok (.getfield 31, 3) := by decide +kernel
theorem dX1_takeToken_101 : decode cX1_takeToken 101 = .ok (.iconst 2, 1) := by decide +kernel
theorem dX1_takeToken_102 : decode cX1_takeToken 102 = .ok (.if_icmp .ne 7, 3) := by decide +kernel
theorem dX1_takeToken_105 : decode cX1_takeToken 105 = .ok (.iconst 1, 1) := by decide +kernel
theorem dX1_takeToken_106 : decode cX1_takeToken 106 = .ok (.goto 4, 3) := by decide +kernel
theorem dX1_takeToken_109 : decode cX1_takeToken 109 = .ok (.iconst 0, 1) := by decide +kernel
theorem dX1_takeToken_110 : decode cX1_takeToken 110 = .ok (.invokevirtual 91, 3) := by decide +kernel
theorem dX1_takeToken_113 : decode cX1_takeToken 113 = .ok (.putfield 9, 3) := by decide +kernel
theorem dX1_takeToken_116 : decode cX1_takeToken 116 = .ok (.return_, 1) := by decide +kernel
theorem dX1_endOfRun_0 : decode cX1_endOfRun 0 = .ok (.iload_n 1, 1) := by decide +kernel
theorem dX1_endOfRun_1 : decode cX1_endOfRun 1 = .ok (.istore_n 3, 1) := by decide +kernel
theorem dX1_endOfRun_2 : decode cX1_endOfRun 2 = .ok (.iload_n 3, 1) := by decide +kernel
theorem dX1_endOfRun_3 : decode cX1_endOfRun 3 = .ok (.aload_n 0, 1) := by decide +kernel
theorem dX1_endOfRun_4 : decode cX1_endOfRun 4 = .ok (.getfield 46, 3) := by decide +kernel
theorem dX1_endOfRun_7 : decode cX1_endOfRun 7 = .ok (.invokevirtual 54, 3) := by decide +kernel
theorem dX1_endOfRun_10 : decode cX1_endOfRun 10 = .ok (.if_icmp .ge 41, 3) := by decide +kernel
theorem dX1_endOfRun_13 : decode cX1_endOfRun 13 = .ok (.aload_n 0, 1) := by decide +kernel
theorem dX1_endOfRun_14 : decode cX1_endOfRun 14 = .ok (.getfield 46, 3) := by decide +kernel
theorem dX1_endOfRun_17 : decode cX1_endOfRun 17 = .ok (.iload_n 3, 1) := by decide +kernel
theorem dX1_endOfRun_18 : decode cX1_endOfRun 18 = .ok (.invokevirtual 60, 3) := by decide +kernel
theorem dX1_endOfRun_21 : decode cX1_endOfRun 21 = .ok (.invokestatic 88, 3) := by decide +kernel
theorem dX1_endOfRun_24 : decode cX1_endOfRun 24 = .ok (.ifCond .ne 21, 3) := by decide +kernel
theorem dX1_endOfRun_27 : decode cX1_endOfRun 27 = .ok (.iload_n 2, 1) := by decide +kernel
theorem dX1_endOfRun_28 : decode cX1_endOfRun 28 = .ok (.ifCond .eq 23, 3) := by decide +kernel
theorem dX1_endOfRun_31 : decode cX1_endOfRun 31 = .ok (.aload_n 0, 1) := by decide +kernel
theorem dX1_endOfRun_32 : decode cX1_endOfRun 32 = .ok (.getfield 46, 3) := by decide +kernel
theorem dX1_endOfRun_35 : decode cX1_endOfRun 35 = .ok (.iload_n 3, 1) := by decide +kernel
theorem dX1_endOfRun_36 : decode cX1_endOfRun 36 = .ok (.invokevirtual 60, 3) := by decide +kernel
theorem dX1_endOfRun_39 : decode cX1_endOfRun 39 = .ok (.invokestatic 85, 3) := by decide +kernel
theorem dX1_endOfRun_42 : decode cX1_endOfRun 42 = .ok (.ifCond .eq 9, 3) := by decide +kernel
theorem dX1_endOfRun_45 : decode cX1_endOfRun 45 = .ok (.iinc 3 1, 3) := by decide +kernel
theorem dX1_endOfRun_48 : decode cX1_endOfRun 48 = .ok (.goto (-46), 3) := by decide +kernel
theorem dX1_endOfRun_51 : decode cX1_endOfRun 51 = .ok (.iload_n 3, 1) := by decide +kernel
theorem dX1_endOfRun_52 : decode cX1_endOfRun 52 = .ok (.ireturn, 1) := by decide +kernel
theorem dX1_numberRead_0 : decode cX1_numberRead 0 = .ok (.lconst 0, 1) := by decide +kernel
theorem dX1_numberRead_1 : decode cX1_numberRead 1 = .ok (.lstore_n 1, 1) := by decide +kernel
theorem dX1_numberRead_2 : decode cX1_numberRead 2 = .ok (.aload_n 0, 1) := by decide +kernel
theorem dX1_numberRead_3 : decode cX1_numberRead 3 = .ok (.getfield 34, 3) := by decide +kernel
theorem dX1_numberRead_6 : decode cX1_numberRead 6 = .ok (.istore_n 3, 1) := by decide +kernel
theorem dX1_numberRead_7 : decode cX1_numberRead 7 = .ok (.iload_n 3, 1) := by decide +kernel
theorem dX1_numberRead_8 : decode cX1_numberRead 8 = .ok (.aload_n 0, 1) := by decide +kernel
theorem dX1_numberRead_9 : decode cX1_numberRead 9 = .ok (.getfield 9, 3) := by decide +kernel
theorem dX1_numberRead_12 : decode cX1_numberRead 12 = .ok (.if_icmp .ge 32, 3) := by decide +kernel
theorem dX1_numberRead_15 : decode cX1_numberRead 15 = .ok (.lload_n 1, 1) := by decide +kernel
theorem dX1_numberRead_16 : decode cX1_numberRead 16 = .ok (.ldc2_w 95, 3) := by decide +kernel
theorem dX1_numberRead_19 : decode cX1_numberRead 19 = .ok (.lmul, 1) := by decide +kernel
theorem dX1_numberRead_20 : decode cX1_numberRead 20 = .ok (.aload_n 0, 1) := by decide +kernel
theorem dX1_numberRead_21 : decode cX1_numberRead 21 = .ok (.getfield 46, 3) := by decide +kernel
theorem dX1_numberRead_24 : decode cX1_numberRead 24 = .ok (.iload_n 3, 1) := by decide +kernel
theorem dX1_numberRead_25 : decode cX1_numberRead 25 = .ok (.invokevirtual 60, 3) := by decide +kernel
theorem dX1_numberRead_28 : decode cX1_numberRead 28 = .ok (.bipush 48, 2) := by decide +kernel
theorem dX1_numberRead_30 : decode cX1_numberRead 30 = .ok (.isub, 1) := by decide +kernel
theorem dX1_numberRead_31 : decode cX1_numberRead 31 = .ok (.i2l, 1) := by decide +kernel
theorem dX1_numberRead_32 : decode cX1_numberRead 32 = .ok (.ladd, 1) := by decide +kernel
theorem dX1_numberRead_33 : decode cX1_numberRead 33 = .ok (.ldc2_w 97, 3) := by decide +kernel
theorem dX1_numberRead_36 : decode cX1_numberRead 36 = .ok (.lrem, 1) := by decide +kernel
theorem dX1_numberRead_37 : decode cX1_numberRead 37 = .ok (.lstore_n 1, 1) := by decide +kernel
theorem dX1_numberRead_38 : decode cX1_numberRead 38 = .ok (.iinc 3 1, 3) := by decide +kernel
theorem dX1_numberRead_41 : decode cX1_numberRead 41 = .ok (.goto (-34), 3) := by decide +kernel
theorem dX1_numberRead_44 : decode cX1_numberRead 44 = .ok (.lload_n 1, 1) := by decide +kernel
theorem dX1_numberRead_45 : decode cX1_numberRead 45 = .ok (.l2i, 1) := by decide +kernel
theorem dX1_numberRead_46 : decode cX1_numberRead 46 = .ok (.ireturn, 1) := by decide +kernel
theorem dX2_init_0 : decode cX2_init 0 = .ok (.aload_n 0, 1) := by decide +kernel
theorem dX2_init_1 : decode cX2_init 1 = .ok (.invokespecial 3, 3) := by decide +kernel
theorem dX2_init_4 : decode cX2_init 4 = .ok (.aload_n 0, 1) := by decide +kernel
theorem dX2_init_5 : decode cX2_init 5 = .ok (.new 9, 3) := by decide +kernel
theorem dX2_init_8 : decode cX2_init 8 = .ok (.dup, 1) := by decide +kernel
theorem dX2_init_9 : decode cX2_init 9 = .ok (.invokespecial 11, 3) := by decide +kernel
theorem dX2_init_12 : decode cX2_init 12 = .ok (.putfield 12, 3) := by decide +kernel
theorem dX2_init_15 : decode cX2_init 15 = .ok (.aload_n 0, 1) := by decide +kernel
theorem dX2_init_16 : decode cX2_init 16 = .ok (.aload_n 1, 1) := by decide +kernel
theorem dX2_init_17 : decode cX2_init 17 = .ok (.putfield 18, 3) := by decide +kernel
theorem dX2_init_20 : decode cX2_init 20 = .ok (.return_, 1) := by decide +kernel
theorem dX2_size_0 : decode cX2_size 0 = .ok (.aload_n 0, 1) := by decide +kernel
theorem dX2_size_1 : decode cX2_size 1 = .ok (.getfield 12, 3) := by decide +kernel
theorem dX2_size_4 : decode cX2_size 4 = .ok (.invokevirtual 22, 3) := by decide +kernel
theorem dX2_size_7 : decode cX2_size 7 = .ok (.ireturn, 1) := by decide +kernel
theorem dX2_get_0 : decode cX2_get 0 = .ok (.aload_n 0, 1) := by decide +kernel
theorem dX2_get_1 : decode cX2_get 1 = .ok (.getfield 12, 3) := by decide +kernel
theorem dX2_get_4 : decode cX2_get 4 = .ok (.iload_n 1, 1) := by decide +kernel
theorem dX2_get_5 : decode cX2_get 5 = .ok (.invokevirtual 26, 3) := by decide +kernel
theorem dX2_get_8 : decode cX2_get 8 = .ok (.ireturn, 1) := by decide +kernel
theorem dX2_startAgain_0 : decode cX2_startAgain 0 = .ok (.aload_n 0, 1) := by decide +kernel
theorem dX2_startAgain_1 : decode cX2_startAgain 1 = .ok (.getfield 12, 3) := by decide +kernel
theorem dX2_startAgain_4 : decode cX2_startAgain 4 = .ok (.iconst 0, 1) := by decide +kernel
theorem dX2_startAgain_5 : decode cX2_startAgain 5 = .ok (.invokevirtual 30, 3) := by decide +kernel
theorem dX2_startAgain_8 : decode cX2_startAgain 8 = .ok (.return_, 1) := by decide +kernel
theorem dX2_printItems_0 : decode cX2_printItems 0 = .ok (.iconst 1, 1) := by decide +kernel
theorem dX2_printItems_1 : decode cX2_printItems 1 = .ok (.istore_n 1, 1) := by decide +kernel
theorem dX2_printItems_2 : decode cX2_printItems 2 = .ok (.iload_n 1, 1) := by decide +kernel
theorem dX2_printItems_3 : decode cX2_printItems 3 = .ok (.aload_n 0, 1) := by decide +kernel
theorem dX2_printItems_4 : decode cX2_printItems 4 = .ok (.getfield 18, 3) := by decide +kernel
theorem dX2_printItems_7 : decode cX2_printItems 7 = .ok (.invokevirtual 34, 3) := by decide +kernel
theorem dX2_printItems_10 : decode cX2_printItems 10 = .ok (.if_icmp .ge 45, 3) := by decide +kernel
theorem dX2_printItems_13 : decode cX2_printItems 13 = .ok (.aload_n 0, 1) := by decide +kernel
theorem dX2_printItems_14 : decode cX2_printItems 14 = .ok (.getfield 18, 3) := by decide +kernel
theorem dX2_printItems_17 : decode cX2_printItems 17 = .ok (.iload_n 1, 1) := by decide +kernel
theorem dX2_printItems_18 : decode cX2_printItems 18 = .ok (.iconst 1, 1) := by decide +kernel
theorem dX2_printItems_19 : decode cX2_printItems 19 = .ok (.invokevirtual 37, 3) := by decide +kernel
theorem dX2_printItems_22 : decode cX2_printItems 22 = .ok (.iconst 1, 1) := by decide +kernel
theorem dX2_printItems_23 : decode cX2_printItems 23 = .ok (.if_icmp .ne 26, 3) := by decide +kernel
theorem dX2_printItems_26 : decode cX2_printItems 26 = .ok (.aload_n 0, 1) := by decide +kernel
theorem dX2_printItems_27 : decode cX2_printItems 27 = .ok (.iload_n 1, 1) := by decide +kernel
theorem dX2_printItems_28 : decode cX2_printItems 28 = .ok (.aload_n 0, 1) := by decide +kernel
theorem dX2_printItems_29 : decode cX2_printItems 29 = .ok (.getfield 18, 3) := by decide +kernel
theorem dX2_printItems_32 : decode cX2_printItems 32 = .ok (.iload_n 1, 1) := by decide +kernel
theorem dX2_printItems_33 : decode cX2_printItems 33 = .ok (.invokevirtual 41, 3) := by decide +kernel
theorem dX2_printItems_36 : decode cX2_printItems 36 = .ok (.iconst 0, 1) := by decide +kernel
theorem dX2_printItems_37 : decode cX2_printItems 37 = .ok (.invokevirtual 44, 3) := by decide +kernel
theorem dX2_printItems_40 : decode cX2_printItems 40 = .ok (.aload_n 0, 1) := by decide +kernel
theorem dX2_printItems_41 : decode cX2_printItems 41 = .ok (.getfield 12, 3) := by decide +kernel
theorem dX2_printItems_44 : decode cX2_printItems 44 = .ok (.bipush 10, 2) := by decide +kernel
theorem dX2_printItems_46 : decode cX2_printItems 46 = .ok (.invokevirtual 48, 3) := by decide +kernel
theorem dX2_printItems_49 : decode cX2_printItems 49 = .ok (.iinc 1 1, 3) := by decide +kernel
theorem dX2_printItems_52 : decode cX2_printItems 52 = .ok (.goto (-50), 3) := by decide +kernel
theorem dX2_printItems_55 : decode cX2_printItems 55 = .ok (.return_, 1) := by decide +kernel
theorem dX2_printLines_0 : decode cX2_printLines 0 = .ok (.iload_n 2, 1) := by decide +kernel
theorem dX2_printLines_1 : decode cX2_printLines 1 = .ok (.bipush 40, 2) := by decide +kernel
theorem dX2_printLines_3 : decode cX2_printLines 3 = .ok (.if_icmp .le 4, 3) := by decide +kernel
theorem dX2_printLines_6 : decode cX2_printLines 6 = .ok (.return_, 1) := by decide +kernel
theorem dX2_printLines_7 : decode cX2_printLines 7 = .ok (.aload_n 0, 1) := by decide +kernel
theorem dX2_printLines_8 : decode cX2_printLines 8 = .ok (.getfield 18, 3) := by decide +kernel
theorem dX2_printLines_11 : decode cX2_printLines 11 = .ok (.iload_n 1, 1) := by decide +kernel
theorem dX2_printLines_12 : decode cX2_printLines 12 = .ok (.invokevirtual 41, 3) := by decide +kernel
theorem dX2_printLines_15 : decode cX2_printLines 15 = .ok (.istore_n 3, 1) := by decide +kernel
theorem dX2_printLines_16 : decode cX2_printLines 16 = .ok (.aload_n 0, 1) := by decide +kernel
theorem dX2_printLines_17 : decode cX2_printLines 17 = .ok (.getfield 18, 3) := by decide +kernel
theorem dX2_printLines_20 : decode cX2_printLines 20 = .ok (.iload_n 1, 1) := by decide +kernel
theorem dX2_printLines_21 : decode cX2_printLines 21 = .ok (.iconst 1, 1) := by decide +kernel
theorem dX2_printLines_22 : decode cX2_printLines 22 = .ok (.invokevirtual 37, 3) := by decide +kernel
theorem dX2_printLines_25 : decode cX2_printLines 25 = .ok (.iconst 1, 1) := by decide +kernel
theorem dX2_printLines_26 : decode cX2_printLines 26 = .ok (.iadd, 1) := by decide +kernel
theorem dX2_printLines_27 : decode cX2_printLines 27 = .ok (.istore 4, 2) := by decide +kernel
theorem dX2_printLines_29 : decode cX2_printLines 29 = .ok (.iload_n 1, 1) := by decide +kernel
theorem dX2_printLines_30 : decode cX2_printLines 30 = .ok (.iconst 1, 1) := by decide +kernel
theorem dX2_printLines_31 : decode cX2_printLines 31 = .ok (.iadd, 1) := by decide +kernel
theorem dX2_printLines_32 : decode cX2_printLines 32 = .ok (.istore 5, 2) := by decide +kernel
theorem dX2_printLines_34 : decode cX2_printLines 34 = .ok (.iload 5, 2) := by decide +kernel
theorem dX2_printLines_36 : decode cX2_printLines 36 = .ok (.iload_n 3, 1) := by decide +kernel
theorem dX2_printLines_37 : decode cX2_printLines 37 = .ok (.if_icmp .ge 31, 3) := by decide +kernel
theorem dX2_printLines_40 : decode cX2_printLines 40 = .ok (.aload_n 0, 1) := by decide +kernel
theorem dX2_printLines_41 : decode cX2_printLines 41 = .ok (.getfield 18, 3) := by decide +kernel
theorem dX2_printLines_44 : decode cX2_printLines 44 = .ok (.iload 5, 2) := by decide +kernel
theorem dX2_printLines_46 : decode cX2_printLines 46 = .ok (.iconst 1, 1) := by decide +kernel
theorem dX2_printLines_47 : decode cX2_printLines 47 = .ok (.invokevirtual 37, 3) := by decide +kernel
theorem dX2_printLines_50 : decode cX2_printLines 50 = .ok (.iload 4, 2) := by decide +kernel
theorem dX2_printLines_52 : decode cX2_printLines 52 = .ok (.if_icmp .ne 10, 3) := by decide +kernel
theorem dX2_printLines_55 : decode cX2_printLines 55 = .ok (.aload_n 0, 1) := by decide +kernel
theorem dX2_printLines_56 : decode cX2_printLines 56 = .ok (.iload 5, 2) := by decide +kernel
theorem dX2_printLines_58 : decode cX2_printLines 58 = .ok (.iload_n 2, 1) := by decide +kernel
theorem dX2_printLines_59 : decode cX2_printLines 59 = .ok (.invokevirtual 51, 3) := by decide +kernel
theorem dX2_printLines_62 : decode cX2_printLines 62 = .ok (.iinc 5 1, 3) := by decide +kernel
theorem dX2_printLines_65 : decode cX2_printLines 65 = .ok (.goto (-31), 3) := by decide +kernel
theorem dX2_printLines_68 : decode cX2_printLines 68 = .ok (.return_, 1) := by decide +kernel
theorem dX2_printLinesOfItem_0 : decode cX2_printLinesOfItem 0 = .ok (.iconst 0, 1) := by decide +kernel
theorem dX2_printLinesOfItem_1 : decode cX2_printLinesOfItem 1 = .ok (.istore_n 3, 1) := by decide +kernel
theorem dX2_printLinesOfItem_2 : decode cX2_printLinesOfItem 2 = .ok (.iload_n 3, 1) := by decide +kernel
theorem dX2_printLinesOfItem_3 : decode cX2_printLinesOfItem 3 = .ok (.iload_n 2, 1) := by decide +kernel
theorem dX2_printLinesOfItem_4 : decode cX2_printLinesOfItem 4 = .ok (.if_icmp .ge 27, 3) := by decide +kernel
theorem dX2_printLinesOfItem_7 : decode cX2_printLinesOfItem 7 = .ok (.aload_n 0, 1) := by decide +kernel
theorem dX2_printLinesOfItem_8 : decode cX2_printLinesOfItem 8 = .ok (.getfield 12, 3) := by decide +kernel
theorem dX2_printLinesOfItem_11 : decode cX2_printLinesOfItem 11 = .ok (.bipush 32, 2) := by decide +kernel
theorem dX2_printLinesOfItem_13 : decode cX2_printLinesOfItem 13 = .ok (.invokevirtual 48, 3) := by decide +kernel
theorem dX2_printLinesOfItem_16 : decode cX2_printLinesOfItem 16 = .ok (.aload_n 0, 1) := by decide +kernel
theorem dX2_printLinesOfItem_17 : decode cX2_printLinesOfItem 17 = .ok (.getfield 12, 3) := by decide +kernel
theorem dX2_printLinesOfItem_20 : decode cX2_printLinesOfItem 20 = .ok (.bipush 32, 2) := by decide +kernel
theorem dX2_printLinesOfItem_22 : decode cX2_printLinesOfItem 22 = .ok (.invokevirtual 48, 3) := by decide +kernel
theorem dX2_printLinesOfItem_25 : decode cX2_printLinesOfItem 25 = .ok (.iinc 3 1, 3) := by decide +kernel
theorem dX2_printLinesOfItem_28 : decode cX2_printLinesOfItem 28 = .ok (.goto (-26), 3) := by decide +kernel
theorem dX2_printLinesOfItem_31 : decode cX2_printLinesOfItem 31 = .ok (.aload_n 0, 1) := by decide +kernel
theorem dX2_printLinesOfItem_32 : decode cX2_printLinesOfItem 32 = .ok (.getfield 18, 3) := by decide +kernel
theorem dX2_printLinesOfItem_35 : decode cX2_printLinesOfItem 35 = .ok (.iload_n 1, 1) := by decide +kernel
theorem dX2_printLinesOfItem_36 : decode cX2_printLinesOfItem 36 = .ok (.invokevirtual 55, 3) := by decide +kernel
theorem dX2_printLinesOfItem_39 : decode cX2_printLinesOfItem 39 = .ok (.istore_n 3, 1) := by decide +kernel
theorem dX2_printLinesOfItem_40 : decode cX2_printLinesOfItem 40 = .ok (.aload_n 0, 1) := by decide +kernel
theorem dX2_printLinesOfItem_41 : decode cX2_printLinesOfItem 41 = .ok (.getfield 18, 3) := by decide +kernel
theorem dX2_printLinesOfItem_44 : decode cX2_printLinesOfItem 44 = .ok (.iload_n 3, 1) := by decide +kernel
theorem dX2_printLinesOfItem_45 : decode cX2_printLinesOfItem 45 = .ok (.iconst 0, 1) := by decide +kernel
theorem dX2_printLinesOfItem_46 : decode cX2_printLinesOfItem 46 = .ok (.invokevirtual 58, 3) := by decide +kernel
theorem dX2_printLinesOfItem_49 : decode cX2_printLinesOfItem 49 = .ok (.istore 4, 2) := by decide +kernel
theorem dX2_printLinesOfItem_51 : decode cX2_printLinesOfItem 51 = .ok (.aload_n 0, 1) := by decide +kernel
theorem dX2_printLinesOfItem_52 : decode cX2_printLinesOfItem 52 = .ok (.iload_n 1, 1) := by decide +kernel
theorem dX2_printLinesOfItem_53 : decode cX2_printLinesOfItem 53 = .ok (.iload 4, 2) := by decide +kernel
theorem dX2_printLinesOfItem_55 : decode cX2_printLinesOfItem 55 = .ok (.ifCond .eq 7, 3) := by decide +kernel
theorem dX2_printLinesOfItem_58 : decode cX2_printLinesOfItem 58 = .ok (.iload_n 3, 1) := by decide +kernel
theorem dX2_printLinesOfItem_59 : decode cX2_printLinesOfItem 59 = .ok (.goto 11, 3) := by decide +kernel
theorem dX2_printLinesOfItem_62 : decode cX2_printLinesOfItem 62 = .ok (.aload_n 0, 1) := by decide +kernel
theorem dX2_printLinesOfItem_63 : decode cX2_printLinesOfItem 63 = .ok (.getfield 18, 3) := by decide +kernel
theorem dX2_printLinesOfItem_66 : decode cX2_printLinesOfItem 66 = .ok (.iload_n 1, 1) := by decide +kernel
theorem dX2_printLinesOfItem_67 : decode cX2_printLinesOfItem 67 = .ok (.invokevirtual 41, 3) := by decide +kernel
theorem dX2_printLinesOfItem_70 : decode cX2_printLinesOfItem 70 = .ok (.iload_n 2, 1) := by decide +kernel
theorem dX2_printLinesOfItem_71 : decode cX2_printLinesOfItem 71 = .ok (.invokevirtual 44, 3) := by decide +kernel
theorem dX2_printLinesOfItem_74 : decode cX2_printLinesOfItem 74 = .ok (.iload 4, 2) := by decide +kernel
theorem dX2_printLinesOfItem_76 : decode cX2_printLinesOfItem 76 = .ok (.ifCond .eq 12, 3) := by decide +kernel
theorem dX2_printLinesOfItem_79 : decode cX2_printLinesOfItem 79 = .ok (.aload_n 0, 1) := by decide +kernel
theorem dX2_printLinesOfItem_80 : decode cX2_printLinesOfItem 80 = .ok (.getfield 12, 3) := by decide +kernel
theorem dX2_printLinesOfItem_83 : decode cX2_printLinesOfItem 83 = .ok (.bipush 58, 2) := by decide +kernel
theorem dX2_printLinesOfItem_85 : decode cX2_printLinesOfItem 85 = .ok (.invokevirtual 48, 3) := by decide +kernel
theorem dX2_printLinesOfItem_88 : decode cX2_printLinesOfItem 88 = .ok (.aload_n 0, 1) := by decide +kernel
theorem dX2_printLinesOfItem_89 : decode cX2_printLinesOfItem 89 = .ok (.getfield 12, 3) := by decide +kernel
theorem dX2_printLinesOfItem_92 : decode cX2_printLinesOfItem 92 = .ok (.bipush 10, 2) := by decide +kernel
theorem dX2_printLinesOfItem_94 : decode cX2_printLinesOfItem 94 = .ok (.invokevirtual 48, 3) := by decide +kernel
theorem dX2_printLinesOfItem_97 : decode cX2_printLinesOfItem 97 = .ok (.iload 4, 2) := by decide +kernel
theorem dX2_printLinesOfItem_99 : decode cX2_printLinesOfItem 99 = .ok (.ifCond .eq 11, 3) := by decide +kernel
theorem dX2_printLinesOfItem_102 : decode cX2_printLinesOfItem 102 = .ok (.aload_n 0, 1) := by decide +kernel
theorem dX2_printLinesOfItem_103 : decode cX2_printLinesOfItem 103 = .ok (.iload_n 3, 1) := by decide +kernel
theorem dX2_printLinesOfItem_104 : decode cX2_printLinesOfItem 104 = .ok (.iload_n 2, 1) := by decide +kernel
theorem dX2_printLinesOfItem_105 : decode cX2_printLinesOfItem 105 = .ok (.iconst 1, 1) := by decide +kernel
theorem dX2_printLinesOfItem_106 : decode cX2_printLinesOfItem 106 = .ok (.iadd, 1) := by decide +kernel
theorem dX2_printLinesOfItem_107 : decode cX2_printLinesOfItem 107 = .ok (.invokevirtual 62, 3) := by decide +kernel
theorem dX2_printLinesOfItem_110 : decode cX2_printLinesOfItem 110 = .ok (.return_, 1) := by decide +kernel
theorem dX2_printParts_0 : decode cX2_printParts 0 = .ok (.iload_n 3, 1) := by decide +kernel
theorem dX2_printParts_1 : decode cX2_printParts 1 = .ok (.bipush 40, 2) := by decide +kernel
theorem dX2_printParts_3 : decode cX2_printParts 3 = .ok (.if_icmp .le 4, 3) := by decide +kernel
theorem dX2_printParts_6 : decode cX2_printParts 6 = .ok (.return_, 1) := by decide +kernel
theorem dX2_printParts_7 : decode cX2_printParts 7 = .ok (.aload_n 0, 1) := by decide +kernel
theorem dX2_printParts_8 : decode cX2_printParts 8 = .ok (.getfield 18, 3) := by decide +kernel
theorem dX2_printParts_11 : decode cX2_printParts 11 = .ok (.iload_n 1, 1) := by decide +kernel
theorem dX2_printParts_12 : decode cX2_printParts 12 = .ok (.iconst 1, 1) := by decide +kernel
theorem dX2_printParts_13 : decode cX2_printParts 13 = .ok (.invokevirtual 37, 3) := by decide +kernel
theorem dX2_printParts_16 : decode cX2_printParts 16 = .ok (.iconst 1, 1) := by decide +kernel
theorem dX2_printParts_17 : decode cX2_printParts 17 = .ok (.iadd, 1) := by decide +kernel
theorem dX2_printParts_18 : decode cX2_printParts 18 = .ok (.istore 4, 2) := by decide +kernel
theorem dX2_printParts_20 : decode cX2_printParts 20 = .ok (.iload_n 1, 1) := by decide +kernel
theorem dX2_printParts_21 : decode cX2_printParts 21 = .ok (.iconst 1, 1) := by decide +kernel
theorem dX2_printParts_22 : decode cX2_printParts 22 = .ok (.iadd, 1) := by decide +kernel
theorem dX2_printParts_23 : decode cX2_printParts 23 = .ok (.istore 5, 2) := by decide +kernel
theorem dX2_printParts_25 : decode cX2_printParts 25 = .ok (.iload 5, 2) := by decide +kernel
theorem dX2_printParts_27 : decode cX2_printParts 27 = .ok (.iload_n 2, 1) := by decide +kernel
theorem dX2_printParts_28 : decode cX2_printParts 28 = .ok (.if_icmp .ge 61, 3) := by decide +kernel
theorem dX2_printParts_31 : decode cX2_printParts 31 = .ok (.aload_n 0, 1) := by decide +kernel
theorem dX2_printParts_32 : decode cX2_printParts 32 = .ok (.getfield 18, 3) := by decide +kernel
theorem dX2_printParts_35 : decode cX2_printParts 35 = .ok (.iload 5, 2) := by decide +kernel
theorem dX2_printParts_37 : decode cX2_printParts 37 = .ok (.iconst 1, 1) := by decide +kernel
theorem dX2_printParts_38 : decode cX2_printParts 38 = .ok (.invokevirtual 37, 3) := by decide +kernel
theorem dX2_printParts_41 : decode cX2_printParts 41 = .ok (.iload 4, 2) := by decide +kernel
theorem dX2_printParts_43 : decode cX2_printParts 43 = .ok (.if_icmp .ne 40, 3) := by decide +kernel
theorem dX2_printParts_46 : decode cX2_printParts 46 = .ok (.iload 5, 2) := by decide +kernel
theorem dX2_printParts_48 : decode cX2_printParts 48 = .ok (.iload_n 1, 1) := by decide +kernel
theorem dX2_printParts_49 : decode cX2_printParts 49 = .ok (.iconst 1, 1) := by decide +kernel
theorem dX2_printParts_50 : decode cX2_printParts 50 = .ok (.iadd, 1) := by decide +kernel
theorem dX2_printParts_51 : decode cX2_printParts 51 = .ok (.if_icmp .le 25, 3) := by decide +kernel
theorem dX2_printParts_54 : decode cX2_printParts 54 = .ok (.aload_n 0, 1) := by decide +kernel
theorem dX2_printParts_55 : decode cX2_printParts 55 = .ok (.getfield 18, 3) := by decide +kernel
theorem dX2_printParts_58 : decode cX2_printParts 58 = .ok (.iload 5, 2) := by decide +kernel
theorem dX2_printParts_60 : decode cX2_printParts 60 = .ok (.iconst 0, 1) := by decide +kernel
theorem dX2_printParts_61 : decode cX2_printParts 61 = .ok (.invokevirtual 58, 3) := by decide +kernel
theorem dX2_printParts_64 : decode cX2_printParts 64 = .ok (.ifCond .ne 12, 3) := by decide +kernel
theorem dX2_printParts_67 : decode cX2_printParts 67 = .ok (.aload_n 0, 1) := by decide +kernel
theorem dX2_printParts_68 : decode cX2_printParts 68 = .ok (.getfield 12, 3) := by decide +kernel
theorem dX2_printParts_71 : decode cX2_printParts 71 = .ok (.bipush 32, 2) := by decide +kernel
theorem dX2_printParts_73 : decode cX2_printParts 73 = .ok (.invokevirtual 48, 3) := by decide +kernel
theorem dX2_printParts_76 : decode cX2_printParts 76 = .ok (.aload_n 0, 1) := by decide +kernel
theorem dX2_printParts_77 : decode cX2_printParts 77 = .ok (.iload 5, 2) := by decide +kernel
theorem dX2_printParts_79 : decode cX2_printParts 79 = .ok (.iload_n 3, 1) := by decide +kernel
theorem dX2_printParts_80 : decode cX2_printParts 80 = .ok (.invokevirtual 65, 3) := by decide +kernel
theorem dX2_printParts_83 : decode cX2_printParts 83 = .ok (.iinc 5 1, 3) := by decide +kernel
theorem dX2_printParts_86 : decode cX2_printParts 86 = .ok (.goto (-61), 3) := by decide +kernel
theorem dX2_printParts_89 : decode cX2_printParts 89 = .ok (.return_, 1) := by decide +kernel
theorem dX2_printPart_0 : decode cX2_printPart 0 = .ok (.aload_n 0, 1) := by decide +kernel
theorem dX2_printPart_1 : decode cX2_printPart 1 = .ok (.getfield 18, 3) := by decide +kernel
theorem dX2_printPart_4 : decode cX2_printPart 4 = .ok (.iload_n 1, 1) := by decide +kernel
theorem dX2_printPart_5 : decode cX2_printPart 5 = .ok (.iconst 0, 1) := by decide +kernel
theorem dX2_printPart_6 : decode cX2_printPart 6 = .ok (.invokevirtual 37, 3) := by decide +kernel
theorem dX2_printPart_9 : decode cX2_printPart 9 = .ok (.tableswitch 88 2 4 #[27, 35, 51], 27) := by decide +kernel
theorem dX2_printPart_36 : decode cX2_printPart 36 = .ok (.aload_n 0, 1) := by decide +kernel
theorem dX2_printPart_37 : decode cX2_printPart 37 = .ok (.iload_n 1, 1) := by decide +kernel
theorem dX2_printPart_38 : decode cX2_printPart 38 = .ok (.invokevirtual 68, 3) := by decide +kernel
theorem dX2_printPart_41 : decode cX2_printPart 41 = .ok (.goto 64, 3) := by decide +kernel
theorem dX2_printPart_44 : decode cX2_printPart 44 = .ok (.aload_n 0, 1) := by decide +kernel
theorem dX2_printPart_45 : decode cX2_printPart 45 = .ok (.aload_n 0, 1) := by decide +kernel
theorem dX2_printPart_46 : decode cX2_printPart 46 = .ok (.getfield 18, 3) := by decide +kernel
theorem dX2_printPart_49 : decode cX2_printPart 49 = .ok (.iload_n 1, 1) := by decide +kernel
theorem dX2_printPart_50 : decode cX2_printPart 50 = .ok (.iconst 5, 1) := by decide +kernel
theorem dX2_printPart_51 : decode cX2_printPart 51 = .ok (.invokevirtual 37, 3) := by decide +kernel
theorem dX2_printPart_54 : decode cX2_printPart 54 = .ok (.invokevirtual 71, 3) := by decide +kernel
theorem dX2_printPart_57 : decode cX2_printPart 57 = .ok (.goto 48, 3) := by decide +kernel
theorem dX2_printPart_60 : decode cX2_printPart 60 = .ok (.aload_n 0, 1) := by decide +kernel
theorem dX2_printPart_61 : decode cX2_printPart 61 = .ok (.getfield 12, 3) := by decide +kernel
theorem dX2_printPart_64 : decode cX2_printPart 64 = .ok (.bipush 40, 2) := by decide +kernel
theorem dX2_printPart_66 : decode cX2_printPart 66 = .ok (.invokevirtual 48, 3) := by decide +kernel
theorem dX2_printPart_69 : decode cX2_printPart 69 = .ok (.aload_n 0, 1) := by decide +kernel
theorem dX2_printPart_70 : decode cX2_printPart 70 = .ok (.iload_n 1, 1) := by decide +kernel
theorem dX2_printPart_71 : decode cX2_printPart 71 = .ok (.aload_n 0, 1) := by decide +kernel
theorem dX2_printPart_72 : decode cX2_printPart 72 = .ok (.getfield 18, 3) := by decide +kernel
theorem dX2_printPart_75 : decode cX2_printPart 75 = .ok (.iload_n 1, 1) := by decide +kernel
theorem dX2_printPart_76 : decode cX2_printPart 76 = .ok (.invokevirtual 41, 3) := by decide +kernel
theorem dX2_printPart_79 : decode cX2_printPart 79 = .ok (.iload_n 2, 1) := by decide +kernel
theorem dX2_printPart_80 : decode cX2_printPart 80 = .ok (.iconst 1, 1) := by decide +kernel
theorem dX2_printPart_81 : decode cX2_printPart 81 = .ok (.iadd, 1) := by decide +kernel
theorem dX2_printPart_82 : decode cX2_printPart 82 = .ok (.invokevirtual 44, 3) := by decide +kernel
theorem dX2_printPart_85 : decode cX2_printPart 85 = .ok (.aload_n 0, 1) := by decide +kernel
theorem dX2_printPart_86 : decode cX2_printPart 86 = .ok (.getfield 12, 3) := by decide +kernel
theorem dX2_printPart_89 : decode cX2_printPart 89 = .ok (.bipush 41, 2) := by decide +kernel
theorem dX2_printPart_91 : decode cX2_printPart 91 = .ok (.invokevirtual 48, 3) := by decide +kernel
theorem dX2_printPart_94 : decode cX2_printPart 94 = .ok (.goto 11, 3) := by decide +kernel
theorem dX2_printPart_97 : decode cX2_printPart 97 = .ok (.aload_n 0, 1) := by decide +kernel
theorem dX2_printPart_98 : decode cX2_printPart 98 = .ok (.iload_n 1, 1) := by decide +kernel
theorem dX2_printPart_99 : decode cX2_printPart 99 = .ok (.iload_n 2, 1) := by decide +kernel
theorem dX2_printPart_100 : decode cX2_printPart 100 = .ok (.iconst 1, 1) := by decide +kernel
theorem dX2_printPart_101 : decode cX2_printPart 101 = .ok (.iadd, 1) := by decide +kernel
theorem dX2_printPart_102 : decode cX2_printPart 102 = .ok (.invokevirtual 74, 3) := by decide +kernel
theorem dX2_printPart_105 : decode cX2_printPart 105 = .ok (.return_, 1) := by decide +kernel
theorem dX2_printBraces_0 : decode cX2_printBraces 0 = .ok (.aload_n 0, 1) := by decide +kernel
theorem dX2_printBraces_1 : decode cX2_printBraces 1 = .ok (.getfield 12, 3) := by decide +kernel
theorem dX2_printBraces_4 : decode cX2_printBraces 4 = .ok (.bipush 58, 2) := by decide +kernel
theorem dX2_printBraces_6 : decode cX2_printBraces 6 = .ok (.invokevirtual 48, 3) := by decide +kernel
theorem dX2_printBraces_9 : decode cX2_printBraces 9 = .ok (.aload_n 0, 1) := by decide +kernel
theorem dX2_printBraces_10 : decode cX2_printBraces 10 = .ok (.getfield 12, 3) := by decide +kernel
theorem dX2_printBraces_13 : decode cX2_printBraces 13 = .ok (.bipush 32, 2) := by decide +kernel
theorem dX2_printBraces_15 : decode cX2_printBraces 15 = .ok (.invokevirtual 48, 3) := by decide +kernel
theorem dX2_printBraces_18 : decode cX2_printBraces 18 = .ok (.aload_n 0, 1) := by decide +kernel
theorem dX2_printBraces_19 : decode cX2_printBraces 19 = .ok (.getfield 12, 3) := by decide +kernel
theorem dX2_printBraces_22 : decode cX2_printBraces 22 = .ok (.bipush 123, 2) := by decide +kernel
theorem dX2_printBraces_24 : decode cX2_printBraces 24 = .ok (.invokevirtual 48, 3) := by decide +kernel
theorem dX2_printBraces_27 : decode cX2_printBraces 27 = .ok (.aload_n 0, 1) := by decide +kernel
theorem dX2_printBraces_28 : decode cX2_printBraces 28 = .ok (.getfield 18, 3) := by decide +kernel
theorem dX2_printBraces_31 : decode cX2_printBraces 31 = .ok (.iload_n 1, 1) := by decide +kernel
theorem dX2_printBraces_32 : decode cX2_printBraces 32 = .ok (.invokevirtual 41, 3) := by decide +kernel
theorem dX2_printBraces_35 : decode cX2_printBraces 35 = .ok (.istore_n 3, 1) := by decide +kernel
theorem dX2_printBraces_36 : decode cX2_printBraces 36 = .ok (.aload_n 0, 1) := by decide +kernel
theorem dX2_printBraces_37 : decode cX2_printBraces 37 = .ok (.getfield 18, 3) := by decide +kernel
theorem dX2_printBraces_40 : decode cX2_printBraces 40 = .ok (.iload_n 1, 1) := by decide +kernel
theorem dX2_printBraces_41 : decode cX2_printBraces 41 = .ok (.iconst 1, 1) := by decide +kernel
theorem dX2_printBraces_42 : decode cX2_printBraces 42 = .ok (.invokevirtual 37, 3) := by decide +kernel
theorem dX2_printBraces_45 : decode cX2_printBraces 45 = .ok (.iconst 1, 1) := by decide +kernel
theorem dX2_printBraces_46 : decode cX2_printBraces 46 = .ok (.iadd, 1) := by decide +kernel
theorem dX2_printBraces_47 : decode cX2_printBraces 47 = .ok (.istore 4, 2) := by decide +kernel
theorem dX2_printBraces_49 : decode cX2_printBraces 49 = .ok (.iload_n 1, 1) := by decide +kernel
theorem dX2_printBraces_50 : decode cX2_printBraces 50 = .ok (.iconst 1, 1) := by decide +kernel
theorem dX2_printBraces_51 : decode cX2_printBraces 51 = .ok (.iadd, 1) := by decide +kernel
theorem dX2_printBraces_52 : decode cX2_printBraces 52 = .ok (.istore 5, 2) := by decide +kernel
theorem dX2_printBraces_54 : decode cX2_printBraces 54 = .ok (.iload 5, 2) := by decide +kernel
theorem dX2_printBraces_56 : decode cX2_printBraces 56 = .ok (.iload_n 3, 1) := by decide +kernel
theorem dX2_printBraces_57 : decode cX2_printBraces 57 = .ok (.if_icmp .ge 66, 3) := by decide +kernel
theorem dX2_printBraces_60 : decode cX2_printBraces 60 = .ok (.aload_n 0, 1) := by decide +kernel
theorem dX2_printBraces_61 : decode cX2_printBraces 61 = .ok (.getfield 18, 3) := by decide +kernel
theorem dX2_printBraces_64 : decode cX2_printBraces 64 = .ok (.iload 5, 2) := by decide +kernel
theorem dX2_printBraces_66 : decode cX2_printBraces 66 = .ok (.iconst 1, 1) := by decide +kernel
theorem dX2_printBraces_67 : decode cX2_printBraces 67 = .ok (.invokevirtual 37, 3) := by decide +kernel
theorem dX2_printBraces_70 : decode cX2_printBraces 70 = .ok (.iload 4, 2) := by decide +kernel
theorem dX2_printBraces_72 : decode cX2_printBraces 72 = .ok (.if_icmp .ne 45, 3) := by decide +kernel
theorem dX2_printBraces_75 : decode cX2_printBraces 75 = .ok (.iload 5, 2) := by decide +kernel
theorem dX2_printBraces_77 : decode cX2_printBraces 77 = .ok (.iload_n 1, 1) := by decide +kernel
theorem dX2_printBraces_78 : decode cX2_printBraces 78 = .ok (.iconst 1, 1) := by decide +kernel
theorem dX2_printBraces_79 : decode cX2_printBraces 79 = .ok (.iadd, 1) := by decide +kernel
theorem dX2_printBraces_80 : decode cX2_printBraces 80 = .ok (.if_icmp .le 12, 3) := by decide +kernel
theorem dX2_printBraces_83 : decode cX2_printBraces 83 = .ok (.aload_n 0, 1) := by decide +kernel
theorem dX2_printBraces_84 : decode cX2_printBraces 84 = .ok (.getfield 12, 3) := by decide +kernel
theorem dX2_printBraces_87 : decode cX2_printBraces 87 = .ok (.bipush 59, 2) := by decide +kernel
theorem dX2_printBraces_89 : decode cX2_printBraces 89 = .ok (.invokevirtual 48, 3) := by decide +kernel
theorem dX2_printBraces_92 : decode cX2_printBraces 92 = .ok (.aload_n 0, 1) := by decide +kernel
theorem dX2_printBraces_93 : decode cX2_printBraces 93 = .ok (.getfield 12, 3) := by decide +kernel
theorem dX2_printBraces_96 : decode cX2_printBraces 96 = .ok (.bipush 32, 2) := by decide +kernel
theorem dX2_printBraces_98 : decode cX2_printBraces 98 = .ok (.invokevirtual 48, 3) := by decide +kernel
theorem dX2_printBraces_101 : decode cX2_printBraces 101 = .ok (.aload_n 0, 1) := by decide +kernel
theorem dX2_printBraces_102 : decode cX2_printBraces 102 = .ok (.iload 5, 2) := by decide +kernel
theorem dX2_printBraces_104 : decode cX2_printBraces 104 = .ok (.aload_n 0, 1) := by decide +kernel
theorem dX2_printBraces_105 : decode cX2_printBraces 105 = .ok (.getfield 18, 3) := by decide +kernel
theorem dX2_printBraces_108 : decode cX2_printBraces 108 = .ok (.iload 5, 2) := by decide +kernel
theorem dX2_printBraces_110 : decode cX2_printBraces 110 = .ok (.invokevirtual 41, 3) := by decide +kernel
theorem dX2_printBraces_113 : decode cX2_printBraces 113 = .ok (.iload_n 2, 1) := by decide +kernel
theorem dX2_printBraces_114 : decode cX2_printBraces 114 = .ok (.invokevirtual 44, 3) := by decide +kernel
theorem dX2_printBraces_117 : decode cX2_printBraces 117 = .ok (.iinc 5 1, 3) := by decide +kernel
theorem dX2_printBraces_120 : decode cX2_printBraces 120 = .ok (.goto (-66), 3) := by decide +kernel
theorem dX2_printBraces_123 : decode cX2_printBraces 123 = .ok (.aload_n 0, 1) := by decide +kernel
theorem dX2_printBraces_124 : decode cX2_printBraces 124 = .ok (.getfield 12, 3) := by decide +kernel
theorem dX2_printBraces_127 : decode cX2_printBraces 127 = .ok (.bipush 32, 2) := by decide +kernel
theorem dX2_printBraces_129 : decode cX2_printBraces 129 = .ok (.invokevirtual 48, 3) := by decide +kernel
theorem dX2_printBraces_132 : decode cX2_printBraces 132 = .ok (.aload_n 0, 1) := by decide +kernel
theorem dX2_printBraces_133 : decode cX2_printBraces 133 = .ok (.getfield 12, 3) := by decide +kernel
theorem dX2_printBraces_136 : decode cX2_printBraces 136 = .ok (.bipush 125, 2) := by decide +kernel
theorem dX2_printBraces_138 : decode cX2_printBraces 138 = .ok (.invokevirtual 48, 3) := by decide +kernel
theorem dX2_printBraces_141 : decode cX2_printBraces 141 = .ok (.return_, 1) := by decide +kernel
theorem dX2_printWord_0 : decode cX2_printWord 0 = .ok (.aload_n 0, 1) := by decide +kernel
theorem dX2_printWord_1 : decode cX2_printWord 1 = .ok (.getfield 18, 3) := by decide +kernel
theorem dX2_printWord_4 : decode cX2_printWord 4 = .ok (.iload_n 1, 1) := by decide +kernel
theorem dX2_printWord_5 : decode cX2_printWord 5 = .ok (.iconst 5, 1) := by decide +kernel
theorem dX2_printWord_6 : decode cX2_printWord 6 = .ok (.invokevirtual 37, 3) := by decide +kernel
theorem dX2_printWord_9 : decode cX2_printWord 9 = .ok (.istore_n 2, 1) := by decide +kernel
theorem dX2_printWord_10 : decode cX2_printWord 10 = .ok (.iconst 0, 1) := by decide +kernel
theorem dX2_printWord_11 : decode cX2_printWord 11 = .ok (.istore_n 3, 1) := by decide +kernel
theorem dX2_printWord_12 : decode cX2_printWord 12 = .ok (.iload_n 3, 1) := by decide +kernel
theorem dX2_printWord_13 : decode cX2_printWord 13 = .ok (.iload_n 2, 1) := by decide +kernel
theorem dX2_printWord_14 : decode cX2_printWord 14 = .ok (.if_icmp .ge 25, 3) := by decide +kernel
theorem dX2_printWord_17 : decode cX2_printWord 17 = .ok (.aload_n 0, 1) := by decide +kernel
theorem dX2_printWord_18 : decode cX2_printWord 18 = .ok (.getfield 12, 3) := by decide +kernel
theorem dX2_printWord_21 : decode cX2_printWord 21 = .ok (.aload_n 0, 1) := by decide +kernel
theorem dX2_printWord_22 : decode cX2_printWord 22 = .ok (.getfield 18, 3) := by decide +kernel
theorem dX2_printWord_25 : decode cX2_printWord 25 = .ok (.iload_n 1, 1) := by decide +kernel
theorem dX2_printWord_26 : decode cX2_printWord 26 = .ok (.iload_n 3, 1) := by decide +kernel
theorem dX2_printWord_27 : decode cX2_printWord 27 = .ok (.invokevirtual 77, 3) := by decide +kernel
theorem dX2_printWord_30 : decode cX2_printWord 30 = .ok (.invokevirtual 48, 3) := by decide +kernel
theorem dX2_printWord_33 : decode cX2_printWord 33 = .ok (.iinc 3 1, 3) := by decide +kernel
theorem dX2_printWord_36 : decode cX2_printWord 36 = .ok (.goto (-24), 3) := by decide +kernel
theorem dX2_printWord_39 : decode cX2_printWord 39 = .ok (.return_, 1) := by decide +kernel
theorem dX2_printNumber_0 : decode cX2_printNumber 0 = .ok (.ldc 80, 2) := by decide +kernel
theorem dX2_printNumber_2 : decode cX2_printNumber 2 = .ok (.istore_n 2, 1) := by decide +kernel
theorem dX2_printNumber_3 : decode cX2_printNumber 3 = .ok (.iload_n 2, 1) := by decide +kernel
theorem dX2_printNumber_4 : decode cX2_printNumber 4 = .ok (.ifCond .le 37, 3) := by decide +kernel
theorem dX2_printNumber_7 : decode cX2_printNumber 7 = .ok (.iload_n 1, 1) := by decide +kernel
theorem dX2_printNumber_8 : decode cX2_printNumber 8 = .ok (.iload_n 2, 1) := by decide +kernel
theorem dX2_printNumber_9 : decode cX2_printNumber 9 = .ok (.if_icmp .ge 8, 3) := by decide +kernel
theorem dX2_printNumber_12 : decode cX2_printNumber 12 = .ok (.iload_n 2, 1) := by decide +kernel
theorem dX2_printNumber_13 : decode cX2_printNumber 13 = .ok (.iconst 1, 1) := by decide +kernel
theorem dX2_printNumber_14 : decode cX2_printNumber 14 = .ok (.if_icmp .ne 19, 3) := by decide +kernel
theorem dX2_printNumber_17 : decode cX2_printNumber 17 = .ok (.aload_n 0, 1) := by decide +kernel
theorem dX2_printNumber_18 : decode cX2_printNumber 18 = .ok (.getfield 12, 3) := by decide +kernel
theorem dX2_printNumber_21 : decode cX2_printNumber 21 = .ok (.bipush 48, 2) := by decide +kernel
theorem dX2_printNumber_23 : decode cX2_printNumber 23 = .ok (.iload_n 1, 1) := by decide +kernel
theorem dX2_printNumber_24 : decode cX2_printNumber 24 = .ok (.iload_n 2, 1) := by decide +kernel
theorem dX2_printNumber_25 : decode cX2_printNumber 25 = .ok (.idiv, 1) := by decide +kernel
theorem dX2_printNumber_26 : decode cX2_printNumber 26 = .ok (.bipush 10, 2) := by decide +kernel
theorem dX2_printNumber_28 : decode cX2_printNumber 28 = .ok (.irem, 1) := by decide +kernel
theorem dX2_printNumber_29 : decode cX2_printNumber 29 = .ok (.iadd, 1) := by decide +kernel
theorem dX2_printNumber_30 : decode cX2_printNumber 30 = .ok (.invokevirtual 48, 3) := by decide +kernel
theorem dX2_printNumber_33 : decode cX2_printNumber 33 = .ok (.iload_n 2, 1) := by decide +kernel
theorem dX2_printNumber_34 : decode cX2_printNumber 34 = .ok (.bipush 10, 2) := by decide +kernel
theorem dX2_printNumber_36 : decode cX2_printNumber 36 = .ok (.idiv, 1) := by decide +kernel
theorem dX2_printNumber_37 : decode cX2_printNumber 37 = .ok (.istore_n 2, 1) := by decide +kernel
theorem dX2_printNumber_38 : decode cX2_printNumber 38 = .ok (.goto (-35), 3) := by decide +kernel
theorem dX2_printNumber_41 : decode cX2_printNumber 41 = .ok (.return_, 1) := by decide +kernel
theorem dX3_init_0 : decode cX3_init 0 = .ok (.aload_n 0, 1) := by decide +kernel
theorem dX3_init_1 : decode cX3_init 1 = .ok (.invokespecial 1, 3) := by decide +kernel
theorem dX3_init_4 : decode cX3_init 4 = .ok (.aload_n 0, 1) := by decide +kernel
theorem dX3_init_5 : decode cX3_init 5 = .ok (.new 7, 3) := by decide +kernel
theorem dX3_init_8 : decode cX3_init 8 = .ok (.dup, 1) := by decide +kernel
theorem dX3_init_9 : decode cX3_init 9 = .ok (.invokespecial 9, 3) := by decide +kernel
theorem dX3_init_12 : decode cX3_init 12 = .ok (.putfield 10, 3) := by decide +kernel
theorem dX3_init_15 : decode cX3_init 15 = .ok (.aload_n 0, 1) := by decide +kernel
theorem dX3_init_16 : decode cX3_init 16 = .ok (.iconst 0, 1) := by decide +kernel
theorem dX3_init_17 : decode cX3_init 17 = .ok (.putfield 16, 3) := by decide +kernel
theorem dX3_init_20 : decode cX3_init 20 = .ok (.return_, 1) := by decide +kernel
theorem dX3_startAgain_0 : decode cX3_startAgain 0 = .ok (.aload_n 0, 1) := by decide +kernel
theorem dX3_startAgain_1 : decode cX3_startAgain 1 = .ok (.getfield 10, 3) := by decide +kernel
theorem dX3_startAgain_4 : decode cX3_startAgain 4 = .ok (.iconst 0, 1) := by decide +kernel
theorem dX3_startAgain_5 : decode cX3_startAgain 5 = .ok (.invokevirtual 20, 3) := by decide +kernel
theorem dX3_startAgain_8 : decode cX3_startAgain 8 = .ok (.aload_n 0, 1) := by decide +kernel
theorem dX3_startAgain_9 : decode cX3_startAgain 9 = .ok (.iconst 0, 1) := by decide +kernel
theorem dX3_startAgain_10 : decode cX3_startAgain 10 = .ok (.putfield 16, 3) := by decide +kernel
theorem dX3_startAgain_13 : decode cX3_startAgain 13 = .ok (.return_, 1) := by decide +kernel
theorem dX3_size_0 : decode cX3_size 0 = .ok (.aload_n 0, 1) := by decide +kernel
theorem dX3_size_1 : decode cX3_size 1 = .ok (.getfield 16, 3) := by decide +kernel
theorem dX3_size_4 : decode cX3_size 4 = .ok (.ireturn, 1) := by decide +kernel
theorem dX3_get_0 : decode cX3_get 0 = .ok (.aload_n 0, 1) := by decide +kernel
theorem dX3_get_1 : decode cX3_get 1 = .ok (.getfield 10, 3) := by decide +kernel
theorem dX3_get_4 : decode cX3_get 4 = .ok (.iload_n 1, 1) := by decide +kernel
theorem dX3_get_5 : decode cX3_get 5 = .ok (.iconst 3, 1) := by decide +kernel
theorem dX3_get_6 : decode cX3_get 6 = .ok (.imul, 1) := by decide +kernel
theorem dX3_get_7 : decode cX3_get 7 = .ok (.iload_n 2, 1) := by decide +kernel
theorem dX3_get_8 : decode cX3_get 8 = .ok (.iadd, 1) := by decide +kernel
theorem dX3_get_9 : decode cX3_get 9 = .ok (.invokevirtual 24, 3) := by decide +kernel
theorem dX3_get_12 : decode cX3_get 12 = .ok (.ireturn, 1) := by decide +kernel
theorem dX3_add_0 : decode cX3_add 0 = .ok (.aload_n 0, 1) := by decide +kernel
theorem dX3_add_1 : decode cX3_add 1 = .ok (.getfield 10, 3) := by decide +kernel
theorem dX3_add_4 : decode cX3_add 4 = .ok (.iload_n 1, 1) := by decide +kernel
theorem dX3_add_5 : decode cX3_add 5 = .ok (.invokevirtual 28, 3) := by decide +kernel
theorem dX3_add_8 : decode cX3_add 8 = .ok (.aload_n 0, 1) := by decide +kernel
theorem dX3_add_9 : decode cX3_add 9 = .ok (.getfield 10, 3) := by decide +kernel
theorem dX3_add_12 : decode cX3_add 12 = .ok (.iload_n 2, 1) := by decide +kernel
theorem dX3_add_13 : decode cX3_add 13 = .ok (.invokevirtual 28, 3) := by decide +kernel
theorem dX3_add_16 : decode cX3_add 16 = .ok (.aload_n 0, 1) := by decide +kernel
theorem dX3_add_17 : decode cX3_add 17 = .ok (.getfield 10, 3) := by decide +kernel
theorem dX3_add_20 : decode cX3_add 20 = .ok (.iload_n 3, 1) := by decide +kernel
theorem dX3_add_21 : decode cX3_add 21 = .ok (.invokevirtual 28, 3) := by decide +kernel
theorem dX3_add_24 : decode cX3_add 24 = .ok (.aload_n 0, 1) := by decide +kernel
theorem dX3_add_25 : decode cX3_add 25 = .ok (.dup, 1) := by decide +kernel
theorem dX3_add_26 : decode cX3_add 26 = .ok (.getfield 16, 3) := by decide +kernel
theorem dX3_add_29 : decode cX3_add 29 = .ok (.iconst 1, 1) := by decide +kernel
theorem dX3_add_30 : decode cX3_add 30 = .ok (.iadd, 1) := by decide +kernel
theorem dX3_add_31 : decode cX3_add 31 = .ok (.putfield 16, 3) := by decide +kernel
theorem dX3_add_34 : decode cX3_add 34 = .ok (.return_, 1) := by decide +kernel
theorem dX4_init_0 : decode cX4_init 0 = .ok (.aload_n 0, 1) := by decide +kernel
theorem dX4_init_1 : decode cX4_init 1 = .ok (.invokespecial 3, 3) := by decide +kernel
theorem dX4_init_4 : decode cX4_init 4 = .ok (.aload_n 0, 1) := by decide +kernel
theorem dX4_init_5 : decode cX4_init 5 = .ok (.bipush 64, 2) := by decide +kernel
theorem dX4_init_7 : decode cX4_init 7 = .ok (.newarray .int, 2) := by decide +kernel
theorem dX4_init_9 : decode cX4_init 9 = .ok (.putfield 11, 3) := by decide +kernel
theorem dX4_init_12 : decode cX4_init 12 = .ok (.aload_n 0, 1) := by decide +kernel
theorem dX4_init_13 : decode cX4_init 13 = .ok (.iconst 0, 1) := by decide +kernel
theorem dX4_init_14 : decode cX4_init 14 = .ok (.putfield 15, 3) := by decide +kernel
theorem dX4_init_17 : decode cX4_init 17 = .ok (.return_, 1) := by decide +kernel
theorem dX4_size_0 : decode cX4_size 0 = .ok (.aload_n 0, 1) := by decide +kernel
theorem dX4_size_1 : decode cX4_size 1 = .ok (.getfield 15, 3) := by decide +kernel
theorem dX4_size_4 : decode cX4_size 4 = .ok (.ireturn, 1) := by decide +kernel
theorem dX4_at_0 : decode cX4_at 0 = .ok (.iload_n 1, 1) := by decide +kernel
theorem dX4_at_1 : decode cX4_at 1 = .ok (.ifCond .lt 20, 3) := by decide +kernel
theorem dX4_at_4 : decode cX4_at 4 = .ok (.iload_n 1, 1) := by decide +kernel
theorem dX4_at_5 : decode cX4_at 5 = .ok (.aload_n 0, 1) := by decide +kernel
theorem dX4_at_6 : decode cX4_at 6 = .ok (.getfield 15, 3) := by decide +kernel
theorem dX4_at_9 : decode cX4_at 9 = .ok (.if_icmp .ge 12, 3) := by decide +kernel
theorem dX4_at_12 : decode cX4_at 12 = .ok (.aload_n 0, 1) := by decide +kernel
theorem dX4_at_13 : decode cX4_at 13 = .ok (.getfield 11, 3) := by decide +kernel
theorem dX4_at_16 : decode cX4_at 16 = .ok (.iload_n 1, 1) := by decide +kernel
theorem dX4_at_17 : decode cX4_at 17 = .ok (.iaload, 1) := by decide +kernel
theorem dX4_at_18 : decode cX4_at 18 = .ok (.goto 4, 3) := by decide +kernel
theorem dX4_at_21 : decode cX4_at 21 = .ok (.iconst (-1), 1) := by decide +kernel
theorem dX4_at_22 : decode cX4_at 22 = .ok (.ireturn, 1) := by decide +kernel
theorem dX4_put_0 : decode cX4_put 0 = .ok (.iload_n 1, 1) := by decide +kernel
theorem dX4_put_1 : decode cX4_put 1 = .ok (.ifCond .lt 18, 3) := by decide +kernel
theorem dX4_put_4 : decode cX4_put 4 = .ok (.iload_n 1, 1) := by decide +kernel
theorem dX4_put_5 : decode cX4_put 5 = .ok (.aload_n 0, 1) := by decide +kernel
theorem dX4_put_6 : decode cX4_put 6 = .ok (.getfield 15, 3) := by decide +kernel
theorem dX4_put_9 : decode cX4_put 9 = .ok (.if_icmp .ge 10, 3) := by decide +kernel
theorem dX4_put_12 : decode cX4_put 12 = .ok (.aload_n 0, 1) := by decide +kernel
theorem dX4_put_13 : decode cX4_put 13 = .ok (.getfield 11, 3) := by decide +kernel
theorem dX4_put_16 : decode cX4_put 16 = .ok (.iload_n 1, 1) := by decide +kernel
theorem dX4_put_17 : decode cX4_put 17 = .ok (.iload_n 2, 1) := by decide +kernel
theorem dX4_put_18 : decode cX4_put 18 = .ok (.iastore, 1) := by decide +kernel
theorem dX4_put_19 : decode cX4_put 19 = .ok (.return_, 1) := by decide +kernel
theorem dX4_push_0 : decode cX4_push 0 = .ok (.aload_n 0, 1) := by decide +kernel
theorem dX4_push_1 : decode cX4_push 1 = .ok (.getfield 15, 3) := by decide +kernel
theorem dX4_push_4 : decode cX4_push 4 = .ok (.ldc 19, 2) := by decide +kernel
theorem dX4_push_6 : decode cX4_push 6 = .ok (.if_icmp .lt 4, 3) := by decide +kernel
theorem dX4_push_9 : decode cX4_push 9 = .ok (.return_, 1) := by decide +kernel
theorem dX4_push_10 : decode cX4_push 10 = .ok (.aload_n 0, 1) := by decide +kernel
theorem dX4_push_11 : decode cX4_push 11 = .ok (.getfield 15, 3) := by decide +kernel
theorem dX4_push_14 : decode cX4_push 14 = .ok (.aload_n 0, 1) := by decide +kernel
theorem dX4_push_15 : decode cX4_push 15 = .ok (.getfield 11, 3) := by decide +kernel
theorem dX4_push_18 : decode cX4_push 18 = .ok (.arraylength, 1) := by decide +kernel
theorem dX4_push_19 : decode cX4_push 19 = .ok (.if_icmp .lt 20, 3) := by decide +kernel
theorem dX4_push_22 : decode cX4_push 22 = .ok (.aload_n 0, 1) := by decide +kernel
theorem dX4_push_23 : decode cX4_push 23 = .ok (.aload_n 0, 1) := by decide +kernel
theorem dX4_push_24 : decode cX4_push 24 = .ok (.getfield 11, 3) := by decide +kernel
theorem dX4_push_27 : decode cX4_push 27 = .ok (.iconst 2, 1) := by decide +kernel
theorem dX4_push_28 : decode cX4_push 28 = .ok (.aload_n 0, 1) := by decide +kernel
theorem dX4_push_29 : decode cX4_push 29 = .ok (.getfield 15, 3) := by decide +kernel
theorem dX4_push_32 : decode cX4_push 32 = .ok (.imul, 1) := by decide +kernel
theorem dX4_push_33 : decode cX4_push 33 = .ok (.invokestatic 20, 3) := by decide +kernel
theorem dX4_push_36 : decode cX4_push 36 = .ok (.putfield 11, 3) := by decide +kernel
theorem dX4_push_39 : decode cX4_push 39 = .ok (.aload_n 0, 1) := by decide +kernel
theorem dX4_push_40 : decode cX4_push 40 = .ok (.getfield 11, 3) := by decide +kernel
theorem dX4_push_43 : decode cX4_push 43 = .ok (.aload_n 0, 1) := by decide +kernel
theorem dX4_push_44 : decode cX4_push 44 = .ok (.getfield 15, 3) := by decide +kernel
theorem dX4_push_47 : decode cX4_push 47 = .ok (.iload_n 1, 1) := by decide +kernel
theorem dX4_push_48 : decode cX4_push 48 = .ok (.iastore, 1) := by decide +kernel
theorem dX4_push_49 : decode cX4_push 49 = .ok (.aload_n 0, 1) := by decide +kernel
theorem dX4_push_50 : decode cX4_push 50 = .ok (.dup, 1) := by decide +kernel
theorem dX4_push_51 : decode cX4_push 51 = .ok (.getfield 15, 3) := by decide +kernel
theorem dX4_push_54 : decode cX4_push 54 = .ok (.iconst 1, 1) := by decide +kernel
theorem dX4_push_55 : decode cX4_push 55 = .ok (.iadd, 1) := by decide +kernel
theorem dX4_push_56 : decode cX4_push 56 = .ok (.putfield 15, 3) := by decide +kernel
theorem dX4_push_59 : decode cX4_push 59 = .ok (.return_, 1) := by decide +kernel
theorem dX4_cut_0 : decode cX4_cut 0 = .ok (.iload_n 1, 1) := by decide +kernel
theorem dX4_cut_1 : decode cX4_cut 1 = .ok (.ifCond .lt 16, 3) := by decide +kernel
theorem dX4_cut_4 : decode cX4_cut 4 = .ok (.iload_n 1, 1) := by decide +kernel
theorem dX4_cut_5 : decode cX4_cut 5 = .ok (.aload_n 0, 1) := by decide +kernel
theorem dX4_cut_6 : decode cX4_cut 6 = .ok (.getfield 15, 3) := by decide +kernel
theorem dX4_cut_9 : decode cX4_cut 9 = .ok (.if_icmp .ge 8, 3) := by decide +kernel
theorem dX4_cut_12 : decode cX4_cut 12 = .ok (.aload_n 0, 1) := by decide +kernel
theorem dX4_cut_13 : decode cX4_cut 13 = .ok (.iload_n 1, 1) := by decide +kernel
theorem dX4_cut_14 : decode cX4_cut 14 = .ok (.putfield 15, 3) := by decide +kernel
theorem dX4_cut_17 : decode cX4_cut 17 = .ok (.return_, 1) := by decide +kernel
theorem dX4_turn_0 : decode cX4_turn 0 = .ok (.aload_n 0, 1) := by decide +kernel
theorem dX4_turn_1 : decode cX4_turn 1 = .ok (.iload_n 1, 1) := by decide +kernel
theorem dX4_turn_2 : decode cX4_turn 2 = .ok (.iload_n 2, 1) := by decide +kernel
theorem dX4_turn_3 : decode cX4_turn 3 = .ok (.invokevirtual 26, 3) := by decide +kernel
theorem dX4_turn_6 : decode cX4_turn 6 = .ok (.aload_n 0, 1) := by decide +kernel
theorem dX4_turn_7 : decode cX4_turn 7 = .ok (.iload_n 2, 1) := by decide +kernel
theorem dX4_turn_8 : decode cX4_turn 8 = .ok (.iload_n 3, 1) := by decide +kernel
theorem dX4_turn_9 : decode cX4_turn 9 = .ok (.invokevirtual 26, 3) := by decide +kernel
theorem dX4_turn_12 : decode cX4_turn 12 = .ok (.aload_n 0, 1) := by decide +kernel
theorem dX4_turn_13 : decode cX4_turn 13 = .ok (.iload_n 1, 1) := by decide +kernel
theorem dX4_turn_14 : decode cX4_turn 14 = .ok (.iload_n 3, 1) := by decide +kernel
theorem dX4_turn_15 : decode cX4_turn 15 = .ok (.invokevirtual 26, 3) := by decide +kernel
theorem dX4_turn_18 : decode cX4_turn 18 = .ok (.return_, 1) := by decide +kernel
theorem dX4_reverse_0 : decode cX4_reverse 0 = .ok (.iload_n 2, 1) := by decide +kernel
theorem dX4_reverse_1 : decode cX4_reverse 1 = .ok (.iconst 1, 1) := by decide +kernel
theorem dX4_reverse_2 : decode cX4_reverse 2 = .ok (.isub, 1) := by decide +kernel
theorem dX4_reverse_3 : decode cX4_reverse 3 = .ok (.istore_n 3, 1) := by decide +kernel
theorem dX4_reverse_4 : decode cX4_reverse 4 = .ok (.iload_n 1, 1) := by decide +kernel
theorem dX4_reverse_5 : decode cX4_reverse 5 = .ok (.istore 4, 2) := by decide +kernel
theorem dX4_reverse_7 : decode cX4_reverse 7 = .ok (.iload 4, 2) := by decide +kernel
theorem dX4_reverse_9 : decode cX4_reverse 9 = .ok (.iload_n 3, 1) := by decide +kernel
theorem dX4_reverse_10 : decode cX4_reverse 10 = .ok (.if_icmp .ge 38, 3) := by decide +kernel
theorem dX4_reverse_13 : decode cX4_reverse 13 = .ok (.aload_n 0, 1) := by decide +kernel
theorem dX4_reverse_14 : decode cX4_reverse 14 = .ok (.iload 4, 2) := by decide +kernel
theorem dX4_reverse_16 : decode cX4_reverse 16 = .ok (.invokevirtual 30, 3) := by decide +kernel
theorem dX4_reverse_19 : decode cX4_reverse 19 = .ok (.istore 5, 2) := by decide +kernel
theorem dX4_reverse_21 : decode cX4_reverse 21 = .ok (.aload_n 0, 1) := by decide +kernel
theorem dX4_reverse_22 : decode cX4_reverse 22 = .ok (.iload 4, 2) := by decide +kernel
theorem dX4_reverse_24 : decode cX4_reverse 24 = .ok (.aload_n 0, 1) := by decide +kernel
theorem dX4_reverse_25 : decode cX4_reverse 25 = .ok (.iload_n 3, 1) := by decide +kernel
theorem dX4_reverse_26 : decode cX4_reverse 26 = .ok (.invokevirtual 30, 3) := by decide +kernel
theorem dX4_reverse_29 : decode cX4_reverse 29 = .ok (.invokevirtual 34, 3) := by decide +kernel
theorem dX4_reverse_32 : decode cX4_reverse 32 = .ok (.aload_n 0, 1) := by decide +kernel
theorem dX4_reverse_33 : decode cX4_reverse 33 = .ok (.iload_n 3, 1) := by decide +kernel
theorem dX4_reverse_34 : decode cX4_reverse 34 = .ok (.iload 5, 2) := by decide +kernel
theorem dX4_reverse_36 : decode cX4_reverse 36 = .ok (.invokevirtual 34, 3) := by decide +kernel
theorem dX4_reverse_39 : decode cX4_reverse 39 = .ok (.iinc 3 (-1), 3) := by decide +kernel
theorem dX4_reverse_42 : decode cX4_reverse 42 = .ok (.iinc 4 1, 3) := by decide +kernel
theorem dX4_reverse_45 : decode cX4_reverse 45 = .ok (.goto (-38), 3) := by decide +kernel
theorem dX4_reverse_48 : decode cX4_reverse 48 = .ok (.return_, 1) := by decide +kernel
theorem dX5_init_0 : decode cX5_init 0 = .ok (.aload_n 0, 1) := by decide +kernel
theorem dX5_init_1 : decode cX5_init 1 = .ok (.invokespecial 3, 3) := by decide +kernel
theorem dX5_init_4 : decode cX5_init 4 = .ok (.aload_n 0, 1) := by decide +kernel
theorem dX5_init_5 : decode cX5_init 5 = .ok (.new 9, 3) := by decide +kernel
theorem dX5_init_8 : decode cX5_init 8 = .ok (.dup, 1) := by decide +kernel
theorem dX5_init_9 : decode cX5_init 9 = .ok (.invokespecial 11, 3) := by decide +kernel
theorem dX5_init_12 : decode cX5_init 12 = .ok (.putfield 12, 3) := by decide +kernel
theorem dX5_init_15 : decode cX5_init 15 = .ok (.aload_n 0, 1) := by decide +kernel
theorem dX5_init_16 : decode cX5_init 16 = .ok (.new 9, 3) := by decide +kernel
theorem dX5_init_19 : decode cX5_init 19 = .ok (.dup, 1) := by decide +kernel
theorem dX5_init_20 : decode cX5_init 20 = .ok (.invokespecial 11, 3) := by decide +kernel
theorem dX5_init_23 : decode cX5_init 23 = .ok (.putfield 18, 3) := by decide +kernel
theorem dX5_init_26 : decode cX5_init 26 = .ok (.aload_n 0, 1) := by decide +kernel
theorem dX5_init_27 : decode cX5_init 27 = .ok (.iconst 0, 1) := by decide +kernel
theorem dX5_init_28 : decode cX5_init 28 = .ok (.putfield 21, 3) := by decide +kernel
theorem dX5_init_31 : decode cX5_init 31 = .ok (.return_, 1) := by decide +kernel
theorem dX5_startAgain_0 : decode cX5_startAgain 0 = .ok (.aload_n 0, 1) := by decide +kernel
theorem dX5_startAgain_1 : decode cX5_startAgain 1 = .ok (.getfield 12, 3) := by decide +kernel
theorem dX5_startAgain_4 : decode cX5_startAgain 4 = .ok (.iconst 0, 1) := by decide +kernel
theorem dX5_startAgain_5 : decode cX5_startAgain 5 = .ok (.invokevirtual 25, 3) := by decide +kernel
theorem dX5_startAgain_8 : decode cX5_startAgain 8 = .ok (.aload_n 0, 1) := by decide +kernel
theorem dX5_startAgain_9 : decode cX5_startAgain 9 = .ok (.getfield 18, 3) := by decide +kernel
theorem dX5_startAgain_12 : decode cX5_startAgain 12 = .ok (.iconst 0, 1) := by decide +kernel
theorem dX5_startAgain_13 : decode cX5_startAgain 13 = .ok (.invokevirtual 25, 3) := by decide +kernel
theorem dX5_startAgain_16 : decode cX5_startAgain 16 = .ok (.aload_n 0, 1) := by decide +kernel
theorem dX5_startAgain_17 : decode cX5_startAgain 17 = .ok (.iconst 0, 1) := by decide +kernel
theorem dX5_startAgain_18 : decode cX5_startAgain 18 = .ok (.putfield 21, 3) := by decide +kernel
theorem dX5_startAgain_21 : decode cX5_startAgain 21 = .ok (.aload_n 0, 1) := by decide +kernel
theorem dX5_startAgain_22 : decode cX5_startAgain 22 = .ok (.iconst (-1), 1) := by decide +kernel
theorem dX5_startAgain_23 : decode cX5_startAgain 23 = .ok (.iconst 0, 1) := by decide +kernel
theorem dX5_startAgain_24 : decode cX5_startAgain 24 = .ok (.iconst 0, 1) := by decide +kernel
theorem dX5_startAgain_25 : decode cX5_startAgain 25 = .ok (.iconst 0, 1) := by decide +kernel
theorem dX5_startAgain_26 : decode cX5_startAgain 26 = .ok (.iconst 0, 1) := by decide +kernel
theorem dX5_startAgain_27 : decode cX5_startAgain 27 = .ok (.invokevirtual 29, 3) := by decide +kernel
theorem dX5_startAgain_30 : decode cX5_startAgain 30 = .ok (.pop, 1) := by decide +kernel
theorem dX5_startAgain_31 : decode cX5_startAgain 31 = .ok (.return_, 1) := by decide +kernel
theorem dX5_size_0 : decode cX5_size 0 = .ok (.aload_n 0, 1) := by decide +kernel
theorem dX5_size_1 : decode cX5_size 1 = .ok (.getfield 21, 3) := by decide +kernel
theorem dX5_size_4 : decode cX5_size 4 = .ok (.ireturn, 1) := by decide +kernel
theorem dX5_get_0 : decode cX5_get 0 = .ok (.aload_n 0, 1) := by decide +kernel
theorem dX5_get_1 : decode cX5_get 1 = .ok (.getfield 12, 3) := by decide +kernel
theorem dX5_get_4 : decode cX5_get 4 = .ok (.iload_n 1, 1) := by decide +kernel
theorem dX5_get_5 : decode cX5_get 5 = .ok (.bipush 7, 2) := by decide +kernel
theorem dX5_get_7 : decode cX5_get 7 = .ok (.imul, 1) := by decide +kernel
theorem dX5_get_8 : decode cX5_get 8 = .ok (.iload_n 2, 1) := by decide +kernel
theorem dX5_get_9 : decode cX5_get 9 = .ok (.iadd, 1) := by decide +kernel
theorem dX5_get_10 : decode cX5_get 10 = .ok (.invokevirtual 33, 3) := by decide +kernel
theorem dX5_get_13 : decode cX5_get 13 = .ok (.ireturn, 1) := by decide +kernel
theorem dX5_set_0 : decode cX5_set 0 = .ok (.aload_n 0, 1) := by decide +kernel
theorem dX5_set_1 : decode cX5_set 1 = .ok (.getfield 12, 3) := by decide +kernel
theorem dX5_set_4 : decode cX5_set 4 = .ok (.iload_n 1, 1) := by decide +kernel
theorem dX5_set_5 : decode cX5_set 5 = .ok (.bipush 7, 2) := by decide +kernel
theorem dX5_set_7 : decode cX5_set 7 = .ok (.imul, 1) := by decide +kernel
theorem dX5_set_8 : decode cX5_set 8 = .ok (.iload_n 2, 1) := by decide +kernel
theorem dX5_set_9 : decode cX5_set 9 = .ok (.iadd, 1) := by decide +kernel
theorem dX5_set_10 : decode cX5_set 10 = .ok (.iload_n 3, 1) := by decide +kernel
theorem dX5_set_11 : decode cX5_set 11 = .ok (.invokevirtual 37, 3) := by decide +kernel
theorem dX5_set_14 : decode cX5_set 14 = .ok (.return_, 1) := by decide +kernel
theorem dX5_is_0 : decode cX5_is 0 = .ok (.aload_n 0, 1) := by decide +kernel
theorem dX5_is_1 : decode cX5_is 1 = .ok (.getfield 12, 3) := by decide +kernel
theorem dX5_is_4 : decode cX5_is 4 = .ok (.iload_n 1, 1) := by decide +kernel
theorem dX5_is_5 : decode cX5_is 5 = .ok (.bipush 7, 2) := by decide +kernel
theorem dX5_is_7 : decode cX5_is 7 = .ok (.imul, 1) := by decide +kernel
theorem dX5_is_8 : decode cX5_is 8 = .ok (.iconst 0, 1) := by decide +kernel
theorem dX5_is_9 : decode cX5_is 9 = .ok (.iadd, 1) := by decide +kernel
theorem dX5_is_10 : decode cX5_is 10 = .ok (.invokevirtual 33, 3) := by decide +kernel
theorem dX5_is_13 : decode cX5_is 13 = .ok (.iload_n 2, 1) := by decide +kernel
theorem dX5_is_14 : decode cX5_is 14 = .ok (.if_icmp .ne 7, 3) := by decide +kernel
theorem dX5_is_17 : decode cX5_is 17 = .ok (.iconst 1, 1) := by decide +kernel
theorem dX5_is_18 : decode cX5_is 18 = .ok (.goto 4, 3) := by decide +kernel
theorem dX5_is_21 : decode cX5_is 21 = .ok (.iconst 0, 1) := by decide +kernel
theorem dX5_is_22 : decode cX5_is 22 = .ok (.ireturn, 1) := by decide +kernel
theorem dX5_add_0 : decode cX5_add 0 = .ok (.iload_n 1, 1) := by decide +kernel
theorem dX5_add_1 : decode cX5_add 1 = .ok (.iconst (-1), 1) := by decide +kernel
theorem dX5_add_2 : decode cX5_add 2 = .ok (.if_icmp .ne 7, 3) := by decide +kernel
theorem dX5_add_5 : decode cX5_add 5 = .ok (.iconst 1, 1) := by decide +kernel
theorem dX5_add_6 : decode cX5_add 6 = .ok (.goto 4, 3) := by decide +kernel
theorem dX5_add_9 : decode cX5_add 9 = .ok (.iconst 0, 1) := by decide +kernel
theorem dX5_add_10 : decode cX5_add 10 = .ok (.istore 6, 2) := by decide +kernel
theorem dX5_add_12 : decode cX5_add 12 = .ok (.aload_n 0, 1) := by decide +kernel
theorem dX5_add_13 : decode cX5_add 13 = .ok (.getfield 12, 3) := by decide +kernel
theorem dX5_add_16 : decode cX5_add 16 = .ok (.iload_n 2, 1) := by decide +kernel
theorem dX5_add_17 : decode cX5_add 17 = .ok (.invokevirtual 41, 3) := by decide +kernel
theorem dX5_add_20 : decode cX5_add 20 = .ok (.aload_n 0, 1) := by decide +kernel
theorem dX5_add_21 : decode cX5_add 21 = .ok (.getfield 12, 3) := by decide +kernel
theorem dX5_add_24 : decode cX5_add 24 = .ok (.iload 6, 2) := by decide +kernel
theorem dX5_add_26 : decode cX5_add 26 = .ok (.ifCond .eq 7, 3) := by decide +kernel
theorem dX5_add_29 : decode cX5_add 29 = .ok (.iconst 0, 1) := by decide +kernel
theorem dX5_add_30 : decode cX5_add 30 = .ok (.goto 11, 3) := by decide +kernel
theorem dX5_add_33 : decode cX5_add 33 = .ok (.aload_n 0, 1) := by decide +kernel
theorem dX5_add_34 : decode cX5_add 34 = .ok (.iload_n 1, 1) := by decide +kernel
theorem dX5_add_35 : decode cX5_add 35 = .ok (.iconst 1, 1) := by decide +kernel
theorem dX5_add_36 : decode cX5_add 36 = .ok (.invokevirtual 44, 3) := by decide +kernel
theorem dX5_add_39 : decode cX5_add 39 = .ok (.iconst 1, 1) := by decide +kernel
theorem dX5_add_40 : decode cX5_add 40 = .ok (.iadd, 1) := by decide +kernel
theorem dX5_add_41 : decode cX5_add 41 = .ok (.invokevirtual 41, 3) := by decide +kernel
theorem dX5_add_44 : decode cX5_add 44 = .ok (.aload_n 0, 1) := by decide +kernel
theorem dX5_add_45 : decode cX5_add 45 = .ok (.getfield 12, 3) := by decide +kernel
theorem dX5_add_48 : decode cX5_add 48 = .ok (.iload 6, 2) := by decide +kernel
theorem dX5_add_50 : decode cX5_add 50 = .ok (.ifCond .eq 7, 3) := by decide +kernel
theorem dX5_add_53 : decode cX5_add 53 = .ok (.iconst 0, 1) := by decide +kernel
theorem dX5_add_54 : decode cX5_add 54 = .ok (.goto 24, 3) := by decide +kernel
theorem dX5_add_57 : decode cX5_add 57 = .ok (.aload_n 0, 1) := by decide +kernel
theorem dX5_add_58 : decode cX5_add 58 = .ok (.iload_n 1, 1) := by decide +kernel
theorem dX5_add_59 : decode cX5_add 59 = .ok (.iconst 2, 1) := by decide +kernel
theorem dX5_add_60 : decode cX5_add 60 = .ok (.invokevirtual 44, 3) := by decide +kernel
theorem dX5_add_63 : decode cX5_add 63 = .ok (.aload_n 0, 1) := by decide +kernel
theorem dX5_add_64 : decode cX5_add 64 = .ok (.iload_n 1, 1) := by decide +kernel
theorem dX5_add_65 : decode cX5_add 65 = .ok (.iconst 0, 1) := by decide +kernel
theorem dX5_add_66 : decode cX5_add 66 = .ok (.invokevirtual 48, 3) := by decide +kernel
theorem dX5_add_69 : decode cX5_add 69 = .ok (.ifCond .eq 7, 3) := by decide +kernel
theorem dX5_add_72 : decode cX5_add 72 = .ok (.iconst 1, 1) := by decide +kernel
theorem dX5_add_73 : decode cX5_add 73 = .ok (.goto 4, 3) := by decide +kernel
theorem dX5_add_76 : decode cX5_add 76 = .ok (.iconst 0, 1) := by decide +kernel
theorem dX5_add_77 : decode cX5_add 77 = .ok (.iadd, 1) := by decide +kernel
theorem dX5_add_78 : decode cX5_add 78 = .ok (.invokevirtual 41, 3) := by decide +kernel
theorem dX5_add_81 : decode cX5_add 81 = .ok (.aload_n 0, 1) := by decide +kernel
theorem dX5_add_82 : decode cX5_add 82 = .ok (.getfield 12, 3) := by decide +kernel
theorem dX5_add_85 : decode cX5_add 85 = .ok (.iload_n 3, 1) := by decide +kernel
theorem dX5_add_86 : decode cX5_add 86 = .ok (.invokevirtual 41, 3) := by decide +kernel
theorem dX5_add_89 : decode cX5_add 89 = .ok (.aload_n 0, 1) := by decide +kernel
theorem dX5_add_90 : decode cX5_add 90 = .ok (.getfield 12, 3) := by decide +kernel
theorem dX5_add_93 : decode cX5_add 93 = .ok (.iload 4, 2) := by decide +kernel
theorem dX5_add_95 : decode cX5_add 95 = .ok (.invokevirtual 41, 3) := by decide +kernel
theorem dX5_add_98 : decode cX5_add 98 = .ok (.aload_n 0, 1) := by decide +kernel
theorem dX5_add_99 : decode cX5_add 99 = .ok (.getfield 12, 3) := by decide +kernel
theorem dX5_add_102 : decode cX5_add 102 = .ok (.iload 5, 2) := by decide +kernel
theorem dX5_add_104 : decode cX5_add 104 = .ok (.invokevirtual 41, 3) := by decide +kernel
theorem dX5_add_107 : decode cX5_add 107 = .ok (.aload_n 0, 1) := by decide +kernel
theorem dX5_add_108 : decode cX5_add 108 = .ok (.getfield 12, 3) := by decide +kernel
theorem dX5_add_111 : decode cX5_add 111 = .ok (.aload_n 0, 1) := by decide +kernel
theorem dX5_add_112 : decode cX5_add 112 = .ok (.getfield 18, 3) := by decide +kernel
theorem dX5_add_115 : decode cX5_add 115 = .ok (.invokevirtual 52, 3) := by decide +kernel
theorem dX5_add_118 : decode cX5_add 118 = .ok (.invokevirtual 41, 3) := by decide +kernel
theorem dX5_add_121 : decode cX5_add 121 = .ok (.aload_n 0, 1) := by decide +kernel
theorem dX5_add_122 : decode cX5_add 122 = .ok (.dup, 1) := by decide +kernel
theorem dX5_add_123 : decode cX5_add 123 = .ok (.getfield 21, 3) := by decide +kernel
theorem dX5_add_126 : decode cX5_add 126 = .ok (.iconst 1, 1) := by decide +kernel
theorem dX5_add_127 : decode cX5_add 127 = .ok (.iadd, 1) := by decide +kernel
theorem dX5_add_128 : decode cX5_add 128 = .ok (.putfield 21, 3) := by decide +kernel
theorem dX5_add_131 : decode cX5_add 131 = .ok (.aload_n 0, 1) := by decide +kernel
theorem dX5_add_132 : decode cX5_add 132 = .ok (.getfield 21, 3) := by decide +kernel
theorem dX5_add_135 : decode cX5_add 135 = .ok (.iconst 1, 1) := by decide +kernel
theorem dX5_add_136 : decode cX5_add 136 = .ok (.isub, 1) := by decide +kernel
theorem dX5_add_137 : decode cX5_add 137 = .ok (.ireturn, 1) := by decide +kernel
theorem dX5_spell_0 : decode cX5_spell 0 = .ok (.aload_n 0, 1) := by decide +kernel
theorem dX5_spell_1 : decode cX5_spell 1 = .ok (.iload_n 1, 1) := by decide +kernel
theorem dX5_spell_2 : decode cX5_spell 2 = .ok (.bipush 6, 2) := by decide +kernel
theorem dX5_spell_4 : decode cX5_spell 4 = .ok (.aload_n 0, 1) := by decide +kernel
theorem dX5_spell_5 : decode cX5_spell 5 = .ok (.getfield 18, 3) := by decide +kernel
theorem dX5_spell_8 : decode cX5_spell 8 = .ok (.invokevirtual 52, 3) := by decide +kernel
theorem dX5_spell_11 : decode cX5_spell 11 = .ok (.invokevirtual 56, 3) := by decide +kernel
theorem dX5_spell_14 : decode cX5_spell 14 = .ok (.iload_n 3, 1) := by decide +kernel
theorem dX5_spell_15 : decode cX5_spell 15 = .ok (.istore 5, 2) := by decide +kernel
theorem dX5_spell_17 : decode cX5_spell 17 = .ok (.iload 5, 2) := by decide +kernel
theorem dX5_spell_19 : decode cX5_spell 19 = .ok (.iload 4, 2) := by decide +kernel
theorem dX5_spell_21 : decode cX5_spell 21 = .ok (.if_icmp .ge 22, 3) := by decide +kernel
theorem dX5_spell_24 : decode cX5_spell 24 = .ok (.aload_n 0, 1) := by decide +kernel
theorem dX5_spell_25 : decode cX5_spell 25 = .ok (.getfield 18, 3) := by decide +kernel
theorem dX5_spell_28 : decode cX5_spell 28 = .ok (.aload_n 2, 1) := by decide +kernel
theorem dX5_spell_29 : decode cX5_spell 29 = .ok (.iload 5, 2) := by decide +kernel
theorem dX5_spell_31 : decode cX5_spell 31 = .ok (.invokevirtual 33, 3) := by decide +kernel
theorem dX5_spell_34 : decode cX5_spell 34 = .ok (.invokevirtual 41, 3) := by decide +kernel
theorem dX5_spell_37 : decode cX5_spell 37 = .ok (.iinc 5 1, 3) := by decide +kernel
theorem dX5_spell_40 : decode cX5_spell 40 = .ok (.goto (-23), 3) := by decide +kernel
theorem dX5_spell_43 : decode cX5_spell 43 = .ok (.iload 4, 2) := by decide +kernel
theorem dX5_spell_45 : decode cX5_spell 45 = .ok (.iload_n 3, 1) := by decide +kernel
theorem dX5_spell_46 : decode cX5_spell 46 = .ok (.isub, 1) := by decide +kernel
theorem dX5_spell_47 : decode cX5_spell 47 = .ok (.istore 5, 2) := by decide +kernel
theorem dX5_spell_49 : decode cX5_spell 49 = .ok (.iload 5, 2) := by decide +kernel
theorem dX5_spell_51 : decode cX5_spell 51 = .ok (.bipush 8, 2) := by decide +kernel
theorem dX5_spell_53 : decode cX5_spell 53 = .ok (.if_icmp .ge 17, 3) := by decide +kernel
theorem dX5_spell_56 : decode cX5_spell 56 = .ok (.aload_n 0, 1) := by decide +kernel
theorem dX5_spell_57 : decode cX5_spell 57 = .ok (.getfield 18, 3) := by decide +kernel
theorem dX5_spell_60 : decode cX5_spell 60 = .ok (.iconst 0, 1) := by decide +kernel
theorem dX5_spell_61 : decode cX5_spell 61 = .ok (.invokevirtual 41, 3) := by decide +kernel
theorem dX5_spell_64 : decode cX5_spell 64 = .ok (.iinc 5 1, 3) := by decide +kernel
theorem dX5_spell_67 : decode cX5_spell 67 = .ok (.goto (-18), 3) := by decide +kernel
theorem dX5_spell_70 : decode cX5_spell 70 = .ok (.aload_n 0, 1) := by decide +kernel
theorem dX5_spell_71 : decode cX5_spell 71 = .ok (.iload_n 1, 1) := by decide +kernel
theorem dX5_spell_72 : decode cX5_spell 72 = .ok (.iconst 5, 1) := by decide +kernel
theorem dX5_spell_73 : decode cX5_spell 73 = .ok (.iload 4, 2) := by decide +kernel
theorem dX5_spell_75 : decode cX5_spell 75 = .ok (.iload_n 3, 1) := by decide +kernel
theorem dX5_spell_76 : decode cX5_spell 76 = .ok (.isub, 1) := by decide +kernel
theorem dX5_spell_77 : decode cX5_spell 77 = .ok (.invokevirtual 56, 3) := by decide +kernel
theorem dX5_spell_80 : decode cX5_spell 80 = .ok (.return_, 1) := by decide +kernel
theorem dX5_respell_0 : decode cX5_respell 0 = .ok (.aload_n 0, 1) := by decide +kernel
theorem dX5_respell_1 : decode cX5_respell 1 = .ok (.iload_n 1, 1) := by decide +kernel
theorem dX5_respell_2 : decode cX5_respell 2 = .ok (.bipush 6, 2) := by decide +kernel
theorem dX5_respell_4 : decode cX5_respell 4 = .ok (.invokevirtual 44, 3) := by decide +kernel
theorem dX5_respell_7 : decode cX5_respell 7 = .ok (.istore_n 3, 1) := by decide +kernel
theorem dX5_respell_8 : decode cX5_respell 8 = .ok (.iconst 0, 1) := by decide +kernel
theorem dX5_respell_9 : decode cX5_respell 9 = .ok (.istore 4, 2) := by decide +kernel
theorem dX5_respell_11 : decode cX5_respell 11 = .ok (.iload 4, 2) := by decide +kernel
theorem dX5_respell_13 : decode cX5_respell 13 = .ok (.aload_n 2, 1) := by decide +kernel
theorem dX5_respell_14 : decode cX5_respell 14 = .ok (.invokevirtual 52, 3) := by decide +kernel
theorem dX5_respell_17 : decode cX5_respell 17 = .ok (.if_icmp .ge 26, 3) := by decide +kernel
theorem dX5_respell_20 : decode cX5_respell 20 = .ok (.aload_n 0, 1) := by decide +kernel
theorem dX5_respell_21 : decode cX5_respell 21 = .ok (.getfield 18, 3) := by decide +kernel
theorem dX5_respell_24 : decode cX5_respell 24 = .ok (.iload_n 3, 1) := by decide +kernel
theorem dX5_respell_25 : decode cX5_respell 25 = .ok (.iload 4, 2) := by decide +kernel
theorem dX5_respell_27 : decode cX5_respell 27 = .ok (.iadd, 1) := by decide +kernel
theorem dX5_respell_28 : decode cX5_respell 28 = .ok (.aload_n 2, 1) := by decide +kernel
theorem dX5_respell_29 : decode cX5_respell 29 = .ok (.iload 4, 2) := by decide +kernel
theorem dX5_respell_31 : decode cX5_respell 31 = .ok (.invokevirtual 33, 3) := by decide +kernel
theorem dX5_respell_34 : decode cX5_respell 34 = .ok (.invokevirtual 37, 3) := by decide +kernel
theorem dX5_respell_37 : decode cX5_respell 37 = .ok (.iinc 4 1, 3) := by decide +kernel
theorem dX5_respell_40 : decode cX5_respell 40 = .ok (.goto (-29), 3) := by decide +kernel
theorem dX5_respell_43 : decode cX5_respell 43 = .ok (.aload_n 0, 1) := by decide +kernel
theorem dX5_respell_44 : decode cX5_respell 44 = .ok (.iload_n 1, 1) := by decide +kernel
theorem dX5_respell_45 : decode cX5_respell 45 = .ok (.iconst 5, 1) := by decide +kernel
theorem dX5_respell_46 : decode cX5_respell 46 = .ok (.aload_n 2, 1) := by decide +kernel
theorem dX5_respell_47 : decode cX5_respell 47 = .ok (.invokevirtual 52, 3) := by decide +kernel
theorem dX5_respell_50 : decode cX5_respell 50 = .ok (.invokevirtual 56, 3) := by decide +kernel
theorem dX5_respell_53 : decode cX5_respell 53 = .ok (.return_, 1) := by decide +kernel
theorem dX5_letterOf_0 : decode cX5_letterOf 0 = .ok (.iload_n 2, 1) := by decide +kernel
theorem dX5_letterOf_1 : decode cX5_letterOf 1 = .ok (.ifCond .lt 24, 3) := by decide +kernel
theorem dX5_letterOf_4 : decode cX5_letterOf 4 = .ok (.iload_n 2, 1) := by decide +kernel
theorem dX5_letterOf_5 : decode cX5_letterOf 5 = .ok (.aload_n 0, 1) := by decide +kernel
theorem dX5_letterOf_6 : decode cX5_letterOf 6 = .ok (.getfield 12, 3) := by decide +kernel
theorem dX5_letterOf_9 : decode cX5_letterOf 9 = .ok (.iload_n 1, 1) := by decide +kernel
theorem dX5_letterOf_10 : decode cX5_letterOf 10 = .ok (.bipush 7, 2) := by decide +kernel
theorem dX5_letterOf_12 : decode cX5_letterOf 12 = .ok (.imul, 1) := by decide +kernel
theorem dX5_letterOf_13 : decode cX5_letterOf 13 = .ok (.iconst 5, 1) := by decide +kernel
theorem dX5_letterOf_14 : decode cX5_letterOf 14 = .ok (.iadd, 1) := by decide +kernel
theorem dX5_letterOf_15 : decode cX5_letterOf 15 = .ok (.invokevirtual 33, 3) := by decide +kernel
theorem dX5_letterOf_18 : decode cX5_letterOf 18 = .ok (.if_icmp .ge 7, 3) := by decide +kernel
theorem dX5_letterOf_21 : decode cX5_letterOf 21 = .ok (.iconst 1, 1) := by decide +kernel
theorem dX5_letterOf_22 : decode cX5_letterOf 22 = .ok (.goto 4, 3) := by decide +kernel
theorem dX5_letterOf_25 : decode cX5_letterOf 25 = .ok (.iconst 0, 1) := by decide +kernel
theorem dX5_letterOf_26 : decode cX5_letterOf 26 = .ok (.istore_n 3, 1) := by decide +kernel
theorem dX5_letterOf_27 : decode cX5_letterOf 27 = .ok (.iload_n 3, 1) := by decide +kernel
theorem dX5_letterOf_28 : decode cX5_letterOf 28 = .ok (.ifCond .eq 29, 3) := by decide +kernel
theorem dX5_letterOf_31 : decode cX5_letterOf 31 = .ok (.aload_n 0, 1) := by decide +kernel
theorem dX5_letterOf_32 : decode cX5_letterOf 32 = .ok (.getfield 18, 3) := by decide +kernel
theorem dX5_letterOf_35 : decode cX5_letterOf 35 = .ok (.aload_n 0, 1) := by decide +kernel
theorem dX5_letterOf_36 : decode cX5_letterOf 36 = .ok (.getfield 12, 3) := by decide +kernel
theorem dX5_letterOf_39 : decode cX5_letterOf 39 = .ok (.iload_n 1, 1) := by decide +kernel
theorem dX5_letterOf_40 : decode cX5_letterOf 40 = .ok (.bipush 7, 2) := by decide +kernel
theorem dX5_letterOf_42 : decode cX5_letterOf 42 = .ok (.imul, 1) := by decide +kernel
theorem dX5_letterOf_43 : decode cX5_letterOf 43 = .ok (.bipush 6, 2) := by decide +kernel
theorem dX5_letterOf_45 : decode cX5_letterOf 45 = .ok (.iadd, 1) := by decide +kernel
theorem dX5_letterOf_46 : decode cX5_letterOf 46 = .ok (.invokevirtual 33, 3) := by decide +kernel
theorem dX5_letterOf_49 : decode cX5_letterOf 49 = .ok (.iload_n 2, 1) := by decide +kernel
theorem dX5_letterOf_50 : decode cX5_letterOf 50 = .ok (.iadd, 1) := by decide +kernel
theorem dX5_letterOf_51 : decode cX5_letterOf 51 = .ok (.invokevirtual 33, 3) := by decide +kernel
theorem dX5_letterOf_54 : decode cX5_letterOf 54 = .ok (.goto 4, 3) := by decide +kernel
theorem dX5_letterOf_57 : decode cX5_letterOf 57 = .ok (.iconst (-1), 1) := by decide +kernel
theorem dX5_letterOf_58 : decode cX5_letterOf 58 = .ok (.ireturn, 1) := by decide +kernel
theorem dX5_holder_0 : decode cX5_holder 0 = .ok (.aload_n 0, 1) := by decide +kernel
theorem dX5_holder_1 : decode cX5_holder 1 = .ok (.iload_n 1, 1) := by decide +kernel
theorem dX5_holder_2 : decode cX5_holder 2 = .ok (.iconst 1, 1) := by decide +kernel
theorem dX5_holder_3 : decode cX5_holder 3 = .ok (.invokevirtual 44, 3) := by decide +kernel
theorem dX5_holder_6 : decode cX5_holder 6 = .ok (.istore_n 2, 1) := by decide +kernel
theorem dX5_holder_7 : decode cX5_holder 7 = .ok (.iload_n 1, 1) := by decide +kernel
theorem dX5_holder_8 : decode cX5_holder 8 = .ok (.iconst 1, 1) := by decide +kernel
theorem dX5_holder_9 : decode cX5_holder 9 = .ok (.isub, 1) := by decide +kernel
theorem dX5_holder_10 : decode cX5_holder 10 = .ok (.istore_n 3, 1) := by decide +kernel
theorem dX5_holder_11 : decode cX5_holder 11 = .ok (.iload_n 3, 1) := by decide +kernel
theorem dX5_holder_12 : decode cX5_holder 12 = .ok (.ifCond .lt 21, 3) := by decide +kernel
theorem dX5_holder_15 : decode cX5_holder 15 = .ok (.aload_n 0, 1) := by decide +kernel
theorem dX5_holder_16 : decode cX5_holder 16 = .ok (.iload_n 3, 1) := by decide +kernel
theorem dX5_holder_17 : decode cX5_holder 17 = .ok (.iconst 1, 1) := by decide +kernel
theorem dX5_holder_18 : decode cX5_holder 18 = .ok (.invokevirtual 44, 3) := by decide +kernel
theorem dX5_holder_21 : decode cX5_holder 21 = .ok (.iload_n 2, 1) := by decide +kernel
theorem dX5_holder_22 : decode cX5_holder 22 = .ok (.if_icmp .ge 5, 3) := by decide +kernel
theorem dX5_holder_25 : decode cX5_holder 25 = .ok (.iload_n 3, 1) := by decide +kernel
theorem dX5_holder_26 : decode cX5_holder 26 = .ok (.ireturn, 1) := by decide +kernel
theorem dX5_holder_27 : decode cX5_holder 27 = .ok (.iinc 3 (-1), 3) := by decide +kernel
theorem dX5_holder_30 : decode cX5_holder 30 = .ok (.goto (-19), 3) := by decide +kernel
theorem dX5_holder_33 : decode cX5_holder 33 = .ok (.iconst (-1), 1) := by decide +kernel
theorem dX5_holder_34 : decode cX5_holder 34 = .ok (.ireturn, 1) := by decide +kernel
theorem dX5_after_0 : decode cX5_after 0 = .ok (.aload_n 0, 1) := by decide +kernel
theorem dX5_after_1 : decode cX5_after 1 = .ok (.getfield 12, 3) := by decide +kernel
theorem dX5_after_4 : decode cX5_after 4 = .ok (.iload_n 1, 1) := by decide +kernel
theorem dX5_after_5 : decode cX5_after 5 = .ok (.bipush 7, 2) := by decide +kernel
theorem dX5_after_7 : decode cX5_after 7 = .ok (.imul, 1) := by decide +kernel
theorem dX5_after_8 : decode cX5_after 8 = .ok (.iconst 1, 1) := by decide +kernel
theorem dX5_after_9 : decode cX5_after 9 = .ok (.iadd, 1) := by decide +kernel
theorem dX5_after_10 : decode cX5_after 10 = .ok (.invokevirtual 33, 3) := by decide +kernel
theorem dX5_after_13 : decode cX5_after 13 = .ok (.istore_n 2, 1) := by decide +kernel
theorem dX5_after_14 : decode cX5_after 14 = .ok (.iload_n 1, 1) := by decide +kernel
theorem dX5_after_15 : decode cX5_after 15 = .ok (.iconst 1, 1) := by decide +kernel
theorem dX5_after_16 : decode cX5_after 16 = .ok (.iadd, 1) := by decide +kernel
theorem dX5_after_17 : decode cX5_after 17 = .ok (.istore_n 3, 1) := by decide +kernel
theorem dX5_after_18 : decode cX5_after 18 = .ok (.iload_n 3, 1) := by decide +kernel
theorem dX5_after_19 : decode cX5_after 19 = .ok (.aload_n 0, 1) := by decide +kernel
theorem dX5_after_20 : decode cX5_after 20 = .ok (.getfield 21, 3) := by decide +kernel
theorem dX5_after_23 : decode cX5_after 23 = .ok (.if_icmp .ge 26, 3) := by decide +kernel
theorem dX5_after_26 : decode cX5_after 26 = .ok (.aload_n 0, 1) := by decide +kernel
theorem dX5_after_27 : decode cX5_after 27 = .ok (.getfield 12, 3) := by decide +kernel
theorem dX5_after_30 : decode cX5_after 30 = .ok (.iload_n 3, 1) := by decide +kernel
theorem dX5_after_31 : decode cX5_after 31 = .ok (.bipush 7, 2) := by decide +kernel
theorem dX5_after_33 : decode cX5_after 33 = .ok (.imul, 1) := by decide +kernel
theorem dX5_after_34 : decode cX5_after 34 = .ok (.iconst 1, 1) := by decide +kernel
theorem dX5_after_35 : decode cX5_after 35 = .ok (.iadd, 1) := by decide +kernel
theorem dX5_after_36 : decode cX5_after 36 = .ok (.invokevirtual 33, 3) := by decide +kernel
theorem dX5_after_39 : decode cX5_after 39 = .ok (.iload_n 2, 1) := by decide +kernel
theorem dX5_after_40 : decode cX5_after 40 = .ok (.if_icmp .le 9, 3) := by decide +kernel
theorem dX5_after_43 : decode cX5_after 43 = .ok (.iinc 3 1, 3) := by decide +kernel
theorem dX5_after_46 : decode cX5_after 46 = .ok (.goto (-28), 3) := by decide +kernel
theorem dX5_after_49 : decode cX5_after 49 = .ok (.iload_n 3, 1) := by decide +kernel
theorem dX5_after_50 : decode cX5_after 50 = .ok (.ireturn, 1) := by decide +kernel
theorem dX5_countChildren_0 : decode cX5_countChildren 0 = .ok (.aload_n 0, 1) := by decide +kernel
theorem dX5_countChildren_1 : decode cX5_countChildren 1 = .ok (.iload_n 1, 1) := by decide +kernel
theorem dX5_countChildren_2 : decode cX5_countChildren 2 = .ok (.invokevirtual 60, 3) := by decide +kernel
theorem dX5_countChildren_5 : decode cX5_countChildren 5 = .ok (.istore_n 2, 1) := by decide +kernel
theorem dX5_countChildren_6 : decode cX5_countChildren 6 = .ok (.aload_n 0, 1) := by decide +kernel
theorem dX5_countChildren_7 : decode cX5_countChildren 7 = .ok (.iload_n 1, 1) := by decide +kernel
theorem dX5_countChildren_8 : decode cX5_countChildren 8 = .ok (.iconst 1, 1) := by decide +kernel
theorem dX5_countChildren_9 : decode cX5_countChildren 9 = .ok (.invokevirtual 44, 3) := by decide +kernel
theorem dX5_countChildren_12 : decode cX5_countChildren 12 = .ok (.iconst 1, 1) := by decide +kernel
theorem dX5_countChildren_13 : decode cX5_countChildren 13 = .ok (.iadd, 1) := by decide +kernel
theorem dX5_countChildren_14 : decode cX5_countChildren 14 = .ok (.istore_n 3, 1) := by decide +kernel
theorem dX5_countChildren_15 : decode cX5_countChildren 15 = .ok (.iconst 0, 1) := by decide +kernel
theorem dX5_countChildren_16 : decode cX5_countChildren 16 = .ok (.istore 4, 2) := by decide +kernel
theorem dX5_countChildren_18 : decode cX5_countChildren 18 = .ok (.iload_n 1, 1) := by decide +kernel
theorem dX5_countChildren_19 : decode cX5_countChildren 19 = .ok (.iconst 1, 1) := by decide +kernel
theorem dX5_countChildren_20 : decode cX5_countChildren 20 = .ok (.iadd, 1) := by decide +kernel
theorem dX5_countChildren_21 : decode cX5_countChildren 21 = .ok (.istore 5, 2) := by decide +kernel
theorem dX5_countChildren_23 : decode cX5_countChildren 23 = .ok (.iload 5, 2) := by decide +kernel
theorem dX5_countChildren_25 : decode cX5_countChildren 25 = .ok (.iload_n 2, 1) := by decide +kernel
theorem dX5_countChildren_26 : decode cX5_countChildren 26 = .ok (.if_icmp .ge 23, 3) := by decide +kernel
theorem dX5_countChildren_29 : decode cX5_countChildren 29 = .ok (.aload_n 0, 1) := by decide +kernel
theorem dX5_countChildren_30 : decode cX5_countChildren 30 = .ok (.iload 5, 2) := by decide +kernel
theorem dX5_countChildren_32 : decode cX5_countChildren 32 = .ok (.iconst 1, 1) := by decide +kernel
theorem dX5_countChildren_33 : decode cX5_countChildren 33 = .ok (.invokevirtual 44, 3) := by decide +kernel
theorem dX5_countChildren_36 : decode cX5_countChildren 36 = .ok (.iload_n 3, 1) := by decide +kernel
theorem dX5_countChildren_37 : decode cX5_countChildren 37 = .ok (.if_icmp .ne 6, 3) := by decide +kernel
theorem dX5_countChildren_40 : decode cX5_countChildren 40 = .ok (.iinc 4 1, 3) := by decide +kernel
theorem dX5_countChildren_43 : decode cX5_countChildren 43 = .ok (.iinc 5 1, 3) := by decide +kernel
theorem dX5_countChildren_46 : decode cX5_countChildren 46 = .ok (.goto (-23), 3) := by decide +kernel
theorem dX5_countChildren_49 : decode cX5_countChildren 49 = .ok (.iload 4, 2) := by decide +kernel
theorem dX5_countChildren_51 : decode cX5_countChildren 51 = .ok (.ireturn, 1) := by decide +kernel
theorem dX5_nthChild_0 : decode cX5_nthChild 0 = .ok (.aload_n 0, 1) := by decide +kernel
theorem dX5_nthChild_1 : decode cX5_nthChild 1 = .ok (.iload_n 1, 1) := by decide +kernel
theorem dX5_nthChild_2 : decode cX5_nthChild 2 = .ok (.invokevirtual 60, 3) := by decide +kernel
theorem dX5_nthChild_5 : decode cX5_nthChild 5 = .ok (.istore_n 3, 1) := by decide +kernel
theorem dX5_nthChild_6 : decode cX5_nthChild 6 = .ok (.aload_n 0, 1) := by decide +kernel
theorem dX5_nthChild_7 : decode cX5_nthChild 7 = .ok (.iload_n 1, 1) := by decide +kernel
theorem dX5_nthChild_8 : decode cX5_nthChild 8 = .ok (.iconst 1, 1) := by decide +kernel
theorem dX5_nthChild_9 : decode cX5_nthChild 9 = .ok (.invokevirtual 44, 3) := by decide +kernel
theorem dX5_nthChild_12 : decode cX5_nthChild 12 = .ok (.iconst 1, 1) := by decide +kernel
theorem dX5_nthChild_13 : decode cX5_nthChild 13 = .ok (.iadd, 1) := by decide +kernel
theorem dX5_nthChild_14 : decode cX5_nthChild 14 = .ok (.istore 4, 2) := by decide +kernel
theorem dX5_nthChild_16 : decode cX5_nthChild 16 = .ok (.iconst 0, 1) := by decide +kernel
theorem dX5_nthChild_17 : decode cX5_nthChild 17 = .ok (.istore 5, 2) := by decide +kernel
theorem dX5_nthChild_19 : decode cX5_nthChild 19 = .ok (.iload_n 1, 1) := by decide +kernel
theorem dX5_nthChild_20 : decode cX5_nthChild 20 = .ok (.iconst 1, 1) := by decide +kernel
theorem dX5_nthChild_21 : decode cX5_nthChild 21 = .ok (.iadd, 1) := by decide +kernel
theorem dX5_nthChild_22 : decode cX5_nthChild 22 = .ok (.istore 6, 2) := by decide +kernel
theorem dX5_nthChild_24 : decode cX5_nthChild 24 = .ok (.iload 6, 2) := by decide +kernel
theorem dX5_nthChild_26 : decode cX5_nthChild 26 = .ok (.iload_n 3, 1) := by decide +kernel
theorem dX5_nthChild_27 : decode cX5_nthChild 27 = .ok (.if_icmp .ge 33, 3) := by decide +kernel
theorem dX5_nthChild_30 : decode cX5_nthChild 30 = .ok (.aload_n 0, 1) := by decide +kernel
theorem dX5_nthChild_31 : decode cX5_nthChild 31 = .ok (.iload 6, 2) := by decide +kernel
theorem dX5_nthChild_33 : decode cX5_nthChild 33 = .ok (.iconst 1, 1) := by decide +kernel
theorem dX5_nthChild_34 : decode cX5_nthChild 34 = .ok (.invokevirtual 44, 3) := by decide +kernel
theorem dX5_nthChild_37 : decode cX5_nthChild 37 = .ok (.iload 4, 2) := by decide +kernel
theorem dX5_nthChild_39 : decode cX5_nthChild 39 = .ok (.if_icmp .ne 15, 3) := by decide +kernel
theorem dX5_nthChild_42 : decode cX5_nthChild 42 = .ok (.iload 5, 2) := by decide +kernel
theorem dX5_nthChild_44 : decode cX5_nthChild 44 = .ok (.iload_n 2, 1) := by decide +kernel
theorem dX5_nthChild_45 : decode cX5_nthChild 45 = .ok (.if_icmp .ne 6, 3) := by decide +kernel
theorem dX5_nthChild_48 : decode cX5_nthChild 48 = .ok (.iload 6, 2) := by decide +kernel
theorem dX5_nthChild_50 : decode cX5_nthChild 50 = .ok (.ireturn, 1) := by decide +kernel
theorem dX5_nthChild_51 : decode cX5_nthChild 51 = .ok (.iinc 5 1, 3) := by decide +kernel
theorem dX5_nthChild_54 : decode cX5_nthChild 54 = .ok (.iinc 6 1, 3) := by decide +kernel
theorem dX5_nthChild_57 : decode cX5_nthChild 57 = .ok (.goto (-33), 3) := by decide +kernel
theorem dX5_nthChild_60 : decode cX5_nthChild 60 = .ok (.iconst (-1), 1) := by decide +kernel
theorem dX5_nthChild_61 : decode cX5_nthChild 61 = .ok (.ireturn, 1) := by decide +kernel
theorem dX5_lastChild_0 : decode cX5_lastChild 0 = .ok (.aload_n 0, 1) := by decide +kernel
theorem dX5_lastChild_1 : decode cX5_lastChild 1 = .ok (.iload_n 1, 1) := by decide +kernel
theorem dX5_lastChild_2 : decode cX5_lastChild 2 = .ok (.invokevirtual 60, 3) := by decide +kernel
theorem dX5_lastChild_5 : decode cX5_lastChild 5 = .ok (.istore_n 2, 1) := by decide +kernel
theorem dX5_lastChild_6 : decode cX5_lastChild 6 = .ok (.aload_n 0, 1) := by decide +kernel
theorem dX5_lastChild_7 : decode cX5_lastChild 7 = .ok (.iload_n 1, 1) := by decide +kernel
theorem dX5_lastChild_8 : decode cX5_lastChild 8 = .ok (.iconst 1, 1) := by decide +kernel
theorem dX5_lastChild_9 : decode cX5_lastChild 9 = .ok (.invokevirtual 44, 3) := by decide +kernel
theorem dX5_lastChild_12 : decode cX5_lastChild 12 = .ok (.iconst 1, 1) := by decide +kernel
theorem dX5_lastChild_13 : decode cX5_lastChild 13 = .ok (.iadd, 1) := by decide +kernel
theorem dX5_lastChild_14 : decode cX5_lastChild 14 = .ok (.istore_n 3, 1) := by decide +kernel
theorem dX5_lastChild_15 : decode cX5_lastChild 15 = .ok (.iload_n 2, 1) := by decide +kernel
theorem dX5_lastChild_16 : decode cX5_lastChild 16 = .ok (.iconst 1, 1) := by decide +kernel
theorem dX5_lastChild_17 : decode cX5_lastChild 17 = .ok (.isub, 1) := by decide +kernel
theorem dX5_lastChild_18 : decode cX5_lastChild 18 = .ok (.istore 4, 2) := by decide +kernel
theorem dX5_lastChild_20 : decode cX5_lastChild 20 = .ok (.iload 4, 2) := by decide +kernel
theorem dX5_lastChild_22 : decode cX5_lastChild 22 = .ok (.iload_n 1, 1) := by decide +kernel
theorem dX5_lastChild_23 : decode cX5_lastChild 23 = .ok (.if_icmp .le 23, 3) := by decide +kernel
theorem dX5_lastChild_26 : decode cX5_lastChild 26 = .ok (.aload_n 0, 1) := by decide +kernel
theorem dX5_lastChild_27 : decode cX5_lastChild 27 = .ok (.iload 4, 2) := by decide +kernel
theorem dX5_lastChild_29 : decode cX5_lastChild 29 = .ok (.iconst 1, 1) := by decide +kernel
theorem dX5_lastChild_30 : decode cX5_lastChild 30 = .ok (.invokevirtual 44, 3) := by decide +kernel
theorem dX5_lastChild_33 : decode cX5_lastChild 33 = .ok (.iload_n 3, 1) := by decide +kernel
theorem dX5_lastChild_34 : decode cX5_lastChild 34 = .ok (.if_icmp .ne 6, 3) := by decide +kernel
theorem dX5_lastChild_37 : decode cX5_lastChild 37 = .ok (.iload 4, 2) := by decide +kernel
theorem dX5_lastChild_39 : decode cX5_lastChild 39 = .ok (.ireturn, 1) := by decide +kernel
theorem dX5_lastChild_40 : decode cX5_lastChild 40 = .ok (.iinc 4 (-1), 3) := by decide +kernel
theorem dX5_lastChild_43 : decode cX5_lastChild 43 = .ok (.goto (-23), 3) := by decide +kernel
theorem dX5_lastChild_46 : decode cX5_lastChild 46 = .ok (.iconst (-1), 1) := by decide +kernel
theorem dX5_lastChild_47 : decode cX5_lastChild 47 = .ok (.ireturn, 1) := by decide +kernel
theorem dX5_nthWord_0 : decode cX5_nthWord 0 = .ok (.iconst 0, 1) := by decide +kernel
theorem dX5_nthWord_1 : decode cX5_nthWord 1 = .ok (.istore_n 3, 1) := by decide +kernel
theorem dX5_nthWord_2 : decode cX5_nthWord 2 = .ok (.iconst 0, 1) := by decide +kernel
theorem dX5_nthWord_3 : decode cX5_nthWord 3 = .ok (.istore 4, 2) := by decide +kernel
theorem dX5_nthWord_5 : decode cX5_nthWord 5 = .ok (.iload 4, 2) := by decide +kernel
theorem dX5_nthWord_7 : decode cX5_nthWord 7 = .ok (.aload_n 0, 1) := by decide +kernel
theorem dX5_nthWord_8 : decode cX5_nthWord 8 = .ok (.getfield 21, 3) := by decide +kernel
theorem dX5_nthWord_11 : decode cX5_nthWord 11 = .ok (.if_icmp .ge 40, 3) := by decide +kernel
theorem dX5_nthWord_14 : decode cX5_nthWord 14 = .ok (.aload_n 0, 1) := by decide +kernel
theorem dX5_nthWord_15 : decode cX5_nthWord 15 = .ok (.iload 4, 2) := by decide +kernel
theorem dX5_nthWord_17 : decode cX5_nthWord 17 = .ok (.iconst 2, 1) := by decide +kernel
theorem dX5_nthWord_18 : decode cX5_nthWord 18 = .ok (.invokevirtual 48, 3) := by decide +kernel
theorem dX5_nthWord_21 : decode cX5_nthWord 21 = .ok (.ifCond .eq 24, 3) := by decide +kernel
theorem dX5_nthWord_24 : decode cX5_nthWord 24 = .ok (.aload_n 0, 1) := by decide +kernel
theorem dX5_nthWord_25 : decode cX5_nthWord 25 = .ok (.iload 4, 2) := by decide +kernel
theorem dX5_nthWord_27 : decode cX5_nthWord 27 = .ok (.aload_n 1, 1) := by decide +kernel
theorem dX5_nthWord_28 : decode cX5_nthWord 28 = .ok (.invokevirtual 63, 3) := by decide +kernel
theorem dX5_nthWord_31 : decode cX5_nthWord 31 = .ok (.ifCond .eq 14, 3) := by decide +kernel
theorem dX5_nthWord_34 : decode cX5_nthWord 34 = .ok (.iload_n 3, 1) := by decide +kernel
theorem dX5_nthWord_35 : decode cX5_nthWord 35 = .ok (.iload_n 2, 1) := by decide +kernel
theorem dX5_nthWord_36 : decode cX5_nthWord 36 = .ok (.if_icmp .ne 6, 3) := by decide +kernel
theorem dX5_nthWord_39 : decode cX5_nthWord 39 = .ok (.iload 4, 2) := by decide +kernel
theorem dX5_nthWord_41 : decode cX5_nthWord 41 = .ok (.ireturn, 1) := by decide +kernel
theorem dX5_nthWord_42 : decode cX5_nthWord 42 = .ok (.iinc 3 1, 3) := by decide +kernel
theorem dX5_nthWord_45 : decode cX5_nthWord 45 = .ok (.iinc 4 1, 3) := by decide +kernel
theorem dX5_nthWord_48 : decode cX5_nthWord 48 = .ok (.goto (-43), 3) := by decide +kernel
theorem dX5_nthWord_51 : decode cX5_nthWord 51 = .ok (.iconst (-1), 1) := by decide +kernel
theorem dX5_nthWord_52 : decode cX5_nthWord 52 = .ok (.ireturn, 1) := by decide +kernel
theorem dX5_isSpelled_0 : decode cX5_isSpelled 0 = .ok (.aload_n 0, 1) := by decide +kernel
theorem dX5_isSpelled_1 : decode cX5_isSpelled 1 = .ok (.iload_n 1, 1) := by decide +kernel
theorem dX5_isSpelled_2 : decode cX5_isSpelled 2 = .ok (.iconst 5, 1) := by decide +kernel
theorem dX5_isSpelled_3 : decode cX5_isSpelled 3 = .ok (.invokevirtual 44, 3) := by decide +kernel
theorem dX5_isSpelled_6 : decode cX5_isSpelled 6 = .ok (.aload_n 2, 1) := by decide +kernel
theorem dX5_isSpelled_7 : decode cX5_isSpelled 7 = .ok (.invokevirtual 52, 3) := by decide +kernel
theorem dX5_isSpelled_10 : decode cX5_isSpelled 10 = .ok (.if_icmp .eq 5, 3) := by decide +kernel
theorem dX5_isSpelled_13 : decode cX5_isSpelled 13 = .ok (.iconst 0, 1) := by decide +kernel
theorem dX5_isSpelled_14 : decode cX5_isSpelled 14 = .ok (.ireturn, 1) := by decide +kernel
theorem dX5_isSpelled_15 : decode cX5_isSpelled 15 = .ok (.iconst 0, 1) := by decide +kernel
theorem dX5_isSpelled_16 : decode cX5_isSpelled 16 = .ok (.istore_n 3, 1) := by decide +kernel
theorem dX5_isSpelled_17 : decode cX5_isSpelled 17 = .ok (.iload_n 3, 1) := by decide +kernel
theorem dX5_isSpelled_18 : decode cX5_isSpelled 18 = .ok (.aload_n 2, 1) := by decide +kernel
theorem dX5_isSpelled_19 : decode cX5_isSpelled 19 = .ok (.invokevirtual 52, 3) := by decide +kernel
theorem dX5_isSpelled_22 : decode cX5_isSpelled 22 = .ok (.if_icmp .ge 25, 3) := by decide +kernel
theorem dX5_isSpelled_25 : decode cX5_isSpelled 25 = .ok (.aload_n 0, 1) := by decide +kernel
theorem dX5_isSpelled_26 : decode cX5_isSpelled 26 = .ok (.iload_n 1, 1) := by decide +kernel
theorem dX5_isSpelled_27 : decode cX5_isSpelled 27 = .ok (.iload_n 3, 1) := by decide +kernel
theorem dX5_isSpelled_28 : decode cX5_isSpelled 28 = .ok (.invokevirtual 67, 3) := by decide +kernel
theorem dX5_isSpelled_31 : decode cX5_isSpelled 31 = .ok (.aload_n 2, 1) := by decide +kernel
theorem dX5_isSpelled_32 : decode cX5_isSpelled 32 = .ok (.iload_n 3, 1) := by decide +kernel
theorem dX5_isSpelled_33 : decode cX5_isSpelled 33 = .ok (.invokevirtual 33, 3) := by decide +kernel
theorem dX5_isSpelled_36 : decode cX5_isSpelled 36 = .ok (.if_icmp .eq 5, 3) := by decide +kernel
theorem dX5_isSpelled_39 : decode cX5_isSpelled 39 = .ok (.iconst 0, 1) := by decide +kernel
theorem dX5_isSpelled_40 : decode cX5_isSpelled 40 = .ok (.ireturn, 1) := by decide +kernel
theorem dX5_isSpelled_41 : decode cX5_isSpelled 41 = .ok (.iinc 3 1, 3) := by decide +kernel
theorem dX5_isSpelled_44 : decode cX5_isSpelled 44 = .ok (.goto (-27), 3) := by decide +kernel
theorem dX5_isSpelled_47 : decode cX5_isSpelled 47 = .ok (.iconst 1, 1) := by decide +kernel
theorem dX5_isSpelled_48 : decode cX5_isSpelled 48 = .ok (.ireturn, 1) := by decide +kernel
theorem dX5_countDifferentWords_0 : decode cX5_countDifferentWords 0 = .ok (.iconst 0, 1) := by decide +kernel
theorem dX5_countDifferentWords_1 : decode cX5_countDifferentWords 1 = .ok (.istore_n 1, 1) := by decide +kernel
theorem dX5_countDifferentWords_2 : decode cX5_countDifferentWords 2 = .ok (.iconst 0, 1) := by decide +kernel
theorem dX5_countDifferentWords_3 : decode cX5_countDifferentWords 3 = .ok (.istore_n 2, 1) := by decide +kernel
theorem dX5_countDifferentWords_4 : decode cX5_countDifferentWords 4 = .ok (.iload_n 2, 1) := by decide +kernel
theorem dX5_countDifferentWords_5 : decode cX5_countDifferentWords 5 = .ok (.aload_n 0, 1) := by decide +kernel
theorem dX5_countDifferentWords_6 : decode cX5_countDifferentWords 6 = .ok (.getfield 21, 3) := by decide +kernel
theorem dX5_countDifferentWords_9 : decode cX5_countDifferentWords 9 = .ok (.if_icmp .ge 29, 3) := by decide +kernel
theorem dX5_countDifferentWords_12 : decode cX5_countDifferentWords 12 = .ok (.aload_n 0, 1) := by decide +kernel
theorem dX5_countDifferentWords_13 : decode cX5_countDifferentWords 13 = .ok (.iload_n 2, 1) := by decide +kernel
theorem dX5_countDifferentWords_14 : decode cX5_countDifferentWords 14 = .ok (.iconst 2, 1) := by decide +kernel
theorem dX5_countDifferentWords_15 : decode cX5_countDifferentWords 15 = .ok (.invokevirtual 48, 3) := by decide +kernel
theorem dX5_countDifferentWords_18 : decode cX5_countDifferentWords 18 = .ok (.ifCond .eq 14, 3) := by decide +kernel
theorem dX5_countDifferentWords_21 : decode cX5_countDifferentWords 21 = .ok (.aload_n 0, 1) := by decide +kernel
theorem dX5_countDifferentWords_22 : decode cX5_countDifferentWords 22 = .ok (.iload_n 2, 1) := by decide +kernel
theorem dX5_countDifferentWords_23 : decode cX5_countDifferentWords 23 = .ok (.invokevirtual 70, 3) := by decide +kernel
theorem dX5_countDifferentWords_26 : decode cX5_countDifferentWords 26 = .ok (.ifCond .eq 6, 3) := by decide +kernel
theorem dX5_countDifferentWords_29 : decode cX5_countDifferentWords 29 = .ok (.iinc 1 1, 3) := by decide +kernel
theorem dX5_countDifferentWords_32 : decode cX5_countDifferentWords 32 = .ok (.iinc 2 1, 3) := by decide +kernel
theorem dX5_countDifferentWords_35 : decode cX5_countDifferentWords 35 = .ok (.goto (-31), 3) := by decide +kernel
theorem dX5_countDifferentWords_38 : decode cX5_countDifferentWords 38 = .ok (.iload_n 1, 1) := by decide +kernel
theorem dX5_countDifferentWords_39 : decode cX5_countDifferentWords 39 = .ok (.ireturn, 1) := by decide +kernel
theorem dX5_isNewWord_0 : decode cX5_isNewWord 0 = .ok (.iconst 0, 1) := by decide +kernel
theorem dX5_isNewWord_1 : decode cX5_isNewWord 1 = .ok (.istore_n 2, 1) := by decide +kernel
theorem dX5_isNewWord_2 : decode cX5_isNewWord 2 = .ok (.iload_n 2, 1) := by decide +kernel
theorem dX5_isNewWord_3 : decode cX5_isNewWord 3 = .ok (.iload_n 1, 1) := by decide +kernel
theorem dX5_isNewWord_4 : decode cX5_isNewWord 4 = .ok (.if_icmp .ge 29, 3) := by decide +kernel
theorem dX5_isNewWord_7 : decode cX5_isNewWord 7 = .ok (.aload_n 0, 1) := by decide +kernel
theorem dX5_isNewWord_8 : decode cX5_isNewWord 8 = .ok (.iload_n 2, 1) := by decide +kernel
theorem dX5_isNewWord_9 : decode cX5_isNewWord 9 = .ok (.iconst 2, 1) := by decide +kernel
theorem dX5_isNewWord_10 : decode cX5_isNewWord 10 = .ok (.invokevirtual 48, 3) := by decide +kernel
theorem dX5_isNewWord_13 : decode cX5_isNewWord 13 = .ok (.ifCond .eq 14, 3) := by decide +kernel
theorem dX5_isNewWord_16 : decode cX5_isNewWord 16 = .ok (.aload_n 0, 1) := by decide +kernel
theorem dX5_isNewWord_17 : decode cX5_isNewWord 17 = .ok (.iload_n 2, 1) := by decide +kernel
theorem dX5_isNewWord_18 : decode cX5_isNewWord 18 = .ok (.iload_n 1, 1) := by decide +kernel
theorem dX5_isNewWord_19 : decode cX5_isNewWord 19 = .ok (.invokevirtual 74, 3) := by decide +kernel
theorem dX5_isNewWord_22 : decode cX5_isNewWord 22 = .ok (.ifCond .eq 5, 3) := by decide +kernel
theorem dX5_isNewWord_25 : decode cX5_isNewWord 25 = .ok (.iconst 0, 1) := by decide +kernel
theorem dX5_isNewWord_26 : decode cX5_isNewWord 26 = .ok (.ireturn, 1) := by decide +kernel
theorem dX5_isNewWord_27 : decode cX5_isNewWord 27 = .ok (.iinc 2 1, 3) := by decide +kernel
theorem dX5_isNewWord_30 : decode cX5_isNewWord 30 = .ok (.goto (-28), 3) := by decide +kernel
theorem dX5_isNewWord_33 : decode cX5_isNewWord 33 = .ok (.iconst 1, 1) := by decide +kernel
theorem dX5_isNewWord_34 : decode cX5_isNewWord 34 = .ok (.ireturn, 1) := by decide +kernel
theorem dX5_areSame_0 : decode cX5_areSame 0 = .ok (.aload_n 0, 1) := by decide +kernel
theorem dX5_areSame_1 : decode cX5_areSame 1 = .ok (.iload_n 1, 1) := by decide +kernel
theorem dX5_areSame_2 : decode cX5_areSame 2 = .ok (.iconst 5, 1) := by decide +kernel
theorem dX5_areSame_3 : decode cX5_areSame 3 = .ok (.invokevirtual 44, 3) := by decide +kernel
theorem dX5_areSame_6 : decode cX5_areSame 6 = .ok (.istore_n 3, 1) := by decide +kernel
theorem dX5_areSame_7 : decode cX5_areSame 7 = .ok (.iload_n 3, 1) := by decide +kernel
theorem dX5_areSame_8 : decode cX5_areSame 8 = .ok (.aload_n 0, 1) := by decide +kernel
theorem dX5_areSame_9 : decode cX5_areSame 9 = .ok (.iload_n 2, 1) := by decide +kernel
theorem dX5_areSame_10 : decode cX5_areSame 10 = .ok (.iconst 5, 1) := by decide +kernel
theorem dX5_areSame_11 : decode cX5_areSame 11 = .ok (.invokevirtual 44, 3) := by decide +kernel
theorem dX5_areSame_14 : decode cX5_areSame 14 = .ok (.if_icmp .eq 5, 3) := by decide +kernel
theorem dX5_areSame_17 : decode cX5_areSame 17 = .ok (.iconst 0, 1) := by decide +kernel
theorem dX5_areSame_18 : decode cX5_areSame 18 = .ok (.ireturn, 1) := by decide +kernel
theorem dX5_areSame_19 : decode cX5_areSame 19 = .ok (.iconst 0, 1) := by decide +kernel
theorem dX5_areSame_20 : decode cX5_areSame 20 = .ok (.istore 4, 2) := by decide +kernel
theorem dX5_areSame_22 : decode cX5_areSame 22 = .ok (.iload 4, 2) := by decide +kernel
theorem dX5_areSame_24 : decode cX5_areSame 24 = .ok (.iload_n 3, 1) := by decide +kernel
theorem dX5_areSame_25 : decode cX5_areSame 25 = .ok (.if_icmp .ge 28, 3) := by decide +kernel
theorem dX5_areSame_28 : decode cX5_areSame 28 = .ok (.aload_n 0, 1) := by decide +kernel
theorem dX5_areSame_29 : decode cX5_areSame 29 = .ok (.iload_n 1, 1) := by decide +kernel
theorem dX5_areSame_30 : decode cX5_areSame 30 = .ok (.iload 4, 2) := by decide +kernel
theorem dX5_areSame_32 : decode cX5_areSame 32 = .ok (.invokevirtual 67, 3) := by decide +kernel
theorem dX5_areSame_35 : decode cX5_areSame 35 = .ok (.aload_n 0, 1) := by decide +kernel
theorem dX5_areSame_36 : decode cX5_areSame 36 = .ok (.iload_n 2, 1) := by decide +kernel
theorem dX5_areSame_37 : decode cX5_areSame 37 = .ok (.iload 4, 2) := by decide +kernel
theorem dX5_areSame_39 : decode cX5_areSame 39 = .ok (.invokevirtual 67, 3) := by decide +kernel
theorem dX5_areSame_42 : decode cX5_areSame 42 = .ok (.if_icmp .eq 5, 3) := by decide +kernel
theorem dX5_areSame_45 : decode cX5_areSame 45 = .ok (.iconst 0, 1) := by decide +kernel
theorem dX5_areSame_46 : decode cX5_areSame 46 = .ok (.ireturn, 1) := by decide +kernel
theorem dX5_areSame_47 : decode cX5_areSame 47 = .ok (.iinc 4 1, 3) := by decide +kernel
theorem dX5_areSame_50 : decode cX5_areSame 50 = .ok (.goto (-28), 3) := by decide +kernel
theorem dX5_areSame_53 : decode cX5_areSame 53 = .ok (.iconst 1, 1) := by decide +kernel
theorem dX5_areSame_54 : decode cX5_areSame 54 = .ok (.ireturn, 1) := by decide +kernel
theorem dX5_nesting_0 : decode cX5_nesting 0 = .ok (.aload_n 0, 1) := by decide +kernel
theorem dX5_nesting_1 : decode cX5_nesting 1 = .ok (.iload_n 1, 1) := by decide +kernel
theorem dX5_nesting_2 : decode cX5_nesting 2 = .ok (.iconst 1, 1) := by decide +kernel
theorem dX5_nesting_3 : decode cX5_nesting 3 = .ok (.invokevirtual 44, 3) := by decide +kernel
theorem dX5_nesting_6 : decode cX5_nesting 6 = .ok (.aload_n 0, 1) := by decide +kernel
theorem dX5_nesting_7 : decode cX5_nesting 7 = .ok (.iload_n 1, 1) := by decide +kernel
theorem dX5_nesting_8 : decode cX5_nesting 8 = .ok (.iconst 2, 1) := by decide +kernel
theorem dX5_nesting_9 : decode cX5_nesting 9 = .ok (.invokevirtual 44, 3) := by decide +kernel
theorem dX5_nesting_12 : decode cX5_nesting 12 = .ok (.isub, 1) := by decide +kernel
theorem dX5_nesting_13 : decode cX5_nesting 13 = .ok (.ireturn, 1) := by decide +kernel
theorem dX5_innerNesting_0 : decode cX5_innerNesting 0 = .ok (.aload_n 0, 1) := by decide +kernel
theorem dX5_innerNesting_1 : decode cX5_innerNesting 1 = .ok (.iload_n 1, 1) := by decide +kernel
theorem dX5_innerNesting_2 : decode cX5_innerNesting 2 = .ok (.invokevirtual 60, 3) := by decide +kernel
theorem dX5_innerNesting_5 : decode cX5_innerNesting 5 = .ok (.istore_n 2, 1) := by decide +kernel
theorem dX5_innerNesting_6 : decode cX5_innerNesting 6 = .ok (.aload_n 0, 1) := by decide +kernel
theorem dX5_innerNesting_7 : decode cX5_innerNesting 7 = .ok (.iload_n 1, 1) := by decide +kernel
theorem dX5_innerNesting_8 : decode cX5_innerNesting 8 = .ok (.iconst 2, 1) := by decide +kernel
theorem dX5_innerNesting_9 : decode cX5_innerNesting 9 = .ok (.invokevirtual 44, 3) := by decide +kernel
theorem dX5_innerNesting_12 : decode cX5_innerNesting 12 = .ok (.iconst 1, 1) := by decide +kernel
theorem dX5_innerNesting_13 : decode cX5_innerNesting 13 = .ok (.isub, 1) := by decide +kernel
theorem dX5_innerNesting_14 : decode cX5_innerNesting 14 = .ok (.istore_n 3, 1) := by decide +kernel
theorem dX5_innerNesting_15 : decode cX5_innerNesting 15 = .ok (.iconst 0, 1) := by decide +kernel
theorem dX5_innerNesting_16 : decode cX5_innerNesting 16 = .ok (.istore 4, 2) := by decide +kernel
theorem dX5_innerNesting_18 : decode cX5_innerNesting 18 = .ok (.iload_n 1, 1) := by decide +kernel
theorem dX5_innerNesting_19 : decode cX5_innerNesting 19 = .ok (.iconst 1, 1) := by decide +kernel
theorem dX5_innerNesting_20 : decode cX5_innerNesting 20 = .ok (.iadd, 1) := by decide +kernel
theorem dX5_innerNesting_21 : decode cX5_innerNesting 21 = .ok (.istore 5, 2) := by decide +kernel
theorem dX5_innerNesting_23 : decode cX5_innerNesting 23 = .ok (.iload 5, 2) := by decide +kernel
theorem dX5_innerNesting_25 : decode cX5_innerNesting 25 = .ok (.iload_n 2, 1) := by decide +kernel
theorem dX5_innerNesting_26 : decode cX5_innerNesting 26 = .ok (.if_icmp .ge 44, 3) := by decide +kernel
theorem dX5_innerNesting_29 : decode cX5_innerNesting 29 = .ok (.aload_n 0, 1) := by decide +kernel
theorem dX5_innerNesting_30 : decode cX5_innerNesting 30 = .ok (.iload 5, 2) := by decide +kernel
theorem dX5_innerNesting_32 : decode cX5_innerNesting 32 = .ok (.iconst 0, 1) := by decide +kernel
theorem dX5_innerNesting_33 : decode cX5_innerNesting 33 = .ok (.invokevirtual 48, 3) := by decide +kernel
theorem dX5_innerNesting_36 : decode cX5_innerNesting 36 = .ok (.ifCond .ne 13, 3) := by decide +kernel
theorem dX5_innerNesting_39 : decode cX5_innerNesting 39 = .ok (.aload_n 0, 1) := by decide +kernel
theorem dX5_innerNesting_40 : decode cX5_innerNesting 40 = .ok (.iload 5, 2) := by decide +kernel
theorem dX5_innerNesting_42 : decode cX5_innerNesting 42 = .ok (.iconst 4, 1) := by decide +kernel
theorem dX5_innerNesting_43 : decode cX5_innerNesting 43 = .ok (.invokevirtual 48, 3) := by decide +kernel
theorem dX5_innerNesting_46 : decode cX5_innerNesting 46 = .ok (.ifCond .eq 18, 3) := by decide +kernel
theorem dX5_innerNesting_49 : decode cX5_innerNesting 49 = .ok (.iload 4, 2) := by decide +kernel
theorem dX5_innerNesting_51 : decode cX5_innerNesting 51 = .ok (.aload_n 0, 1) := by decide +kernel
theorem dX5_innerNesting_52 : decode cX5_innerNesting 52 = .ok (.iload 5, 2) := by decide +kernel
theorem dX5_innerNesting_54 : decode cX5_innerNesting 54 = .ok (.invokevirtual 77, 3) := by decide +kernel
theorem dX5_innerNesting_57 : decode cX5_innerNesting 57 = .ok (.iload_n 3, 1) := by decide +kernel
theorem dX5_innerNesting_58 : decode cX5_innerNesting 58 = .ok (.isub, 1) := by decide +kernel
theorem dX5_innerNesting_59 : decode cX5_innerNesting 59 = .ok (.invokestatic 80, 3) := by decide +kernel
theorem dX5_innerNesting_62 : decode cX5_innerNesting 62 = .ok (.istore 4, 2) := by decide +kernel
theorem dX5_innerNesting_64 : decode cX5_innerNesting 64 = .ok (.iinc 5 1, 3) := by decide +kernel
theorem dX5_innerNesting_67 : decode cX5_innerNesting 67 = .ok (.goto (-44), 3) := by decide +kernel
theorem dX5_innerNesting_70 : decode cX5_innerNesting 70 = .ok (.iload 4, 2) := by decide +kernel
theorem dX5_innerNesting_72 : decode cX5_innerNesting 72 = .ok (.ireturn, 1) := by decide +kernel
theorem dX5_erase_0 : decode cX5_erase 0 = .ok (.aload_n 0, 1) := by decide +kernel
theorem dX5_erase_1 : decode cX5_erase 1 = .ok (.iload_n 1, 1) := by decide +kernel
theorem dX5_erase_2 : decode cX5_erase 2 = .ok (.invokevirtual 60, 3) := by decide +kernel
theorem dX5_erase_5 : decode cX5_erase 5 = .ok (.istore_n 2, 1) := by decide +kernel
theorem dX5_erase_6 : decode cX5_erase 6 = .ok (.aload_n 0, 1) := by decide +kernel
theorem dX5_erase_7 : decode cX5_erase 7 = .ok (.getfield 12, 3) := by decide +kernel
theorem dX5_erase_10 : decode cX5_erase 10 = .ok (.iload_n 1, 1) := by decide +kernel
theorem dX5_erase_11 : decode cX5_erase 11 = .ok (.bipush 7, 2) := by decide +kernel
theorem dX5_erase_13 : decode cX5_erase 13 = .ok (.imul, 1) := by decide +kernel
theorem dX5_erase_14 : decode cX5_erase 14 = .ok (.iload_n 2, 1) := by decide +kernel
theorem dX5_erase_15 : decode cX5_erase 15 = .ok (.bipush 7, 2) := by decide +kernel
theorem dX5_erase_17 : decode cX5_erase 17 = .ok (.imul, 1) := by decide +kernel
theorem dX5_erase_18 : decode cX5_erase 18 = .ok (.aload_n 0, 1) := by decide +kernel
theorem dX5_erase_19 : decode cX5_erase 19 = .ok (.getfield 21, 3) := by decide +kernel
theorem dX5_erase_22 : decode cX5_erase 22 = .ok (.bipush 7, 2) := by decide +kernel
theorem dX5_erase_24 : decode cX5_erase 24 = .ok (.imul, 1) := by decide +kernel
theorem dX5_erase_25 : decode cX5_erase 25 = .ok (.invokevirtual 85, 3) := by decide +kernel
theorem dX5_erase_28 : decode cX5_erase 28 = .ok (.aload_n 0, 1) := by decide +kernel
theorem dX5_erase_29 : decode cX5_erase 29 = .ok (.dup, 1) := by decide +kernel
theorem dX5_erase_30 : decode cX5_erase 30 = .ok (.getfield 21, 3) := by decide +kernel
theorem dX5_erase_33 : decode cX5_erase 33 = .ok (.iload_n 2, 1) := by decide +kernel
theorem dX5_erase_34 : decode cX5_erase 34 = .ok (.iload_n 1, 1) := by decide +kernel
theorem dX5_erase_35 : decode cX5_erase 35 = .ok (.isub, 1) := by decide +kernel
theorem dX5_erase_36 : decode cX5_erase 36 = .ok (.isub, 1) := by decide +kernel
theorem dX5_erase_37 : decode cX5_erase 37 = .ok (.putfield 21, 3) := by decide +kernel
theorem dX5_erase_40 : decode cX5_erase 40 = .ok (.aload_n 0, 1) := by decide +kernel
theorem dX5_erase_41 : decode cX5_erase 41 = .ok (.getfield 12, 3) := by decide +kernel
theorem dX5_erase_44 : decode cX5_erase 44 = .ok (.aload_n 0, 1) := by decide +kernel
theorem dX5_erase_45 : decode cX5_erase 45 = .ok (.getfield 21, 3) := by decide +kernel
theorem dX5_erase_48 : decode cX5_erase 48 = .ok (.bipush 7, 2) := by decide +kernel
theorem dX5_erase_50 : decode cX5_erase 50 = .ok (.imul, 1) := by decide +kernel
theorem dX5_erase_51 : decode cX5_erase 51 = .ok (.invokevirtual 25, 3) := by decide +kernel
theorem dX5_erase_54 : decode cX5_erase 54 = .ok (.return_, 1) := by decide +kernel
theorem dX5_placeFor_0 : decode cX5_placeFor 0 = .ok (.aload_n 0, 1) := by decide +kernel
theorem dX5_placeFor_1 : decode cX5_placeFor 1 = .ok (.iload_n 2, 1) := by decide +kernel
theorem dX5_placeFor_2 : decode cX5_placeFor 2 = .ok (.invokevirtual 60, 3) := by decide +kernel
theorem dX5_placeFor_5 : decode cX5_placeFor 5 = .ok (.istore 4, 2) := by decide +kernel
theorem dX5_placeFor_7 : decode cX5_placeFor 7 = .ok (.aload_n 0, 1) := by decide +kernel
theorem dX5_placeFor_8 : decode cX5_placeFor 8 = .ok (.iload_n 2, 1) := by decide +kernel
theorem dX5_placeFor_9 : decode cX5_placeFor 9 = .ok (.iconst 1, 1) := by decide +kernel
theorem dX5_placeFor_10 : decode cX5_placeFor 10 = .ok (.invokevirtual 44, 3) := by decide +kernel
theorem dX5_placeFor_13 : decode cX5_placeFor 13 = .ok (.iconst 1, 1) := by decide +kernel
theorem dX5_placeFor_14 : decode cX5_placeFor 14 = .ok (.iadd, 1) := by decide +kernel
theorem dX5_placeFor_15 : decode cX5_placeFor 15 = .ok (.istore 5, 2) := by decide +kernel
theorem dX5_placeFor_17 : decode cX5_placeFor 17 = .ok (.iconst 0, 1) := by decide +kernel
theorem dX5_placeFor_18 : decode cX5_placeFor 18 = .ok (.istore 6, 2) := by decide +kernel
theorem dX5_placeFor_20 : decode cX5_placeFor 20 = .ok (.iload_n 2, 1) := by decide +kernel
theorem dX5_placeFor_21 : decode cX5_placeFor 21 = .ok (.iconst 1, 1) := by decide +kernel
theorem dX5_placeFor_22 : decode cX5_placeFor 22 = .ok (.iadd, 1) := by decide +kernel
theorem dX5_placeFor_23 : decode cX5_placeFor 23 = .ok (.istore 7, 2) := by decide +kernel
theorem dX5_placeFor_25 : decode cX5_placeFor 25 = .ok (.iload 7, 2) := by decide +kernel
theorem dX5_placeFor_27 : decode cX5_placeFor 27 = .ok (.iload 4, 2) := by decide +kernel
theorem dX5_placeFor_29 : decode cX5_placeFor 29 = .ok (.if_icmp .ge 39, 3) := by decide +kernel
theorem dX5_placeFor_32 : decode cX5_placeFor 32 = .ok (.iload 7, 2) := by decide +kernel
theorem dX5_placeFor_34 : decode cX5_placeFor 34 = .ok (.iload_n 1, 1) := by decide +kernel
theorem dX5_placeFor_35 : decode cX5_placeFor 35 = .ok (.if_icmp .eq 27, 3) := by decide +kernel
theorem dX5_placeFor_38 : decode cX5_placeFor 38 = .ok (.aload_n 0, 1) := by decide +kernel
theorem dX5_placeFor_39 : decode cX5_placeFor 39 = .ok (.iload 7, 2) := by decide +kernel
theorem dX5_placeFor_41 : decode cX5_placeFor 41 = .ok (.iconst 1, 1) := by decide +kernel
theorem dX5_placeFor_42 : decode cX5_placeFor 42 = .ok (.invokevirtual 44, 3) := by decide +kernel
theorem dX5_placeFor_45 : decode cX5_placeFor 45 = .ok (.iload 5, 2) := by decide +kernel
theorem dX5_placeFor_47 : decode cX5_placeFor 47 = .ok (.if_icmp .ne 15, 3) := by decide +kernel
theorem dX5_placeFor_50 : decode cX5_placeFor 50 = .ok (.iload 6, 2) := by decide +kernel
theorem dX5_placeFor_52 : decode cX5_placeFor 52 = .ok (.iload_n 3, 1) := by decide +kernel
theorem dX5_placeFor_53 : decode cX5_placeFor 53 = .ok (.if_icmp .ne 6, 3) := by decide +kernel
theorem dX5_placeFor_56 : decode cX5_placeFor 56 = .ok (.iload 7, 2) := by decide +kernel
theorem dX5_placeFor_58 : decode cX5_placeFor 58 = .ok (.ireturn, 1) := by decide +kernel
theorem dX5_placeFor_59 : decode cX5_placeFor 59 = .ok (.iinc 6 1, 3) := by decide +kernel
theorem dX5_placeFor_62 : decode cX5_placeFor 62 = .ok (.iinc 7 1, 3) := by decide +kernel
theorem dX5_placeFor_65 : decode cX5_placeFor 65 = .ok (.goto (-40), 3) := by decide +kernel
theorem dX5_placeFor_68 : decode cX5_placeFor 68 = .ok (.iload 6, 2) := by decide +kernel
theorem dX5_placeFor_70 : decode cX5_placeFor 70 = .ok (.iload_n 3, 1) := by decide +kernel
theorem dX5_placeFor_71 : decode cX5_placeFor 71 = .ok (.if_icmp .ne 8, 3) := by decide +kernel
theorem dX5_placeFor_74 : decode cX5_placeFor 74 = .ok (.iload 4, 2) := by decide +kernel
theorem dX5_placeFor_76 : decode cX5_placeFor 76 = .ok (.goto 4, 3) := by decide +kernel
theorem dX5_placeFor_79 : decode cX5_placeFor 79 = .ok (.iconst (-1), 1) := by decide +kernel
theorem dX5_placeFor_80 : decode cX5_placeFor 80 = .ok (.ireturn, 1) := by decide +kernel
theorem dX5_carry_0 : decode cX5_carry 0 = .ok (.aload_n 0, 1) := by decide +kernel
theorem dX5_carry_1 : decode cX5_carry 1 = .ok (.iload_n 1, 1) := by decide +kernel
theorem dX5_carry_2 : decode cX5_carry 2 = .ok (.invokevirtual 60, 3) := by decide +kernel
theorem dX5_carry_5 : decode cX5_carry 5 = .ok (.istore 4, 2) := by decide +kernel
theorem dX5_carry_7 : decode cX5_carry 7 = .ok (.aload_n 0, 1) := by decide +kernel
theorem dX5_carry_8 : decode cX5_carry 8 = .ok (.iload_n 2, 1) := by decide +kernel
theorem dX5_carry_9 : decode cX5_carry 9 = .ok (.iconst 1, 1) := by decide +kernel
theorem dX5_carry_10 : decode cX5_carry 10 = .ok (.invokevirtual 44, 3) := by decide +kernel
theorem dX5_carry_13 : decode cX5_carry 13 = .ok (.iconst 1, 1) := by decide +kernel
theorem dX5_carry_14 : decode cX5_carry 14 = .ok (.iadd, 1) := by decide +kernel
theorem dX5_carry_15 : decode cX5_carry 15 = .ok (.aload_n 0, 1) := by decide +kernel
theorem dX5_carry_16 : decode cX5_carry 16 = .ok (.iload_n 1, 1) := by decide +kernel
theorem dX5_carry_17 : decode cX5_carry 17 = .ok (.iconst 1, 1) := by decide +kernel
theorem dX5_carry_18 : decode cX5_carry 18 = .ok (.invokevirtual 44, 3) := by decide +kernel
theorem dX5_carry_21 : decode cX5_carry 21 = .ok (.isub, 1) := by decide +kernel
theorem dX5_carry_22 : decode cX5_carry 22 = .ok (.istore 5, 2) := by decide +kernel
theorem dX5_carry_24 : decode cX5_carry 24 = .ok (.aload_n 0, 1) := by decide +kernel
theorem dX5_carry_25 : decode cX5_carry 25 = .ok (.iload_n 2, 1) := by decide +kernel
theorem dX5_carry_26 : decode cX5_carry 26 = .ok (.iconst 2, 1) := by decide +kernel
theorem dX5_carry_27 : decode cX5_carry 27 = .ok (.invokevirtual 44, 3) := by decide +kernel
theorem dX5_carry_30 : decode cX5_carry 30 = .ok (.iconst 1, 1) := by decide +kernel
theorem dX5_carry_31 : decode cX5_carry 31 = .ok (.iadd, 1) := by decide +kernel
theorem dX5_carry_32 : decode cX5_carry 32 = .ok (.aload_n 0, 1) := by decide +kernel
theorem dX5_carry_33 : decode cX5_carry 33 = .ok (.iload_n 1, 1) := by decide +kernel
theorem dX5_carry_34 : decode cX5_carry 34 = .ok (.iconst 2, 1) := by decide +kernel
theorem dX5_carry_35 : decode cX5_carry 35 = .ok (.invokevirtual 44, 3) := by decide +kernel
theorem dX5_carry_38 : decode cX5_carry 38 = .ok (.isub, 1) := by decide +kernel
theorem dX5_carry_39 : decode cX5_carry 39 = .ok (.istore 6, 2) := by decide +kernel
theorem dX5_carry_41 : decode cX5_carry 41 = .ok (.iload_n 1, 1) := by decide +kernel
theorem dX5_carry_42 : decode cX5_carry 42 = .ok (.istore 7, 2) := by decide +kernel
theorem dX5_carry_44 : decode cX5_carry 44 = .ok (.iload 7, 2) := by decide +kernel
theorem dX5_carry_46 : decode cX5_carry 46 = .ok (.iload 4, 2) := by decide +kernel
theorem dX5_carry_48 : decode cX5_carry 48 = .ok (.if_icmp .ge 43, 3) := by decide +kernel
theorem dX5_carry_51 : decode cX5_carry 51 = .ok (.aload_n 0, 1) := by decide +kernel
theorem dX5_carry_52 : decode cX5_carry 52 = .ok (.iload 7, 2) := by decide +kernel
theorem dX5_carry_54 : decode cX5_carry 54 = .ok (.iconst 1, 1) := by decide +kernel
theorem dX5_carry_55 : decode cX5_carry 55 = .ok (.aload_n 0, 1) := by decide +kernel
theorem dX5_carry_56 : decode cX5_carry 56 = .ok (.iload 7, 2) := by decide +kernel
theorem dX5_carry_58 : decode cX5_carry 58 = .ok (.iconst 1, 1) := by decide +kernel
theorem dX5_carry_59 : decode cX5_carry 59 = .ok (.invokevirtual 44, 3) := by decide +kernel
theorem dX5_carry_62 : decode cX5_carry 62 = .ok (.iload 5, 2) := by decide +kernel
theorem dX5_carry_64 : decode cX5_carry 64 = .ok (.iadd, 1) := by decide +kernel
theorem dX5_carry_65 : decode cX5_carry 65 = .ok (.invokevirtual 56, 3) := by decide +kernel
theorem dX5_carry_68 : decode cX5_carry 68 = .ok (.aload_n 0, 1) := by decide +kernel
theorem dX5_carry_69 : decode cX5_carry 69 = .ok (.iload 7, 2) := by decide +kernel
theorem dX5_carry_71 : decode cX5_carry 71 = .ok (.iconst 2, 1) := by decide +kernel
theorem dX5_carry_72 : decode cX5_carry 72 = .ok (.aload_n 0, 1) := by decide +kernel
theorem dX5_carry_73 : decode cX5_carry 73 = .ok (.iload 7, 2) := by decide +kernel
theorem dX5_carry_75 : decode cX5_carry 75 = .ok (.iconst 2, 1) := by decide +kernel
theorem dX5_carry_76 : decode cX5_carry 76 = .ok (.invokevirtual 44, 3) := by decide +kernel
theorem dX5_carry_79 : decode cX5_carry 79 = .ok (.iload 6, 2) := by decide +kernel
theorem dX5_carry_81 : decode cX5_carry 81 = .ok (.iadd, 1) := by decide +kernel
theorem dX5_carry_82 : decode cX5_carry 82 = .ok (.invokevirtual 56, 3) := by decide +kernel
theorem dX5_carry_85 : decode cX5_carry 85 = .ok (.iinc 7 1, 3) := by decide +kernel
theorem dX5_carry_88 : decode cX5_carry 88 = .ok (.goto (-44), 3) := by decide +kernel
theorem dX5_carry_91 : decode cX5_carry 91 = .ok (.iload_n 3, 1) := by decide +kernel
theorem dX5_carry_92 : decode cX5_carry 92 = .ok (.iload_n 1, 1) := by decide +kernel
theorem dX5_carry_93 : decode cX5_carry 93 = .ok (.if_icmp .gt 25, 3) := by decide +kernel
theorem dX5_carry_96 : decode cX5_carry 96 = .ok (.aload_n 0, 1) := by decide +kernel
theorem dX5_carry_97 : decode cX5_carry 97 = .ok (.getfield 12, 3) := by decide +kernel
theorem dX5_carry_100 : decode cX5_carry 100 = .ok (.iload_n 3, 1) := by decide +kernel
theorem dX5_carry_101 : decode cX5_carry 101 = .ok (.bipush 7, 2) := by decide +kernel
theorem dX5_carry_103 : decode cX5_carry 103 = .ok (.imul, 1) := by decide +kernel
theorem dX5_carry_104 : decode cX5_carry 104 = .ok (.iload_n 1, 1) := by decide +kernel
theorem dX5_carry_105 : decode cX5_carry 105 = .ok (.bipush 7, 2) := by decide +kernel
theorem dX5_carry_107 : decode cX5_carry 107 = .ok (.imul, 1) := by decide +kernel
theorem dX5_carry_108 : decode cX5_carry 108 = .ok (.iload 4, 2) := by decide +kernel
theorem dX5_carry_110 : decode cX5_carry 110 = .ok (.bipush 7, 2) := by decide +kernel
theorem dX5_carry_112 : decode cX5_carry 112 = .ok (.imul, 1) := by decide +kernel
theorem dX5_carry_113 : decode cX5_carry 113 = .ok (.invokevirtual 85, 3) := by decide +kernel
theorem dX5_carry_116 : decode cX5_carry 116 = .ok (.iload_n 3, 1) := by decide +kernel
theorem dX5_carry_117 : decode cX5_carry 117 = .ok (.ireturn, 1) := by decide +kernel
theorem dX5_carry_118 : decode cX5_carry 118 = .ok (.aload_n 0, 1) := by decide +kernel
theorem dX5_carry_119 : decode cX5_carry 119 = .ok (.getfield 12, 3) := by decide +kernel
theorem dX5_carry_122 : decode cX5_carry 122 = .ok (.iload_n 1, 1) := by decide +kernel
theorem dX5_carry_123 : decode cX5_carry 123 = .ok (.bipush 7, 2) := by decide +kernel
theorem dX5_carry_125 : decode cX5_carry 125 = .ok (.imul, 1) := by decide +kernel
theorem dX5_carry_126 : decode cX5_carry 126 = .ok (.iload 4, 2) := by decide +kernel
theorem dX5_carry_128 : decode cX5_carry 128 = .ok (.bipush 7, 2) := by decide +kernel
theorem dX5_carry_130 : decode cX5_carry 130 = .ok (.imul, 1) := by decide +kernel
theorem dX5_carry_131 : decode cX5_carry 131 = .ok (.iload_n 3, 1) := by decide +kernel
theorem dX5_carry_132 : decode cX5_carry 132 = .ok (.bipush 7, 2) := by decide +kernel
theorem dX5_carry_134 : decode cX5_carry 134 = .ok (.imul, 1) := by decide +kernel
theorem dX5_carry_135 : decode cX5_carry 135 = .ok (.invokevirtual 85, 3) := by decide +kernel
theorem dX5_carry_138 : decode cX5_carry 138 = .ok (.iload_n 3, 1) := by decide +kernel
theorem dX5_carry_139 : decode cX5_carry 139 = .ok (.iload 4, 2) := by decide +kernel
theorem dX5_carry_141 : decode cX5_carry 141 = .ok (.iload_n 1, 1) := by decide +kernel
theorem dX5_carry_142 : decode cX5_carry 142 = .ok (.isub, 1) := by decide +kernel
theorem dX5_carry_143 : decode cX5_carry 143 = .ok (.isub, 1) := by decide +kernel
theorem dX5_carry_144 : decode cX5_carry 144 = .ok (.ireturn, 1) := by decide +kernel
theorem dX6_init_0 : decode cX6_init 0 = .ok (.aload_n 0, 1) := by decide +kernel
theorem dX6_init_1 : decode cX6_init 1 = .ok (.invokespecial 1, 3) := by decide +kernel
theorem dX6_init_4 : decode cX6_init 4 = .ok (.aload_n 0, 1) := by decide +kernel
theorem dX6_init_5 : decode cX6_init 5 = .ok (.new 7, 3) := by decide +kernel
theorem dX6_init_8 : decode cX6_init 8 = .ok (.dup, 1) := by decide +kernel
theorem dX6_init_9 : decode cX6_init 9 = .ok (.invokespecial 9, 3) := by decide +kernel
theorem dX6_init_12 : decode cX6_init 12 = .ok (.putfield 10, 3) := by decide +kernel
theorem dX6_init_15 : decode cX6_init 15 = .ok (.aload_n 0, 1) := by decide +kernel
theorem dX6_init_16 : decode cX6_init 16 = .ok (.new 7, 3) := by decide +kernel
theorem dX6_init_19 : decode cX6_init 19 = .ok (.dup, 1) := by decide +kernel
theorem dX6_init_20 : decode cX6_init 20 = .ok (.invokespecial 9, 3) := by decide +kernel
theorem dX6_init_23 : decode cX6_init 23 = .ok (.putfield 16, 3) := by decide +kernel
theorem dX6_init_26 : decode cX6_init 26 = .ok (.aload_n 0, 1) := by decide +kernel
theorem dX6_init_27 : decode cX6_init 27 = .ok (.new 19, 3) := by decide +kernel
theorem dX6_init_30 : decode cX6_init 30 = .ok (.dup, 1) := by decide +kernel
theorem dX6_init_31 : decode cX6_init 31 = .ok (.invokespecial 21, 3) := by decide +kernel
theorem dX6_init_34 : decode cX6_init 34 = .ok (.putfield 22, 3) := by decide +kernel
theorem dX6_init_37 : decode cX6_init 37 = .ok (.aload_n 0, 1) := by decide +kernel
theorem dX6_init_38 : decode cX6_init 38 = .ok (.new 26, 3) := by decide +kernel
theorem dX6_init_41 : decode cX6_init 41 = .ok (.dup, 1) := by decide +kernel
theorem dX6_init_42 : decode cX6_init 42 = .ok (.invokespecial 28, 3) := by decide +kernel
theorem dX6_init_45 : decode cX6_init 45 = .ok (.putfield 29, 3) := by decide +kernel
theorem dX6_init_48 : decode cX6_init 48 = .ok (.aload_n 0, 1) := by decide +kernel
theorem dX6_init_49 : decode cX6_init 49 = .ok (.new 33, 3) := by decide +kernel
theorem dX6_init_52 : decode cX6_init 52 = .ok (.dup, 1) := by decide +kernel
theorem dX6_init_53 : decode cX6_init 53 = .ok (.aload_n 0, 1) := by decide +kernel
theorem dX6_init_54 : decode cX6_init 54 = .ok (.getfield 10, 3) := by decide +kernel
theorem dX6_init_57 : decode cX6_init 57 = .ok (.aload_n 0, 1) := by decide +kernel
theorem dX6_init_58 : decode cX6_init 58 = .ok (.getfield 22, 3) := by decide +kernel
theorem dX6_init_61 : decode cX6_init 61 = .ok (.invokespecial 35, 3) := by decide +kernel
theorem dX6_init_64 : decode cX6_init 64 = .ok (.putfield 38, 3) := by decide +kernel
theorem dX6_init_67 : decode cX6_init 67 = .ok (.aload_n 0, 1) := by decide +kernel
theorem dX6_init_68 : decode cX6_init 68 = .ok (.new 42, 3) := by decide +kernel
theorem dX6_init_71 : decode cX6_init 71 = .ok (.dup, 1) := by decide +kernel
theorem dX6_init_72 : decode cX6_init 72 = .ok (.aload_n 0, 1) := by decide +kernel
theorem dX6_init_73 : decode cX6_init 73 = .ok (.getfield 10, 3) := by decide +kernel
theorem dX6_init_76 : decode cX6_init 76 = .ok (.aload_n 0, 1) := by decide +kernel
theorem dX6_init_77 : decode cX6_init 77 = .ok (.getfield 38, 3) := by decide +kernel
theorem dX6_init_80 : decode cX6_init 80 = .ok (.aload_n 0, 1) := by decide +kernel
theorem dX6_init_81 : decode cX6_init 81 = .ok (.getfield 29, 3) := by decide +kernel
theorem dX6_init_84 : decode cX6_init 84 = .ok (.aload_n 0, 1) := by decide +kernel
theorem dX6_init_85 : decode cX6_init 85 = .ok (.getfield 22, 3) := by decide +kernel
theorem dX6_init_88 : decode cX6_init 88 = .ok (.invokespecial 44, 3) := by decide +kernel
theorem dX6_init_91 : decode cX6_init 91 = .ok (.putfield 47, 3) := by decide +kernel
theorem dX6_init_94 : decode cX6_init 94 = .ok (.aload_n 0, 1) := by decide +kernel
theorem dX6_init_95 : decode cX6_init 95 = .ok (.new 51, 3) := by decide +kernel
theorem dX6_init_98 : decode cX6_init 98 = .ok (.dup, 1) := by decide +kernel
theorem dX6_init_99 : decode cX6_init 99 = .ok (.aload_n 0, 1) := by decide +kernel
theorem dX6_init_100 : decode cX6_init 100 = .ok (.getfield 29, 3) := by decide +kernel
theorem dX6_init_103 : decode cX6_init 103 = .ok (.invokespecial 53, 3) := by decide +kernel
theorem dX6_init_106 : decode cX6_init 106 = .ok (.putfield 56, 3) := by decide +kernel
theorem dX6_init_109 : decode cX6_init 109 = .ok (.aload_n 0, 1) := by decide +kernel
theorem dX6_init_110 : decode cX6_init 110 = .ok (.getfield 29, 3) := by decide +kernel
theorem dX6_init_113 : decode cX6_init 113 = .ok (.invokevirtual 60, 3) := by decide +kernel
theorem dX6_init_116 : decode cX6_init 116 = .ok (.return_, 1) := by decide +kernel
theorem dX6_feed_0 : decode cX6_feed 0 = .ok (.aload_n 0, 1) := by decide +kernel
theorem dX6_feed_1 : decode cX6_feed 1 = .ok (.lload_n 1, 1) := by decide +kernel
theorem dX6_feed_2 : decode cX6_feed 2 = .ok (.invokevirtual 63, 3) := by decide +kernel
theorem dX6_feed_5 : decode cX6_feed 5 = .ok (.iconst 0, 1) := by decide +kernel
theorem dX6_feed_6 : decode cX6_feed 6 = .ok (.istore_n 3, 1) := by decide +kernel
theorem dX6_feed_7 : decode cX6_feed 7 = .ok (.iload_n 3, 1) := by decide +kernel
theorem dX6_feed_8 : decode cX6_feed 8 = .ok (.aload_n 0, 1) := by decide +kernel
theorem dX6_feed_9 : decode cX6_feed 9 = .ok (.getfield 16, 3) := by decide +kernel
theorem dX6_feed_12 : decode cX6_feed 12 = .ok (.invokevirtual 67, 3) := by decide +kernel
theorem dX6_feed_15 : decode cX6_feed 15 = .ok (.if_icmp .ge 33, 3) := by decide +kernel
theorem dX6_feed_18 : decode cX6_feed 18 = .ok (.aload_n 0, 1) := by decide +kernel
theorem dX6_feed_19 : decode cX6_feed 19 = .ok (.getfield 16, 3) := by decide +kernel
theorem dX6_feed_22 : decode cX6_feed 22 = .ok (.iload_n 3, 1) := by decide +kernel
theorem dX6_feed_23 : decode cX6_feed 23 = .ok (.invokevirtual 71, 3) := by decide +kernel
theorem dX6_feed_26 : decode cX6_feed 26 = .ok (.invokestatic 75, 3) := by decide +kernel
theorem dX6_feed_29 : decode cX6_feed 29 = .ok (.ifCond .ne 13, 3) := by decide +kernel
theorem dX6_feed_32 : decode cX6_feed 32 = .ok (.new 79, 3) := by decide +kernel
theorem dX6_feed_35 : decode cX6_feed 35 = .ok (.dup, 1) := by decide +kernel
theorem dX6_feed_36 : decode cX6_feed 36 = .ok (.ldc 81, 2) := by decide +kernel
theorem dX6_feed_38 : decode cX6_feed 38 = .ok (.invokespecial 83, 3) := by decide +kernel
theorem dX6_feed_41 : decode cX6_feed 41 = .ok (.athrow, 1) := by decide +kernel
theorem dX6_feed_42 : decode cX6_feed 42 = .ok (.iinc 3 1, 3) := by decide +kernel
theorem dX6_feed_45 : decode cX6_feed 45 = .ok (.goto (-38), 3) := by decide +kernel
theorem dX6_feed_48 : decode cX6_feed 48 = .ok (.aload_n 0, 1) := by decide +kernel
theorem dX6_feed_49 : decode cX6_feed 49 = .ok (.getfield 10, 3) := by decide +kernel
theorem dX6_feed_52 : decode cX6_feed 52 = .ok (.invokevirtual 67, 3) := by decide +kernel
theorem dX6_feed_55 : decode cX6_feed 55 = .ok (.aload_n 0, 1) := by decide +kernel
theorem dX6_feed_56 : decode cX6_feed 56 = .ok (.getfield 16, 3) := by decide +kernel
theorem dX6_feed_59 : decode cX6_feed 59 = .ok (.invokevirtual 67, 3) := by decide +kernel
theorem dX6_feed_62 : decode cX6_feed 62 = .ok (.iadd, 1) := by decide +kernel
theorem dX6_feed_63 : decode cX6_feed 63 = .ok (.sipush 600, 3) := by decide +kernel
theorem dX6_feed_66 : decode cX6_feed 66 = .ok (.if_icmp .le 13, 3) := by decide +kernel
theorem dX6_feed_69 : decode cX6_feed 69 = .ok (.new 86, 3) := by decide +kernel
theorem dX6_feed_72 : decode cX6_feed 72 = .ok (.dup, 1) := by decide +kernel
theorem dX6_feed_73 : decode cX6_feed 73 = .ok (.ldc 88, 2) := by decide +kernel
theorem dX6_feed_75 : decode cX6_feed 75 = .ok (.invokespecial 90, 3) := by decide +kernel
theorem dX6_feed_78 : decode cX6_feed 78 = .ok (.athrow, 1) := by decide +kernel
theorem dX6_feed_79 : decode cX6_feed 79 = .ok (.iconst 0, 1) := by decide +kernel
theorem dX6_feed_80 : decode cX6_feed 80 = .ok (.istore_n 3, 1) := by decide +kernel
theorem dX6_feed_81 : decode cX6_feed 81 = .ok (.iload_n 3, 1) := by decide +kernel
theorem dX6_feed_82 : decode cX6_feed 82 = .ok (.aload_n 0, 1) := by decide +kernel
theorem dX6_feed_83 : decode cX6_feed 83 = .ok (.getfield 16, 3) := by decide +kernel
theorem dX6_feed_86 : decode cX6_feed 86 = .ok (.invokevirtual 67, 3) := by decide +kernel
theorem dX6_feed_89 : decode cX6_feed 89 = .ok (.if_icmp .ge 24, 3) := by decide +kernel
theorem dX6_feed_92 : decode cX6_feed 92 = .ok (.aload_n 0, 1) := by decide +kernel
theorem dX6_feed_93 : decode cX6_feed 93 = .ok (.getfield 10, 3) := by decide +kernel
theorem dX6_feed_96 : decode cX6_feed 96 = .ok (.aload_n 0, 1) := by decide +kernel
theorem dX6_feed_97 : decode cX6_feed 97 = .ok (.getfield 16, 3) := by decide +kernel
theorem dX6_feed_100 : decode cX6_feed 100 = .ok (.iload_n 3, 1) := by decide +kernel
theorem dX6_feed_101 : decode cX6_feed 101 = .ok (.invokevirtual 71, 3) := by decide +kernel
theorem dX6_feed_104 : decode cX6_feed 104 = .ok (.invokevirtual 91, 3) := by decide +kernel
theorem dX6_feed_107 : decode cX6_feed 107 = .ok (.iinc 3 1, 3) := by decide +kernel
theorem dX6_feed_110 : decode cX6_feed 110 = .ok (.goto (-29), 3) := by decide +kernel
theorem dX6_feed_113 : decode cX6_feed 113 = .ok (.aload_n 0, 1) := by decide +kernel
theorem dX6_feed_114 : decode cX6_feed 114 = .ok (.getfield 10, 3) := by decide +kernel
theorem dX6_feed_117 : decode cX6_feed 117 = .ok (.invokevirtual 67, 3) := by decide +kernel
theorem dX6_feed_120 : decode cX6_feed 120 = .ok (.ireturn, 1) := by decide +kernel
theorem dX6_trim_0 : decode cX6_trim 0 = .ok (.aload_n 0, 1) := by decide +kernel
theorem dX6_trim_1 : decode cX6_trim 1 = .ok (.getfield 10, 3) := by decide +kernel
theorem dX6_trim_4 : decode cX6_trim 4 = .ok (.invokevirtual 67, 3) := by decide +kernel
theorem dX6_trim_7 : decode cX6_trim 7 = .ok (.istore_n 2, 1) := by decide +kernel
theorem dX6_trim_8 : decode cX6_trim 8 = .ok (.iload_n 1, 1) := by decide +kernel
theorem dX6_trim_9 : decode cX6_trim 9 = .ok (.ifCond .lt 8, 3) := by decide +kernel
theorem dX6_trim_12 : decode cX6_trim 12 = .ok (.iload_n 1, 1) := by decide +kernel
theorem dX6_trim_13 : decode cX6_trim 13 = .ok (.iload_n 2, 1) := by decide +kernel
theorem dX6_trim_14 : decode cX6_trim 14 = .ok (.if_icmp .le 13, 3) := by decide +kernel
theorem dX6_trim_17 : decode cX6_trim 17 = .ok (.new 79, 3) := by decide +kernel
theorem dX6_trim_20 : decode cX6_trim 20 = .ok (.dup, 1) := by decide +kernel
theorem dX6_trim_21 : decode cX6_trim 21 = .ok (.ldc 95, 2) := by decide +kernel
theorem dX6_trim_23 : decode cX6_trim 23 = .ok (.invokespecial 83, 3) := by decide +kernel
theorem dX6_trim_26 : decode cX6_trim 26 = .ok (.athrow, 1) := by decide +kernel
theorem dX6_trim_27 : decode cX6_trim 27 = .ok (.aload_n 0, 1) := by decide +kernel
theorem dX6_trim_28 : decode cX6_trim 28 = .ok (.getfield 10, 3) := by decide +kernel
theorem dX6_trim_31 : decode cX6_trim 31 = .ok (.iload_n 1, 1) := by decide +kernel
theorem dX6_trim_32 : decode cX6_trim 32 = .ok (.invokevirtual 97, 3) := by decide +kernel
theorem dX6_trim_35 : decode cX6_trim 35 = .ok (.iload_n 2, 1) := by decide +kernel
theorem dX6_trim_36 : decode cX6_trim 36 = .ok (.ireturn, 1) := by decide +kernel
theorem dX6_length_0 : decode cX6_length 0 = .ok (.aload_n 0, 1) := by decide +kernel
theorem dX6_length_1 : decode cX6_length 1 = .ok (.getfield 10, 3) := by decide +kernel
theorem dX6_length_4 : decode cX6_length 4 = .ok (.invokevirtual 67, 3) := by decide +kernel
theorem dX6_length_7 : decode cX6_length 7 = .ok (.ireturn, 1) := by decide +kernel
theorem dX6_parse_0 : decode cX6_parse 0 = .ok (.aload_n 0, 1) := by decide +kernel
theorem dX6_parse_1 : decode cX6_parse 1 = .ok (.getfield 22, 3) := by decide +kernel
theorem dX6_parse_4 : decode cX6_parse 4 = .ok (.invokevirtual 100, 3) := by decide +kernel
theorem dX6_parse_7 : decode cX6_parse 7 = .ok (.aload_n 0, 1) := by decide +kernel
theorem dX6_parse_8 : decode cX6_parse 8 = .ok (.getfield 29, 3) := by decide +kernel
theorem dX6_parse_11 : decode cX6_parse 11 = .ok (.invokevirtual 60, 3) := by decide +kernel
theorem dX6_parse_14 : decode cX6_parse 14 = .ok (.aload_n 0, 1) := by decide +kernel
theorem dX6_parse_15 : decode cX6_parse 15 = .ok (.getfield 38, 3) := by decide +kernel
theorem dX6_parse_18 : decode cX6_parse 18 = .ok (.invokevirtual 101, 3) := by decide +kernel
theorem dX6_parse_21 : decode cX6_parse 21 = .ok (.aload_n 0, 1) := by decide +kernel
theorem dX6_parse_22 : decode cX6_parse 22 = .ok (.getfield 47, 3) := by decide +kernel
theorem dX6_parse_25 : decode cX6_parse 25 = .ok (.invokevirtual 102, 3) := by decide +kernel
theorem dX6_parse_28 : decode cX6_parse 28 = .ok (.iconst 0, 1) := by decide +kernel
theorem dX6_parse_29 : decode cX6_parse 29 = .ok (.istore_n 1, 1) := by decide +kernel
theorem dX6_parse_30 : decode cX6_parse 30 = .ok (.iload_n 1, 1) := by decide +kernel
theorem dX6_parse_31 : decode cX6_parse 31 = .ok (.sipush 600, 3) := by decide +kernel
theorem dX6_parse_34 : decode cX6_parse 34 = .ok (.if_icmp .gt 26, 3) := by decide +kernel
theorem dX6_parse_37 : decode cX6_parse 37 = .ok (.aload_n 0, 1) := by decide +kernel
theorem dX6_parse_38 : decode cX6_parse 38 = .ok (.getfield 38, 3) := by decide +kernel
theorem dX6_parse_41 : decode cX6_parse 41 = .ok (.invokevirtual 103, 3) := by decide +kernel
theorem dX6_parse_44 : decode cX6_parse 44 = .ok (.ifCond .eq 16, 3) := by decide +kernel
theorem dX6_parse_47 : decode cX6_parse 47 = .ok (.aload_n 0, 1) := by decide +kernel
theorem dX6_parse_48 : decode cX6_parse 48 = .ok (.getfield 47, 3) := by decide +kernel
theorem dX6_parse_51 : decode cX6_parse 51 = .ok (.invokevirtual 107, 3) := by decide +kernel
theorem dX6_parse_54 : decode cX6_parse 54 = .ok (.iinc 1 1, 3) := by decide +kernel
theorem dX6_parse_57 : decode cX6_parse 57 = .ok (.goto (-27), 3) := by decide +kernel
theorem dX6_parse_60 : decode cX6_parse 60 = .ok (.aload_n 0, 1) := by decide +kernel
theorem dX6_parse_61 : decode cX6_parse 61 = .ok (.getfield 47, 3) := by decide +kernel
theorem dX6_parse_64 : decode cX6_parse 64 = .ok (.invokevirtual 110, 3) := by decide +kernel
theorem dX6_parse_67 : decode cX6_parse 67 = .ok (.aload_n 0, 1) := by decide +kernel
theorem dX6_parse_68 : decode cX6_parse 68 = .ok (.getfield 29, 3) := by decide +kernel
theorem dX6_parse_71 : decode cX6_parse 71 = .ok (.invokevirtual 113, 3) := by decide +kernel
theorem dX6_parse_74 : decode cX6_parse 74 = .ok (.ireturn, 1) := by decide +kernel
theorem dX6_repairCount_0 : decode cX6_repairCount 0 = .ok (.aload_n 0, 1) := by decide +kernel
theorem dX6_repairCount_1 : decode cX6_repairCount 1 = .ok (.getfield 22, 3) := by decide +kernel
theorem dX6_repairCount_4 : decode cX6_repairCount 4 = .ok (.invokevirtual 114, 3) := by decide +kernel
theorem dX6_repairCount_7 : decode cX6_repairCount 7 = .ok (.ireturn, 1) := by decide +kernel
theorem dX6_repair_0 : decode cX6_repair 0 = .ok (.iload_n 1, 1) := by decide +kernel
theorem dX6_repair_1 : decode cX6_repair 1 = .ok (.ifCond .lt 23, 3) := by decide +kernel
theorem dX6_repair_4 : decode cX6_repair 4 = .ok (.iload_n 1, 1) := by decide +kernel
theorem dX6_repair_5 : decode cX6_repair 5 = .ok (.aload_n 0, 1) := by decide +kernel
theorem dX6_repair_6 : decode cX6_repair 6 = .ok (.getfield 22, 3) := by decide +kernel
theorem dX6_repair_9 : decode cX6_repair 9 = .ok (.invokevirtual 114, 3) := by decide +kernel
theorem dX6_repair_12 : decode cX6_repair 12 = .ok (.if_icmp .ge 12, 3) := by decide +kernel
theorem dX6_repair_15 : decode cX6_repair 15 = .ok (.iload_n 2, 1) := by decide +kernel
theorem dX6_repair_16 : decode cX6_repair 16 = .ok (.ifCond .lt 8, 3) := by decide +kernel
theorem dX6_repair_19 : decode cX6_repair 19 = .ok (.iload_n 2, 1) := by decide +kernel
theorem dX6_repair_20 : decode cX6_repair 20 = .ok (.iconst 3, 1) := by decide +kernel
theorem dX6_repair_21 : decode cX6_repair 21 = .ok (.if_icmp .lt 13, 3) := by decide +kernel
theorem dX6_repair_24 : decode cX6_repair 24 = .ok (.new 115, 3) := by decide +kernel
theorem dX6_repair_27 : decode cX6_repair 27 = .ok (.dup, 1) := by decide +kernel
theorem dX6_repair_28 : decode cX6_repair 28 = .ok (.ldc 117, 2) := by decide +kernel
theorem dX6_repair_30 : decode cX6_repair 30 = .ok (.invokespecial 119, 3) := by decide +kernel
theorem dX6_repair_33 : decode cX6_repair 33 = .ok (.athrow, 1) := by decide +kernel
theorem dX6_repair_34 : decode cX6_repair 34 = .ok (.aload_n 0, 1) := by decide +kernel
theorem dX6_repair_35 : decode cX6_repair 35 = .ok (.getfield 22, 3) := by decide +kernel
theorem dX6_repair_38 : decode cX6_repair 38 = .ok (.iload_n 1, 1) := by decide +kernel
theorem dX6_repair_39 : decode cX6_repair 39 = .ok (.iload_n 2, 1) := by decide +kernel
theorem dX6_repair_40 : decode cX6_repair 40 = .ok (.invokevirtual 120, 3) := by decide +kernel
theorem dX6_repair_43 : decode cX6_repair 43 = .ok (.ireturn, 1) := by decide +kernel
theorem dX6_nodeCount_0 : decode cX6_nodeCount 0 = .ok (.aload_n 0, 1) := by decide +kernel
theorem dX6_nodeCount_1 : decode cX6_nodeCount 1 = .ok (.getfield 29, 3) := by decide +kernel
theorem dX6_nodeCount_4 : decode cX6_nodeCount 4 = .ok (.invokevirtual 113, 3) := by decide +kernel
theorem dX6_nodeCount_7 : decode cX6_nodeCount 7 = .ok (.ireturn, 1) := by decide +kernel
theorem dX6_kind_0 : decode cX6_kind 0 = .ok (.aload_n 0, 1) := by decide +kernel
theorem dX6_kind_1 : decode cX6_kind 1 = .ok (.iload_n 1, 1) := by decide +kernel
theorem dX6_kind_2 : decode cX6_kind 2 = .ok (.invokevirtual 124, 3) := by decide +kernel
theorem dX6_kind_5 : decode cX6_kind 5 = .ok (.aload_n 0, 1) := by decide +kernel
theorem dX6_kind_6 : decode cX6_kind 6 = .ok (.getfield 29, 3) := by decide +kernel
theorem dX6_kind_9 : decode cX6_kind 9 = .ok (.iload_n 1, 1) := by decide +kernel
theorem dX6_kind_10 : decode cX6_kind 10 = .ok (.iconst 0, 1) := by decide +kernel
theorem dX6_kind_11 : decode cX6_kind 11 = .ok (.invokevirtual 127, 3) := by decide +kernel
theorem dX6_kind_14 : decode cX6_kind 14 = .ok (.ireturn, 1) := by decide +kernel
theorem dX6_parent_0 : decode cX6_parent 0 = .ok (.aload_n 0, 1) := by decide +kernel
theorem dX6_parent_1 : decode cX6_parent 1 = .ok (.iload_n 1, 1) := by decide +kernel
theorem dX6_parent_2 : decode cX6_parent 2 = .ok (.invokevirtual 124, 3) := by decide +kernel
theorem dX6_parent_5 : decode cX6_parent 5 = .ok (.aload_n 0, 1) := by decide +kernel
theorem dX6_parent_6 : decode cX6_parent 6 = .ok (.getfield 29, 3) := by decide +kernel
theorem dX6_parent_9 : decode cX6_parent 9 = .ok (.iload_n 1, 1) := by decide +kernel
theorem dX6_parent_10 : decode cX6_parent 10 = .ok (.invokevirtual 128, 3) := by decide +kernel
theorem dX6_parent_13 : decode cX6_parent 13 = .ok (.ireturn, 1) := by decide +kernel
theorem dX6_childCount_0 : decode cX6_childCount 0 = .ok (.aload_n 0, 1) := by decide +kernel
theorem dX6_childCount_1 : decode cX6_childCount 1 = .ok (.iload_n 1, 1) := by decide +kernel
theorem dX6_childCount_2 : decode cX6_childCount 2 = .ok (.invokevirtual 124, 3) := by decide +kernel
theorem dX6_childCount_5 : decode cX6_childCount 5 = .ok (.aload_n 0, 1) := by decide +kernel
theorem dX6_childCount_6 : decode cX6_childCount 6 = .ok (.getfield 29, 3) := by decide +kernel
theorem dX6_childCount_9 : decode cX6_childCount 9 = .ok (.iload_n 1, 1) := by decide +kernel
theorem dX6_childCount_10 : decode cX6_childCount 10 = .ok (.invokevirtual 131, 3) := by decide +kernel
theorem dX6_childCount_13 : decode cX6_childCount 13 = .ok (.ireturn, 1) := by decide +kernel
theorem dX6_child_0 : decode cX6_child 0 = .ok (.aload_n 0, 1) := by decide +kernel
theorem dX6_child_1 : decode cX6_child 1 = .ok (.iload_n 1, 1) := by decide +kernel
theorem dX6_child_2 : decode cX6_child 2 = .ok (.invokevirtual 124, 3) := by decide +kernel
theorem dX6_child_5 : decode cX6_child 5 = .ok (.aload_n 0, 1) := by decide +kernel
theorem dX6_child_6 : decode cX6_child 6 = .ok (.getfield 29, 3) := by decide +kernel
theorem dX6_child_9 : decode cX6_child 9 = .ok (.iload_n 1, 1) := by decide +kernel
theorem dX6_child_10 : decode cX6_child 10 = .ok (.iload_n 2, 1) := by decide +kernel
theorem dX6_child_11 : decode cX6_child 11 = .ok (.invokevirtual 134, 3) := by decide +kernel
theorem dX6_child_14 : decode cX6_child 14 = .ok (.istore_n 3, 1) := by decide +kernel
theorem dX6_child_15 : decode cX6_child 15 = .ok (.iload_n 3, 1) := by decide +kernel
theorem dX6_child_16 : decode cX6_child 16 = .ok (.iconst (-1), 1) := by decide +kernel
theorem dX6_child_17 : decode cX6_child 17 = .ok (.if_icmp .ne 13, 3) := by decide +kernel
theorem dX6_child_20 : decode cX6_child 20 = .ok (.new 115, 3) := by decide +kernel
theorem dX6_child_23 : decode cX6_child 23 = .ok (.dup, 1) := by decide +kernel
theorem dX6_child_24 : decode cX6_child 24 = .ok (.ldc 137, 2) := by decide +kernel
theorem dX6_child_26 : decode cX6_child 26 = .ok (.invokespecial 119, 3) := by decide +kernel
theorem dX6_child_29 : decode cX6_child 29 = .ok (.athrow, 1) := by decide +kernel
theorem dX6_child_30 : decode cX6_child 30 = .ok (.iload_n 3, 1) := by decide +kernel
theorem dX6_child_31 : decode cX6_child 31 = .ok (.ireturn, 1) := by decide +kernel
theorem dX6_line_0 : decode cX6_line 0 = .ok (.aload_n 0, 1) := by decide +kernel
theorem dX6_line_1 : decode cX6_line 1 = .ok (.iload_n 1, 1) := by decide +kernel
theorem dX6_line_2 : decode cX6_line 2 = .ok (.invokevirtual 124, 3) := by decide +kernel
theorem dX6_line_5 : decode cX6_line 5 = .ok (.aload_n 0, 1) := by decide +kernel
theorem dX6_line_6 : decode cX6_line 6 = .ok (.getfield 29, 3) := by decide +kernel
theorem dX6_line_9 : decode cX6_line 9 = .ok (.iload_n 1, 1) := by decide +kernel
theorem dX6_line_10 : decode cX6_line 10 = .ok (.iconst 3, 1) := by decide +kernel
theorem dX6_line_11 : decode cX6_line 11 = .ok (.invokevirtual 127, 3) := by decide +kernel
theorem dX6_line_14 : decode cX6_line 14 = .ok (.ireturn, 1) := by decide +kernel
theorem dX6_column_0 : decode cX6_column 0 = .ok (.aload_n 0, 1) := by decide +kernel
theorem dX6_column_1 : decode cX6_column 1 = .ok (.iload_n 1, 1) := by decide +kernel
theorem dX6_column_2 : decode cX6_column 2 = .ok (.invokevirtual 124, 3) := by decide +kernel
theorem dX6_column_5 : decode cX6_column 5 = .ok (.aload_n 0, 1) := by decide +kernel
theorem dX6_column_6 : decode cX6_column 6 = .ok (.getfield 29, 3) := by decide +kernel
theorem dX6_column_9 : decode cX6_column 9 = .ok (.iload_n 1, 1) := by decide +kernel
theorem dX6_column_10 : decode cX6_column 10 = .ok (.iconst 4, 1) := by decide +kernel
theorem dX6_column_11 : decode cX6_column 11 = .ok (.invokevirtual 127, 3) := by decide +kernel
theorem dX6_column_14 : decode cX6_column 14 = .ok (.ireturn, 1) := by decide +kernel
theorem dX6_value_0 : decode cX6_value 0 = .ok (.aload_n 0, 1) := by decide +kernel
theorem dX6_value_1 : decode cX6_value 1 = .ok (.iload_n 1, 1) := by decide +kernel
theorem dX6_value_2 : decode cX6_value 2 = .ok (.invokevirtual 124, 3) := by decide +kernel
theorem dX6_value_5 : decode cX6_value 5 = .ok (.aload_n 0, 1) := by decide +kernel
theorem dX6_value_6 : decode cX6_value 6 = .ok (.getfield 29, 3) := by decide +kernel
theorem dX6_value_9 : decode cX6_value 9 = .ok (.iload_n 1, 1) := by decide +kernel
theorem dX6_value_10 : decode cX6_value 10 = .ok (.iconst 5, 1) := by decide +kernel
theorem dX6_value_11 : decode cX6_value 11 = .ok (.invokevirtual 127, 3) := by decide +kernel
theorem dX6_value_14 : decode cX6_value 14 = .ok (.ireturn, 1) := by decide +kernel
theorem dX6_letter_0 : decode cX6_letter 0 = .ok (.aload_n 0, 1) := by decide +kernel
theorem dX6_letter_1 : decode cX6_letter 1 = .ok (.iload_n 1, 1) := by decide +kernel
theorem dX6_letter_2 : decode cX6_letter 2 = .ok (.invokevirtual 124, 3) := by decide +kernel
theorem dX6_letter_5 : decode cX6_letter 5 = .ok (.aload_n 0, 1) := by decide +kernel
theorem dX6_letter_6 : decode cX6_letter 6 = .ok (.getfield 29, 3) := by decide +kernel
theorem dX6_letter_9 : decode cX6_letter 9 = .ok (.iload_n 1, 1) := by decide +kernel
theorem dX6_letter_10 : decode cX6_letter 10 = .ok (.iconst 2, 1) := by decide +kernel
theorem dX6_letter_11 : decode cX6_letter 11 = .ok (.invokevirtual 139, 3) := by decide +kernel
theorem dX6_letter_14 : decode cX6_letter 14 = .ok (.ifCond .eq 15, 3) := by decide +kernel
theorem dX6_letter_17 : decode cX6_letter 17 = .ok (.aload_n 0, 1) := by decide +kernel
theorem dX6_letter_18 : decode cX6_letter 18 = .ok (.getfield 29, 3) := by decide +kernel
theorem dX6_letter_21 : decode cX6_letter 21 = .ok (.iload_n 1, 1) := by decide +kernel
theorem dX6_letter_22 : decode cX6_letter 22 = .ok (.iload_n 2, 1) := by decide +kernel
theorem dX6_letter_23 : decode cX6_letter 23 = .ok (.invokevirtual 143, 3) := by decide +kernel
theorem dX6_letter_26 : decode cX6_letter 26 = .ok (.goto 4, 3) := by decide +kernel
theorem dX6_letter_29 : decode cX6_letter 29 = .ok (.iconst (-1), 1) := by decide +kernel
theorem dX6_letter_30 : decode cX6_letter 30 = .ok (.ireturn, 1) := by decide +kernel
theorem dX6_depth_0 : decode cX6_depth 0 = .ok (.aload_n 0, 1) := by decide +kernel
theorem dX6_depth_1 : decode cX6_depth 1 = .ok (.iload_n 1, 1) := by decide +kernel
theorem dX6_depth_2 : decode cX6_depth 2 = .ok (.invokevirtual 124, 3) := by decide +kernel
theorem dX6_depth_5 : decode cX6_depth 5 = .ok (.aload_n 0, 1) := by decide +kernel
theorem dX6_depth_6 : decode cX6_depth 6 = .ok (.getfield 29, 3) := by decide +kernel
theorem dX6_depth_9 : decode cX6_depth 9 = .ok (.iload_n 1, 1) := by decide +kernel
theorem dX6_depth_10 : decode cX6_depth 10 = .ok (.iconst 2, 1) := by decide +kernel
theorem dX6_depth_11 : decode cX6_depth 11 = .ok (.invokevirtual 127, 3) := by decide +kernel
theorem dX6_depth_14 : decode cX6_depth 14 = .ok (.ireturn, 1) := by decide +kernel
theorem dX6_find_0 : decode cX6_find 0 = .ok (.aload_n 0, 1) := by decide +kernel
theorem dX6_find_1 : decode cX6_find 1 = .ok (.lload_n 1, 1) := by decide +kernel
theorem dX6_find_2 : decode cX6_find 2 = .ok (.invokevirtual 63, 3) := by decide +kernel
theorem dX6_find_5 : decode cX6_find 5 = .ok (.aload_n 0, 1) := by decide +kernel
theorem dX6_find_6 : decode cX6_find 6 = .ok (.getfield 29, 3) := by decide +kernel
theorem dX6_find_9 : decode cX6_find 9 = .ok (.aload_n 0, 1) := by decide +kernel
theorem dX6_find_10 : decode cX6_find 10 = .ok (.getfield 16, 3) := by decide +kernel
theorem dX6_find_13 : decode cX6_find 13 = .ok (.iload_n 3, 1) := by decide +kernel
theorem dX6_find_14 : decode cX6_find 14 = .ok (.invokevirtual 146, 3) := by decide +kernel
theorem dX6_find_17 : decode cX6_find 17 = .ok (.ireturn, 1) := by decide +kernel
theorem dX6_wordCount_0 : decode cX6_wordCount 0 = .ok (.aload_n 0, 1) := by decide +kernel
theorem dX6_wordCount_1 : decode cX6_wordCount 1 = .ok (.getfield 29, 3) := by decide +kernel
theorem dX6_wordCount_4 : decode cX6_wordCount 4 = .ok (.invokevirtual 150, 3) := by decide +kernel
theorem dX6_wordCount_7 : decode cX6_wordCount 7 = .ok (.ireturn, 1) := by decide +kernel
theorem dX6_remove_0 : decode cX6_remove 0 = .ok (.aload_n 0, 1) := by decide +kernel
theorem dX6_remove_1 : decode cX6_remove 1 = .ok (.iload_n 1, 1) := by decide +kernel
theorem dX6_remove_2 : decode cX6_remove 2 = .ok (.invokevirtual 124, 3) := by decide +kernel
theorem dX6_remove_5 : decode cX6_remove 5 = .ok (.aload_n 0, 1) := by decide +kernel
theorem dX6_remove_6 : decode cX6_remove 6 = .ok (.getfield 29, 3) := by decide +kernel
theorem dX6_remove_9 : decode cX6_remove 9 = .ok (.iload_n 1, 1) := by decide +kernel
theorem dX6_remove_10 : decode cX6_remove 10 = .ok (.iconst 1, 1) := by decide +kernel
theorem dX6_remove_11 : decode cX6_remove 11 = .ok (.invokevirtual 139, 3) := by decide +kernel
theorem dX6_remove_14 : decode cX6_remove 14 = .ok (.ifCond .ne 13, 3) := by decide +kernel
theorem dX6_remove_17 : decode cX6_remove 17 = .ok (.new 79, 3) := by decide +kernel
theorem dX6_remove_20 : decode cX6_remove 20 = .ok (.dup, 1) := by decide +kernel
theorem dX6_remove_21 : decode cX6_remove 21 = .ok (.ldc 153, 2) := by decide +kernel
theorem dX6_remove_23 : decode cX6_remove 23 = .ok (.invokespecial 83, 3) := by decide +kernel
theorem dX6_remove_26 : decode cX6_remove 26 = .ok (.athrow, 1) := by decide +kernel
theorem dX6_remove_27 : decode cX6_remove 27 = .ok (.aload_n 0, 1) := by decide +kernel
theorem dX6_remove_28 : decode cX6_remove 28 = .ok (.getfield 29, 3) := by decide +kernel
theorem dX6_remove_31 : decode cX6_remove 31 = .ok (.iload_n 1, 1) := by decide +kernel
theorem dX6_remove_32 : decode cX6_remove 32 = .ok (.invokevirtual 155, 3) := by decide +kernel
theorem dX6_remove_35 : decode cX6_remove 35 = .ok (.aload_n 0, 1) := by decide +kernel
theorem dX6_remove_36 : decode cX6_remove 36 = .ok (.getfield 29, 3) := by decide +kernel
theorem dX6_remove_39 : decode cX6_remove 39 = .ok (.invokevirtual 113, 3) := by decide +kernel
theorem dX6_remove_42 : decode cX6_remove 42 = .ok (.ireturn, 1) := by decide +kernel
theorem dX6_move_0 : decode cX6_move 0 = .ok (.aload_n 0, 1) := by decide +kernel
theorem dX6_move_1 : decode cX6_move 1 = .ok (.iload_n 1, 1) := by decide +kernel
theorem dX6_move_2 : decode cX6_move 2 = .ok (.invokevirtual 124, 3) := by decide +kernel
theorem dX6_move_5 : decode cX6_move 5 = .ok (.aload_n 0, 1) := by decide +kernel
theorem dX6_move_6 : decode cX6_move 6 = .ok (.iload_n 2, 1) := by decide +kernel
theorem dX6_move_7 : decode cX6_move 7 = .ok (.invokevirtual 124, 3) := by decide +kernel
theorem dX6_move_10 : decode cX6_move 10 = .ok (.aload_n 0, 1) := by decide +kernel
theorem dX6_move_11 : decode cX6_move 11 = .ok (.getfield 29, 3) := by decide +kernel
theorem dX6_move_14 : decode cX6_move 14 = .ok (.iload_n 1, 1) := by decide +kernel
theorem dX6_move_15 : decode cX6_move 15 = .ok (.iconst 1, 1) := by decide +kernel
theorem dX6_move_16 : decode cX6_move 16 = .ok (.invokevirtual 139, 3) := by decide +kernel
theorem dX6_move_19 : decode cX6_move 19 = .ok (.ifCond .eq 15, 3) := by decide +kernel
theorem dX6_move_22 : decode cX6_move 22 = .ok (.aload_n 0, 1) := by decide +kernel
theorem dX6_move_23 : decode cX6_move 23 = .ok (.getfield 29, 3) := by decide +kernel
theorem dX6_move_26 : decode cX6_move 26 = .ok (.iload_n 2, 1) := by decide +kernel
theorem dX6_move_27 : decode cX6_move 27 = .ok (.iconst 0, 1) := by decide +kernel
theorem dX6_move_28 : decode cX6_move 28 = .ok (.invokevirtual 139, 3) := by decide +kernel
theorem dX6_move_31 : decode cX6_move 31 = .ok (.ifCond .ne 13, 3) := by decide +kernel
theorem dX6_move_34 : decode cX6_move 34 = .ok (.new 79, 3) := by decide +kernel
theorem dX6_move_37 : decode cX6_move 37 = .ok (.dup, 1) := by decide +kernel
theorem dX6_move_38 : decode cX6_move 38 = .ok (.ldc 158, 2) := by decide +kernel
theorem dX6_move_40 : decode cX6_move 40 = .ok (.invokespecial 83, 3) := by decide +kernel
theorem dX6_move_43 : decode cX6_move 43 = .ok (.athrow, 1) := by decide +kernel
theorem dX6_move_44 : decode cX6_move 44 = .ok (.iload_n 2, 1) := by decide +kernel
theorem dX6_move_45 : decode cX6_move 45 = .ok (.iload_n 1, 1) := by decide +kernel
theorem dX6_move_46 : decode cX6_move 46 = .ok (.if_icmp .le 25, 3) := by decide +kernel
theorem dX6_move_49 : decode cX6_move 49 = .ok (.iload_n 2, 1) := by decide +kernel
theorem dX6_move_50 : decode cX6_move 50 = .ok (.aload_n 0, 1) := by decide +kernel
theorem dX6_move_51 : decode cX6_move 51 = .ok (.getfield 29, 3) := by decide +kernel
theorem dX6_move_54 : decode cX6_move 54 = .ok (.iload_n 1, 1) := by decide +kernel
theorem dX6_move_55 : decode cX6_move 55 = .ok (.invokevirtual 160, 3) := by decide +kernel
theorem dX6_move_58 : decode cX6_move 58 = .ok (.if_icmp .ge 13, 3) := by decide +kernel
theorem dX6_move_61 : decode cX6_move 61 = .ok (.new 79, 3) := by decide +kernel
theorem dX6_move_64 : decode cX6_move 64 = .ok (.dup, 1) := by decide +kernel
theorem dX6_move_65 : decode cX6_move 65 = .ok (.ldc 163, 2) := by decide +kernel
theorem dX6_move_67 : decode cX6_move 67 = .ok (.invokespecial 83, 3) := by decide +kernel
theorem dX6_move_70 : decode cX6_move 70 = .ok (.athrow, 1) := by decide +kernel
theorem dX6_move_71 : decode cX6_move 71 = .ok (.aload_n 0, 1) := by decide +kernel
theorem dX6_move_72 : decode cX6_move 72 = .ok (.getfield 29, 3) := by decide +kernel
theorem dX6_move_75 : decode cX6_move 75 = .ok (.iload_n 2, 1) := by decide +kernel
theorem dX6_move_76 : decode cX6_move 76 = .ok (.invokevirtual 165, 3) := by decide +kernel
theorem dX6_move_79 : decode cX6_move 79 = .ok (.aload_n 0, 1) := by decide +kernel
theorem dX6_move_80 : decode cX6_move 80 = .ok (.getfield 29, 3) := by decide +kernel
theorem dX6_move_83 : decode cX6_move 83 = .ok (.iload_n 1, 1) := by decide +kernel
theorem dX6_move_84 : decode cX6_move 84 = .ok (.invokevirtual 168, 3) := by decide +kernel
theorem dX6_move_87 : decode cX6_move 87 = .ok (.iadd, 1) := by decide +kernel
theorem dX6_move_88 : decode cX6_move 88 = .ok (.bipush 30, 2) := by decide +kernel
theorem dX6_move_90 : decode cX6_move 90 = .ok (.if_icmp .le 13, 3) := by decide +kernel
theorem dX6_move_93 : decode cX6_move 93 = .ok (.new 79, 3) := by decide +kernel
theorem dX6_move_96 : decode cX6_move 96 = .ok (.dup, 1) := by decide +kernel
theorem dX6_move_97 : decode cX6_move 97 = .ok (.ldc 171, 2) := by decide +kernel
theorem dX6_move_99 : decode cX6_move 99 = .ok (.invokespecial 83, 3) := by decide +kernel
theorem dX6_move_102 : decode cX6_move 102 = .ok (.athrow, 1) := by decide +kernel
theorem dX6_move_103 : decode cX6_move 103 = .ok (.aload_n 0, 1) := by decide +kernel
theorem dX6_move_104 : decode cX6_move 104 = .ok (.getfield 29, 3) := by decide +kernel
theorem dX6_move_107 : decode cX6_move 107 = .ok (.iload_n 1, 1) := by decide +kernel
theorem dX6_move_108 : decode cX6_move 108 = .ok (.iload_n 2, 1) := by decide +kernel
theorem dX6_move_109 : decode cX6_move 109 = .ok (.iload_n 3, 1) := by decide +kernel
theorem dX6_move_110 : decode cX6_move 110 = .ok (.invokevirtual 173, 3) := by decide +kernel
theorem dX6_move_113 : decode cX6_move 113 = .ok (.istore 4, 2) := by decide +kernel
theorem dX6_move_115 : decode cX6_move 115 = .ok (.iload 4, 2) := by decide +kernel
theorem dX6_move_117 : decode cX6_move 117 = .ok (.iconst (-1), 1) := by decide +kernel
theorem dX6_move_118 : decode cX6_move 118 = .ok (.if_icmp .ne 13, 3) := by decide +kernel
theorem dX6_move_121 : decode cX6_move 121 = .ok (.new 79, 3) := by decide +kernel
theorem dX6_move_124 : decode cX6_move 124 = .ok (.dup, 1) := by decide +kernel
theorem dX6_move_125 : decode cX6_move 125 = .ok (.ldc 177, 2) := by decide +kernel
theorem dX6_move_127 : decode cX6_move 127 = .ok (.invokespecial 83, 3) := by decide +kernel
theorem dX6_move_130 : decode cX6_move 130 = .ok (.athrow, 1) := by decide +kernel
theorem dX6_move_131 : decode cX6_move 131 = .ok (.aload_n 0, 1) := by decide +kernel
theorem dX6_move_132 : decode cX6_move 132 = .ok (.getfield 29, 3) := by decide +kernel
theorem dX6_move_135 : decode cX6_move 135 = .ok (.iload_n 1, 1) := by decide +kernel
theorem dX6_move_136 : decode cX6_move 136 = .ok (.iload_n 2, 1) := by decide +kernel
theorem dX6_move_137 : decode cX6_move 137 = .ok (.iload 4, 2) := by decide +kernel
theorem dX6_move_139 : decode cX6_move 139 = .ok (.invokevirtual 179, 3) := by decide +kernel
theorem dX6_move_142 : decode cX6_move 142 = .ok (.ireturn, 1) := by decide +kernel
theorem dX6_rename_0 : decode cX6_rename 0 = .ok (.aload_n 0, 1) := by decide +kernel
theorem dX6_rename_1 : decode cX6_rename 1 = .ok (.iload_n 1, 1) := by decide +kernel
theorem dX6_rename_2 : decode cX6_rename 2 = .ok (.invokevirtual 124, 3) := by decide +kernel
theorem dX6_rename_5 : decode cX6_rename 5 = .ok (.aload_n 0, 1) := by decide +kernel
theorem dX6_rename_6 : decode cX6_rename 6 = .ok (.lload_n 2, 1) := by decide +kernel
theorem dX6_rename_7 : decode cX6_rename 7 = .ok (.invokevirtual 63, 3) := by decide +kernel
theorem dX6_rename_10 : decode cX6_rename 10 = .ok (.aload_n 0, 1) := by decide +kernel
theorem dX6_rename_11 : decode cX6_rename 11 = .ok (.getfield 29, 3) := by decide +kernel
theorem dX6_rename_14 : decode cX6_rename 14 = .ok (.iload_n 1, 1) := by decide +kernel
theorem dX6_rename_15 : decode cX6_rename 15 = .ok (.iconst 2, 1) := by decide +kernel
theorem dX6_rename_16 : decode cX6_rename 16 = .ok (.invokevirtual 139, 3) := by decide +kernel
theorem dX6_rename_19 : decode cX6_rename 19 = .ok (.ifCond .eq 13, 3) := by decide +kernel
theorem dX6_rename_22 : decode cX6_rename 22 = .ok (.aload_n 0, 1) := by decide +kernel
theorem dX6_rename_23 : decode cX6_rename 23 = .ok (.getfield 16, 3) := by decide +kernel
theorem dX6_rename_26 : decode cX6_rename 26 = .ok (.invokestatic 182, 3) := by decide +kernel
theorem dX6_rename_29 : decode cX6_rename 29 = .ok (.ifCond .ne 13, 3) := by decide +kernel
theorem dX6_rename_32 : decode cX6_rename 32 = .ok (.new 79, 3) := by decide +kernel
theorem dX6_rename_35 : decode cX6_rename 35 = .ok (.dup, 1) := by decide +kernel
theorem dX6_rename_36 : decode cX6_rename 36 = .ok (.ldc 186, 2) := by decide +kernel
theorem dX6_rename_38 : decode cX6_rename 38 = .ok (.invokespecial 83, 3) := by decide +kernel
theorem dX6_rename_41 : decode cX6_rename 41 = .ok (.athrow, 1) := by decide +kernel
theorem dX6_rename_42 : decode cX6_rename 42 = .ok (.aload_n 0, 1) := by decide +kernel
theorem dX6_rename_43 : decode cX6_rename 43 = .ok (.getfield 29, 3) := by decide +kernel
theorem dX6_rename_46 : decode cX6_rename 46 = .ok (.iload_n 1, 1) := by decide +kernel
theorem dX6_rename_47 : decode cX6_rename 47 = .ok (.aload_n 0, 1) := by decide +kernel
theorem dX6_rename_48 : decode cX6_rename 48 = .ok (.getfield 16, 3) := by decide +kernel
theorem dX6_rename_51 : decode cX6_rename 51 = .ok (.invokevirtual 188, 3) := by decide +kernel
theorem dX6_rename_54 : decode cX6_rename 54 = .ok (.aload_n 0, 1) := by decide +kernel
theorem dX6_rename_55 : decode cX6_rename 55 = .ok (.getfield 16, 3) := by decide +kernel
theorem dX6_rename_58 : decode cX6_rename 58 = .ok (.invokevirtual 67, 3) := by decide +kernel
theorem dX6_rename_61 : decode cX6_rename 61 = .ok (.ireturn, 1) := by decide +kernel
theorem dX6_write_0 : decode cX6_write 0 = .ok (.aload_n 0, 1) := by decide +kernel
theorem dX6_write_1 : decode cX6_write 1 = .ok (.getfield 56, 3) := by decide +kernel
theorem dX6_write_4 : decode cX6_write 4 = .ok (.invokevirtual 192, 3) := by decide +kernel
theorem dX6_write_7 : decode cX6_write 7 = .ok (.iload_n 1, 1) := by decide +kernel
theorem dX6_write_8 : decode cX6_write 8 = .ok (.ifCond .eq 15, 3) := by decide +kernel
theorem dX6_write_11 : decode cX6_write 11 = .ok (.aload_n 0, 1) := by decide +kernel
theorem dX6_write_12 : decode cX6_write 12 = .ok (.getfield 56, 3) := by decide +kernel
theorem dX6_write_15 : decode cX6_write 15 = .ok (.iconst 0, 1) := by decide +kernel
theorem dX6_write_16 : decode cX6_write 16 = .ok (.iconst 0, 1) := by decide +kernel
theorem dX6_write_17 : decode cX6_write 17 = .ok (.invokevirtual 193, 3) := by decide +kernel
theorem dX6_write_20 : decode cX6_write 20 = .ok (.goto 10, 3) := by decide +kernel
theorem dX6_write_23 : decode cX6_write 23 = .ok (.aload_n 0, 1) := by decide +kernel
theorem dX6_write_24 : decode cX6_write 24 = .ok (.getfield 56, 3) := by decide +kernel
theorem dX6_write_27 : decode cX6_write 27 = .ok (.invokevirtual 197, 3) := by decide +kernel
theorem dX6_write_30 : decode cX6_write 30 = .ok (.aload_n 0, 1) := by decide +kernel
theorem dX6_write_31 : decode cX6_write 31 = .ok (.getfield 56, 3) := by decide +kernel
theorem dX6_write_34 : decode cX6_write 34 = .ok (.invokevirtual 200, 3) := by decide +kernel
theorem dX6_write_37 : decode cX6_write 37 = .ok (.ireturn, 1) := by decide +kernel
theorem dX6_written_0 : decode cX6_written 0 = .ok (.iload_n 1, 1) := by decide +kernel
theorem dX6_written_1 : decode cX6_written 1 = .ok (.ifCond .lt 14, 3) := by decide +kernel
theorem dX6_written_4 : decode cX6_written 4 = .ok (.iload_n 1, 1) := by decide +kernel
theorem dX6_written_5 : decode cX6_written 5 = .ok (.aload_n 0, 1) := by decide +kernel
theorem dX6_written_6 : decode cX6_written 6 = .ok (.getfield 56, 3) := by decide +kernel
theorem dX6_written_9 : decode cX6_written 9 = .ok (.invokevirtual 200, 3) := by decide +kernel
theorem dX6_written_12 : decode cX6_written 12 = .ok (.if_icmp .lt 13, 3) := by decide +kernel
theorem dX6_written_15 : decode cX6_written 15 = .ok (.new 115, 3) := by decide +kernel
theorem dX6_written_18 : decode cX6_written 18 = .ok (.dup, 1) := by decide +kernel
theorem dX6_written_19 : decode cX6_written 19 = .ok (.ldc 201, 2) := by decide +kernel
theorem dX6_written_21 : decode cX6_written 21 = .ok (.invokespecial 119, 3) := by decide +kernel
theorem dX6_written_24 : decode cX6_written 24 = .ok (.athrow, 1) := by decide +kernel
theorem dX6_written_25 : decode cX6_written 25 = .ok (.aload_n 0, 1) := by decide +kernel
theorem dX6_written_26 : decode cX6_written 26 = .ok (.getfield 56, 3) := by decide +kernel
theorem dX6_written_29 : decode cX6_written 29 = .ok (.iload_n 1, 1) := by decide +kernel
theorem dX6_written_30 : decode cX6_written 30 = .ok (.invokevirtual 203, 3) := by decide +kernel
theorem dX6_written_33 : decode cX6_written 33 = .ok (.ireturn, 1) := by decide +kernel
theorem dX6_digest_0 : decode cX6_digest 0 = .ok (.ldc2_w 205, 3) := by decide +kernel
theorem dX6_digest_3 : decode cX6_digest 3 = .ok (.lstore_n 1, 1) := by decide +kernel
theorem dX6_digest_4 : decode cX6_digest 4 = .ok (.lload_n 1, 1) := by decide +kernel
theorem dX6_digest_5 : decode cX6_digest 5 = .ok (.aload_n 0, 1) := by decide +kernel
theorem dX6_digest_6 : decode cX6_digest 6 = .ok (.getfield 10, 3) := by decide +kernel
theorem dX6_digest_9 : decode cX6_digest 9 = .ok (.invokevirtual 67, 3) := by decide +kernel
theorem dX6_digest_12 : decode cX6_digest 12 = .ok (.i2l, 1) := by decide +kernel
theorem dX6_digest_13 : decode cX6_digest 13 = .ok (.invokestatic 207, 3) := by decide +kernel
theorem dX6_digest_16 : decode cX6_digest 16 = .ok (.lstore_n 1, 1) := by decide +kernel
theorem dX6_digest_17 : decode cX6_digest 17 = .ok (.lload_n 1, 1) := by decide +kernel
theorem dX6_digest_18 : decode cX6_digest 18 = .ok (.aload_n 0, 1) := by decide +kernel
theorem dX6_digest_19 : decode cX6_digest 19 = .ok (.getfield 29, 3) := by decide +kernel
theorem dX6_digest_22 : decode cX6_digest 22 = .ok (.invokevirtual 113, 3) := by decide +kernel
theorem dX6_digest_25 : decode cX6_digest 25 = .ok (.i2l, 1) := by decide +kernel
theorem dX6_digest_26 : decode cX6_digest 26 = .ok (.invokestatic 207, 3) := by decide +kernel
theorem dX6_digest_29 : decode cX6_digest 29 = .ok (.lstore_n 1, 1) := by decide +kernel
theorem dX6_digest_30 : decode cX6_digest 30 = .ok (.iconst 0, 1) := by decide +kernel
theorem dX6_digest_31 : decode cX6_digest 31 = .ok (.istore_n 3, 1) := by decide +kernel
theorem dX6_digest_32 : decode cX6_digest 32 = .ok (.iload_n 3, 1) := by decide +kernel
theorem dX6_digest_33 : decode cX6_digest 33 = .ok (.aload_n 0, 1) := by decide +kernel
theorem dX6_digest_34 : decode cX6_digest 34 = .ok (.getfield 29, 3) := by decide +kernel
theorem dX6_digest_37 : decode cX6_digest 37 = .ok (.invokevirtual 113, 3) := by decide +kernel
theorem dX6_digest_40 : decode cX6_digest 40 = .ok (.if_icmp .ge 112, 3) := by decide +kernel
theorem dX6_digest_43 : decode cX6_digest 43 = .ok (.lload_n 1, 1) := by decide +kernel
theorem dX6_digest_44 : decode cX6_digest 44 = .ok (.aload_n 0, 1) := by decide +kernel
theorem dX6_digest_45 : decode cX6_digest 45 = .ok (.getfield 29, 3) := by decide +kernel
theorem dX6_digest_48 : decode cX6_digest 48 = .ok (.iload_n 3, 1) := by decide +kernel
theorem dX6_digest_49 : decode cX6_digest 49 = .ok (.iconst 0, 1) := by decide +kernel
theorem dX6_digest_50 : decode cX6_digest 50 = .ok (.invokevirtual 127, 3) := by decide +kernel
theorem dX6_digest_53 : decode cX6_digest 53 = .ok (.i2l, 1) := by decide +kernel
theorem dX6_digest_54 : decode cX6_digest 54 = .ok (.invokestatic 207, 3) := by decide +kernel
theorem dX6_digest_57 : decode cX6_digest 57 = .ok (.lstore_n 1, 1) := by decide +kernel
theorem dX6_digest_58 : decode cX6_digest 58 = .ok (.lload_n 1, 1) := by decide +kernel
theorem dX6_digest_59 : decode cX6_digest 59 = .ok (.aload_n 0, 1) := by decide +kernel
theorem dX6_digest_60 : decode cX6_digest 60 = .ok (.getfield 29, 3) := by decide +kernel
theorem dX6_digest_63 : decode cX6_digest 63 = .ok (.iload_n 3, 1) := by decide +kernel
theorem dX6_digest_64 : decode cX6_digest 64 = .ok (.invokevirtual 131, 3) := by decide +kernel
theorem dX6_digest_67 : decode cX6_digest 67 = .ok (.i2l, 1) := by decide +kernel
theorem dX6_digest_68 : decode cX6_digest 68 = .ok (.invokestatic 207, 3) := by decide +kernel
theorem dX6_digest_71 : decode cX6_digest 71 = .ok (.lstore_n 1, 1) := by decide +kernel
theorem dX6_digest_72 : decode cX6_digest 72 = .ok (.lload_n 1, 1) := by decide +kernel
theorem dX6_digest_73 : decode cX6_digest 73 = .ok (.aload_n 0, 1) := by decide +kernel
theorem dX6_digest_74 : decode cX6_digest 74 = .ok (.getfield 29, 3) := by decide +kernel
theorem dX6_digest_77 : decode cX6_digest 77 = .ok (.iload_n 3, 1) := by decide +kernel
theorem dX6_digest_78 : decode cX6_digest 78 = .ok (.iconst 5, 1) := by decide +kernel
theorem dX6_digest_79 : decode cX6_digest 79 = .ok (.invokevirtual 127, 3) := by decide +kernel
theorem dX6_digest_82 : decode cX6_digest 82 = .ok (.i2l, 1) := by decide +kernel
theorem dX6_digest_83 : decode cX6_digest 83 = .ok (.invokestatic 207, 3) := by decide +kernel
theorem dX6_digest_86 : decode cX6_digest 86 = .ok (.lstore_n 1, 1) := by decide +kernel
theorem dX6_digest_87 : decode cX6_digest 87 = .ok (.aload_n 0, 1) := by decide +kernel
theorem dX6_digest_88 : decode cX6_digest 88 = .ok (.getfield 29, 3) := by decide +kernel
theorem dX6_digest_91 : decode cX6_digest 91 = .ok (.iload_n 3, 1) := by decide +kernel
theorem dX6_digest_92 : decode cX6_digest 92 = .ok (.iconst 2, 1) := by decide +kernel
theorem dX6_digest_93 : decode cX6_digest 93 = .ok (.invokevirtual 139, 3) := by decide +kernel
theorem dX6_digest_96 : decode cX6_digest 96 = .ok (.ifCond .eq 15, 3) := by decide +kernel
theorem dX6_digest_99 : decode cX6_digest 99 = .ok (.aload_n 0, 1) := by decide +kernel
theorem dX6_digest_100 : decode cX6_digest 100 = .ok (.getfield 29, 3) := by decide +kernel
theorem dX6_digest_103 : decode cX6_digest 103 = .ok (.iload_n 3, 1) := by decide +kernel
theorem dX6_digest_104 : decode cX6_digest 104 = .ok (.iconst 5, 1) := by decide +kernel
theorem dX6_digest_105 : decode cX6_digest 105 = .ok (.invokevirtual 127, 3) := by decide +kernel
theorem dX6_digest_108 : decode cX6_digest 108 = .ok (.goto 4, 3) := by decide +kernel
theorem dX6_digest_111 : decode cX6_digest 111 = .ok (.iconst 0, 1) := by decide +kernel
theorem dX6_digest_112 : decode cX6_digest 112 = .ok (.istore 4, 2) := by decide +kernel
theorem dX6_digest_114 : decode cX6_digest 114 = .ok (.iconst 0, 1) := by decide +kernel
theorem dX6_digest_115 : decode cX6_digest 115 = .ok (.istore 5, 2) := by decide +kernel
theorem dX6_digest_117 : decode cX6_digest 117 = .ok (.iload 5, 2) := by decide +kernel
theorem dX6_digest_119 : decode cX6_digest 119 = .ok (.iload 4, 2) := by decide +kernel
theorem dX6_digest_121 : decode cX6_digest 121 = .ok (.if_icmp .ge 25, 3) := by decide +kernel
theorem dX6_digest_124 : decode cX6_digest 124 = .ok (.lload_n 1, 1) := by decide +kernel
theorem dX6_digest_125 : decode cX6_digest 125 = .ok (.aload_n 0, 1) := by decide +kernel
theorem dX6_digest_126 : decode cX6_digest 126 = .ok (.getfield 29, 3) := by decide +kernel
theorem dX6_digest_129 : decode cX6_digest 129 = .ok (.iload_n 3, 1) := by decide +kernel
theorem dX6_digest_130 : decode cX6_digest 130 = .ok (.iload 5, 2) := by decide +kernel
theorem dX6_digest_132 : decode cX6_digest 132 = .ok (.invokevirtual 143, 3) := by decide +kernel
theorem dX6_digest_135 : decode cX6_digest 135 = .ok (.i2l, 1) := by decide +kernel
theorem dX6_digest_136 : decode cX6_digest 136 = .ok (.invokestatic 207, 3) := by decide +kernel
theorem dX6_digest_139 : decode cX6_digest 139 = .ok (.lstore_n 1, 1) := by decide +kernel
theorem dX6_digest_140 : decode cX6_digest 140 = .ok (.iinc 5 1, 3) := by decide +kernel
theorem dX6_digest_143 : decode cX6_digest 143 = .ok (.goto (-26), 3) := by decide +kernel
theorem dX6_digest_146 : decode cX6_digest 146 = .ok (.iinc 3 1, 3) := by decide +kernel
theorem dX6_digest_149 : decode cX6_digest 149 = .ok (.goto (-117), 3) := by decide +kernel
theorem dX6_digest_152 : decode cX6_digest 152 = .ok (.lload_n 1, 1) := by decide +kernel
theorem dX6_digest_153 : decode cX6_digest 153 = .ok (.aload_n 0, 1) := by decide +kernel
theorem dX6_digest_154 : decode cX6_digest 154 = .ok (.getfield 22, 3) := by decide +kernel
theorem dX6_digest_157 : decode cX6_digest 157 = .ok (.invokevirtual 114, 3) := by decide +kernel
theorem dX6_digest_160 : decode cX6_digest 160 = .ok (.i2l, 1) := by decide +kernel
theorem dX6_digest_161 : decode cX6_digest 161 = .ok (.invokestatic 207, 3) := by decide +kernel
theorem dX6_digest_164 : decode cX6_digest 164 = .ok (.lstore_n 1, 1) := by decide +kernel
theorem dX6_digest_165 : decode cX6_digest 165 = .ok (.lload_n 1, 1) := by decide +kernel
theorem dX6_digest_166 : decode cX6_digest 166 = .ok (.aload_n 0, 1) := by decide +kernel
theorem dX6_digest_167 : decode cX6_digest 167 = .ok (.getfield 29, 3) := by decide +kernel
theorem dX6_digest_170 : decode cX6_digest 170 = .ok (.invokevirtual 150, 3) := by decide +kernel
theorem dX6_digest_173 : decode cX6_digest 173 = .ok (.i2l, 1) := by decide +kernel
theorem dX6_digest_174 : decode cX6_digest 174 = .ok (.invokestatic 207, 3) := by decide +kernel
theorem dX6_digest_177 : decode cX6_digest 177 = .ok (.lreturn, 1) := by decide +kernel
theorem dX6_mix_0 : decode cX6_mix 0 = .ok (.lload_n 0, 1) := by decide +kernel
theorem dX6_mix_1 : decode cX6_mix 1 = .ok (.ldc2_w 211, 3) := by decide +kernel
theorem dX6_mix_4 : decode cX6_mix 4 = .ok (.lmul, 1) := by decide +kernel
theorem dX6_mix_5 : decode cX6_mix 5 = .ok (.lload_n 2, 1) := by decide +kernel
theorem dX6_mix_6 : decode cX6_mix 6 = .ok (.ladd, 1) := by decide +kernel
theorem dX6_mix_7 : decode cX6_mix 7 = .ok (.lreturn, 1) := by decide +kernel
theorem dX6_checkNode_0 : decode cX6_checkNode 0 = .ok (.iload_n 1, 1) := by decide +kernel
theorem dX6_checkNode_1 : decode cX6_checkNode 1 = .ok (.ifCond .lt 14, 3) := by decide +kernel
theorem dX6_checkNode_4 : decode cX6_checkNode 4 = .ok (.iload_n 1, 1) := by decide +kernel
theorem dX6_checkNode_5 : decode cX6_checkNode 5 = .ok (.aload_n 0, 1) := by decide +kernel
theorem dX6_checkNode_6 : decode cX6_checkNode 6 = .ok (.getfield 29, 3) := by decide +kernel
theorem dX6_checkNode_9 : decode cX6_checkNode 9 = .ok (.invokevirtual 113, 3) := by decide +kernel
theorem dX6_checkNode_12 : decode cX6_checkNode 12 = .ok (.if_icmp .lt 13, 3) := by decide +kernel
theorem dX6_checkNode_15 : decode cX6_checkNode 15 = .ok (.new 115, 3) := by decide +kernel
theorem dX6_checkNode_18 : decode cX6_checkNode 18 = .ok (.dup, 1) := by decide +kernel
theorem dX6_checkNode_19 : decode cX6_checkNode 19 = .ok (.ldc 213, 2) := by decide +kernel
theorem dX6_checkNode_21 : decode cX6_checkNode 21 = .ok (.invokespecial 119, 3) := by decide +kernel
theorem dX6_checkNode_24 : decode cX6_checkNode 24 = .ok (.athrow, 1) := by decide +kernel
theorem dX6_checkNode_25 : decode cX6_checkNode 25 = .ok (.return_, 1) := by decide +kernel
theorem dX6_unpack_0 : decode cX6_unpack 0 = .ok (.aload_n 0, 1) := by decide +kernel
theorem dX6_unpack_1 : decode cX6_unpack 1 = .ok (.getfield 16, 3) := by decide +kernel
theorem dX6_unpack_4 : decode cX6_unpack 4 = .ok (.iconst 0, 1) := by decide +kernel
theorem dX6_unpack_5 : decode cX6_unpack 5 = .ok (.invokevirtual 97, 3) := by decide +kernel
theorem dX6_unpack_8 : decode cX6_unpack 8 = .ok (.bipush 56, 2) := by decide +kernel
theorem dX6_unpack_10 : decode cX6_unpack 10 = .ok (.istore_n 3, 1) := by decide +kernel
theorem dX6_unpack_11 : decode cX6_unpack 11 = .ok (.iload_n 3, 1) := by decide +kernel
theorem dX6_unpack_12 : decode cX6_unpack 12 = .ok (.ifCond .lt 33, 3) := by decide +kernel
theorem dX6_unpack_15 : decode cX6_unpack 15 = .ok (.lload_n 1, 1) := by decide +kernel
theorem dX6_unpack_16 : decode cX6_unpack 16 = .ok (.iload_n 3, 1) := by decide +kernel
theorem dX6_unpack_17 : decode cX6_unpack 17 = .ok (.lushr, 1) := by decide +kernel
theorem dX6_unpack_18 : decode cX6_unpack 18 = .ok (.l2i, 1) := by decide +kernel
theorem dX6_unpack_19 : decode cX6_unpack 19 = .ok (.sipush 255, 3) := by decide +kernel
theorem dX6_unpack_22 : decode cX6_unpack 22 = .ok (.iand, 1) := by decide +kernel
theorem dX6_unpack_23 : decode cX6_unpack 23 = .ok (.istore 4, 2) := by decide +kernel
theorem dX6_unpack_25 : decode cX6_unpack 25 = .ok (.iload 4, 2) := by decide +kernel
theorem dX6_unpack_27 : decode cX6_unpack 27 = .ok (.ifCond .eq 12, 3) := by decide +kernel
theorem dX6_unpack_30 : decode cX6_unpack 30 = .ok (.aload_n 0, 1) := by decide +kernel
theorem dX6_unpack_31 : decode cX6_unpack 31 = .ok (.getfield 16, 3) := by decide +kernel
theorem dX6_unpack_34 : decode cX6_unpack 34 = .ok (.iload 4, 2) := by decide +kernel
theorem dX6_unpack_36 : decode cX6_unpack 36 = .ok (.invokevirtual 91, 3) := by decide +kernel
theorem dX6_unpack_39 : decode cX6_unpack 39 = .ok (.iinc 3 (-8), 3) := by decide +kernel
theorem dX6_unpack_42 : decode cX6_unpack 42 = .ok (.goto (-31), 3) := by decide +kernel
theorem dX6_unpack_45 : decode cX6_unpack 45 = .ok (.return_, 1) := by decide +kernel
theorem dX6_isTextByte_0 : decode cX6_isTextByte 0 = .ok (.iload_n 0, 1) := by decide +kernel
theorem dX6_isTextByte_1 : decode cX6_isTextByte 1 = .ok (.bipush 10, 2) := by decide +kernel
theorem dX6_isTextByte_3 : decode cX6_isTextByte 3 = .ok (.if_icmp .eq 15, 3) := by decide +kernel
theorem dX6_isTextByte_6 : decode cX6_isTextByte 6 = .ok (.iload_n 0, 1) := by decide +kernel
theorem dX6_isTextByte_7 : decode cX6_isTextByte 7 = .ok (.bipush 32, 2) := by decide +kernel
theorem dX6_isTextByte_9 : decode cX6_isTextByte 9 = .ok (.if_icmp .lt 13, 3) := by decide +kernel
theorem dX6_isTextByte_12 : decode cX6_isTextByte 12 = .ok (.iload_n 0, 1) := by decide +kernel
theorem dX6_isTextByte_13 : decode cX6_isTextByte 13 = .ok (.bipush 126, 2) := by decide +kernel
theorem dX6_isTextByte_15 : decode cX6_isTextByte 15 = .ok (.if_icmp .gt 7, 3) := by decide +kernel
theorem dX6_isTextByte_18 : decode cX6_isTextByte 18 = .ok (.iconst 1, 1) := by decide +kernel
theorem dX6_isTextByte_19 : decode cX6_isTextByte 19 = .ok (.goto 4, 3) := by decide +kernel
theorem dX6_isTextByte_22 : decode cX6_isTextByte 22 = .ok (.iconst 0, 1) := by decide +kernel
theorem dX6_isTextByte_23 : decode cX6_isTextByte 23 = .ok (.ireturn, 1) := by decide +kernel
theorem dX6_isLetter_0 : decode cX6_isLetter 0 = .ok (.iload_n 0, 1) := by decide +kernel
theorem dX6_isLetter_1 : decode cX6_isLetter 1 = .ok (.bipush 65, 2) := by decide +kernel
theorem dX6_isLetter_3 : decode cX6_isLetter 3 = .ok (.if_icmp .lt 9, 3) := by decide +kernel
theorem dX6_isLetter_6 : decode cX6_isLetter 6 = .ok (.iload_n 0, 1) := by decide +kernel
theorem dX6_isLetter_7 : decode cX6_isLetter 7 = .ok (.bipush 90, 2) := by decide +kernel
theorem dX6_isLetter_9 : decode cX6_isLetter 9 = .ok (.if_icmp .le 15, 3) := by decide +kernel
theorem dX6_isLetter_12 : decode cX6_isLetter 12 = .ok (.iload_n 0, 1) := by decide +kernel
theorem dX6_isLetter_13 : decode cX6_isLetter 13 = .ok (.bipush 97, 2) := by decide +kernel
theorem dX6_isLetter_15 : decode cX6_isLetter 15 = .ok (.if_icmp .lt 13, 3) := by decide +kernel
theorem dX6_isLetter_18 : decode cX6_isLetter 18 = .ok (.iload_n 0, 1) := by decide +kernel
theorem dX6_isLetter_19 : decode cX6_isLetter 19 = .ok (.bipush 122, 2) := by decide +kernel
theorem dX6_isLetter_21 : decode cX6_isLetter 21 = .ok (.if_icmp .gt 7, 3) := by decide +kernel
theorem dX6_isLetter_24 : decode cX6_isLetter 24 = .ok (.iconst 1, 1) := by decide +kernel
theorem dX6_isLetter_25 : decode cX6_isLetter 25 = .ok (.goto 4, 3) := by decide +kernel
theorem dX6_isLetter_28 : decode cX6_isLetter 28 = .ok (.iconst 0, 1) := by decide +kernel
theorem dX6_isLetter_29 : decode cX6_isLetter 29 = .ok (.ireturn, 1) := by decide +kernel
theorem dX6_isDigit_0 : decode cX6_isDigit 0 = .ok (.iload_n 0, 1) := by decide +kernel
theorem dX6_isDigit_1 : decode cX6_isDigit 1 = .ok (.bipush 48, 2) := by decide +kernel
theorem dX6_isDigit_3 : decode cX6_isDigit 3 = .ok (.if_icmp .lt 13, 3) := by decide +kernel
theorem dX6_isDigit_6 : decode cX6_isDigit 6 = .ok (.iload_n 0, 1) := by decide +kernel
theorem dX6_isDigit_7 : decode cX6_isDigit 7 = .ok (.bipush 57, 2) := by decide +kernel
theorem dX6_isDigit_9 : decode cX6_isDigit 9 = .ok (.if_icmp .gt 7, 3) := by decide +kernel
theorem dX6_isDigit_12 : decode cX6_isDigit 12 = .ok (.iconst 1, 1) := by decide +kernel
theorem dX6_isDigit_13 : decode cX6_isDigit 13 = .ok (.goto 4, 3) := by decide +kernel
theorem dX6_isDigit_16 : decode cX6_isDigit 16 = .ok (.iconst 0, 1) := by decide +kernel
theorem dX6_isDigit_17 : decode cX6_isDigit 17 = .ok (.ireturn, 1) := by decide +kernel
theorem dX6_isWord_0 : decode cX6_isWord 0 = .ok (.iconst 0, 1) := by decide +kernel
theorem dX6_isWord_1 : decode cX6_isWord 1 = .ok (.istore_n 1, 1) := by decide +kernel
theorem dX6_isWord_2 : decode cX6_isWord 2 = .ok (.iload_n 1, 1) := by decide +kernel
theorem dX6_isWord_3 : decode cX6_isWord 3 = .ok (.aload_n 0, 1) := by decide +kernel
theorem dX6_isWord_4 : decode cX6_isWord 4 = .ok (.invokevirtual 67, 3) := by decide +kernel
theorem dX6_isWord_7 : decode cX6_isWord 7 = .ok (.if_icmp .ge 47, 3) := by decide +kernel
theorem dX6_isWord_10 : decode cX6_isWord 10 = .ok (.aload_n 0, 1) := by decide +kernel
theorem dX6_isWord_11 : decode cX6_isWord 11 = .ok (.iload_n 1, 1) := by decide +kernel
theorem dX6_isWord_12 : decode cX6_isWord 12 = .ok (.invokevirtual 71, 3) := by decide +kernel
theorem dX6_isWord_15 : decode cX6_isWord 15 = .ok (.invokestatic 215, 3) := by decide +kernel
theorem dX6_isWord_18 : decode cX6_isWord 18 = .ok (.ifCond .ne 18, 3) := by decide +kernel
theorem dX6_isWord_21 : decode cX6_isWord 21 = .ok (.iload_n 1, 1) := by decide +kernel
theorem dX6_isWord_22 : decode cX6_isWord 22 = .ok (.ifCond .le 18, 3) := by decide +kernel
theorem dX6_isWord_25 : decode cX6_isWord 25 = .ok (.aload_n 0, 1) := by decide +kernel
theorem dX6_isWord_26 : decode cX6_isWord 26 = .ok (.iload_n 1, 1) := by decide +kernel
theorem dX6_isWord_27 : decode cX6_isWord 27 = .ok (.invokevirtual 71, 3) := by decide +kernel
theorem dX6_isWord_30 : decode cX6_isWord 30 = .ok (.invokestatic 218, 3) := by decide +kernel
theorem dX6_isWord_33 : decode cX6_isWord 33 = .ok (.ifCond .eq 7, 3) := by decide +kernel
theorem dX6_isWord_36 : decode cX6_isWord 36 = .ok (.iconst 1, 1) := by decide +kernel
theorem dX6_isWord_37 : decode cX6_isWord 37 = .ok (.goto 4, 3) := by decide +kernel
theorem dX6_isWord_40 : decode cX6_isWord 40 = .ok (.iconst 0, 1) := by decide +kernel
theorem dX6_isWord_41 : decode cX6_isWord 41 = .ok (.istore_n 2, 1) := by decide +kernel
theorem dX6_isWord_42 : decode cX6_isWord 42 = .ok (.iload_n 2, 1) := by decide +kernel
theorem dX6_isWord_43 : decode cX6_isWord 43 = .ok (.ifCond .ne 5, 3) := by decide +kernel
theorem dX6_isWord_46 : decode cX6_isWord 46 = .ok (.iconst 0, 1) := by decide +kernel
theorem dX6_isWord_47 : decode cX6_isWord 47 = .ok (.ireturn, 1) := by decide +kernel
theorem dX6_isWord_48 : decode cX6_isWord 48 = .ok (.iinc 1 1, 3) := by decide +kernel
theorem dX6_isWord_51 : decode cX6_isWord 51 = .ok (.goto (-49), 3) := by decide +kernel
theorem dX6_isWord_54 : decode cX6_isWord 54 = .ok (.aload_n 0, 1) := by decide +kernel
theorem dX6_isWord_55 : decode cX6_isWord 55 = .ok (.invokevirtual 67, 3) := by decide +kernel
theorem dX6_isWord_58 : decode cX6_isWord 58 = .ok (.ifCond .le 7, 3) := by decide +kernel
theorem dX6_isWord_61 : decode cX6_isWord 61 = .ok (.iconst 1, 1) := by decide +kernel
theorem dX6_isWord_62 : decode cX6_isWord 62 = .ok (.goto 4, 3) := by decide +kernel
theorem dX6_isWord_65 : decode cX6_isWord 65 = .ok (.iconst 0, 1) := by decide +kernel
theorem dX6_isWord_66 : decode cX6_isWord 66 = .ok (.ireturn, 1) := by decide +kernel
theorem dJ9_max_7cf53_0 : decode cJ9_max_7cf53 0 = .ok (.iload_n 0, 1) := by decide +kernel
theorem dJ9_max_7cf53_1 : decode cJ9_max_7cf53 1 = .ok (.iload_n 1, 1) := by decide +kernel
theorem dJ9_max_7cf53_2 : decode cJ9_max_7cf53 2 = .ok (.if_icmp .lt 7, 3) := by decide +kernel
theorem dJ9_max_7cf53_5 : decode cJ9_max_7cf53 5 = .ok (.iload_n 0, 1) := by decide +kernel
theorem dJ9_max_7cf53_6 : decode cJ9_max_7cf53 6 = .ok (.goto 4, 3) := by decide +kernel
theorem dJ9_max_7cf53_9 : decode cJ9_max_7cf53 9 = .ok (.iload_n 1, 1) := by decide +kernel
theorem dJ9_max_7cf53_10 : decode cJ9_max_7cf53 10 = .ok (.ireturn, 1) := by decide +kernel
theorem dJ9_min_7cf53_0 : decode cJ9_min_7cf53 0 = .ok (.iload_n 0, 1) := by decide +kernel
theorem dJ9_min_7cf53_1 : decode cJ9_min_7cf53 1 = .ok (.iload_n 1, 1) := by decide +kernel
theorem dJ9_min_7cf53_2 : decode cJ9_min_7cf53 2 = .ok (.if_icmp .gt 7, 3) := by decide +kernel
theorem dJ9_min_7cf53_5 : decode cJ9_min_7cf53 5 = .ok (.iload_n 0, 1) := by decide +kernel
theorem dJ9_min_7cf53_6 : decode cJ9_min_7cf53 6 = .ok (.goto 4, 3) := by decide +kernel
theorem dJ9_min_7cf53_9 : decode cJ9_min_7cf53 9 = .ok (.iload_n 1, 1) := by decide +kernel
theorem dJ9_min_7cf53_10 : decode cJ9_min_7cf53 10 = .ok (.ireturn, 1) := by decide +kernel
theorem dJ7_copyOf_59c91_0 : decode cJ7_copyOf_59c91 0 = .ok (.iload_n 1, 1) := by decide +kernel
theorem dJ7_copyOf_59c91_1 : decode cJ7_copyOf_59c91 1 = .ok (.aload_n 0, 1) := by decide +kernel
theorem dJ7_copyOf_59c91_2 : decode cJ7_copyOf_59c91 2 = .ok (.arraylength, 1) := by decide +kernel
theorem dJ7_copyOf_59c91_3 : decode cJ7_copyOf_59c91 3 = .ok (.if_icmp .ne 11, 3) := by decide +kernel
theorem dJ7_copyOf_59c91_6 : decode cJ7_copyOf_59c91 6 = .ok (.aload_n 0, 1) := by decide +kernel
theorem dJ7_copyOf_59c91_7 : decode cJ7_copyOf_59c91 7 = .ok (.invokevirtual 316, 3) := by decide +kernel
theorem dJ7_copyOf_59c91_10 : decode cJ7_copyOf_59c91 10 = .ok (.checkcast 317, 3) := by decide +kernel
theorem dJ7_copyOf_59c91_13 : decode cJ7_copyOf_59c91 13 = .ok (.areturn, 1) := by decide +kernel
theorem dJ7_copyOf_59c91_14 : decode cJ7_copyOf_59c91 14 = .ok (.iload_n 1, 1) := by decide +kernel
theorem dJ7_copyOf_59c91_15 : decode cJ7_copyOf_59c91 15 = .ok (.newarray .int, 2) := by decide +kernel
theorem dJ7_copyOf_59c91_17 : decode cJ7_copyOf_59c91 17 = .ok (.astore_n 2, 1) := by decide +kernel
theorem dJ7_copyOf_59c91_18 : decode cJ7_copyOf_59c91 18 = .ok (.aload_n 0, 1) := by decide +kernel
theorem dJ7_copyOf_59c91_19 : decode cJ7_copyOf_59c91 19 = .ok (.iconst 0, 1) := by decide +kernel
theorem dJ7_copyOf_59c91_20 : decode cJ7_copyOf_59c91 20 = .ok (.aload_n 2, 1) := by decide +kernel
theorem dJ7_copyOf_59c91_21 : decode cJ7_copyOf_59c91 21 = .ok (.iconst 0, 1) := by decide +kernel
theorem dJ7_copyOf_59c91_22 : decode cJ7_copyOf_59c91 22 = .ok (.aload_n 0, 1) := by decide +kernel
theorem dJ7_copyOf_59c91_23 : decode cJ7_copyOf_59c91 23 = .ok (.arraylength, 1) := by decide +kernel
theorem dJ7_copyOf_59c91_24 : decode cJ7_copyOf_59c91 24 = .ok (.iload_n 1, 1) := by decide +kernel
theorem dJ7_copyOf_59c91_25 : decode cJ7_copyOf_59c91 25 = .ok (.invokestatic 304, 3) := by decide +kernel
theorem dJ7_copyOf_59c91_28 : decode cJ7_copyOf_59c91 28 = .ok (.invokestatic 150, 3) := by decide +kernel
theorem dJ7_copyOf_59c91_31 : decode cJ7_copyOf_59c91 31 = .ok (.aload_n 2, 1) := by decide +kernel
theorem dJ7_copyOf_59c91_32 : decode cJ7_copyOf_59c91 32 = .ok (.areturn, 1) := by decide +kernel
end
section
theorem dX7_init_0 : decode cX7_init 0 = .ok (.aload_n 0, 1) := by decide +kernel
theorem dX7_init_1 : decode cX7_init 1 = .ok (.invokespecial 1, 3) := by decide +kernel
theorem dX7_init_4 : decode cX7_init 4 = .ok (.aload_n 0, 1) := by decide +kernel
theorem dX7_init_5 : decode cX7_init 5 = .ok (.sipush 600, 3) := by decide +kernel
theorem dX7_init_8 : decode cX7_init 8 = .ok (.newarray .int, 2) := by decide +kernel
theorem dX7_init_10 : decode cX7_init 10 = .ok (.putfield 9, 3) := by decide +kernel
theorem dX7_init_13 : decode cX7_init 13 = .ok (.aload_n 0, 1) := by decide +kernel
theorem dX7_init_14 : decode cX7_init 14 = .ok (.sipush 1500, 3) := by decide +kernel
theorem dX7_init_17 : decode cX7_init 17 = .ok (.newarray .int, 2) := by decide +kernel
theorem dX7_init_19 : decode cX7_init 19 = .ok (.putfield 13, 3) := by decide +kernel
theorem dX7_init_22 : decode cX7_init 22 = .ok (.aload_n 0, 1) := by decide +kernel
theorem dX7_init_23 : decode cX7_init 23 = .ok (.sipush 1500, 3) := by decide +kernel
theorem dX7_init_26 : decode cX7_init 26 = .ok (.newarray .int, 2) := by decide +kernel
theorem dX7_init_28 : decode cX7_init 28 = .ok (.putfield 16, 3) := by decide +kernel
theorem dX7_init_31 : decode cX7_init 31 = .ok (.aload_n 0, 1) := by decide +kernel
theorem dX7_init_32 : decode cX7_init 32 = .ok (.sipush 1500, 3) := by decide +kernel
theorem dX7_init_35 : decode cX7_init 35 = .ok (.newarray .int, 2) := by decide +kernel
theorem dX7_init_37 : decode cX7_init 37 = .ok (.putfield 19, 3) := by decide +kernel
theorem dX7_init_40 : decode cX7_init 40 = .ok (.aload_n 0, 1) := by decide +kernel
theorem dX7_init_41 : decode cX7_init 41 = .ok (.sipush 1500, 3) := by decide +kernel
theorem dX7_init_44 : decode cX7_init 44 = .ok (.newarray .int, 2) := by decide +kernel
theorem dX7_init_46 : decode cX7_init 46 = .ok (.putfield 22, 3) := by decide +kernel
theorem dX7_init_49 : decode cX7_init 49 = .ok (.aload_n 0, 1) := by decide +kernel
theorem dX7_init_50 : decode cX7_init 50 = .ok (.sipush 1500, 3) := by decide +kernel
theorem dX7_init_53 : decode cX7_init 53 = .ok (.newarray .int, 2) := by decide +kernel
theorem dX7_init_55 : decode cX7_init 55 = .ok (.putfield 25, 3) := by decide +kernel
theorem dX7_init_58 : decode cX7_init 58 = .ok (.aload_n 0, 1) := by decide +kernel
theorem dX7_init_59 : decode cX7_init 59 = .ok (.sipush 1500, 3) := by decide +kernel
theorem dX7_init_62 : decode cX7_init 62 = .ok (.newarray .int, 2) := by decide +kernel
theorem dX7_init_64 : decode cX7_init 64 = .ok (.putfield 28, 3) := by decide +kernel
theorem dX7_init_67 : decode cX7_init 67 = .ok (.aload_n 0, 1) := by decide +kernel
theorem dX7_init_68 : decode cX7_init 68 = .ok (.sipush 1500, 3) := by decide +kernel
theorem dX7_init_71 : decode cX7_init 71 = .ok (.newarray .int, 2) := by decide +kernel
theorem dX7_init_73 : decode cX7_init 73 = .ok (.putfield 31, 3) := by decide +kernel
theorem dX7_init_76 : decode cX7_init 76 = .ok (.aload_n 0, 1) := by decide +kernel
theorem dX7_init_77 : decode cX7_init 77 = .ok (.sipush 1500, 3) := by decide +kernel
theorem dX7_init_80 : decode cX7_init 80 = .ok (.newarray .int, 2) := by decide +kernel
theorem dX7_init_82 : decode cX7_init 82 = .ok (.putfield 34, 3) := by decide +kernel
theorem dX7_init_85 : decode cX7_init 85 = .ok (.aload_n 0, 1) := by decide +kernel
theorem dX7_init_86 : decode cX7_init 86 = .ok (.sipush 12600, 3) := by decide +kernel
theorem dX7_init_89 : decode cX7_init 89 = .ok (.newarray .int, 2) := by decide +kernel
theorem dX7_init_91 : decode cX7_init 91 = .ok (.putfield 37, 3) := by decide +kernel
theorem dX7_init_94 : decode cX7_init 94 = .ok (.aload_n 0, 1) := by decide +kernel
theorem dX7_init_95 : decode cX7_init 95 = .ok (.sipush 1500, 3) := by decide +kernel
theorem dX7_init_98 : decode cX7_init 98 = .ok (.newarray .int, 2) := by decide +kernel
theorem dX7_init_100 : decode cX7_init 100 = .ok (.putfield 40, 3) := by decide +kernel
theorem dX7_init_103 : decode cX7_init 103 = .ok (.aload_n 0, 1) := by decide +kernel
theorem dX7_init_104 : decode cX7_init 104 = .ok (.sipush 1500, 3) := by decide +kernel
theorem dX7_init_107 : decode cX7_init 107 = .ok (.newarray .int, 2) := by decide +kernel
theorem dX7_init_109 : decode cX7_init 109 = .ok (.putfield 43, 3) := by decide +kernel
theorem dX7_init_112 : decode cX7_init 112 = .ok (.aload_n 0, 1) := by decide +kernel
theorem dX7_init_113 : decode cX7_init 113 = .ok (.sipush 3900, 3) := by decide +kernel
theorem dX7_init_116 : decode cX7_init 116 = .ok (.newarray .int, 2) := by decide +kernel
theorem dX7_init_118 : decode cX7_init 118 = .ok (.putfield 46, 3) := by decide +kernel
theorem dX7_init_121 : decode cX7_init 121 = .ok (.aload_n 0, 1) := by decide +kernel
theorem dX7_init_122 : decode cX7_init 122 = .ok (.ldc 49, 2) := by decide +kernel
theorem dX7_init_124 : decode cX7_init 124 = .ok (.newarray .int, 2) := by decide +kernel
theorem dX7_init_126 : decode cX7_init 126 = .ok (.putfield 50, 3) := by decide +kernel
theorem dX7_init_129 : decode cX7_init 129 = .ok (.aload_n 0, 1) := by decide +kernel
theorem dX7_init_130 : decode cX7_init 130 = .ok (.bipush 8, 2) := by decide +kernel
theorem dX7_init_132 : decode cX7_init 132 = .ok (.newarray .int, 2) := by decide +kernel
theorem dX7_init_134 : decode cX7_init 134 = .ok (.putfield 53, 3) := by decide +kernel
theorem dX7_init_137 : decode cX7_init 137 = .ok (.aload_n 0, 1) := by decide +kernel
theorem dX7_init_138 : decode cX7_init 138 = .ok (.bipush 32, 2) := by decide +kernel
theorem dX7_init_140 : decode cX7_init 140 = .ok (.newarray .int, 2) := by decide +kernel
theorem dX7_init_142 : decode cX7_init 142 = .ok (.putfield 56, 3) := by decide +kernel
theorem dX7_init_145 : decode cX7_init 145 = .ok (.aload_n 0, 1) := by decide +kernel
theorem dX7_init_146 : decode cX7_init 146 = .ok (.bipush 32, 2) := by decide +kernel
theorem dX7_init_148 : decode cX7_init 148 = .ok (.newarray .int, 2) := by decide +kernel
theorem dX7_init_150 : decode cX7_init 150 = .ok (.putfield 59, 3) := by decide +kernel
theorem dX7_init_153 : decode cX7_init 153 = .ok (.aload_n 0, 1) := by decide +kernel
theorem dX7_init_154 : decode cX7_init 154 = .ok (.bipush 32, 2) := by decide +kernel
theorem dX7_init_156 : decode cX7_init 156 = .ok (.newarray .int, 2) := by decide +kernel
theorem dX7_init_158 : decode cX7_init 158 = .ok (.putfield 62, 3) := by decide +kernel
theorem dX7_init_161 : decode cX7_init 161 = .ok (.aload_n 0, 1) := by decide +kernel
theorem dX7_init_162 : decode cX7_init 162 = .ok (.invokevirtual 65, 3) := by decide +kernel
theorem dX7_init_165 : decode cX7_init 165 = .ok (.aload_n 0, 1) := by decide +kernel
theorem dX7_init_166 : decode cX7_init 166 = .ok (.invokevirtual 68, 3) := by decide +kernel
theorem dX7_init_169 : decode cX7_init 169 = .ok (.return_, 1) := by decide +kernel
theorem dX7_thrown_0 : decode cX7_thrown 0 = .ok (.aload_n 0, 1) := by decide +kernel
theorem dX7_thrown_1 : decode cX7_thrown 1 = .ok (.getfield 71, 3) := by decide +kernel
theorem dX7_thrown_4 : decode cX7_thrown 4 = .ok (.ireturn, 1) := by decide +kernel
theorem dX7_fail_0 : decode cX7_fail 0 = .ok (.aload_n 0, 1) := by decide +kernel
theorem dX7_fail_1 : decode cX7_fail 1 = .ok (.iload_n 1, 1) := by decide +kernel
theorem dX7_fail_2 : decode cX7_fail 2 = .ok (.putfield 71, 3) := by decide +kernel
theorem dX7_fail_5 : decode cX7_fail 5 = .ok (.iconst 0, 1) := by decide +kernel
theorem dX7_fail_6 : decode cX7_fail 6 = .ok (.ireturn, 1) := by decide +kernel
theorem dX7_byteOf_0 : decode cX7_byteOf 0 = .ok (.lload_n 0, 1) := by decide +kernel
theorem dX7_byteOf_1 : decode cX7_byteOf 1 = .ok (.bipush 56, 2) := by decide +kernel
theorem dX7_byteOf_3 : decode cX7_byteOf 3 = .ok (.bipush 8, 2) := by decide +kernel
theorem dX7_byteOf_5 : decode cX7_byteOf 5 = .ok (.iload_n 2, 1) := by decide +kernel
theorem dX7_byteOf_6 : decode cX7_byteOf 6 = .ok (.imul, 1) := by decide +kernel
theorem dX7_byteOf_7 : decode cX7_byteOf 7 = .ok (.isub, 1) := by decide +kernel
theorem dX7_byteOf_8 : decode cX7_byteOf 8 = .ok (.lshr, 1) := by decide +kernel
theorem dX7_byteOf_9 : decode cX7_byteOf 9 = .ok (.ldc2_w 75, 3) := by decide +kernel
theorem dX7_byteOf_12 : decode cX7_byteOf 12 = .ok (.land, 1) := by decide +kernel
theorem dX7_byteOf_13 : decode cX7_byteOf 13 = .ok (.l2i, 1) := by decide +kernel
theorem dX7_byteOf_14 : decode cX7_byteOf 14 = .ok (.ireturn, 1) := by decide +kernel
theorem dX7_take_0 : decode cX7_take 0 = .ok (.iconst 0, 1) := by decide +kernel
theorem dX7_take_1 : decode cX7_take 1 = .ok (.istore_n 3, 1) := by decide +kernel
theorem dX7_take_2 : decode cX7_take 2 = .ok (.iconst 0, 1) := by decide +kernel
theorem dX7_take_3 : decode cX7_take 3 = .ok (.istore 4, 2) := by decide +kernel
theorem dX7_take_5 : decode cX7_take 5 = .ok (.iload 4, 2) := by decide +kernel
theorem dX7_take_7 : decode cX7_take 7 = .ok (.bipush 8, 2) := by decide +kernel
theorem dX7_take_9 : decode cX7_take 9 = .ok (.if_icmp .ge 36, 3) := by decide +kernel
theorem dX7_take_12 : decode cX7_take 12 = .ok (.lload_n 1, 1) := by decide +kernel
theorem dX7_take_13 : decode cX7_take 13 = .ok (.iload 4, 2) := by decide +kernel
theorem dX7_take_15 : decode cX7_take 15 = .ok (.invokestatic 77, 3) := by decide +kernel
theorem dX7_take_18 : decode cX7_take 18 = .ok (.ifCond .ne 6, 3) := by decide +kernel
theorem dX7_take_21 : decode cX7_take 21 = .ok (.goto 18, 3) := by decide +kernel
theorem dX7_take_24 : decode cX7_take 24 = .ok (.aload_n 0, 1) := by decide +kernel
theorem dX7_take_25 : decode cX7_take 25 = .ok (.getfield 53, 3) := by decide +kernel
theorem dX7_take_28 : decode cX7_take 28 = .ok (.iload_n 3, 1) := by decide +kernel
theorem dX7_take_29 : decode cX7_take 29 = .ok (.lload_n 1, 1) := by decide +kernel
theorem dX7_take_30 : decode cX7_take 30 = .ok (.iload 4, 2) := by decide +kernel
theorem dX7_take_32 : decode cX7_take 32 = .ok (.invokestatic 77, 3) := by decide +kernel
theorem dX7_take_35 : decode cX7_take 35 = .ok (.iastore, 1) := by decide +kernel
theorem dX7_take_36 : decode cX7_take 36 = .ok (.iinc 3 1, 3) := by decide +kernel
theorem dX7_take_39 : decode cX7_take 39 = .ok (.iinc 4 1, 3) := by decide +kernel
theorem dX7_take_42 : decode cX7_take 42 = .ok (.goto (-37), 3) := by decide +kernel
theorem dX7_take_45 : decode cX7_take 45 = .ok (.iload_n 3, 1) := by decide +kernel
theorem dX7_take_46 : decode cX7_take 46 = .ok (.ireturn, 1) := by decide +kernel
theorem dX7_feed_0 : decode cX7_feed 0 = .ok (.aload_n 0, 1) := by decide +kernel
theorem dX7_feed_1 : decode cX7_feed 1 = .ok (.iconst 0, 1) := by decide +kernel
theorem dX7_feed_2 : decode cX7_feed 2 = .ok (.putfield 71, 3) := by decide +kernel
theorem dX7_feed_5 : decode cX7_feed 5 = .ok (.aload_n 0, 1) := by decide +kernel
theorem dX7_feed_6 : decode cX7_feed 6 = .ok (.lload_n 1, 1) := by decide +kernel
theorem dX7_feed_7 : decode cX7_feed 7 = .ok (.invokevirtual 81, 3) := by decide +kernel
theorem dX7_feed_10 : decode cX7_feed 10 = .ok (.istore_n 3, 1) := by decide +kernel
theorem dX7_feed_11 : decode cX7_feed 11 = .ok (.iconst 0, 1) := by decide +kernel
theorem dX7_feed_12 : decode cX7_feed 12 = .ok (.istore 4, 2) := by decide +kernel
theorem dX7_feed_14 : decode cX7_feed 14 = .ok (.iload 4, 2) := by decide +kernel
theorem dX7_feed_16 : decode cX7_feed 16 = .ok (.iload_n 3, 1) := by decide +kernel
theorem dX7_feed_17 : decode cX7_feed 17 = .ok (.if_icmp .ge 51, 3) := by decide +kernel
theorem dX7_feed_20 : decode cX7_feed 20 = .ok (.aload_n 0, 1) := by decide +kernel
theorem dX7_feed_21 : decode cX7_feed 21 = .ok (.getfield 53, 3) := by decide +kernel
theorem dX7_feed_24 : decode cX7_feed 24 = .ok (.iload 4, 2) := by decide +kernel
theorem dX7_feed_26 : decode cX7_feed 26 = .ok (.iaload, 1) := by decide +kernel
theorem dX7_feed_27 : decode cX7_feed 27 = .ok (.bipush 10, 2) := by decide +kernel
theorem dX7_feed_29 : decode cX7_feed 29 = .ok (.if_icmp .eq 33, 3) := by decide +kernel
theorem dX7_feed_32 : decode cX7_feed 32 = .ok (.aload_n 0, 1) := by decide +kernel
theorem dX7_feed_33 : decode cX7_feed 33 = .ok (.getfield 53, 3) := by decide +kernel
theorem dX7_feed_36 : decode cX7_feed 36 = .ok (.iload 4, 2) := by decide +kernel
theorem dX7_feed_38 : decode cX7_feed 38 = .ok (.iaload, 1) := by decide +kernel
theorem dX7_feed_39 : decode cX7_feed 39 = .ok (.bipush 32, 2) := by decide +kernel
theorem dX7_feed_41 : decode cX7_feed 41 = .ok (.if_icmp .lt 15, 3) := by decide +kernel
theorem dX7_feed_44 : decode cX7_feed 44 = .ok (.aload_n 0, 1) := by decide +kernel
theorem dX7_feed_45 : decode cX7_feed 45 = .ok (.getfield 53, 3) := by decide +kernel
theorem dX7_feed_48 : decode cX7_feed 48 = .ok (.iload 4, 2) := by decide +kernel
theorem dX7_feed_50 : decode cX7_feed 50 = .ok (.iaload, 1) := by decide +kernel
theorem dX7_feed_51 : decode cX7_feed 51 = .ok (.bipush 126, 2) := by decide +kernel
theorem dX7_feed_53 : decode cX7_feed 53 = .ok (.if_icmp .le 9, 3) := by decide +kernel
theorem dX7_feed_56 : decode cX7_feed 56 = .ok (.aload_n 0, 1) := by decide +kernel
theorem dX7_feed_57 : decode cX7_feed 57 = .ok (.iconst 1, 1) := by decide +kernel
theorem dX7_feed_58 : decode cX7_feed 58 = .ok (.invokevirtual 85, 3) := by decide +kernel
theorem dX7_feed_61 : decode cX7_feed 61 = .ok (.ireturn, 1) := by decide +kernel
theorem dX7_feed_62 : decode cX7_feed 62 = .ok (.iinc 4 1, 3) := by decide +kernel
theorem dX7_feed_65 : decode cX7_feed 65 = .ok (.goto (-51), 3) := by decide +kernel
theorem dX7_feed_68 : decode cX7_feed 68 = .ok (.aload_n 0, 1) := by decide +kernel
theorem dX7_feed_69 : decode cX7_feed 69 = .ok (.getfield 89, 3) := by decide +kernel
theorem dX7_feed_72 : decode cX7_feed 72 = .ok (.iload_n 3, 1) := by decide +kernel
theorem dX7_feed_73 : decode cX7_feed 73 = .ok (.iadd, 1) := by decide +kernel
theorem dX7_feed_74 : decode cX7_feed 74 = .ok (.sipush 600, 3) := by decide +kernel
theorem dX7_feed_77 : decode cX7_feed 77 = .ok (.if_icmp .le 9, 3) := by decide +kernel
theorem dX7_feed_80 : decode cX7_feed 80 = .ok (.aload_n 0, 1) := by decide +kernel
theorem dX7_feed_81 : decode cX7_feed 81 = .ok (.iconst 2, 1) := by decide +kernel
theorem dX7_feed_82 : decode cX7_feed 82 = .ok (.invokevirtual 85, 3) := by decide +kernel
theorem dX7_feed_85 : decode cX7_feed 85 = .ok (.ireturn, 1) := by decide +kernel
theorem dX7_feed_86 : decode cX7_feed 86 = .ok (.iconst 0, 1) := by decide +kernel
theorem dX7_feed_87 : decode cX7_feed 87 = .ok (.istore 4, 2) := by decide +kernel
theorem dX7_feed_89 : decode cX7_feed 89 = .ok (.iload 4, 2) := by decide +kernel
theorem dX7_feed_91 : decode cX7_feed 91 = .ok (.iload_n 3, 1) := by decide +kernel
theorem dX7_feed_92 : decode cX7_feed 92 = .ok (.if_icmp .ge 35, 3) := by decide +kernel
theorem dX7_feed_95 : decode cX7_feed 95 = .ok (.aload_n 0, 1) := by decide +kernel
theorem dX7_feed_96 : decode cX7_feed 96 = .ok (.getfield 9, 3) := by decide +kernel
theorem dX7_feed_99 : decode cX7_feed 99 = .ok (.aload_n 0, 1) := by decide +kernel
theorem dX7_feed_100 : decode cX7_feed 100 = .ok (.getfield 89, 3) := by decide +kernel
theorem dX7_feed_103 : decode cX7_feed 103 = .ok (.aload_n 0, 1) := by decide +kernel
theorem dX7_feed_104 : decode cX7_feed 104 = .ok (.getfield 53, 3) := by decide +kernel
theorem dX7_feed_107 : decode cX7_feed 107 = .ok (.iload 4, 2) := by decide +kernel
theorem dX7_feed_109 : decode cX7_feed 109 = .ok (.iaload, 1) := by decide +kernel
theorem dX7_feed_110 : decode cX7_feed 110 = .ok (.iastore, 1) := by decide +kernel
theorem dX7_feed_111 : decode cX7_feed 111 = .ok (.aload_n 0, 1) := by decide +kernel
theorem dX7_feed_112 : decode cX7_feed 112 = .ok (.dup, 1) := by decide +kernel
theorem dX7_feed_113 : decode cX7_feed 113 = .ok (.getfield 89, 3) := by decide +kernel
theorem dX7_feed_116 : decode cX7_feed 116 = .ok (.iconst 1, 1) := by decide +kernel
theorem dX7_feed_117 : decode cX7_feed 117 = .ok (.iadd, 1) := by decide +kernel
theorem dX7_feed_118 : decode cX7_feed 118 = .ok (.putfield 89, 3) := by decide +kernel
theorem dX7_feed_121 : decode cX7_feed 121 = .ok (.iinc 4 1, 3) := by decide +kernel
theorem dX7_feed_124 : decode cX7_feed 124 = .ok (.goto (-35), 3) := by decide +kernel
theorem dX7_feed_127 : decode cX7_feed 127 = .ok (.aload_n 0, 1) := by decide +kernel
theorem dX7_feed_128 : decode cX7_feed 128 = .ok (.getfield 89, 3) := by decide +kernel
theorem dX7_feed_131 : decode cX7_feed 131 = .ok (.ireturn, 1) := by decide +kernel
theorem dX7_trim_0 : decode cX7_trim 0 = .ok (.aload_n 0, 1) := by decide +kernel
theorem dX7_trim_1 : decode cX7_trim 1 = .ok (.iconst 0, 1) := by decide +kernel
theorem dX7_trim_2 : decode cX7_trim 2 = .ok (.putfield 71, 3) := by decide +kernel
theorem dX7_trim_5 : decode cX7_trim 5 = .ok (.iload_n 1, 1) := by decide +kernel
theorem dX7_trim_6 : decode cX7_trim 6 = .ok (.ifCond .lt 11, 3) := by decide +kernel
theorem dX7_trim_9 : decode cX7_trim 9 = .ok (.iload_n 1, 1) := by decide +kernel
theorem dX7_trim_10 : decode cX7_trim 10 = .ok (.aload_n 0, 1) := by decide +kernel
theorem dX7_trim_11 : decode cX7_trim 11 = .ok (.getfield 89, 3) := by decide +kernel
theorem dX7_trim_14 : decode cX7_trim 14 = .ok (.if_icmp .le 9, 3) := by decide +kernel
theorem dX7_trim_17 : decode cX7_trim 17 = .ok (.aload_n 0, 1) := by decide +kernel
theorem dX7_trim_18 : decode cX7_trim 18 = .ok (.iconst 1, 1) := by decide +kernel
theorem dX7_trim_19 : decode cX7_trim 19 = .ok (.invokevirtual 85, 3) := by decide +kernel
theorem dX7_trim_22 : decode cX7_trim 22 = .ok (.ireturn, 1) := by decide +kernel
theorem dX7_trim_23 : decode cX7_trim 23 = .ok (.aload_n 0, 1) := by decide +kernel
theorem dX7_trim_24 : decode cX7_trim 24 = .ok (.getfield 89, 3) := by decide +kernel
theorem dX7_trim_27 : decode cX7_trim 27 = .ok (.istore_n 2, 1) := by decide +kernel
theorem dX7_trim_28 : decode cX7_trim 28 = .ok (.aload_n 0, 1) := by decide +kernel
theorem dX7_trim_29 : decode cX7_trim 29 = .ok (.iload_n 1, 1) := by decide +kernel
theorem dX7_trim_30 : decode cX7_trim 30 = .ok (.putfield 89, 3) := by decide +kernel
theorem dX7_trim_33 : decode cX7_trim 33 = .ok (.iload_n 2, 1) := by decide +kernel
theorem dX7_trim_34 : decode cX7_trim 34 = .ok (.ireturn, 1) := by decide +kernel
theorem dX7_length_0 : decode cX7_length 0 = .ok (.aload_n 0, 1) := by decide +kernel
theorem dX7_length_1 : decode cX7_length 1 = .ok (.iconst 0, 1) := by decide +kernel
theorem dX7_length_2 : decode cX7_length 2 = .ok (.putfield 71, 3) := by decide +kernel
theorem dX7_length_5 : decode cX7_length 5 = .ok (.aload_n 0, 1) := by decide +kernel
theorem dX7_length_6 : decode cX7_length 6 = .ok (.getfield 89, 3) := by decide +kernel
theorem dX7_length_9 : decode cX7_length 9 = .ok (.ireturn, 1) := by decide +kernel
theorem dX7_begin_0 : decode cX7_begin 0 = .ok (.aload_n 0, 1) := by decide +kernel
theorem dX7_begin_1 : decode cX7_begin 1 = .ok (.iconst 0, 1) := by decide +kernel
theorem dX7_begin_2 : decode cX7_begin 2 = .ok (.putfield 92, 3) := by decide +kernel
theorem dX7_begin_5 : decode cX7_begin 5 = .ok (.aload_n 0, 1) := by decide +kernel
theorem dX7_begin_6 : decode cX7_begin 6 = .ok (.iconst 0, 1) := by decide +kernel
theorem dX7_begin_7 : decode cX7_begin 7 = .ok (.putfield 95, 3) := by decide +kernel
theorem dX7_begin_10 : decode cX7_begin 10 = .ok (.aload_n 0, 1) := by decide +kernel
theorem dX7_begin_11 : decode cX7_begin 11 = .ok (.iconst 0, 1) := by decide +kernel
theorem dX7_begin_12 : decode cX7_begin 12 = .ok (.iconst (-1), 1) := by decide +kernel
theorem dX7_begin_13 : decode cX7_begin 13 = .ok (.iconst 0, 1) := by decide +kernel
theorem dX7_begin_14 : decode cX7_begin 14 = .ok (.iconst 0, 1) := by decide +kernel
theorem dX7_begin_15 : decode cX7_begin 15 = .ok (.iconst 0, 1) := by decide +kernel
theorem dX7_begin_16 : decode cX7_begin 16 = .ok (.invokevirtual 98, 3) := by decide +kernel
theorem dX7_begin_19 : decode cX7_begin 19 = .ok (.pop, 1) := by decide +kernel
theorem dX7_begin_20 : decode cX7_begin 20 = .ok (.return_, 1) := by decide +kernel
theorem dX7_add_0 : decode cX7_add 0 = .ok (.aload_n 0, 1) := by decide +kernel
theorem dX7_add_1 : decode cX7_add 1 = .ok (.getfield 92, 3) := by decide +kernel
theorem dX7_add_4 : decode cX7_add 4 = .ok (.istore 6, 2) := by decide +kernel
theorem dX7_add_6 : decode cX7_add 6 = .ok (.aload_n 0, 1) := by decide +kernel
theorem dX7_add_7 : decode cX7_add 7 = .ok (.dup, 1) := by decide +kernel
theorem dX7_add_8 : decode cX7_add 8 = .ok (.getfield 92, 3) := by decide +kernel
theorem dX7_add_11 : decode cX7_add 11 = .ok (.iconst 1, 1) := by decide +kernel
theorem dX7_add_12 : decode cX7_add 12 = .ok (.iadd, 1) := by decide +kernel
theorem dX7_add_13 : decode cX7_add 13 = .ok (.putfield 92, 3) := by decide +kernel
theorem dX7_add_16 : decode cX7_add 16 = .ok (.aload_n 0, 1) := by decide +kernel
theorem dX7_add_17 : decode cX7_add 17 = .ok (.getfield 13, 3) := by decide +kernel
theorem dX7_add_20 : decode cX7_add 20 = .ok (.iload 6, 2) := by decide +kernel
theorem dX7_add_22 : decode cX7_add 22 = .ok (.iload_n 1, 1) := by decide +kernel
theorem dX7_add_23 : decode cX7_add 23 = .ok (.iastore, 1) := by decide +kernel
theorem dX7_add_24 : decode cX7_add 24 = .ok (.aload_n 0, 1) := by decide +kernel
theorem dX7_add_25 : decode cX7_add 25 = .ok (.getfield 25, 3) := by decide +kernel
theorem dX7_add_28 : decode cX7_add 28 = .ok (.iload 6, 2) := by decide +kernel
theorem dX7_add_30 : decode cX7_add 30 = .ok (.iload_n 3, 1) := by decide +kernel
theorem dX7_add_31 : decode cX7_add 31 = .ok (.iastore, 1) := by decide +kernel
theorem dX7_add_32 : decode cX7_add 32 = .ok (.aload_n 0, 1) := by decide +kernel
theorem dX7_add_33 : decode cX7_add 33 = .ok (.getfield 28, 3) := by decide +kernel
theorem dX7_add_36 : decode cX7_add 36 = .ok (.iload 6, 2) := by decide +kernel
theorem dX7_add_38 : decode cX7_add 38 = .ok (.iload 4, 2) := by decide +kernel
theorem dX7_add_40 : decode cX7_add 40 = .ok (.iastore, 1) := by decide +kernel
theorem dX7_add_41 : decode cX7_add 41 = .ok (.aload_n 0, 1) := by decide +kernel
theorem dX7_add_42 : decode cX7_add 42 = .ok (.getfield 31, 3) := by decide +kernel
theorem dX7_add_45 : decode cX7_add 45 = .ok (.iload 6, 2) := by decide +kernel
theorem dX7_add_47 : decode cX7_add 47 = .ok (.iload 5, 2) := by decide +kernel
theorem dX7_add_49 : decode cX7_add 49 = .ok (.iastore, 1) := by decide +kernel
theorem dX7_add_50 : decode cX7_add 50 = .ok (.aload_n 0, 1) := by decide +kernel
theorem dX7_add_51 : decode cX7_add 51 = .ok (.getfield 19, 3) := by decide +kernel
theorem dX7_add_54 : decode cX7_add 54 = .ok (.iload 6, 2) := by decide +kernel
theorem dX7_add_56 : decode cX7_add 56 = .ok (.iconst (-1), 1) := by decide +kernel
theorem dX7_add_57 : decode cX7_add 57 = .ok (.iastore, 1) := by decide +kernel
theorem dX7_add_58 : decode cX7_add 58 = .ok (.aload_n 0, 1) := by decide +kernel
theorem dX7_add_59 : decode cX7_add 59 = .ok (.getfield 16, 3) := by decide +kernel
theorem dX7_add_62 : decode cX7_add 62 = .ok (.iload 6, 2) := by decide +kernel
theorem dX7_add_64 : decode cX7_add 64 = .ok (.iconst (-1), 1) := by decide +kernel
theorem dX7_add_65 : decode cX7_add 65 = .ok (.iastore, 1) := by decide +kernel
theorem dX7_add_66 : decode cX7_add 66 = .ok (.aload_n 0, 1) := by decide +kernel
theorem dX7_add_67 : decode cX7_add 67 = .ok (.getfield 22, 3) := by decide +kernel
theorem dX7_add_70 : decode cX7_add 70 = .ok (.iload 6, 2) := by decide +kernel
theorem dX7_add_72 : decode cX7_add 72 = .ok (.iconst (-1), 1) := by decide +kernel
theorem dX7_add_73 : decode cX7_add 73 = .ok (.iastore, 1) := by decide +kernel
theorem dX7_add_74 : decode cX7_add 74 = .ok (.iload_n 2, 1) := by decide +kernel
theorem dX7_add_75 : decode cX7_add 75 = .ok (.iconst (-1), 1) := by decide +kernel
theorem dX7_add_76 : decode cX7_add 76 = .ok (.if_icmp .eq 15, 3) := by decide +kernel
theorem dX7_add_79 : decode cX7_add 79 = .ok (.aload_n 0, 1) := by decide +kernel
theorem dX7_add_80 : decode cX7_add 80 = .ok (.iload 6, 2) := by decide +kernel
theorem dX7_add_82 : decode cX7_add 82 = .ok (.iload_n 2, 1) := by decide +kernel
theorem dX7_add_83 : decode cX7_add 83 = .ok (.aload_n 0, 1) := by decide +kernel
theorem dX7_add_84 : decode cX7_add 84 = .ok (.iload_n 2, 1) := by decide +kernel
theorem dX7_add_85 : decode cX7_add 85 = .ok (.invokevirtual 102, 3) := by decide +kernel
theorem dX7_add_88 : decode cX7_add 88 = .ok (.invokevirtual 105, 3) := by decide +kernel
theorem dX7_add_91 : decode cX7_add 91 = .ok (.iload 6, 2) := by decide +kernel
theorem dX7_add_93 : decode cX7_add 93 = .ok (.ireturn, 1) := by decide +kernel
theorem dX7_countOf_0 : decode cX7_countOf 0 = .ok (.iconst 0, 1) := by decide +kernel
theorem dX7_countOf_1 : decode cX7_countOf 1 = .ok (.istore_n 2, 1) := by decide +kernel
theorem dX7_countOf_2 : decode cX7_countOf 2 = .ok (.aload_n 0, 1) := by decide +kernel
theorem dX7_countOf_3 : decode cX7_countOf 3 = .ok (.getfield 19, 3) := by decide +kernel
theorem dX7_countOf_6 : decode cX7_countOf 6 = .ok (.iload_n 1, 1) := by decide +kernel
theorem dX7_countOf_7 : decode cX7_countOf 7 = .ok (.iaload, 1) := by decide +kernel
theorem dX7_countOf_8 : decode cX7_countOf 8 = .ok (.istore_n 3, 1) := by decide +kernel
theorem dX7_countOf_9 : decode cX7_countOf 9 = .ok (.iload_n 3, 1) := by decide +kernel
theorem dX7_countOf_10 : decode cX7_countOf 10 = .ok (.iconst (-1), 1) := by decide +kernel
theorem dX7_countOf_11 : decode cX7_countOf 11 = .ok (.if_icmp .eq 16, 3) := by decide +kernel
theorem dX7_countOf_14 : decode cX7_countOf 14 = .ok (.iinc 2 1, 3) := by decide +kernel
theorem dX7_countOf_17 : decode cX7_countOf 17 = .ok (.aload_n 0, 1) := by decide +kernel
theorem dX7_countOf_18 : decode cX7_countOf 18 = .ok (.getfield 22, 3) := by decide +kernel
theorem dX7_countOf_21 : decode cX7_countOf 21 = .ok (.iload_n 3, 1) := by decide +kernel
theorem dX7_countOf_22 : decode cX7_countOf 22 = .ok (.iaload, 1) := by decide +kernel
theorem dX7_countOf_23 : decode cX7_countOf 23 = .ok (.istore_n 3, 1) := by decide +kernel
theorem dX7_countOf_24 : decode cX7_countOf 24 = .ok (.goto (-15), 3) := by decide +kernel
theorem dX7_countOf_27 : decode cX7_countOf 27 = .ok (.iload_n 2, 1) := by decide +kernel
theorem dX7_countOf_28 : decode cX7_countOf 28 = .ok (.ireturn, 1) := by decide +kernel
theorem dX7_childOf_0 : decode cX7_childOf 0 = .ok (.aload_n 0, 1) := by decide +kernel
theorem dX7_childOf_1 : decode cX7_childOf 1 = .ok (.getfield 19, 3) := by decide +kernel
theorem dX7_childOf_4 : decode cX7_childOf 4 = .ok (.iload_n 1, 1) := by decide +kernel
theorem dX7_childOf_5 : decode cX7_childOf 5 = .ok (.iaload, 1) := by decide +kernel
theorem dX7_childOf_6 : decode cX7_childOf 6 = .ok (.istore_n 3, 1) := by decide +kernel
theorem dX7_childOf_7 : decode cX7_childOf 7 = .ok (.iconst 0, 1) := by decide +kernel
theorem dX7_childOf_8 : decode cX7_childOf 8 = .ok (.istore 4, 2) := by decide +kernel
theorem dX7_childOf_10 : decode cX7_childOf 10 = .ok (.iload 4, 2) := by decide +kernel
theorem dX7_childOf_12 : decode cX7_childOf 12 = .ok (.iload_n 2, 1) := by decide +kernel
theorem dX7_childOf_13 : decode cX7_childOf 13 = .ok (.if_icmp .ge 21, 3) := by decide +kernel
theorem dX7_childOf_16 : decode cX7_childOf 16 = .ok (.iload_n 3, 1) := by decide +kernel
theorem dX7_childOf_17 : decode cX7_childOf 17 = .ok (.iconst (-1), 1) := by decide +kernel
theorem dX7_childOf_18 : decode cX7_childOf 18 = .ok (.if_icmp .eq 16, 3) := by decide +kernel
theorem dX7_childOf_21 : decode cX7_childOf 21 = .ok (.aload_n 0, 1) := by decide +kernel
theorem dX7_childOf_22 : decode cX7_childOf 22 = .ok (.getfield 22, 3) := by decide +kernel
theorem dX7_childOf_25 : decode cX7_childOf 25 = .ok (.iload_n 3, 1) := by decide +kernel
theorem dX7_childOf_26 : decode cX7_childOf 26 = .ok (.iaload, 1) := by decide +kernel
theorem dX7_childOf_27 : decode cX7_childOf 27 = .ok (.istore_n 3, 1) := by decide +kernel
theorem dX7_childOf_28 : decode cX7_childOf 28 = .ok (.iinc 4 1, 3) := by decide +kernel
theorem dX7_childOf_31 : decode cX7_childOf 31 = .ok (.goto (-21), 3) := by decide +kernel
theorem dX7_childOf_34 : decode cX7_childOf 34 = .ok (.iload_n 3, 1) := by decide +kernel
theorem dX7_childOf_35 : decode cX7_childOf 35 = .ok (.ireturn, 1) := by decide +kernel
theorem dX7_insert_0 : decode cX7_insert 0 = .ok (.aload_n 0, 1) := by decide +kernel
theorem dX7_insert_1 : decode cX7_insert 1 = .ok (.getfield 16, 3) := by decide +kernel
theorem dX7_insert_4 : decode cX7_insert 4 = .ok (.iload_n 1, 1) := by decide +kernel
theorem dX7_insert_5 : decode cX7_insert 5 = .ok (.iload_n 2, 1) := by decide +kernel
theorem dX7_insert_6 : decode cX7_insert 6 = .ok (.iastore, 1) := by decide +kernel
theorem dX7_insert_7 : decode cX7_insert 7 = .ok (.iload_n 3, 1) := by decide +kernel
theorem dX7_insert_8 : decode cX7_insert 8 = .ok (.ifCond .ne 23, 3) := by decide +kernel
theorem dX7_insert_11 : decode cX7_insert 11 = .ok (.aload_n 0, 1) := by decide +kernel
theorem dX7_insert_12 : decode cX7_insert 12 = .ok (.getfield 22, 3) := by decide +kernel
theorem dX7_insert_15 : decode cX7_insert 15 = .ok (.iload_n 1, 1) := by decide +kernel
theorem dX7_insert_16 : decode cX7_insert 16 = .ok (.aload_n 0, 1) := by decide +kernel
theorem dX7_insert_17 : decode cX7_insert 17 = .ok (.getfield 19, 3) := by decide +kernel
theorem dX7_insert_20 : decode cX7_insert 20 = .ok (.iload_n 2, 1) := by decide +kernel
theorem dX7_insert_21 : decode cX7_insert 21 = .ok (.iaload, 1) := by decide +kernel
theorem dX7_insert_22 : decode cX7_insert 22 = .ok (.iastore, 1) := by decide +kernel
theorem dX7_insert_23 : decode cX7_insert 23 = .ok (.aload_n 0, 1) := by decide +kernel
theorem dX7_insert_24 : decode cX7_insert 24 = .ok (.getfield 19, 3) := by decide +kernel
theorem dX7_insert_27 : decode cX7_insert 27 = .ok (.iload_n 2, 1) := by decide +kernel
theorem dX7_insert_28 : decode cX7_insert 28 = .ok (.iload_n 1, 1) := by decide +kernel
theorem dX7_insert_29 : decode cX7_insert 29 = .ok (.iastore, 1) := by decide +kernel
theorem dX7_insert_30 : decode cX7_insert 30 = .ok (.return_, 1) := by decide +kernel
theorem dX7_insert_31 : decode cX7_insert 31 = .ok (.aload_n 0, 1) := by decide +kernel
theorem dX7_insert_32 : decode cX7_insert 32 = .ok (.iload_n 2, 1) := by decide +kernel
theorem dX7_insert_33 : decode cX7_insert 33 = .ok (.iload_n 3, 1) := by decide +kernel
theorem dX7_insert_34 : decode cX7_insert 34 = .ok (.iconst 1, 1) := by decide +kernel
theorem dX7_insert_35 : decode cX7_insert 35 = .ok (.isub, 1) := by decide +kernel
theorem dX7_insert_36 : decode cX7_insert 36 = .ok (.invokevirtual 109, 3) := by decide +kernel
theorem dX7_insert_39 : decode cX7_insert 39 = .ok (.istore 4, 2) := by decide +kernel
theorem dX7_insert_41 : decode cX7_insert 41 = .ok (.aload_n 0, 1) := by decide +kernel
theorem dX7_insert_42 : decode cX7_insert 42 = .ok (.getfield 22, 3) := by decide +kernel
theorem dX7_insert_45 : decode cX7_insert 45 = .ok (.iload_n 1, 1) := by decide +kernel
theorem dX7_insert_46 : decode cX7_insert 46 = .ok (.aload_n 0, 1) := by decide +kernel
theorem dX7_insert_47 : decode cX7_insert 47 = .ok (.getfield 22, 3) := by decide +kernel
theorem dX7_insert_50 : decode cX7_insert 50 = .ok (.iload 4, 2) := by decide +kernel
theorem dX7_insert_52 : decode cX7_insert 52 = .ok (.iaload, 1) := by decide +kernel
theorem dX7_insert_53 : decode cX7_insert 53 = .ok (.iastore, 1) := by decide +kernel
theorem dX7_insert_54 : decode cX7_insert 54 = .ok (.aload_n 0, 1) := by decide +kernel
theorem dX7_insert_55 : decode cX7_insert 55 = .ok (.getfield 22, 3) := by decide +kernel
theorem dX7_insert_58 : decode cX7_insert 58 = .ok (.iload 4, 2) := by decide +kernel
theorem dX7_insert_60 : decode cX7_insert 60 = .ok (.iload_n 1, 1) := by decide +kernel
theorem dX7_insert_61 : decode cX7_insert 61 = .ok (.iastore, 1) := by decide +kernel
theorem dX7_insert_62 : decode cX7_insert 62 = .ok (.return_, 1) := by decide +kernel
theorem dX7_takeOut_0 : decode cX7_takeOut 0 = .ok (.aload_n 0, 1) := by decide +kernel
theorem dX7_takeOut_1 : decode cX7_takeOut 1 = .ok (.getfield 16, 3) := by decide +kernel
theorem dX7_takeOut_4 : decode cX7_takeOut 4 = .ok (.iload_n 1, 1) := by decide +kernel
theorem dX7_takeOut_5 : decode cX7_takeOut 5 = .ok (.iaload, 1) := by decide +kernel
theorem dX7_takeOut_6 : decode cX7_takeOut 6 = .ok (.istore_n 2, 1) := by decide +kernel
theorem dX7_takeOut_7 : decode cX7_takeOut 7 = .ok (.aload_n 0, 1) := by decide +kernel
theorem dX7_takeOut_8 : decode cX7_takeOut 8 = .ok (.getfield 19, 3) := by decide +kernel
theorem dX7_takeOut_11 : decode cX7_takeOut 11 = .ok (.iload_n 2, 1) := by decide +kernel
theorem dX7_takeOut_12 : decode cX7_takeOut 12 = .ok (.iaload, 1) := by decide +kernel
theorem dX7_takeOut_13 : decode cX7_takeOut 13 = .ok (.iload_n 1, 1) := by decide +kernel
theorem dX7_takeOut_14 : decode cX7_takeOut 14 = .ok (.if_icmp .ne 18, 3) := by decide +kernel
theorem dX7_takeOut_17 : decode cX7_takeOut 17 = .ok (.aload_n 0, 1) := by decide +kernel
theorem dX7_takeOut_18 : decode cX7_takeOut 18 = .ok (.getfield 19, 3) := by decide +kernel
theorem dX7_takeOut_21 : decode cX7_takeOut 21 = .ok (.iload_n 2, 1) := by decide +kernel
theorem dX7_takeOut_22 : decode cX7_takeOut 22 = .ok (.aload_n 0, 1) := by decide +kernel
theorem dX7_takeOut_23 : decode cX7_takeOut 23 = .ok (.getfield 22, 3) := by decide +kernel
theorem dX7_takeOut_26 : decode cX7_takeOut 26 = .ok (.iload_n 1, 1) := by decide +kernel
theorem dX7_takeOut_27 : decode cX7_takeOut 27 = .ok (.iaload, 1) := by decide +kernel
theorem dX7_takeOut_28 : decode cX7_takeOut 28 = .ok (.iastore, 1) := by decide +kernel
theorem dX7_takeOut_29 : decode cX7_takeOut 29 = .ok (.goto 42, 3) := by decide +kernel
theorem dX7_takeOut_32 : decode cX7_takeOut 32 = .ok (.aload_n 0, 1) := by decide +kernel
theorem dX7_takeOut_33 : decode cX7_takeOut 33 = .ok (.getfield 19, 3) := by decide +kernel
theorem dX7_takeOut_36 : decode cX7_takeOut 36 = .ok (.iload_n 2, 1) := by decide +kernel
theorem dX7_takeOut_37 : decode cX7_takeOut 37 = .ok (.iaload, 1) := by decide +kernel
theorem dX7_takeOut_38 : decode cX7_takeOut 38 = .ok (.istore_n 3, 1) := by decide +kernel
theorem dX7_takeOut_39 : decode cX7_takeOut 39 = .ok (.aload_n 0, 1) := by decide +kernel
theorem dX7_takeOut_40 : decode cX7_takeOut 40 = .ok (.getfield 22, 3) := by decide +kernel
theorem dX7_takeOut_43 : decode cX7_takeOut 43 = .ok (.iload_n 3, 1) := by decide +kernel
theorem dX7_takeOut_44 : decode cX7_takeOut 44 = .ok (.iaload, 1) := by decide +kernel
theorem dX7_takeOut_45 : decode cX7_takeOut 45 = .ok (.iload_n 1, 1) := by decide +kernel
theorem dX7_takeOut_46 : decode cX7_takeOut 46 = .ok (.if_icmp .eq 13, 3) := by decide +kernel
theorem dX7_takeOut_49 : decode cX7_takeOut 49 = .ok (.aload_n 0, 1) := by decide +kernel
theorem dX7_takeOut_50 : decode cX7_takeOut 50 = .ok (.getfield 22, 3) := by decide +kernel
theorem dX7_takeOut_53 : decode cX7_takeOut 53 = .ok (.iload_n 3, 1) := by decide +kernel
theorem dX7_takeOut_54 : decode cX7_takeOut 54 = .ok (.iaload, 1) := by decide +kernel
theorem dX7_takeOut_55 : decode cX7_takeOut 55 = .ok (.istore_n 3, 1) := by decide +kernel
theorem dX7_takeOut_56 : decode cX7_takeOut 56 = .ok (.goto (-17), 3) := by decide +kernel
theorem dX7_takeOut_59 : decode cX7_takeOut 59 = .ok (.aload_n 0, 1) := by decide +kernel
theorem dX7_takeOut_60 : decode cX7_takeOut 60 = .ok (.getfield 22, 3) := by decide +kernel
theorem dX7_takeOut_63 : decode cX7_takeOut 63 = .ok (.iload_n 3, 1) := by decide +kernel
theorem dX7_takeOut_64 : decode cX7_takeOut 64 = .ok (.aload_n 0, 1) := by decide +kernel
theorem dX7_takeOut_65 : decode cX7_takeOut 65 = .ok (.getfield 22, 3) := by decide +kernel
theorem dX7_takeOut_68 : decode cX7_takeOut 68 = .ok (.iload_n 1, 1) := by decide +kernel
theorem dX7_takeOut_69 : decode cX7_takeOut 69 = .ok (.iaload, 1) := by decide +kernel
theorem dX7_takeOut_70 : decode cX7_takeOut 70 = .ok (.iastore, 1) := by decide +kernel
theorem dX7_takeOut_71 : decode cX7_takeOut 71 = .ok (.return_, 1) := by decide +kernel
theorem dX7_following_0 : decode cX7_following 0 = .ok (.aload_n 0, 1) := by decide +kernel
theorem dX7_following_1 : decode cX7_following 1 = .ok (.getfield 19, 3) := by decide +kernel
theorem dX7_following_4 : decode cX7_following 4 = .ok (.iload_n 1, 1) := by decide +kernel
theorem dX7_following_5 : decode cX7_following 5 = .ok (.iaload, 1) := by decide +kernel
theorem dX7_following_6 : decode cX7_following 6 = .ok (.iconst (-1), 1) := by decide +kernel
theorem dX7_following_7 : decode cX7_following 7 = .ok (.if_icmp .eq 10, 3) := by decide +kernel
theorem dX7_following_10 : decode cX7_following 10 = .ok (.aload_n 0, 1) := by decide +kernel
theorem dX7_following_11 : decode cX7_following 11 = .ok (.getfield 19, 3) := by decide +kernel
theorem dX7_following_14 : decode cX7_following 14 = .ok (.iload_n 1, 1) := by decide +kernel
theorem dX7_following_15 : decode cX7_following 15 = .ok (.iaload, 1) := by decide +kernel
theorem dX7_following_16 : decode cX7_following 16 = .ok (.ireturn, 1) := by decide +kernel
theorem dX7_following_17 : decode cX7_following 17 = .ok (.iload_n 1, 1) := by decide +kernel
theorem dX7_following_18 : decode cX7_following 18 = .ok (.istore_n 3, 1) := by decide +kernel
theorem dX7_following_19 : decode cX7_following 19 = .ok (.iload_n 3, 1) := by decide +kernel
theorem dX7_following_20 : decode cX7_following 20 = .ok (.iload_n 2, 1) := by decide +kernel
theorem dX7_following_21 : decode cX7_following 21 = .ok (.if_icmp .eq 23, 3) := by decide +kernel
theorem dX7_following_24 : decode cX7_following 24 = .ok (.aload_n 0, 1) := by decide +kernel
theorem dX7_following_25 : decode cX7_following 25 = .ok (.getfield 22, 3) := by decide +kernel
theorem dX7_following_28 : decode cX7_following 28 = .ok (.iload_n 3, 1) := by decide +kernel
theorem dX7_following_29 : decode cX7_following 29 = .ok (.iaload, 1) := by decide +kernel
theorem dX7_following_30 : decode cX7_following 30 = .ok (.iconst (-1), 1) := by decide +kernel
theorem dX7_following_31 : decode cX7_following 31 = .ok (.if_icmp .ne 13, 3) := by decide +kernel
theorem dX7_following_34 : decode cX7_following 34 = .ok (.aload_n 0, 1) := by decide +kernel
theorem dX7_following_35 : decode cX7_following 35 = .ok (.getfield 16, 3) := by decide +kernel
theorem dX7_following_38 : decode cX7_following 38 = .ok (.iload_n 3, 1) := by decide +kernel
theorem dX7_following_39 : decode cX7_following 39 = .ok (.iaload, 1) := by decide +kernel
theorem dX7_following_40 : decode cX7_following 40 = .ok (.istore_n 3, 1) := by decide +kernel
theorem dX7_following_41 : decode cX7_following 41 = .ok (.goto (-22), 3) := by decide +kernel
theorem dX7_following_44 : decode cX7_following 44 = .ok (.iload_n 3, 1) := by decide +kernel
theorem dX7_following_45 : decode cX7_following 45 = .ok (.iload_n 2, 1) := by decide +kernel
theorem dX7_following_46 : decode cX7_following 46 = .ok (.if_icmp .ne 7, 3) := by decide +kernel
theorem dX7_following_49 : decode cX7_following 49 = .ok (.iconst (-1), 1) := by decide +kernel
theorem dX7_following_50 : decode cX7_following 50 = .ok (.goto 9, 3) := by decide +kernel
theorem dX7_following_53 : decode cX7_following 53 = .ok (.aload_n 0, 1) := by decide +kernel
theorem dX7_following_54 : decode cX7_following 54 = .ok (.getfield 22, 3) := by decide +kernel
theorem dX7_following_57 : decode cX7_following 57 = .ok (.iload_n 3, 1) := by decide +kernel
theorem dX7_following_58 : decode cX7_following 58 = .ok (.iaload, 1) := by decide +kernel
theorem dX7_following_59 : decode cX7_following 59 = .ok (.ireturn, 1) := by decide +kernel
theorem dX7_number_0 : decode cX7_number 0 = .ok (.aload_n 0, 1) := by decide +kernel
theorem dX7_number_1 : decode cX7_number 1 = .ok (.iconst 0, 1) := by decide +kernel
theorem dX7_number_2 : decode cX7_number 2 = .ok (.putfield 113, 3) := by decide +kernel
theorem dX7_number_5 : decode cX7_number 5 = .ok (.iconst 0, 1) := by decide +kernel
theorem dX7_number_6 : decode cX7_number 6 = .ok (.istore_n 1, 1) := by decide +kernel
theorem dX7_number_7 : decode cX7_number 7 = .ok (.iload_n 1, 1) := by decide +kernel
theorem dX7_number_8 : decode cX7_number 8 = .ok (.iconst (-1), 1) := by decide +kernel
theorem dX7_number_9 : decode cX7_number 9 = .ok (.if_icmp .eq 43, 3) := by decide +kernel
theorem dX7_number_12 : decode cX7_number 12 = .ok (.aload_n 0, 1) := by decide +kernel
theorem dX7_number_13 : decode cX7_number 13 = .ok (.getfield 40, 3) := by decide +kernel
theorem dX7_number_16 : decode cX7_number 16 = .ok (.aload_n 0, 1) := by decide +kernel
theorem dX7_number_17 : decode cX7_number 17 = .ok (.getfield 113, 3) := by decide +kernel
theorem dX7_number_20 : decode cX7_number 20 = .ok (.iload_n 1, 1) := by decide +kernel
theorem dX7_number_21 : decode cX7_number 21 = .ok (.iastore, 1) := by decide +kernel
theorem dX7_number_22 : decode cX7_number 22 = .ok (.aload_n 0, 1) := by decide +kernel
theorem dX7_number_23 : decode cX7_number 23 = .ok (.getfield 43, 3) := by decide +kernel
theorem dX7_number_26 : decode cX7_number 26 = .ok (.iload_n 1, 1) := by decide +kernel
theorem dX7_number_27 : decode cX7_number 27 = .ok (.aload_n 0, 1) := by decide +kernel
theorem dX7_number_28 : decode cX7_number 28 = .ok (.getfield 113, 3) := by decide +kernel
theorem dX7_number_31 : decode cX7_number 31 = .ok (.iastore, 1) := by decide +kernel
theorem dX7_number_32 : decode cX7_number 32 = .ok (.aload_n 0, 1) := by decide +kernel
theorem dX7_number_33 : decode cX7_number 33 = .ok (.dup, 1) := by decide +kernel
theorem dX7_number_34 : decode cX7_number 34 = .ok (.getfield 113, 3) := by decide +kernel
theorem dX7_number_37 : decode cX7_number 37 = .ok (.iconst 1, 1) := by decide +kernel
theorem dX7_number_38 : decode cX7_number 38 = .ok (.iadd, 1) := by decide +kernel
theorem dX7_number_39 : decode cX7_number 39 = .ok (.putfield 113, 3) := by decide +kernel
theorem dX7_number_42 : decode cX7_number 42 = .ok (.aload_n 0, 1) := by decide +kernel
theorem dX7_number_43 : decode cX7_number 43 = .ok (.iload_n 1, 1) := by decide +kernel
theorem dX7_number_44 : decode cX7_number 44 = .ok (.iconst 0, 1) := by decide +kernel
theorem dX7_number_45 : decode cX7_number 45 = .ok (.invokevirtual 116, 3) := by decide +kernel
theorem dX7_number_48 : decode cX7_number 48 = .ok (.istore_n 1, 1) := by decide +kernel
theorem dX7_number_49 : decode cX7_number 49 = .ok (.goto (-42), 3) := by decide +kernel
theorem dX7_number_52 : decode cX7_number 52 = .ok (.return_, 1) := by decide +kernel
theorem dX7_repair_0 : decode cX7_repair 0 = .ok (.aload_n 0, 1) := by decide +kernel
theorem dX7_repair_1 : decode cX7_repair 1 = .ok (.getfield 46, 3) := by decide +kernel
theorem dX7_repair_4 : decode cX7_repair 4 = .ok (.iconst 3, 1) := by decide +kernel
theorem dX7_repair_5 : decode cX7_repair 5 = .ok (.aload_n 0, 1) := by decide +kernel
theorem dX7_repair_6 : decode cX7_repair 6 = .ok (.getfield 95, 3) := by decide +kernel
theorem dX7_repair_9 : decode cX7_repair 9 = .ok (.imul, 1) := by decide +kernel
theorem dX7_repair_10 : decode cX7_repair 10 = .ok (.iload_n 1, 1) := by decide +kernel
theorem dX7_repair_11 : decode cX7_repair 11 = .ok (.iastore, 1) := by decide +kernel
theorem dX7_repair_12 : decode cX7_repair 12 = .ok (.aload_n 0, 1) := by decide +kernel
theorem dX7_repair_13 : decode cX7_repair 13 = .ok (.getfield 46, 3) := by decide +kernel
theorem dX7_repair_16 : decode cX7_repair 16 = .ok (.iconst 3, 1) := by decide +kernel
theorem dX7_repair_17 : decode cX7_repair 17 = .ok (.aload_n 0, 1) := by decide +kernel
theorem dX7_repair_18 : decode cX7_repair 18 = .ok (.getfield 95, 3) := by decide +kernel
theorem dX7_repair_21 : decode cX7_repair 21 = .ok (.imul, 1) := by decide +kernel
theorem dX7_repair_22 : decode cX7_repair 22 = .ok (.iconst 1, 1) := by decide +kernel
theorem dX7_repair_23 : decode cX7_repair 23 = .ok (.iadd, 1) := by decide +kernel
theorem dX7_repair_24 : decode cX7_repair 24 = .ok (.aload_n 0, 1) := by decide +kernel
theorem dX7_repair_25 : decode cX7_repair 25 = .ok (.getfield 119, 3) := by decide +kernel
theorem dX7_repair_28 : decode cX7_repair 28 = .ok (.iastore, 1) := by decide +kernel
theorem dX7_repair_29 : decode cX7_repair 29 = .ok (.aload_n 0, 1) := by decide +kernel
theorem dX7_repair_30 : decode cX7_repair 30 = .ok (.getfield 46, 3) := by decide +kernel
theorem dX7_repair_33 : decode cX7_repair 33 = .ok (.iconst 3, 1) := by decide +kernel
theorem dX7_repair_34 : decode cX7_repair 34 = .ok (.aload_n 0, 1) := by decide +kernel
theorem dX7_repair_35 : decode cX7_repair 35 = .ok (.getfield 95, 3) := by decide +kernel
theorem dX7_repair_38 : decode cX7_repair 38 = .ok (.imul, 1) := by decide +kernel
theorem dX7_repair_39 : decode cX7_repair 39 = .ok (.iconst 2, 1) := by decide +kernel
theorem dX7_repair_40 : decode cX7_repair 40 = .ok (.iadd, 1) := by decide +kernel
theorem dX7_repair_41 : decode cX7_repair 41 = .ok (.aload_n 0, 1) := by decide +kernel
theorem dX7_repair_42 : decode cX7_repair 42 = .ok (.getfield 122, 3) := by decide +kernel
theorem dX7_repair_45 : decode cX7_repair 45 = .ok (.iastore, 1) := by decide +kernel
theorem dX7_repair_46 : decode cX7_repair 46 = .ok (.aload_n 0, 1) := by decide +kernel
theorem dX7_repair_47 : decode cX7_repair 47 = .ok (.dup, 1) := by decide +kernel
theorem dX7_repair_48 : decode cX7_repair 48 = .ok (.getfield 95, 3) := by decide +kernel
theorem dX7_repair_51 : decode cX7_repair 51 = .ok (.iconst 1, 1) := by decide +kernel
theorem dX7_repair_52 : decode cX7_repair 52 = .ok (.iadd, 1) := by decide +kernel
theorem dX7_repair_53 : decode cX7_repair 53 = .ok (.putfield 95, 3) := by decide +kernel
theorem dX7_repair_56 : decode cX7_repair 56 = .ok (.return_, 1) := by decide +kernel
theorem dX7_push_0 : decode cX7_push 0 = .ok (.aload_n 0, 1) := by decide +kernel
theorem dX7_push_1 : decode cX7_push 1 = .ok (.getfield 56, 3) := by decide +kernel
theorem dX7_push_4 : decode cX7_push 4 = .ok (.aload_n 0, 1) := by decide +kernel
theorem dX7_push_5 : decode cX7_push 5 = .ok (.getfield 125, 3) := by decide +kernel
theorem dX7_push_8 : decode cX7_push 8 = .ok (.iload_n 1, 1) := by decide +kernel
theorem dX7_push_9 : decode cX7_push 9 = .ok (.iastore, 1) := by decide +kernel
theorem dX7_push_10 : decode cX7_push 10 = .ok (.aload_n 0, 1) := by decide +kernel
theorem dX7_push_11 : decode cX7_push 11 = .ok (.getfield 59, 3) := by decide +kernel
theorem dX7_push_14 : decode cX7_push 14 = .ok (.aload_n 0, 1) := by decide +kernel
theorem dX7_push_15 : decode cX7_push 15 = .ok (.getfield 125, 3) := by decide +kernel
theorem dX7_push_18 : decode cX7_push 18 = .ok (.iload_n 2, 1) := by decide +kernel
theorem dX7_push_19 : decode cX7_push 19 = .ok (.iastore, 1) := by decide +kernel
theorem dX7_push_20 : decode cX7_push 20 = .ok (.aload_n 0, 1) := by decide +kernel
theorem dX7_push_21 : decode cX7_push 21 = .ok (.getfield 62, 3) := by decide +kernel
theorem dX7_push_24 : decode cX7_push 24 = .ok (.aload_n 0, 1) := by decide +kernel
theorem dX7_push_25 : decode cX7_push 25 = .ok (.getfield 125, 3) := by decide +kernel
theorem dX7_push_28 : decode cX7_push 28 = .ok (.iconst (-1), 1) := by decide +kernel
theorem dX7_push_29 : decode cX7_push 29 = .ok (.iastore, 1) := by decide +kernel
theorem dX7_push_30 : decode cX7_push 30 = .ok (.aload_n 0, 1) := by decide +kernel
theorem dX7_push_31 : decode cX7_push 31 = .ok (.dup, 1) := by decide +kernel
theorem dX7_push_32 : decode cX7_push 32 = .ok (.getfield 125, 3) := by decide +kernel
theorem dX7_push_35 : decode cX7_push 35 = .ok (.iconst 1, 1) := by decide +kernel
theorem dX7_push_36 : decode cX7_push 36 = .ok (.iadd, 1) := by decide +kernel
theorem dX7_push_37 : decode cX7_push 37 = .ok (.putfield 125, 3) := by decide +kernel
theorem dX7_push_40 : decode cX7_push 40 = .ok (.return_, 1) := by decide +kernel
theorem dX7_top_0 : decode cX7_top 0 = .ok (.aload_n 0, 1) := by decide +kernel
theorem dX7_top_1 : decode cX7_top 1 = .ok (.getfield 125, 3) := by decide +kernel
theorem dX7_top_4 : decode cX7_top 4 = .ok (.iconst 1, 1) := by decide +kernel
theorem dX7_top_5 : decode cX7_top 5 = .ok (.isub, 1) := by decide +kernel
theorem dX7_top_6 : decode cX7_top 6 = .ok (.ireturn, 1) := by decide +kernel
theorem dX7_isGroupOpen_0 : decode cX7_isGroupOpen 0 = .ok (.aload_n 0, 1) := by decide +kernel
theorem dX7_isGroupOpen_1 : decode cX7_isGroupOpen 1 = .ok (.getfield 13, 3) := by decide +kernel
theorem dX7_isGroupOpen_4 : decode cX7_isGroupOpen 4 = .ok (.aload_n 0, 1) := by decide +kernel
theorem dX7_isGroupOpen_5 : decode cX7_isGroupOpen 5 = .ok (.getfield 56, 3) := by decide +kernel
theorem dX7_isGroupOpen_8 : decode cX7_isGroupOpen 8 = .ok (.aload_n 0, 1) := by decide +kernel
theorem dX7_isGroupOpen_9 : decode cX7_isGroupOpen 9 = .ok (.invokevirtual 128, 3) := by decide +kernel
theorem dX7_isGroupOpen_12 : decode cX7_isGroupOpen 12 = .ok (.iaload, 1) := by decide +kernel
theorem dX7_isGroupOpen_13 : decode cX7_isGroupOpen 13 = .ok (.iaload, 1) := by decide +kernel
theorem dX7_isGroupOpen_14 : decode cX7_isGroupOpen 14 = .ok (.iconst 4, 1) := by decide +kernel
theorem dX7_isGroupOpen_15 : decode cX7_isGroupOpen 15 = .ok (.if_icmp .ne 7, 3) := by decide +kernel
theorem dX7_isGroupOpen_18 : decode cX7_isGroupOpen 18 = .ok (.iconst 1, 1) := by decide +kernel
theorem dX7_isGroupOpen_19 : decode cX7_isGroupOpen 19 = .ok (.goto 4, 3) := by decide +kernel
theorem dX7_isGroupOpen_22 : decode cX7_isGroupOpen 22 = .ok (.iconst 0, 1) := by decide +kernel
theorem dX7_isGroupOpen_23 : decode cX7_isGroupOpen 23 = .ok (.ireturn, 1) := by decide +kernel
theorem dX7_isDigit_0 : decode cX7_isDigit 0 = .ok (.iload_n 0, 1) := by decide +kernel
theorem dX7_isDigit_1 : decode cX7_isDigit 1 = .ok (.bipush 48, 2) := by decide +kernel
theorem dX7_isDigit_3 : decode cX7_isDigit 3 = .ok (.if_icmp .lt 13, 3) := by decide +kernel
theorem dX7_isDigit_6 : decode cX7_isDigit 6 = .ok (.iload_n 0, 1) := by decide +kernel
theorem dX7_isDigit_7 : decode cX7_isDigit 7 = .ok (.bipush 57, 2) := by decide +kernel
theorem dX7_isDigit_9 : decode cX7_isDigit 9 = .ok (.if_icmp .gt 7, 3) := by decide +kernel
theorem dX7_isDigit_12 : decode cX7_isDigit 12 = .ok (.iconst 1, 1) := by decide +kernel
theorem dX7_isDigit_13 : decode cX7_isDigit 13 = .ok (.goto 4, 3) := by decide +kernel
theorem dX7_isDigit_16 : decode cX7_isDigit 16 = .ok (.iconst 0, 1) := by decide +kernel
theorem dX7_isDigit_17 : decode cX7_isDigit 17 = .ok (.ireturn, 1) := by decide +kernel
theorem dX7_isLetter_0 : decode cX7_isLetter 0 = .ok (.iload_n 0, 1) := by decide +kernel
theorem dX7_isLetter_1 : decode cX7_isLetter 1 = .ok (.bipush 97, 2) := by decide +kernel
theorem dX7_isLetter_3 : decode cX7_isLetter 3 = .ok (.if_icmp .lt 9, 3) := by decide +kernel
theorem dX7_isLetter_6 : decode cX7_isLetter 6 = .ok (.iload_n 0, 1) := by decide +kernel
theorem dX7_isLetter_7 : decode cX7_isLetter 7 = .ok (.bipush 122, 2) := by decide +kernel
theorem dX7_isLetter_9 : decode cX7_isLetter 9 = .ok (.if_icmp .le 15, 3) := by decide +kernel
theorem dX7_isLetter_12 : decode cX7_isLetter 12 = .ok (.iload_n 0, 1) := by decide +kernel
theorem dX7_isLetter_13 : decode cX7_isLetter 13 = .ok (.bipush 65, 2) := by decide +kernel
theorem dX7_isLetter_15 : decode cX7_isLetter 15 = .ok (.if_icmp .lt 13, 3) := by decide +kernel
theorem dX7_isLetter_18 : decode cX7_isLetter 18 = .ok (.iload_n 0, 1) := by decide +kernel
theorem dX7_isLetter_19 : decode cX7_isLetter 19 = .ok (.bipush 90, 2) := by decide +kernel
theorem dX7_isLetter_21 : decode cX7_isLetter 21 = .ok (.if_icmp .gt 7, 3) := by decide +kernel
theorem dX7_isLetter_24 : decode cX7_isLetter 24 = .ok (.iconst 1, 1) := by decide +kernel
theorem dX7_isLetter_25 : decode cX7_isLetter 25 = .ok (.goto 4, 3) := by decide +kernel
theorem dX7_isLetter_28 : decode cX7_isLetter 28 = .ok (.iconst 0, 1) := by decide +kernel
theorem dX7_isLetter_29 : decode cX7_isLetter 29 = .ok (.ireturn, 1) := by decide +kernel
theorem dX7_isSign_0 : decode cX7_isSign 0 = .ok (.iload_n 0, 1) := by decide +kernel
theorem dX7_isSign_1 : decode cX7_isSign 1 = .ok (.bipush 123, 2) := by decide +kernel
theorem dX7_isSign_3 : decode cX7_isSign 3 = .ok (.if_icmp .eq 33, 3) := by decide +kernel
theorem dX7_isSign_6 : decode cX7_isSign 6 = .ok (.iload_n 0, 1) := by decide +kernel
theorem dX7_isSign_7 : decode cX7_isSign 7 = .ok (.bipush 125, 2) := by decide +kernel
theorem dX7_isSign_9 : decode cX7_isSign 9 = .ok (.if_icmp .eq 27, 3) := by decide +kernel
theorem dX7_isSign_12 : decode cX7_isSign 12 = .ok (.iload_n 0, 1) := by decide +kernel
theorem dX7_isSign_13 : decode cX7_isSign 13 = .ok (.bipush 40, 2) := by decide +kernel
theorem dX7_isSign_15 : decode cX7_isSign 15 = .ok (.if_icmp .eq 21, 3) := by decide +kernel
theorem dX7_isSign_18 : decode cX7_isSign 18 = .ok (.iload_n 0, 1) := by decide +kernel
theorem dX7_isSign_19 : decode cX7_isSign 19 = .ok (.bipush 41, 2) := by decide +kernel
theorem dX7_isSign_21 : decode cX7_isSign 21 = .ok (.if_icmp .eq 15, 3) := by decide +kernel
theorem dX7_isSign_24 : decode cX7_isSign 24 = .ok (.iload_n 0, 1) := by decide +kernel
theorem dX7_isSign_25 : decode cX7_isSign 25 = .ok (.bipush 58, 2) := by decide +kernel
theorem dX7_isSign_27 : decode cX7_isSign 27 = .ok (.if_icmp .eq 9, 3) := by decide +kernel
theorem dX7_isSign_30 : decode cX7_isSign 30 = .ok (.iload_n 0, 1) := by decide +kernel
theorem dX7_isSign_31 : decode cX7_isSign 31 = .ok (.bipush 59, 2) := by decide +kernel
theorem dX7_isSign_33 : decode cX7_isSign 33 = .ok (.if_icmp .ne 7, 3) := by decide +kernel
theorem dX7_isSign_36 : decode cX7_isSign 36 = .ok (.iconst 1, 1) := by decide +kernel
theorem dX7_isSign_37 : decode cX7_isSign 37 = .ok (.goto 4, 3) := by decide +kernel
theorem dX7_isSign_40 : decode cX7_isSign 40 = .ok (.iconst 0, 1) := by decide +kernel
theorem dX7_isSign_41 : decode cX7_isSign 41 = .ok (.ireturn, 1) := by decide +kernel
theorem dX7_parse_0 : decode cX7_parse 0 = .ok (.aload_n 0, 1) := by decide +kernel
theorem dX7_parse_1 : decode cX7_parse 1 = .ok (.iconst 0, 1) := by decide +kernel
theorem dX7_parse_2 : decode cX7_parse 2 = .ok (.putfield 71, 3) := by decide +kernel
theorem dX7_parse_5 : decode cX7_parse 5 = .ok (.aload_n 0, 1) := by decide +kernel
theorem dX7_parse_6 : decode cX7_parse 6 = .ok (.invokevirtual 65, 3) := by decide +kernel
theorem dX7_parse_9 : decode cX7_parse 9 = .ok (.iconst 0, 1) := by decide +kernel
theorem dX7_parse_10 : decode cX7_parse 10 = .ok (.istore_n 1, 1) := by decide +kernel
theorem dX7_parse_11 : decode cX7_parse 11 = .ok (.iload_n 1, 1) := by decide +kernel
theorem dX7_parse_12 : decode cX7_parse 12 = .ok (.aload_n 0, 1) := by decide +kernel
theorem dX7_parse_13 : decode cX7_parse 13 = .ok (.getfield 89, 3) := by decide +kernel
theorem dX7_parse_16 : decode cX7_parse 16 = .ok (.if_icmp .ge 21, 3) := by decide +kernel
theorem dX7_parse_19 : decode cX7_parse 19 = .ok (.aload_n 0, 1) := by decide +kernel
theorem dX7_parse_20 : decode cX7_parse 20 = .ok (.getfield 37, 3) := by decide +kernel
theorem dX7_parse_23 : decode cX7_parse 23 = .ok (.iload_n 1, 1) := by decide +kernel
theorem dX7_parse_24 : decode cX7_parse 24 = .ok (.aload_n 0, 1) := by decide +kernel
theorem dX7_parse_25 : decode cX7_parse 25 = .ok (.getfield 9, 3) := by decide +kernel
theorem dX7_parse_28 : decode cX7_parse 28 = .ok (.iload_n 1, 1) := by decide +kernel
theorem dX7_parse_29 : decode cX7_parse 29 = .ok (.iaload, 1) := by decide +kernel
theorem dX7_parse_30 : decode cX7_parse 30 = .ok (.iastore, 1) := by decide +kernel
theorem dX7_parse_31 : decode cX7_parse 31 = .ok (.iinc 1 1, 3) := by decide +kernel
theorem dX7_parse_34 : decode cX7_parse 34 = .ok (.goto (-23), 3) := by decide +kernel
theorem dX7_parse_37 : decode cX7_parse 37 = .ok (.aload_n 0, 1) := by decide +kernel
theorem dX7_parse_38 : decode cX7_parse 38 = .ok (.iconst 0, 1) := by decide +kernel
theorem dX7_parse_39 : decode cX7_parse 39 = .ok (.putfield 125, 3) := by decide +kernel
theorem dX7_parse_42 : decode cX7_parse 42 = .ok (.aload_n 0, 1) := by decide +kernel
theorem dX7_parse_43 : decode cX7_parse 43 = .ok (.iconst 0, 1) := by decide +kernel
theorem dX7_parse_44 : decode cX7_parse 44 = .ok (.iconst (-1), 1) := by decide +kernel
theorem dX7_parse_45 : decode cX7_parse 45 = .ok (.invokevirtual 132, 3) := by decide +kernel
theorem dX7_parse_48 : decode cX7_parse 48 = .ok (.aload_n 0, 1) := by decide +kernel
theorem dX7_parse_49 : decode cX7_parse 49 = .ok (.iconst 0, 1) := by decide +kernel
theorem dX7_parse_50 : decode cX7_parse 50 = .ok (.putfield 136, 3) := by decide +kernel
theorem dX7_parse_53 : decode cX7_parse 53 = .ok (.iconst 0, 1) := by decide +kernel
theorem dX7_parse_54 : decode cX7_parse 54 = .ok (.istore_n 1, 1) := by decide +kernel
theorem dX7_parse_55 : decode cX7_parse 55 = .ok (.aload_n 0, 1) := by decide +kernel
theorem dX7_parse_56 : decode cX7_parse 56 = .ok (.iconst 0, 1) := by decide +kernel
theorem dX7_parse_57 : decode cX7_parse 57 = .ok (.putfield 119, 3) := by decide +kernel
theorem dX7_parse_60 : decode cX7_parse 60 = .ok (.iconst 0, 1) := by decide +kernel
theorem dX7_parse_61 : decode cX7_parse 61 = .ok (.istore_n 2, 1) := by decide +kernel
theorem dX7_parse_62 : decode cX7_parse 62 = .ok (.iconst 1, 1) := by decide +kernel
theorem dX7_parse_63 : decode cX7_parse 63 = .ok (.istore_n 3, 1) := by decide +kernel
theorem dX7_parse_64 : decode cX7_parse 64 = .ok (.iconst 0, 1) := by decide +kernel
theorem dX7_parse_65 : decode cX7_parse 65 = .ok (.istore 4, 2) := by decide +kernel
theorem dX7_parse_67 : decode cX7_parse 67 = .ok (.iload 4, 2) := by decide +kernel
theorem dX7_parse_69 : decode cX7_parse 69 = .ok (.aload_n 0, 1) := by decide +kernel
theorem dX7_parse_70 : decode cX7_parse 70 = .ok (.getfield 89, 3) := by decide +kernel
theorem dX7_parse_73 : decode cX7_parse 73 = .ok (.if_icmp .ge 325, 3) := by decide +kernel
theorem dX7_parse_76 : decode cX7_parse 76 = .ok (.aload_n 0, 1) := by decide +kernel
theorem dX7_parse_77 : decode cX7_parse 77 = .ok (.getfield 9, 3) := by decide +kernel
theorem dX7_parse_80 : decode cX7_parse 80 = .ok (.iload 4, 2) := by decide +kernel
theorem dX7_parse_82 : decode cX7_parse 82 = .ok (.iaload, 1) := by decide +kernel
theorem dX7_parse_83 : decode cX7_parse 83 = .ok (.istore 5, 2) := by decide +kernel
theorem dX7_parse_85 : decode cX7_parse 85 = .ok (.aload_n 0, 1) := by decide +kernel
theorem dX7_parse_86 : decode cX7_parse 86 = .ok (.iload 4, 2) := by decide +kernel
theorem dX7_parse_88 : decode cX7_parse 88 = .ok (.iload_n 2, 1) := by decide +kernel
theorem dX7_parse_89 : decode cX7_parse 89 = .ok (.isub, 1) := by decide +kernel
theorem dX7_parse_90 : decode cX7_parse 90 = .ok (.putfield 122, 3) := by decide +kernel
theorem dX7_parse_93 : decode cX7_parse 93 = .ok (.iload 4, 2) := by decide +kernel
theorem dX7_parse_95 : decode cX7_parse 95 = .ok (.iconst 1, 1) := by decide +kernel
theorem dX7_parse_96 : decode cX7_parse 96 = .ok (.iadd, 1) := by decide +kernel
theorem dX7_parse_97 : decode cX7_parse 97 = .ok (.istore 6, 2) := by decide +kernel
theorem dX7_parse_99 : decode cX7_parse 99 = .ok (.iload 5, 2) := by decide +kernel
theorem dX7_parse_101 : decode cX7_parse 101 = .ok (.bipush 92, 2) := by decide +kernel
theorem dX7_parse_103 : decode cX7_parse 103 = .ok (.if_icmp .ne 28, 3) := by decide +kernel
theorem dX7_parse_106 : decode cX7_parse 106 = .ok (.iload 6, 2) := by decide +kernel
theorem dX7_parse_108 : decode cX7_parse 108 = .ok (.aload_n 0, 1) := by decide +kernel
theorem dX7_parse_109 : decode cX7_parse 109 = .ok (.getfield 89, 3) := by decide +kernel
theorem dX7_parse_112 : decode cX7_parse 112 = .ok (.if_icmp .ge 19, 3) := by decide +kernel
theorem dX7_parse_115 : decode cX7_parse 115 = .ok (.aload_n 0, 1) := by decide +kernel
theorem dX7_parse_116 : decode cX7_parse 116 = .ok (.getfield 9, 3) := by decide +kernel
theorem dX7_parse_119 : decode cX7_parse 119 = .ok (.iload 6, 2) := by decide +kernel
theorem dX7_parse_121 : decode cX7_parse 121 = .ok (.iaload, 1) := by decide +kernel
theorem dX7_parse_122 : decode cX7_parse 122 = .ok (.bipush 10, 2) := by decide +kernel
theorem dX7_parse_124 : decode cX7_parse 124 = .ok (.if_icmp .ne 7, 3) := by decide +kernel
theorem dX7_parse_127 : decode cX7_parse 127 = .ok (.iconst 1, 1) := by decide +kernel
theorem dX7_parse_128 : decode cX7_parse 128 = .ok (.goto 4, 3) := by decide +kernel
theorem dX7_parse_131 : decode cX7_parse 131 = .ok (.iconst 0, 1) := by decide +kernel
theorem dX7_parse_132 : decode cX7_parse 132 = .ok (.istore 7, 2) := by decide +kernel
theorem dX7_parse_134 : decode cX7_parse 134 = .ok (.iload 7, 2) := by decide +kernel
theorem dX7_parse_136 : decode cX7_parse 136 = .ok (.ifCond .ne 10, 3) := by decide +kernel
theorem dX7_parse_139 : decode cX7_parse 139 = .ok (.iload 5, 2) := by decide +kernel
theorem dX7_parse_141 : decode cX7_parse 141 = .ok (.bipush 10, 2) := by decide +kernel
theorem dX7_parse_143 : decode cX7_parse 143 = .ok (.if_icmp .ne 48, 3) := by decide +kernel
theorem dX7_parse_146 : decode cX7_parse 146 = .ok (.iload 7, 2) := by decide +kernel
theorem dX7_parse_148 : decode cX7_parse 148 = .ok (.ifCond .eq 10, 3) := by decide +kernel
theorem dX7_parse_151 : decode cX7_parse 151 = .ok (.iload 4, 2) := by decide +kernel
theorem dX7_parse_153 : decode cX7_parse 153 = .ok (.iconst 2, 1) := by decide +kernel
theorem dX7_parse_154 : decode cX7_parse 154 = .ok (.iadd, 1) := by decide +kernel
theorem dX7_parse_155 : decode cX7_parse 155 = .ok (.goto 7, 3) := by decide +kernel
theorem dX7_parse_158 : decode cX7_parse 158 = .ok (.iload 4, 2) := by decide +kernel
theorem dX7_parse_160 : decode cX7_parse 160 = .ok (.iconst 1, 1) := by decide +kernel
theorem dX7_parse_161 : decode cX7_parse 161 = .ok (.iadd, 1) := by decide +kernel
theorem dX7_parse_162 : decode cX7_parse 162 = .ok (.istore 6, 2) := by decide +kernel
theorem dX7_parse_164 : decode cX7_parse 164 = .ok (.aload_n 0, 1) := by decide +kernel
theorem dX7_parse_165 : decode cX7_parse 165 = .ok (.dup, 1) := by decide +kernel
theorem dX7_parse_166 : decode cX7_parse 166 = .ok (.getfield 119, 3) := by decide +kernel
theorem dX7_parse_169 : decode cX7_parse 169 = .ok (.iconst 1, 1) := by decide +kernel
theorem dX7_parse_170 : decode cX7_parse 170 = .ok (.iadd, 1) := by decide +kernel
theorem dX7_parse_171 : decode cX7_parse 171 = .ok (.putfield 119, 3) := by decide +kernel
theorem dX7_parse_174 : decode cX7_parse 174 = .ok (.iload 6, 2) := by decide +kernel
theorem dX7_parse_176 : decode cX7_parse 176 = .ok (.istore_n 2, 1) := by decide +kernel
theorem dX7_parse_177 : decode cX7_parse 177 = .ok (.iload 7, 2) := by decide +kernel
theorem dX7_parse_179 : decode cX7_parse 179 = .ok (.ifCond .ne 7, 3) := by decide +kernel
theorem dX7_parse_182 : decode cX7_parse 182 = .ok (.iconst 1, 1) := by decide +kernel
theorem dX7_parse_183 : decode cX7_parse 183 = .ok (.goto 4, 3) := by decide +kernel
theorem dX7_parse_186 : decode cX7_parse 186 = .ok (.iconst 0, 1) := by decide +kernel
theorem dX7_parse_187 : decode cX7_parse 187 = .ok (.istore_n 3, 1) := by decide +kernel
theorem dX7_parse_188 : decode cX7_parse 188 = .ok (.goto 203, 3) := by decide +kernel
theorem dX7_parse_191 : decode cX7_parse 191 = .ok (.iload 5, 2) := by decide +kernel
theorem dX7_parse_193 : decode cX7_parse 193 = .ok (.bipush 35, 2) := by decide +kernel
theorem dX7_parse_195 : decode cX7_parse 195 = .ok (.if_icmp .ne 30, 3) := by decide +kernel
theorem dX7_parse_198 : decode cX7_parse 198 = .ok (.iload 6, 2) := by decide +kernel
theorem dX7_parse_200 : decode cX7_parse 200 = .ok (.aload_n 0, 1) := by decide +kernel
theorem dX7_parse_201 : decode cX7_parse 201 = .ok (.getfield 89, 3) := by decide +kernel
theorem dX7_parse_204 : decode cX7_parse 204 = .ok (.if_icmp .ge 187, 3) := by decide +kernel
theorem dX7_parse_207 : decode cX7_parse 207 = .ok (.aload_n 0, 1) := by decide +kernel
theorem dX7_parse_208 : decode cX7_parse 208 = .ok (.getfield 9, 3) := by decide +kernel
theorem dX7_parse_211 : decode cX7_parse 211 = .ok (.iload 6, 2) := by decide +kernel
theorem dX7_parse_213 : decode cX7_parse 213 = .ok (.iaload, 1) := by decide +kernel
theorem dX7_parse_214 : decode cX7_parse 214 = .ok (.bipush 10, 2) := by decide +kernel
theorem dX7_parse_216 : decode cX7_parse 216 = .ok (.if_icmp .eq 175, 3) := by decide +kernel
theorem dX7_parse_219 : decode cX7_parse 219 = .ok (.iinc 6 1, 3) := by decide +kernel
theorem dX7_parse_222 : decode cX7_parse 222 = .ok (.goto (-24), 3) := by decide +kernel
theorem dX7_parse_225 : decode cX7_parse 225 = .ok (.iload 5, 2) := by decide +kernel
theorem dX7_parse_227 : decode cX7_parse 227 = .ok (.invokestatic 140, 3) := by decide +kernel
theorem dX7_parse_230 : decode cX7_parse 230 = .ok (.ifCond .ne 19, 3) := by decide +kernel
theorem dX7_parse_233 : decode cX7_parse 233 = .ok (.iload 5, 2) := by decide +kernel
theorem dX7_parse_235 : decode cX7_parse 235 = .ok (.invokestatic 144, 3) := by decide +kernel
theorem dX7_parse_238 : decode cX7_parse 238 = .ok (.ifCond .ne 11, 3) := by decide +kernel
theorem dX7_parse_241 : decode cX7_parse 241 = .ok (.iload 5, 2) := by decide +kernel
theorem dX7_parse_243 : decode cX7_parse 243 = .ok (.invokestatic 147, 3) := by decide +kernel
theorem dX7_parse_246 : decode cX7_parse 246 = .ok (.ifCond .eq 133, 3) := by decide +kernel
theorem dX7_parse_249 : decode cX7_parse 249 = .ok (.aload_n 0, 1) := by decide +kernel
theorem dX7_parse_250 : decode cX7_parse 250 = .ok (.iload 5, 2) := by decide +kernel
theorem dX7_parse_252 : decode cX7_parse 252 = .ok (.invokestatic 140, 3) := by decide +kernel
theorem dX7_parse_255 : decode cX7_parse 255 = .ok (.ifCond .eq 7, 3) := by decide +kernel
theorem dX7_parse_258 : decode cX7_parse 258 = .ok (.iconst 2, 1) := by decide +kernel
theorem dX7_parse_259 : decode cX7_parse 259 = .ok (.goto 17, 3) := by decide +kernel
theorem dX7_parse_262 : decode cX7_parse 262 = .ok (.iload 5, 2) := by decide +kernel
theorem dX7_parse_264 : decode cX7_parse 264 = .ok (.invokestatic 144, 3) := by decide +kernel
theorem dX7_parse_267 : decode cX7_parse 267 = .ok (.ifCond .eq 7, 3) := by decide +kernel
theorem dX7_parse_270 : decode cX7_parse 270 = .ok (.iconst 3, 1) := by decide +kernel
theorem dX7_parse_271 : decode cX7_parse 271 = .ok (.goto 5, 3) := by decide +kernel
theorem dX7_parse_274 : decode cX7_parse 274 = .ok (.iload 5, 2) := by decide +kernel
theorem dX7_parse_276 : decode cX7_parse 276 = .ok (.putfield 150, 3) := by decide +kernel
theorem dX7_parse_279 : decode cX7_parse 279 = .ok (.iload 6, 2) := by decide +kernel
theorem dX7_parse_281 : decode cX7_parse 281 = .ok (.aload_n 0, 1) := by decide +kernel
theorem dX7_parse_282 : decode cX7_parse 282 = .ok (.getfield 89, 3) := by decide +kernel
theorem dX7_parse_285 : decode cX7_parse 285 = .ok (.if_icmp .ge 51, 3) := by decide +kernel
theorem dX7_parse_288 : decode cX7_parse 288 = .ok (.aload_n 0, 1) := by decide +kernel
theorem dX7_parse_289 : decode cX7_parse 289 = .ok (.getfield 150, 3) := by decide +kernel
theorem dX7_parse_292 : decode cX7_parse 292 = .ok (.iconst 2, 1) := by decide +kernel
theorem dX7_parse_293 : decode cX7_parse 293 = .ok (.if_icmp .ne 16, 3) := by decide +kernel
theorem dX7_parse_296 : decode cX7_parse 296 = .ok (.aload_n 0, 1) := by decide +kernel
theorem dX7_parse_297 : decode cX7_parse 297 = .ok (.getfield 9, 3) := by decide +kernel
theorem dX7_parse_300 : decode cX7_parse 300 = .ok (.iload 6, 2) := by decide +kernel
theorem dX7_parse_302 : decode cX7_parse 302 = .ok (.iaload, 1) := by decide +kernel
theorem dX7_parse_303 : decode cX7_parse 303 = .ok (.invokestatic 140, 3) := by decide +kernel
theorem dX7_parse_306 : decode cX7_parse 306 = .ok (.ifCond .ne 24, 3) := by decide +kernel
theorem dX7_parse_309 : decode cX7_parse 309 = .ok (.aload_n 0, 1) := by decide +kernel
theorem dX7_parse_310 : decode cX7_parse 310 = .ok (.getfield 150, 3) := by decide +kernel
theorem dX7_parse_313 : decode cX7_parse 313 = .ok (.iconst 3, 1) := by decide +kernel
theorem dX7_parse_314 : decode cX7_parse 314 = .ok (.if_icmp .gt 22, 3) := by decide +kernel
theorem dX7_parse_317 : decode cX7_parse 317 = .ok (.aload_n 0, 1) := by decide +kernel
theorem dX7_parse_318 : decode cX7_parse 318 = .ok (.getfield 9, 3) := by decide +kernel
theorem dX7_parse_321 : decode cX7_parse 321 = .ok (.iload 6, 2) := by decide +kernel
theorem dX7_parse_323 : decode cX7_parse 323 = .ok (.iaload, 1) := by decide +kernel
theorem dX7_parse_324 : decode cX7_parse 324 = .ok (.invokestatic 144, 3) := by decide +kernel
theorem dX7_parse_327 : decode cX7_parse 327 = .ok (.ifCond .eq 9, 3) := by decide +kernel
theorem dX7_parse_330 : decode cX7_parse 330 = .ok (.iinc 6 1, 3) := by decide +kernel
theorem dX7_parse_333 : decode cX7_parse 333 = .ok (.goto (-54), 3) := by decide +kernel
theorem dX7_parse_336 : decode cX7_parse 336 = .ok (.aload_n 0, 1) := by decide +kernel
theorem dX7_parse_337 : decode cX7_parse 337 = .ok (.iload 4, 2) := by decide +kernel
theorem dX7_parse_339 : decode cX7_parse 339 = .ok (.putfield 153, 3) := by decide +kernel
theorem dX7_parse_342 : decode cX7_parse 342 = .ok (.aload_n 0, 1) := by decide +kernel
theorem dX7_parse_343 : decode cX7_parse 343 = .ok (.iload 6, 2) := by decide +kernel
theorem dX7_parse_345 : decode cX7_parse 345 = .ok (.putfield 156, 3) := by decide +kernel
theorem dX7_parse_348 : decode cX7_parse 348 = .ok (.aload_n 0, 1) := by decide +kernel
theorem dX7_parse_349 : decode cX7_parse 349 = .ok (.iload_n 3, 1) := by decide +kernel
theorem dX7_parse_350 : decode cX7_parse 350 = .ok (.putfield 159, 3) := by decide +kernel
theorem dX7_parse_353 : decode cX7_parse 353 = .ok (.iconst 0, 1) := by decide +kernel
theorem dX7_parse_354 : decode cX7_parse 354 = .ok (.istore_n 3, 1) := by decide +kernel
theorem dX7_parse_355 : decode cX7_parse 355 = .ok (.iload_n 1, 1) := by decide +kernel
theorem dX7_parse_356 : decode cX7_parse 356 = .ok (.ifCond .ne 13, 3) := by decide +kernel
theorem dX7_parse_359 : decode cX7_parse 359 = .ok (.aload_n 0, 1) := by decide +kernel
theorem dX7_parse_360 : decode cX7_parse 360 = .ok (.getfield 59, 3) := by decide +kernel
theorem dX7_parse_363 : decode cX7_parse 363 = .ok (.iconst 0, 1) := by decide +kernel
theorem dX7_parse_364 : decode cX7_parse 364 = .ok (.aload_n 0, 1) := by decide +kernel
theorem dX7_parse_365 : decode cX7_parse 365 = .ok (.getfield 122, 3) := by decide +kernel
theorem dX7_parse_368 : decode cX7_parse 368 = .ok (.iastore, 1) := by decide +kernel
theorem dX7_parse_369 : decode cX7_parse 369 = .ok (.iinc 1 1, 3) := by decide +kernel
theorem dX7_parse_372 : decode cX7_parse 372 = .ok (.aload_n 0, 1) := by decide +kernel
theorem dX7_parse_373 : decode cX7_parse 373 = .ok (.invokevirtual 162, 3) := by decide +kernel
theorem dX7_parse_376 : decode cX7_parse 376 = .ok (.goto 15, 3) := by decide +kernel
theorem dX7_parse_379 : decode cX7_parse 379 = .ok (.iload 5, 2) := by decide +kernel
theorem dX7_parse_381 : decode cX7_parse 381 = .ok (.bipush 32, 2) := by decide +kernel
theorem dX7_parse_383 : decode cX7_parse 383 = .ok (.if_icmp .eq 8, 3) := by decide +kernel
theorem dX7_parse_386 : decode cX7_parse 386 = .ok (.aload_n 0, 1) := by decide +kernel
theorem dX7_parse_387 : decode cX7_parse 387 = .ok (.iconst 1, 1) := by decide +kernel
theorem dX7_parse_388 : decode cX7_parse 388 = .ok (.invokevirtual 165, 3) := by decide +kernel
theorem dX7_parse_391 : decode cX7_parse 391 = .ok (.iload 6, 2) := by decide +kernel
theorem dX7_parse_393 : decode cX7_parse 393 = .ok (.istore 4, 2) := by decide +kernel
theorem dX7_parse_395 : decode cX7_parse 395 = .ok (.goto (-328), 3) := by decide +kernel
theorem dX7_parse_398 : decode cX7_parse 398 = .ok (.iload_n 1, 1) := by decide +kernel
theorem dX7_parse_399 : decode cX7_parse 399 = .ok (.ifCond .ne 10, 3) := by decide +kernel
theorem dX7_parse_402 : decode cX7_parse 402 = .ok (.aload_n 0, 1) := by decide +kernel
theorem dX7_parse_403 : decode cX7_parse 403 = .ok (.getfield 59, 3) := by decide +kernel
theorem dX7_parse_406 : decode cX7_parse 406 = .ok (.iconst 0, 1) := by decide +kernel
theorem dX7_parse_407 : decode cX7_parse 407 = .ok (.iconst 0, 1) := by decide +kernel
theorem dX7_parse_408 : decode cX7_parse 408 = .ok (.iastore, 1) := by decide +kernel
theorem dX7_parse_409 : decode cX7_parse 409 = .ok (.aload_n 0, 1) := by decide +kernel
theorem dX7_parse_410 : decode cX7_parse 410 = .ok (.aload_n 0, 1) := by decide +kernel
theorem dX7_parse_411 : decode cX7_parse 411 = .ok (.getfield 89, 3) := by decide +kernel
theorem dX7_parse_414 : decode cX7_parse 414 = .ok (.iload_n 2, 1) := by decide +kernel
theorem dX7_parse_415 : decode cX7_parse 415 = .ok (.isub, 1) := by decide +kernel
theorem dX7_parse_416 : decode cX7_parse 416 = .ok (.putfield 122, 3) := by decide +kernel
theorem dX7_parse_419 : decode cX7_parse 419 = .ok (.aload_n 0, 1) := by decide +kernel
theorem dX7_parse_420 : decode cX7_parse 420 = .ok (.getfield 136, 3) := by decide +kernel
theorem dX7_parse_423 : decode cX7_parse 423 = .ok (.ifCond .eq 27, 3) := by decide +kernel
theorem dX7_parse_426 : decode cX7_parse 426 = .ok (.aload_n 0, 1) := by decide +kernel
theorem dX7_parse_427 : decode cX7_parse 427 = .ok (.iconst 0, 1) := by decide +kernel
theorem dX7_parse_428 : decode cX7_parse 428 = .ok (.aload_n 0, 1) := by decide +kernel
theorem dX7_parse_429 : decode cX7_parse 429 = .ok (.getfield 62, 3) := by decide +kernel
theorem dX7_parse_432 : decode cX7_parse 432 = .ok (.aload_n 0, 1) := by decide +kernel
theorem dX7_parse_433 : decode cX7_parse 433 = .ok (.invokevirtual 128, 3) := by decide +kernel
theorem dX7_parse_436 : decode cX7_parse 436 = .ok (.iaload, 1) := by decide +kernel
theorem dX7_parse_437 : decode cX7_parse 437 = .ok (.aload_n 0, 1) := by decide +kernel
theorem dX7_parse_438 : decode cX7_parse 438 = .ok (.getfield 119, 3) := by decide +kernel
theorem dX7_parse_441 : decode cX7_parse 441 = .ok (.aload_n 0, 1) := by decide +kernel
theorem dX7_parse_442 : decode cX7_parse 442 = .ok (.getfield 122, 3) := by decide +kernel
theorem dX7_parse_445 : decode cX7_parse 445 = .ok (.iconst 0, 1) := by decide +kernel
theorem dX7_parse_446 : decode cX7_parse 446 = .ok (.invokevirtual 98, 3) := by decide +kernel
theorem dX7_parse_449 : decode cX7_parse 449 = .ok (.pop, 1) := by decide +kernel
theorem dX7_parse_450 : decode cX7_parse 450 = .ok (.aload_n 0, 1) := by decide +kernel
theorem dX7_parse_451 : decode cX7_parse 451 = .ok (.invokevirtual 128, 3) := by decide +kernel
theorem dX7_parse_454 : decode cX7_parse 454 = .ok (.istore 5, 2) := by decide +kernel
theorem dX7_parse_456 : decode cX7_parse 456 = .ok (.iload 5, 2) := by decide +kernel
theorem dX7_parse_458 : decode cX7_parse 458 = .ok (.ifCond .lt 31, 3) := by decide +kernel
theorem dX7_parse_461 : decode cX7_parse 461 = .ok (.iload 5, 2) := by decide +kernel
theorem dX7_parse_463 : decode cX7_parse 463 = .ok (.ifCond .le 20, 3) := by decide +kernel
theorem dX7_parse_466 : decode cX7_parse 466 = .ok (.aload_n 0, 1) := by decide +kernel
theorem dX7_parse_467 : decode cX7_parse 467 = .ok (.getfield 59, 3) := by decide +kernel
theorem dX7_parse_470 : decode cX7_parse 470 = .ok (.iload 5, 2) := by decide +kernel
theorem dX7_parse_472 : decode cX7_parse 472 = .ok (.iaload, 1) := by decide +kernel
theorem dX7_parse_473 : decode cX7_parse 473 = .ok (.iconst (-1), 1) := by decide +kernel
theorem dX7_parse_474 : decode cX7_parse 474 = .ok (.if_icmp .ne 9, 3) := by decide +kernel
theorem dX7_parse_477 : decode cX7_parse 477 = .ok (.aload_n 0, 1) := by decide +kernel
theorem dX7_parse_478 : decode cX7_parse 478 = .ok (.bipush 6, 2) := by decide +kernel
theorem dX7_parse_480 : decode cX7_parse 480 = .ok (.invokevirtual 165, 3) := by decide +kernel
theorem dX7_parse_483 : decode cX7_parse 483 = .ok (.iinc 5 (-1), 3) := by decide +kernel
theorem dX7_parse_486 : decode cX7_parse 486 = .ok (.goto (-30), 3) := by decide +kernel
theorem dX7_parse_489 : decode cX7_parse 489 = .ok (.aload_n 0, 1) := by decide +kernel
theorem dX7_parse_490 : decode cX7_parse 490 = .ok (.invokevirtual 68, 3) := by decide +kernel
theorem dX7_parse_493 : decode cX7_parse 493 = .ok (.aload_n 0, 1) := by decide +kernel
theorem dX7_parse_494 : decode cX7_parse 494 = .ok (.getfield 113, 3) := by decide +kernel
theorem dX7_parse_497 : decode cX7_parse 497 = .ok (.ireturn, 1) := by decide +kernel
theorem dX7_isPart_0 : decode cX7_isPart 0 = .ok (.aload_n 0, 1) := by decide +kernel
theorem dX7_isPart_1 : decode cX7_isPart 1 = .ok (.getfield 150, 3) := by decide +kernel
theorem dX7_isPart_4 : decode cX7_isPart 4 = .ok (.iconst 2, 1) := by decide +kernel
theorem dX7_isPart_5 : decode cX7_isPart 5 = .ok (.if_icmp .eq 20, 3) := by decide +kernel
theorem dX7_isPart_8 : decode cX7_isPart 8 = .ok (.aload_n 0, 1) := by decide +kernel
theorem dX7_isPart_9 : decode cX7_isPart 9 = .ok (.getfield 150, 3) := by decide +kernel
theorem dX7_isPart_12 : decode cX7_isPart 12 = .ok (.iconst 3, 1) := by decide +kernel
theorem dX7_isPart_13 : decode cX7_isPart 13 = .ok (.if_icmp .eq 12, 3) := by decide +kernel
theorem dX7_isPart_16 : decode cX7_isPart 16 = .ok (.aload_n 0, 1) := by decide +kernel
theorem dX7_isPart_17 : decode cX7_isPart 17 = .ok (.getfield 150, 3) := by decide +kernel
theorem dX7_isPart_20 : decode cX7_isPart 20 = .ok (.bipush 40, 2) := by decide +kernel
theorem dX7_isPart_22 : decode cX7_isPart 22 = .ok (.if_icmp .ne 7, 3) := by decide +kernel
theorem dX7_isPart_25 : decode cX7_isPart 25 = .ok (.iconst 1, 1) := by decide +kernel
theorem dX7_isPart_26 : decode cX7_isPart 26 = .ok (.goto 4, 3) := by decide +kernel
theorem dX7_isPart_29 : decode cX7_isPart 29 = .ok (.iconst 0, 1) := by decide +kernel
theorem dX7_isPart_30 : decode cX7_isPart 30 = .ok (.ireturn, 1) := by decide +kernel
theorem dX7_accept_0 : decode cX7_accept 0 = .ok (.aload_n 0, 1) := by decide +kernel
theorem dX7_accept_1 : decode cX7_accept 1 = .ok (.getfield 136, 3) := by decide +kernel
theorem dX7_accept_4 : decode cX7_accept 4 = .ok (.istore_n 1, 1) := by decide +kernel
theorem dX7_accept_5 : decode cX7_accept 5 = .ok (.aload_n 0, 1) := by decide +kernel
theorem dX7_accept_6 : decode cX7_accept 6 = .ok (.iconst 0, 1) := by decide +kernel
theorem dX7_accept_7 : decode cX7_accept 7 = .ok (.putfield 136, 3) := by decide +kernel
theorem dX7_accept_10 : decode cX7_accept 10 = .ok (.aload_n 0, 1) := by decide +kernel
theorem dX7_accept_11 : decode cX7_accept 11 = .ok (.invokevirtual 169, 3) := by decide +kernel
theorem dX7_accept_14 : decode cX7_accept 14 = .ok (.ifCond .eq 54, 3) := by decide +kernel
theorem dX7_accept_17 : decode cX7_accept 17 = .ok (.aload_n 0, 1) := by decide +kernel
theorem dX7_accept_18 : decode cX7_accept 18 = .ok (.getfield 150, 3) := by decide +kernel
theorem dX7_accept_21 : decode cX7_accept 21 = .ok (.bipush 41, 2) := by decide +kernel
theorem dX7_accept_23 : decode cX7_accept 23 = .ok (.if_icmp .ne 16, 3) := by decide +kernel
theorem dX7_accept_26 : decode cX7_accept 26 = .ok (.aload_n 0, 1) := by decide +kernel
theorem dX7_accept_27 : decode cX7_accept 27 = .ok (.dup, 1) := by decide +kernel
theorem dX7_accept_28 : decode cX7_accept 28 = .ok (.getfield 125, 3) := by decide +kernel
theorem dX7_accept_31 : decode cX7_accept 31 = .ok (.iconst 1, 1) := by decide +kernel
theorem dX7_accept_32 : decode cX7_accept 32 = .ok (.isub, 1) := by decide +kernel
theorem dX7_accept_33 : decode cX7_accept 33 = .ok (.putfield 125, 3) := by decide +kernel
theorem dX7_accept_36 : decode cX7_accept 36 = .ok (.goto 31, 3) := by decide +kernel
theorem dX7_accept_39 : decode cX7_accept 39 = .ok (.aload_n 0, 1) := by decide +kernel
theorem dX7_accept_40 : decode cX7_accept 40 = .ok (.invokevirtual 173, 3) := by decide +kernel
theorem dX7_accept_43 : decode cX7_accept 43 = .ok (.ifCond .eq 19, 3) := by decide +kernel
theorem dX7_accept_46 : decode cX7_accept 46 = .ok (.aload_n 0, 1) := by decide +kernel
theorem dX7_accept_47 : decode cX7_accept 47 = .ok (.aload_n 0, 1) := by decide +kernel
theorem dX7_accept_48 : decode cX7_accept 48 = .ok (.getfield 56, 3) := by decide +kernel
theorem dX7_accept_51 : decode cX7_accept 51 = .ok (.aload_n 0, 1) := by decide +kernel
theorem dX7_accept_52 : decode cX7_accept 52 = .ok (.invokevirtual 128, 3) := by decide +kernel
theorem dX7_accept_55 : decode cX7_accept 55 = .ok (.iaload, 1) := by decide +kernel
theorem dX7_accept_56 : decode cX7_accept 56 = .ok (.invokevirtual 176, 3) := by decide +kernel
theorem dX7_accept_59 : decode cX7_accept 59 = .ok (.goto 8, 3) := by decide +kernel
theorem dX7_accept_62 : decode cX7_accept 62 = .ok (.aload_n 0, 1) := by decide +kernel
theorem dX7_accept_63 : decode cX7_accept 63 = .ok (.iconst 1, 1) := by decide +kernel
theorem dX7_accept_64 : decode cX7_accept 64 = .ok (.invokevirtual 165, 3) := by decide +kernel
theorem dX7_accept_67 : decode cX7_accept 67 = .ok (.return_, 1) := by decide +kernel
theorem dX7_accept_68 : decode cX7_accept 68 = .ok (.iload_n 1, 1) := by decide +kernel
theorem dX7_accept_69 : decode cX7_accept 69 = .ok (.ifCond .eq 41, 3) := by decide +kernel
theorem dX7_accept_72 : decode cX7_accept 72 = .ok (.aload_n 0, 1) := by decide +kernel
theorem dX7_accept_73 : decode cX7_accept 73 = .ok (.getfield 150, 3) := by decide +kernel
theorem dX7_accept_76 : decode cX7_accept 76 = .ok (.bipush 123, 2) := by decide +kernel
theorem dX7_accept_78 : decode cX7_accept 78 = .ok (.if_icmp .ne 32, 3) := by decide +kernel
theorem dX7_accept_81 : decode cX7_accept 81 = .ok (.aload_n 0, 1) := by decide +kernel
theorem dX7_accept_82 : decode cX7_accept 82 = .ok (.aload_n 0, 1) := by decide +kernel
theorem dX7_accept_83 : decode cX7_accept 83 = .ok (.iconst 0, 1) := by decide +kernel
theorem dX7_accept_84 : decode cX7_accept 84 = .ok (.aload_n 0, 1) := by decide +kernel
theorem dX7_accept_85 : decode cX7_accept 85 = .ok (.getfield 62, 3) := by decide +kernel
theorem dX7_accept_88 : decode cX7_accept 88 = .ok (.aload_n 0, 1) := by decide +kernel
theorem dX7_accept_89 : decode cX7_accept 89 = .ok (.invokevirtual 128, 3) := by decide +kernel
theorem dX7_accept_92 : decode cX7_accept 92 = .ok (.iaload, 1) := by decide +kernel
theorem dX7_accept_93 : decode cX7_accept 93 = .ok (.aload_n 0, 1) := by decide +kernel
theorem dX7_accept_94 : decode cX7_accept 94 = .ok (.getfield 119, 3) := by decide +kernel
theorem dX7_accept_97 : decode cX7_accept 97 = .ok (.aload_n 0, 1) := by decide +kernel
theorem dX7_accept_98 : decode cX7_accept 98 = .ok (.getfield 122, 3) := by decide +kernel
theorem dX7_accept_101 : decode cX7_accept 101 = .ok (.iconst 1, 1) := by decide +kernel
theorem dX7_accept_102 : decode cX7_accept 102 = .ok (.invokevirtual 98, 3) := by decide +kernel
theorem dX7_accept_105 : decode cX7_accept 105 = .ok (.iconst (-1), 1) := by decide +kernel
theorem dX7_accept_106 : decode cX7_accept 106 = .ok (.invokevirtual 132, 3) := by decide +kernel
theorem dX7_accept_109 : decode cX7_accept 109 = .ok (.return_, 1) := by decide +kernel
theorem dX7_accept_110 : decode cX7_accept 110 = .ok (.iload_n 1, 1) := by decide +kernel
theorem dX7_accept_111 : decode cX7_accept 111 = .ok (.ifCond .eq 30, 3) := by decide +kernel
theorem dX7_accept_114 : decode cX7_accept 114 = .ok (.aload_n 0, 1) := by decide +kernel
theorem dX7_accept_115 : decode cX7_accept 115 = .ok (.invokevirtual 173, 3) := by decide +kernel
theorem dX7_accept_118 : decode cX7_accept 118 = .ok (.ifCond .eq 23, 3) := by decide +kernel
theorem dX7_accept_121 : decode cX7_accept 121 = .ok (.aload_n 0, 1) := by decide +kernel
theorem dX7_accept_122 : decode cX7_accept 122 = .ok (.getfield 59, 3) := by decide +kernel
theorem dX7_accept_125 : decode cX7_accept 125 = .ok (.aload_n 0, 1) := by decide +kernel
theorem dX7_accept_126 : decode cX7_accept 126 = .ok (.invokevirtual 128, 3) := by decide +kernel
theorem dX7_accept_129 : decode cX7_accept 129 = .ok (.iaload, 1) := by decide +kernel
theorem dX7_accept_130 : decode cX7_accept 130 = .ok (.aload_n 0, 1) := by decide +kernel
theorem dX7_accept_131 : decode cX7_accept 131 = .ok (.getfield 122, 3) := by decide +kernel
theorem dX7_accept_134 : decode cX7_accept 134 = .ok (.if_icmp .ge 7, 3) := by decide +kernel
theorem dX7_accept_137 : decode cX7_accept 137 = .ok (.iconst 1, 1) := by decide +kernel
theorem dX7_accept_138 : decode cX7_accept 138 = .ok (.goto 4, 3) := by decide +kernel
theorem dX7_accept_141 : decode cX7_accept 141 = .ok (.iconst 0, 1) := by decide +kernel
theorem dX7_accept_142 : decode cX7_accept 142 = .ok (.istore_n 2, 1) := by decide +kernel
theorem dX7_accept_143 : decode cX7_accept 143 = .ok (.iload_n 2, 1) := by decide +kernel
theorem dX7_accept_144 : decode cX7_accept 144 = .ok (.ifCond .eq 37, 3) := by decide +kernel
theorem dX7_accept_147 : decode cX7_accept 147 = .ok (.aload_n 0, 1) := by decide +kernel
theorem dX7_accept_148 : decode cX7_accept 148 = .ok (.aload_n 0, 1) := by decide +kernel
theorem dX7_accept_149 : decode cX7_accept 149 = .ok (.iconst 0, 1) := by decide +kernel
theorem dX7_accept_150 : decode cX7_accept 150 = .ok (.aload_n 0, 1) := by decide +kernel
theorem dX7_accept_151 : decode cX7_accept 151 = .ok (.getfield 62, 3) := by decide +kernel
theorem dX7_accept_154 : decode cX7_accept 154 = .ok (.aload_n 0, 1) := by decide +kernel
theorem dX7_accept_155 : decode cX7_accept 155 = .ok (.invokevirtual 128, 3) := by decide +kernel
theorem dX7_accept_158 : decode cX7_accept 158 = .ok (.iaload, 1) := by decide +kernel
theorem dX7_accept_159 : decode cX7_accept 159 = .ok (.aload_n 0, 1) := by decide +kernel
theorem dX7_accept_160 : decode cX7_accept 160 = .ok (.getfield 119, 3) := by decide +kernel
theorem dX7_accept_163 : decode cX7_accept 163 = .ok (.aload_n 0, 1) := by decide +kernel
theorem dX7_accept_164 : decode cX7_accept 164 = .ok (.getfield 122, 3) := by decide +kernel
theorem dX7_accept_167 : decode cX7_accept 167 = .ok (.iconst 0, 1) := by decide +kernel
theorem dX7_accept_168 : decode cX7_accept 168 = .ok (.invokevirtual 98, 3) := by decide +kernel
theorem dX7_accept_171 : decode cX7_accept 171 = .ok (.aload_n 0, 1) := by decide +kernel
theorem dX7_accept_172 : decode cX7_accept 172 = .ok (.getfield 122, 3) := by decide +kernel
theorem dX7_accept_175 : decode cX7_accept 175 = .ok (.invokevirtual 132, 3) := by decide +kernel
theorem dX7_accept_178 : decode cX7_accept 178 = .ok (.goto 31, 3) := by decide +kernel
theorem dX7_accept_181 : decode cX7_accept 181 = .ok (.iload_n 1, 1) := by decide +kernel
theorem dX7_accept_182 : decode cX7_accept 182 = .ok (.ifCond .eq 27, 3) := by decide +kernel
theorem dX7_accept_185 : decode cX7_accept 185 = .ok (.aload_n 0, 1) := by decide +kernel
theorem dX7_accept_186 : decode cX7_accept 186 = .ok (.iconst 0, 1) := by decide +kernel
theorem dX7_accept_187 : decode cX7_accept 187 = .ok (.aload_n 0, 1) := by decide +kernel
theorem dX7_accept_188 : decode cX7_accept 188 = .ok (.getfield 62, 3) := by decide +kernel
theorem dX7_accept_191 : decode cX7_accept 191 = .ok (.aload_n 0, 1) := by decide +kernel
theorem dX7_accept_192 : decode cX7_accept 192 = .ok (.invokevirtual 128, 3) := by decide +kernel
theorem dX7_accept_195 : decode cX7_accept 195 = .ok (.iaload, 1) := by decide +kernel
theorem dX7_accept_196 : decode cX7_accept 196 = .ok (.aload_n 0, 1) := by decide +kernel
theorem dX7_accept_197 : decode cX7_accept 197 = .ok (.getfield 119, 3) := by decide +kernel
theorem dX7_accept_200 : decode cX7_accept 200 = .ok (.aload_n 0, 1) := by decide +kernel
theorem dX7_accept_201 : decode cX7_accept 201 = .ok (.getfield 122, 3) := by decide +kernel
theorem dX7_accept_204 : decode cX7_accept 204 = .ok (.iconst 0, 1) := by decide +kernel
theorem dX7_accept_205 : decode cX7_accept 205 = .ok (.invokevirtual 98, 3) := by decide +kernel
theorem dX7_accept_208 : decode cX7_accept 208 = .ok (.pop, 1) := by decide +kernel
theorem dX7_accept_209 : decode cX7_accept 209 = .ok (.iload_n 2, 1) := by decide +kernel
theorem dX7_accept_210 : decode cX7_accept 210 = .ok (.ifCond .ne 27, 3) := by decide +kernel
theorem dX7_accept_213 : decode cX7_accept 213 = .ok (.aload_n 0, 1) := by decide +kernel
theorem dX7_accept_214 : decode cX7_accept 214 = .ok (.getfield 159, 3) := by decide +kernel
theorem dX7_accept_217 : decode cX7_accept 217 = .ok (.ifCond .eq 20, 3) := by decide +kernel
theorem dX7_accept_220 : decode cX7_accept 220 = .ok (.aload_n 0, 1) := by decide +kernel
theorem dX7_accept_221 : decode cX7_accept 221 = .ok (.getfield 59, 3) := by decide +kernel
theorem dX7_accept_224 : decode cX7_accept 224 = .ok (.aload_n 0, 1) := by decide +kernel
theorem dX7_accept_225 : decode cX7_accept 225 = .ok (.invokevirtual 128, 3) := by decide +kernel
theorem dX7_accept_228 : decode cX7_accept 228 = .ok (.iaload, 1) := by decide +kernel
theorem dX7_accept_229 : decode cX7_accept 229 = .ok (.iconst (-1), 1) := by decide +kernel
theorem dX7_accept_230 : decode cX7_accept 230 = .ok (.if_icmp .eq 7, 3) := by decide +kernel
theorem dX7_accept_233 : decode cX7_accept 233 = .ok (.aload_n 0, 1) := by decide +kernel
theorem dX7_accept_234 : decode cX7_accept 234 = .ok (.invokevirtual 179, 3) := by decide +kernel
theorem dX7_accept_237 : decode cX7_accept 237 = .ok (.aload_n 0, 1) := by decide +kernel
theorem dX7_accept_238 : decode cX7_accept 238 = .ok (.invokevirtual 182, 3) := by decide +kernel
theorem dX7_accept_241 : decode cX7_accept 241 = .ok (.return_, 1) := by decide +kernel
theorem dX7_align_0 : decode cX7_align 0 = .ok (.iconst 0, 1) := by decide +kernel
theorem dX7_align_1 : decode cX7_align 1 = .ok (.istore_n 1, 1) := by decide +kernel
theorem dX7_align_2 : decode cX7_align 2 = .ok (.aload_n 0, 1) := by decide +kernel
theorem dX7_align_3 : decode cX7_align 3 = .ok (.invokevirtual 128, 3) := by decide +kernel
theorem dX7_align_6 : decode cX7_align 6 = .ok (.ifCond .le 34, 3) := by decide +kernel
theorem dX7_align_9 : decode cX7_align 9 = .ok (.aload_n 0, 1) := by decide +kernel
theorem dX7_align_10 : decode cX7_align 10 = .ok (.getfield 59, 3) := by decide +kernel
theorem dX7_align_13 : decode cX7_align 13 = .ok (.aload_n 0, 1) := by decide +kernel
theorem dX7_align_14 : decode cX7_align 14 = .ok (.invokevirtual 128, 3) := by decide +kernel
theorem dX7_align_17 : decode cX7_align 17 = .ok (.iaload, 1) := by decide +kernel
theorem dX7_align_18 : decode cX7_align 18 = .ok (.aload_n 0, 1) := by decide +kernel
theorem dX7_align_19 : decode cX7_align 19 = .ok (.getfield 122, 3) := by decide +kernel
theorem dX7_align_22 : decode cX7_align 22 = .ok (.if_icmp .le 18, 3) := by decide +kernel
theorem dX7_align_25 : decode cX7_align 25 = .ok (.aload_n 0, 1) := by decide +kernel
theorem dX7_align_26 : decode cX7_align 26 = .ok (.dup, 1) := by decide +kernel
theorem dX7_align_27 : decode cX7_align 27 = .ok (.getfield 125, 3) := by decide +kernel
theorem dX7_align_30 : decode cX7_align 30 = .ok (.iconst 1, 1) := by decide +kernel
theorem dX7_align_31 : decode cX7_align 31 = .ok (.isub, 1) := by decide +kernel
theorem dX7_align_32 : decode cX7_align 32 = .ok (.putfield 125, 3) := by decide +kernel
theorem dX7_align_35 : decode cX7_align 35 = .ok (.iconst 1, 1) := by decide +kernel
theorem dX7_align_36 : decode cX7_align 36 = .ok (.istore_n 1, 1) := by decide +kernel
theorem dX7_align_37 : decode cX7_align 37 = .ok (.goto (-35), 3) := by decide +kernel
theorem dX7_align_40 : decode cX7_align 40 = .ok (.aload_n 0, 1) := by decide +kernel
theorem dX7_align_41 : decode cX7_align 41 = .ok (.getfield 59, 3) := by decide +kernel
theorem dX7_align_44 : decode cX7_align 44 = .ok (.aload_n 0, 1) := by decide +kernel
theorem dX7_align_45 : decode cX7_align 45 = .ok (.invokevirtual 128, 3) := by decide +kernel
theorem dX7_align_48 : decode cX7_align 48 = .ok (.iaload, 1) := by decide +kernel
theorem dX7_align_49 : decode cX7_align 49 = .ok (.istore_n 2, 1) := by decide +kernel
theorem dX7_align_50 : decode cX7_align 50 = .ok (.iload_n 2, 1) := by decide +kernel
theorem dX7_align_51 : decode cX7_align 51 = .ok (.iconst (-1), 1) := by decide +kernel
theorem dX7_align_52 : decode cX7_align 52 = .ok (.if_icmp .eq 15, 3) := by decide +kernel
theorem dX7_align_55 : decode cX7_align 55 = .ok (.iload_n 2, 1) := by decide +kernel
theorem dX7_align_56 : decode cX7_align 56 = .ok (.aload_n 0, 1) := by decide +kernel
theorem dX7_align_57 : decode cX7_align 57 = .ok (.getfield 122, 3) := by decide +kernel
theorem dX7_align_60 : decode cX7_align 60 = .ok (.if_icmp .ge 8, 3) := by decide +kernel
theorem dX7_align_63 : decode cX7_align 63 = .ok (.iload_n 1, 1) := by decide +kernel
theorem dX7_align_64 : decode cX7_align 64 = .ok (.ifCond .ne 4, 3) := by decide +kernel
theorem dX7_align_67 : decode cX7_align 67 = .ok (.return_, 1) := by decide +kernel
theorem dX7_align_68 : decode cX7_align 68 = .ok (.iload_n 2, 1) := by decide +kernel
theorem dX7_align_69 : decode cX7_align 69 = .ok (.aload_n 0, 1) := by decide +kernel
theorem dX7_align_70 : decode cX7_align 70 = .ok (.getfield 122, 3) := by decide +kernel
theorem dX7_align_73 : decode cX7_align 73 = .ok (.if_icmp .eq 8, 3) := by decide +kernel
theorem dX7_align_76 : decode cX7_align 76 = .ok (.aload_n 0, 1) := by decide +kernel
theorem dX7_align_77 : decode cX7_align 77 = .ok (.iconst 2, 1) := by decide +kernel
theorem dX7_align_78 : decode cX7_align 78 = .ok (.invokevirtual 165, 3) := by decide +kernel
theorem dX7_align_81 : decode cX7_align 81 = .ok (.aload_n 0, 1) := by decide +kernel
theorem dX7_align_82 : decode cX7_align 82 = .ok (.getfield 62, 3) := by decide +kernel
theorem dX7_align_85 : decode cX7_align 85 = .ok (.aload_n 0, 1) := by decide +kernel
theorem dX7_align_86 : decode cX7_align 86 = .ok (.invokevirtual 128, 3) := by decide +kernel
theorem dX7_align_89 : decode cX7_align 89 = .ok (.iconst (-1), 1) := by decide +kernel
theorem dX7_align_90 : decode cX7_align 90 = .ok (.iastore, 1) := by decide +kernel
theorem dX7_align_91 : decode cX7_align 91 = .ok (.return_, 1) := by decide +kernel
theorem dX7_act_0 : decode cX7_act 0 = .ok (.aload_n 0, 1) := by decide +kernel
theorem dX7_act_1 : decode cX7_act 1 = .ok (.invokevirtual 173, 3) := by decide +kernel
theorem dX7_act_4 : decode cX7_act 4 = .ok (.ifCond .eq 10, 3) := by decide +kernel
theorem dX7_act_7 : decode cX7_act 7 = .ok (.aload_n 0, 1) := by decide +kernel
theorem dX7_act_8 : decode cX7_act 8 = .ok (.invokevirtual 185, 3) := by decide +kernel
theorem dX7_act_11 : decode cX7_act 11 = .ok (.goto 118, 3) := by decide +kernel
theorem dX7_act_14 : decode cX7_act 14 = .ok (.aload_n 0, 1) := by decide +kernel
theorem dX7_act_15 : decode cX7_act 15 = .ok (.getfield 150, 3) := by decide +kernel
theorem dX7_act_18 : decode cX7_act 18 = .ok (.bipush 59, 2) := by decide +kernel
theorem dX7_act_20 : decode cX7_act 20 = .ok (.if_icmp .ne 16, 3) := by decide +kernel
theorem dX7_act_23 : decode cX7_act 23 = .ok (.aload_n 0, 1) := by decide +kernel
theorem dX7_act_24 : decode cX7_act 24 = .ok (.getfield 62, 3) := by decide +kernel
theorem dX7_act_27 : decode cX7_act 27 = .ok (.aload_n 0, 1) := by decide +kernel
theorem dX7_act_28 : decode cX7_act 28 = .ok (.invokevirtual 128, 3) := by decide +kernel
theorem dX7_act_31 : decode cX7_act 31 = .ok (.iconst (-1), 1) := by decide +kernel
theorem dX7_act_32 : decode cX7_act 32 = .ok (.iastore, 1) := by decide +kernel
theorem dX7_act_33 : decode cX7_act 33 = .ok (.goto 96, 3) := by decide +kernel
theorem dX7_act_36 : decode cX7_act 36 = .ok (.aload_n 0, 1) := by decide +kernel
theorem dX7_act_37 : decode cX7_act 37 = .ok (.getfield 150, 3) := by decide +kernel
theorem dX7_act_40 : decode cX7_act 40 = .ok (.bipush 58, 2) := by decide +kernel
theorem dX7_act_42 : decode cX7_act 42 = .ok (.if_icmp .ne 49, 3) := by decide +kernel
theorem dX7_act_45 : decode cX7_act 45 = .ok (.aload_n 0, 1) := by decide +kernel
theorem dX7_act_46 : decode cX7_act 46 = .ok (.getfield 62, 3) := by decide +kernel
theorem dX7_act_49 : decode cX7_act 49 = .ok (.aload_n 0, 1) := by decide +kernel
theorem dX7_act_50 : decode cX7_act 50 = .ok (.invokevirtual 128, 3) := by decide +kernel
theorem dX7_act_53 : decode cX7_act 53 = .ok (.iaload, 1) := by decide +kernel
theorem dX7_act_54 : decode cX7_act 54 = .ok (.iconst (-1), 1) := by decide +kernel
theorem dX7_act_55 : decode cX7_act 55 = .ok (.if_icmp .ne 11, 3) := by decide +kernel
theorem dX7_act_58 : decode cX7_act 58 = .ok (.aload_n 0, 1) := by decide +kernel
theorem dX7_act_59 : decode cX7_act 59 = .ok (.iconst 3, 1) := by decide +kernel
theorem dX7_act_60 : decode cX7_act 60 = .ok (.invokevirtual 165, 3) := by decide +kernel
theorem dX7_act_63 : decode cX7_act 63 = .ok (.goto 66, 3) := by decide +kernel
theorem dX7_act_66 : decode cX7_act 66 = .ok (.aload_n 0, 1) := by decide +kernel
theorem dX7_act_67 : decode cX7_act 67 = .ok (.getfield 125, 3) := by decide +kernel
theorem dX7_act_70 : decode cX7_act 70 = .ok (.bipush 30, 2) := by decide +kernel
theorem dX7_act_72 : decode cX7_act 72 = .ok (.if_icmp .le 11, 3) := by decide +kernel
theorem dX7_act_75 : decode cX7_act 75 = .ok (.aload_n 0, 1) := by decide +kernel
theorem dX7_act_76 : decode cX7_act 76 = .ok (.iconst 5, 1) := by decide +kernel
theorem dX7_act_77 : decode cX7_act 77 = .ok (.invokevirtual 165, 3) := by decide +kernel
theorem dX7_act_80 : decode cX7_act 80 = .ok (.goto 49, 3) := by decide +kernel
theorem dX7_act_83 : decode cX7_act 83 = .ok (.aload_n 0, 1) := by decide +kernel
theorem dX7_act_84 : decode cX7_act 84 = .ok (.iconst 1, 1) := by decide +kernel
theorem dX7_act_85 : decode cX7_act 85 = .ok (.putfield 136, 3) := by decide +kernel
theorem dX7_act_88 : decode cX7_act 88 = .ok (.goto 41, 3) := by decide +kernel
theorem dX7_act_91 : decode cX7_act 91 = .ok (.aload_n 0, 1) := by decide +kernel
theorem dX7_act_92 : decode cX7_act 92 = .ok (.getfield 150, 3) := by decide +kernel
theorem dX7_act_95 : decode cX7_act 95 = .ok (.bipush 123, 2) := by decide +kernel
theorem dX7_act_97 : decode cX7_act 97 = .ok (.if_icmp .ne 11, 3) := by decide +kernel
theorem dX7_act_100 : decode cX7_act 100 = .ok (.aload_n 0, 1) := by decide +kernel
theorem dX7_act_101 : decode cX7_act 101 = .ok (.iconst 3, 1) := by decide +kernel
theorem dX7_act_102 : decode cX7_act 102 = .ok (.invokevirtual 165, 3) := by decide +kernel
theorem dX7_act_105 : decode cX7_act 105 = .ok (.goto 24, 3) := by decide +kernel
theorem dX7_act_108 : decode cX7_act 108 = .ok (.aload_n 0, 1) := by decide +kernel
theorem dX7_act_109 : decode cX7_act 109 = .ok (.getfield 150, 3) := by decide +kernel
theorem dX7_act_112 : decode cX7_act 112 = .ok (.bipush 41, 2) := by decide +kernel
theorem dX7_act_114 : decode cX7_act 114 = .ok (.if_icmp .ne 11, 3) := by decide +kernel
theorem dX7_act_117 : decode cX7_act 117 = .ok (.aload_n 0, 1) := by decide +kernel
theorem dX7_act_118 : decode cX7_act 118 = .ok (.iconst 4, 1) := by decide +kernel
theorem dX7_act_119 : decode cX7_act 119 = .ok (.invokevirtual 165, 3) := by decide +kernel
theorem dX7_act_122 : decode cX7_act 122 = .ok (.goto 7, 3) := by decide +kernel
theorem dX7_act_125 : decode cX7_act 125 = .ok (.aload_n 0, 1) := by decide +kernel
theorem dX7_act_126 : decode cX7_act 126 = .ok (.invokevirtual 188, 3) := by decide +kernel
theorem dX7_act_129 : decode cX7_act 129 = .ok (.return_, 1) := by decide +kernel
theorem dX7_close_0 : decode cX7_close 0 = .ok (.aload_n 0, 1) := by decide +kernel
theorem dX7_close_1 : decode cX7_close 1 = .ok (.invokevirtual 128, 3) := by decide +kernel
theorem dX7_close_4 : decode cX7_close 4 = .ok (.istore_n 1, 1) := by decide +kernel
theorem dX7_close_5 : decode cX7_close 5 = .ok (.iload_n 1, 1) := by decide +kernel
theorem dX7_close_6 : decode cX7_close 6 = .ok (.ifCond .le 19, 3) := by decide +kernel
theorem dX7_close_9 : decode cX7_close 9 = .ok (.aload_n 0, 1) := by decide +kernel
theorem dX7_close_10 : decode cX7_close 10 = .ok (.getfield 59, 3) := by decide +kernel
theorem dX7_close_13 : decode cX7_close 13 = .ok (.iload_n 1, 1) := by decide +kernel
theorem dX7_close_14 : decode cX7_close 14 = .ok (.iaload, 1) := by decide +kernel
theorem dX7_close_15 : decode cX7_close 15 = .ok (.iconst (-1), 1) := by decide +kernel
theorem dX7_close_16 : decode cX7_close 16 = .ok (.if_icmp .eq 9, 3) := by decide +kernel
theorem dX7_close_19 : decode cX7_close 19 = .ok (.iinc 1 (-1), 3) := by decide +kernel
theorem dX7_close_22 : decode cX7_close 22 = .ok (.goto (-17), 3) := by decide +kernel
theorem dX7_close_25 : decode cX7_close 25 = .ok (.iload_n 1, 1) := by decide +kernel
theorem dX7_close_26 : decode cX7_close 26 = .ok (.ifCond .ne 11, 3) := by decide +kernel
theorem dX7_close_29 : decode cX7_close 29 = .ok (.aload_n 0, 1) := by decide +kernel
theorem dX7_close_30 : decode cX7_close 30 = .ok (.iconst 4, 1) := by decide +kernel
theorem dX7_close_31 : decode cX7_close 31 = .ok (.invokevirtual 165, 3) := by decide +kernel
theorem dX7_close_34 : decode cX7_close 34 = .ok (.goto 8, 3) := by decide +kernel
theorem dX7_close_37 : decode cX7_close 37 = .ok (.aload_n 0, 1) := by decide +kernel
theorem dX7_close_38 : decode cX7_close 38 = .ok (.iload_n 1, 1) := by decide +kernel
theorem dX7_close_39 : decode cX7_close 39 = .ok (.putfield 125, 3) := by decide +kernel
theorem dX7_close_42 : decode cX7_close 42 = .ok (.return_, 1) := by decide +kernel
theorem dX7_addToItem_0 : decode cX7_addToItem 0 = .ok (.aload_n 0, 1) := by decide +kernel
theorem dX7_addToItem_1 : decode cX7_addToItem 1 = .ok (.getfield 150, 3) := by decide +kernel
theorem dX7_addToItem_4 : decode cX7_addToItem 4 = .ok (.bipush 40, 2) := by decide +kernel
theorem dX7_addToItem_6 : decode cX7_addToItem 6 = .ok (.if_icmp .ne 18, 3) := by decide +kernel
theorem dX7_addToItem_9 : decode cX7_addToItem 9 = .ok (.aload_n 0, 1) := by decide +kernel
theorem dX7_addToItem_10 : decode cX7_addToItem 10 = .ok (.getfield 125, 3) := by decide +kernel
theorem dX7_addToItem_13 : decode cX7_addToItem 13 = .ok (.bipush 30, 2) := by decide +kernel
theorem dX7_addToItem_15 : decode cX7_addToItem 15 = .ok (.if_icmp .le 9, 3) := by decide +kernel
theorem dX7_addToItem_18 : decode cX7_addToItem 18 = .ok (.aload_n 0, 1) := by decide +kernel
theorem dX7_addToItem_19 : decode cX7_addToItem 19 = .ok (.iconst 5, 1) := by decide +kernel
theorem dX7_addToItem_20 : decode cX7_addToItem 20 = .ok (.invokevirtual 165, 3) := by decide +kernel
theorem dX7_addToItem_23 : decode cX7_addToItem 23 = .ok (.return_, 1) := by decide +kernel
theorem dX7_addToItem_24 : decode cX7_addToItem 24 = .ok (.aload_n 0, 1) := by decide +kernel
theorem dX7_addToItem_25 : decode cX7_addToItem 25 = .ok (.getfield 62, 3) := by decide +kernel
theorem dX7_addToItem_28 : decode cX7_addToItem 28 = .ok (.aload_n 0, 1) := by decide +kernel
theorem dX7_addToItem_29 : decode cX7_addToItem 29 = .ok (.invokevirtual 128, 3) := by decide +kernel
theorem dX7_addToItem_32 : decode cX7_addToItem 32 = .ok (.iaload, 1) := by decide +kernel
theorem dX7_addToItem_33 : decode cX7_addToItem 33 = .ok (.iconst (-1), 1) := by decide +kernel
theorem dX7_addToItem_34 : decode cX7_addToItem 34 = .ok (.if_icmp .ne 35, 3) := by decide +kernel
theorem dX7_addToItem_37 : decode cX7_addToItem 37 = .ok (.aload_n 0, 1) := by decide +kernel
theorem dX7_addToItem_38 : decode cX7_addToItem 38 = .ok (.getfield 62, 3) := by decide +kernel
theorem dX7_addToItem_41 : decode cX7_addToItem 41 = .ok (.aload_n 0, 1) := by decide +kernel
theorem dX7_addToItem_42 : decode cX7_addToItem 42 = .ok (.invokevirtual 128, 3) := by decide +kernel
theorem dX7_addToItem_45 : decode cX7_addToItem 45 = .ok (.aload_n 0, 1) := by decide +kernel
theorem dX7_addToItem_46 : decode cX7_addToItem 46 = .ok (.iconst 1, 1) := by decide +kernel
theorem dX7_addToItem_47 : decode cX7_addToItem 47 = .ok (.aload_n 0, 1) := by decide +kernel
theorem dX7_addToItem_48 : decode cX7_addToItem 48 = .ok (.getfield 56, 3) := by decide +kernel
theorem dX7_addToItem_51 : decode cX7_addToItem 51 = .ok (.aload_n 0, 1) := by decide +kernel
theorem dX7_addToItem_52 : decode cX7_addToItem 52 = .ok (.invokevirtual 128, 3) := by decide +kernel
theorem dX7_addToItem_55 : decode cX7_addToItem 55 = .ok (.iaload, 1) := by decide +kernel
theorem dX7_addToItem_56 : decode cX7_addToItem 56 = .ok (.aload_n 0, 1) := by decide +kernel
theorem dX7_addToItem_57 : decode cX7_addToItem 57 = .ok (.getfield 119, 3) := by decide +kernel
theorem dX7_addToItem_60 : decode cX7_addToItem 60 = .ok (.aload_n 0, 1) := by decide +kernel
theorem dX7_addToItem_61 : decode cX7_addToItem 61 = .ok (.getfield 122, 3) := by decide +kernel
theorem dX7_addToItem_64 : decode cX7_addToItem 64 = .ok (.iconst 0, 1) := by decide +kernel
theorem dX7_addToItem_65 : decode cX7_addToItem 65 = .ok (.invokevirtual 98, 3) := by decide +kernel
theorem dX7_addToItem_68 : decode cX7_addToItem 68 = .ok (.iastore, 1) := by decide +kernel
theorem dX7_addToItem_69 : decode cX7_addToItem 69 = .ok (.aload_n 0, 1) := by decide +kernel
theorem dX7_addToItem_70 : decode cX7_addToItem 70 = .ok (.aload_n 0, 1) := by decide +kernel
theorem dX7_addToItem_71 : decode cX7_addToItem 71 = .ok (.getfield 62, 3) := by decide +kernel
theorem dX7_addToItem_74 : decode cX7_addToItem 74 = .ok (.aload_n 0, 1) := by decide +kernel
theorem dX7_addToItem_75 : decode cX7_addToItem 75 = .ok (.invokevirtual 128, 3) := by decide +kernel
theorem dX7_addToItem_78 : decode cX7_addToItem 78 = .ok (.iaload, 1) := by decide +kernel
theorem dX7_addToItem_79 : decode cX7_addToItem 79 = .ok (.invokevirtual 176, 3) := by decide +kernel
theorem dX7_addToItem_82 : decode cX7_addToItem 82 = .ok (.return_, 1) := by decide +kernel
theorem dX7_addPart_0 : decode cX7_addPart 0 = .ok (.aload_n 0, 1) := by decide +kernel
theorem dX7_addPart_1 : decode cX7_addPart 1 = .ok (.getfield 150, 3) := by decide +kernel
theorem dX7_addPart_4 : decode cX7_addPart 4 = .ok (.bipush 40, 2) := by decide +kernel
theorem dX7_addPart_6 : decode cX7_addPart 6 = .ok (.if_icmp .ne 41, 3) := by decide +kernel
theorem dX7_addPart_9 : decode cX7_addPart 9 = .ok (.aload_n 0, 1) := by decide +kernel
theorem dX7_addPart_10 : decode cX7_addPart 10 = .ok (.getfield 125, 3) := by decide +kernel
theorem dX7_addPart_13 : decode cX7_addPart 13 = .ok (.bipush 30, 2) := by decide +kernel
theorem dX7_addPart_15 : decode cX7_addPart 15 = .ok (.if_icmp .le 11, 3) := by decide +kernel
theorem dX7_addPart_18 : decode cX7_addPart 18 = .ok (.aload_n 0, 1) := by decide +kernel
theorem dX7_addPart_19 : decode cX7_addPart 19 = .ok (.iconst 5, 1) := by decide +kernel
theorem dX7_addPart_20 : decode cX7_addPart 20 = .ok (.invokevirtual 165, 3) := by decide +kernel
theorem dX7_addPart_23 : decode cX7_addPart 23 = .ok (.goto 23, 3) := by decide +kernel
theorem dX7_addPart_26 : decode cX7_addPart 26 = .ok (.aload_n 0, 1) := by decide +kernel
theorem dX7_addPart_27 : decode cX7_addPart 27 = .ok (.aload_n 0, 1) := by decide +kernel
theorem dX7_addPart_28 : decode cX7_addPart 28 = .ok (.iconst 4, 1) := by decide +kernel
theorem dX7_addPart_29 : decode cX7_addPart 29 = .ok (.iload_n 1, 1) := by decide +kernel
theorem dX7_addPart_30 : decode cX7_addPart 30 = .ok (.aload_n 0, 1) := by decide +kernel
theorem dX7_addPart_31 : decode cX7_addPart 31 = .ok (.getfield 119, 3) := by decide +kernel
theorem dX7_addPart_34 : decode cX7_addPart 34 = .ok (.aload_n 0, 1) := by decide +kernel
theorem dX7_addPart_35 : decode cX7_addPart 35 = .ok (.getfield 122, 3) := by decide +kernel
theorem dX7_addPart_38 : decode cX7_addPart 38 = .ok (.iconst 0, 1) := by decide +kernel
theorem dX7_addPart_39 : decode cX7_addPart 39 = .ok (.invokevirtual 98, 3) := by decide +kernel
theorem dX7_addPart_42 : decode cX7_addPart 42 = .ok (.iconst (-1), 1) := by decide +kernel
theorem dX7_addPart_43 : decode cX7_addPart 43 = .ok (.invokevirtual 132, 3) := by decide +kernel
theorem dX7_addPart_46 : decode cX7_addPart 46 = .ok (.return_, 1) := by decide +kernel
theorem dX7_addPart_47 : decode cX7_addPart 47 = .ok (.aload_n 0, 1) := by decide +kernel
theorem dX7_addPart_48 : decode cX7_addPart 48 = .ok (.getfield 150, 3) := by decide +kernel
theorem dX7_addPart_51 : decode cX7_addPart 51 = .ok (.iconst 2, 1) := by decide +kernel
theorem dX7_addPart_52 : decode cX7_addPart 52 = .ok (.if_icmp .ne 38, 3) := by decide +kernel
theorem dX7_addPart_55 : decode cX7_addPart 55 = .ok (.aload_n 0, 1) := by decide +kernel
theorem dX7_addPart_56 : decode cX7_addPart 56 = .ok (.iconst 2, 1) := by decide +kernel
theorem dX7_addPart_57 : decode cX7_addPart 57 = .ok (.iload_n 1, 1) := by decide +kernel
theorem dX7_addPart_58 : decode cX7_addPart 58 = .ok (.aload_n 0, 1) := by decide +kernel
theorem dX7_addPart_59 : decode cX7_addPart 59 = .ok (.getfield 119, 3) := by decide +kernel
theorem dX7_addPart_62 : decode cX7_addPart 62 = .ok (.aload_n 0, 1) := by decide +kernel
theorem dX7_addPart_63 : decode cX7_addPart 63 = .ok (.getfield 122, 3) := by decide +kernel
theorem dX7_addPart_66 : decode cX7_addPart 66 = .ok (.aload_n 0, 1) := by decide +kernel
theorem dX7_addPart_67 : decode cX7_addPart 67 = .ok (.getfield 156, 3) := by decide +kernel
theorem dX7_addPart_70 : decode cX7_addPart 70 = .ok (.aload_n 0, 1) := by decide +kernel
theorem dX7_addPart_71 : decode cX7_addPart 71 = .ok (.getfield 153, 3) := by decide +kernel
theorem dX7_addPart_74 : decode cX7_addPart 74 = .ok (.isub, 1) := by decide +kernel
theorem dX7_addPart_75 : decode cX7_addPart 75 = .ok (.invokevirtual 98, 3) := by decide +kernel
theorem dX7_addPart_78 : decode cX7_addPart 78 = .ok (.istore_n 2, 1) := by decide +kernel
theorem dX7_addPart_79 : decode cX7_addPart 79 = .ok (.aload_n 0, 1) := by decide +kernel
theorem dX7_addPart_80 : decode cX7_addPart 80 = .ok (.getfield 34, 3) := by decide +kernel
theorem dX7_addPart_83 : decode cX7_addPart 83 = .ok (.iload_n 2, 1) := by decide +kernel
theorem dX7_addPart_84 : decode cX7_addPart 84 = .ok (.aload_n 0, 1) := by decide +kernel
theorem dX7_addPart_85 : decode cX7_addPart 85 = .ok (.getfield 153, 3) := by decide +kernel
theorem dX7_addPart_88 : decode cX7_addPart 88 = .ok (.iastore, 1) := by decide +kernel
theorem dX7_addPart_89 : decode cX7_addPart 89 = .ok (.return_, 1) := by decide +kernel
theorem dX7_addPart_90 : decode cX7_addPart 90 = .ok (.lconst 0, 1) := by decide +kernel
theorem dX7_addPart_91 : decode cX7_addPart 91 = .ok (.lstore_n 2, 1) := by decide +kernel
theorem dX7_addPart_92 : decode cX7_addPart 92 = .ok (.aload_n 0, 1) := by decide +kernel
theorem dX7_addPart_93 : decode cX7_addPart 93 = .ok (.getfield 153, 3) := by decide +kernel
theorem dX7_addPart_96 : decode cX7_addPart 96 = .ok (.istore 4, 2) := by decide +kernel
theorem dX7_addPart_98 : decode cX7_addPart 98 = .ok (.iload 4, 2) := by decide +kernel
theorem dX7_addPart_100 : decode cX7_addPart 100 = .ok (.aload_n 0, 1) := by decide +kernel
theorem dX7_addPart_101 : decode cX7_addPart 101 = .ok (.getfield 156, 3) := by decide +kernel
theorem dX7_addPart_104 : decode cX7_addPart 104 = .ok (.if_icmp .ge 32, 3) := by decide +kernel
theorem dX7_addPart_107 : decode cX7_addPart 107 = .ok (.ldc2_w 191, 3) := by decide +kernel
theorem dX7_addPart_110 : decode cX7_addPart 110 = .ok (.lload_n 2, 1) := by decide +kernel
theorem dX7_addPart_111 : decode cX7_addPart 111 = .ok (.lmul, 1) := by decide +kernel
theorem dX7_addPart_112 : decode cX7_addPart 112 = .ok (.aload_n 0, 1) := by decide +kernel
theorem dX7_addPart_113 : decode cX7_addPart 113 = .ok (.getfield 9, 3) := by decide +kernel
theorem dX7_addPart_116 : decode cX7_addPart 116 = .ok (.iload 4, 2) := by decide +kernel
theorem dX7_addPart_118 : decode cX7_addPart 118 = .ok (.iaload, 1) := by decide +kernel
theorem dX7_addPart_119 : decode cX7_addPart 119 = .ok (.i2l, 1) := by decide +kernel
theorem dX7_addPart_120 : decode cX7_addPart 120 = .ok (.ladd, 1) := by decide +kernel
theorem dX7_addPart_121 : decode cX7_addPart 121 = .ok (.ldc2_w 193, 3) := by decide +kernel
theorem dX7_addPart_124 : decode cX7_addPart 124 = .ok (.lsub, 1) := by decide +kernel
theorem dX7_addPart_125 : decode cX7_addPart 125 = .ok (.ldc2_w 195, 3) := by decide +kernel
theorem dX7_addPart_128 : decode cX7_addPart 128 = .ok (.lrem, 1) := by decide +kernel
theorem dX7_addPart_129 : decode cX7_addPart 129 = .ok (.lstore_n 2, 1) := by decide +kernel
theorem dX7_addPart_130 : decode cX7_addPart 130 = .ok (.iinc 4 1, 3) := by decide +kernel
theorem dX7_addPart_133 : decode cX7_addPart 133 = .ok (.goto (-35), 3) := by decide +kernel
theorem dX7_addPart_136 : decode cX7_addPart 136 = .ok (.aload_n 0, 1) := by decide +kernel
theorem dX7_addPart_137 : decode cX7_addPart 137 = .ok (.iconst 3, 1) := by decide +kernel
theorem dX7_addPart_138 : decode cX7_addPart 138 = .ok (.iload_n 1, 1) := by decide +kernel
theorem dX7_addPart_139 : decode cX7_addPart 139 = .ok (.aload_n 0, 1) := by decide +kernel
theorem dX7_addPart_140 : decode cX7_addPart 140 = .ok (.getfield 119, 3) := by decide +kernel
theorem dX7_addPart_143 : decode cX7_addPart 143 = .ok (.aload_n 0, 1) := by decide +kernel
theorem dX7_addPart_144 : decode cX7_addPart 144 = .ok (.getfield 122, 3) := by decide +kernel
theorem dX7_addPart_147 : decode cX7_addPart 147 = .ok (.lload_n 2, 1) := by decide +kernel
theorem dX7_addPart_148 : decode cX7_addPart 148 = .ok (.l2i, 1) := by decide +kernel
theorem dX7_addPart_149 : decode cX7_addPart 149 = .ok (.invokevirtual 98, 3) := by decide +kernel
theorem dX7_addPart_152 : decode cX7_addPart 152 = .ok (.pop, 1) := by decide +kernel
theorem dX7_addPart_153 : decode cX7_addPart 153 = .ok (.return_, 1) := by decide +kernel
theorem dX7_repairCount_0 : decode cX7_repairCount 0 = .ok (.aload_n 0, 1) := by decide +kernel
theorem dX7_repairCount_1 : decode cX7_repairCount 1 = .ok (.iconst 0, 1) := by decide +kernel
theorem dX7_repairCount_2 : decode cX7_repairCount 2 = .ok (.putfield 71, 3) := by decide +kernel
theorem dX7_repairCount_5 : decode cX7_repairCount 5 = .ok (.aload_n 0, 1) := by decide +kernel
theorem dX7_repairCount_6 : decode cX7_repairCount 6 = .ok (.getfield 95, 3) := by decide +kernel
theorem dX7_repairCount_9 : decode cX7_repairCount 9 = .ok (.ireturn, 1) := by decide +kernel
theorem dX7_repair__0 : decode cX7_repair_ 0 = .ok (.aload_n 0, 1) := by decide +kernel
theorem dX7_repair__1 : decode cX7_repair_ 1 = .ok (.iconst 0, 1) := by decide +kernel
theorem dX7_repair__2 : decode cX7_repair_ 2 = .ok (.putfield 71, 3) := by decide +kernel
theorem dX7_repair__5 : decode cX7_repair_ 5 = .ok (.iload_n 1, 1) := by decide +kernel
theorem dX7_repair__6 : decode cX7_repair_ 6 = .ok (.ifCond .lt 33, 3) := by decide +kernel
theorem dX7_repair__9 : decode cX7_repair_ 9 = .ok (.iload_n 1, 1) := by decide +kernel
theorem dX7_repair__10 : decode cX7_repair_ 10 = .ok (.aload_n 0, 1) := by decide +kernel
theorem dX7_repair__11 : decode cX7_repair_ 11 = .ok (.getfield 95, 3) := by decide +kernel
theorem dX7_repair__14 : decode cX7_repair_ 14 = .ok (.if_icmp .ge 25, 3) := by decide +kernel
theorem dX7_repair__17 : decode cX7_repair_ 17 = .ok (.iload_n 2, 1) := by decide +kernel
theorem dX7_repair__18 : decode cX7_repair_ 18 = .ok (.ifCond .lt 21, 3) := by decide +kernel
theorem dX7_repair__21 : decode cX7_repair_ 21 = .ok (.iload_n 2, 1) := by decide +kernel
theorem dX7_repair__22 : decode cX7_repair_ 22 = .ok (.iconst 2, 1) := by decide +kernel
theorem dX7_repair__23 : decode cX7_repair_ 23 = .ok (.if_icmp .gt 16, 3) := by decide +kernel
theorem dX7_repair__26 : decode cX7_repair_ 26 = .ok (.aload_n 0, 1) := by decide +kernel
theorem dX7_repair__27 : decode cX7_repair_ 27 = .ok (.getfield 46, 3) := by decide +kernel
theorem dX7_repair__30 : decode cX7_repair_ 30 = .ok (.iconst 3, 1) := by decide +kernel
theorem dX7_repair__31 : decode cX7_repair_ 31 = .ok (.iload_n 1, 1) := by decide +kernel
theorem dX7_repair__32 : decode cX7_repair_ 32 = .ok (.imul, 1) := by decide +kernel
theorem dX7_repair__33 : decode cX7_repair_ 33 = .ok (.iload_n 2, 1) := by decide +kernel
theorem dX7_repair__34 : decode cX7_repair_ 34 = .ok (.iadd, 1) := by decide +kernel
theorem dX7_repair__35 : decode cX7_repair_ 35 = .ok (.iaload, 1) := by decide +kernel
theorem dX7_repair__36 : decode cX7_repair_ 36 = .ok (.goto 8, 3) := by decide +kernel
theorem dX7_repair__39 : decode cX7_repair_ 39 = .ok (.aload_n 0, 1) := by decide +kernel
theorem dX7_repair__40 : decode cX7_repair_ 40 = .ok (.iconst 1, 1) := by decide +kernel
theorem dX7_repair__41 : decode cX7_repair_ 41 = .ok (.invokevirtual 85, 3) := by decide +kernel
theorem dX7_repair__44 : decode cX7_repair_ 44 = .ok (.ireturn, 1) := by decide +kernel
theorem dX7_isNode_0 : decode cX7_isNode 0 = .ok (.iload_n 1, 1) := by decide +kernel
theorem dX7_isNode_1 : decode cX7_isNode 1 = .ok (.ifCond .lt 15, 3) := by decide +kernel
theorem dX7_isNode_4 : decode cX7_isNode 4 = .ok (.iload_n 1, 1) := by decide +kernel
theorem dX7_isNode_5 : decode cX7_isNode 5 = .ok (.aload_n 0, 1) := by decide +kernel
theorem dX7_isNode_6 : decode cX7_isNode 6 = .ok (.getfield 113, 3) := by decide +kernel
theorem dX7_isNode_9 : decode cX7_isNode 9 = .ok (.if_icmp .ge 7, 3) := by decide +kernel
theorem dX7_isNode_12 : decode cX7_isNode 12 = .ok (.iconst 1, 1) := by decide +kernel
theorem dX7_isNode_13 : decode cX7_isNode 13 = .ok (.goto 4, 3) := by decide +kernel
theorem dX7_isNode_16 : decode cX7_isNode 16 = .ok (.iconst 0, 1) := by decide +kernel
theorem dX7_isNode_17 : decode cX7_isNode 17 = .ok (.ireturn, 1) := by decide +kernel
theorem dX7_nodeCount_0 : decode cX7_nodeCount 0 = .ok (.aload_n 0, 1) := by decide +kernel
theorem dX7_nodeCount_1 : decode cX7_nodeCount 1 = .ok (.iconst 0, 1) := by decide +kernel
theorem dX7_nodeCount_2 : decode cX7_nodeCount 2 = .ok (.putfield 71, 3) := by decide +kernel
theorem dX7_nodeCount_5 : decode cX7_nodeCount 5 = .ok (.aload_n 0, 1) := by decide +kernel
theorem dX7_nodeCount_6 : decode cX7_nodeCount 6 = .ok (.getfield 113, 3) := by decide +kernel
theorem dX7_nodeCount_9 : decode cX7_nodeCount 9 = .ok (.ireturn, 1) := by decide +kernel
theorem dX7_kind_0 : decode cX7_kind 0 = .ok (.aload_n 0, 1) := by decide +kernel
theorem dX7_kind_1 : decode cX7_kind 1 = .ok (.iconst 0, 1) := by decide +kernel
theorem dX7_kind_2 : decode cX7_kind 2 = .ok (.putfield 71, 3) := by decide +kernel
theorem dX7_kind_5 : decode cX7_kind 5 = .ok (.aload_n 0, 1) := by decide +kernel
theorem dX7_kind_6 : decode cX7_kind 6 = .ok (.iload_n 1, 1) := by decide +kernel
theorem dX7_kind_7 : decode cX7_kind 7 = .ok (.invokevirtual 197, 3) := by decide +kernel
theorem dX7_kind_10 : decode cX7_kind 10 = .ok (.ifCond .eq 17, 3) := by decide +kernel
theorem dX7_kind_13 : decode cX7_kind 13 = .ok (.aload_n 0, 1) := by decide +kernel
theorem dX7_kind_14 : decode cX7_kind 14 = .ok (.getfield 13, 3) := by decide +kernel
theorem dX7_kind_17 : decode cX7_kind 17 = .ok (.aload_n 0, 1) := by decide +kernel
theorem dX7_kind_18 : decode cX7_kind 18 = .ok (.getfield 40, 3) := by decide +kernel
theorem dX7_kind_21 : decode cX7_kind 21 = .ok (.iload_n 1, 1) := by decide +kernel
theorem dX7_kind_22 : decode cX7_kind 22 = .ok (.iaload, 1) := by decide +kernel
theorem dX7_kind_23 : decode cX7_kind 23 = .ok (.iaload, 1) := by decide +kernel
theorem dX7_kind_24 : decode cX7_kind 24 = .ok (.goto 8, 3) := by decide +kernel
theorem dX7_kind_27 : decode cX7_kind 27 = .ok (.aload_n 0, 1) := by decide +kernel
theorem dX7_kind_28 : decode cX7_kind 28 = .ok (.iconst 1, 1) := by decide +kernel
theorem dX7_kind_29 : decode cX7_kind 29 = .ok (.invokevirtual 85, 3) := by decide +kernel
theorem dX7_kind_32 : decode cX7_kind 32 = .ok (.ireturn, 1) := by decide +kernel
theorem dX7_parent_0 : decode cX7_parent 0 = .ok (.aload_n 0, 1) := by decide +kernel
theorem dX7_parent_1 : decode cX7_parent 1 = .ok (.iconst 0, 1) := by decide +kernel
theorem dX7_parent_2 : decode cX7_parent 2 = .ok (.putfield 71, 3) := by decide +kernel
theorem dX7_parent_5 : decode cX7_parent 5 = .ok (.aload_n 0, 1) := by decide +kernel
theorem dX7_parent_6 : decode cX7_parent 6 = .ok (.iload_n 1, 1) := by decide +kernel
theorem dX7_parent_7 : decode cX7_parent 7 = .ok (.invokevirtual 197, 3) := by decide +kernel
theorem dX7_parent_10 : decode cX7_parent 10 = .ok (.ifCond .ne 9, 3) := by decide +kernel
theorem dX7_parent_13 : decode cX7_parent 13 = .ok (.aload_n 0, 1) := by decide +kernel
theorem dX7_parent_14 : decode cX7_parent 14 = .ok (.iconst 1, 1) := by decide +kernel
theorem dX7_parent_15 : decode cX7_parent 15 = .ok (.invokevirtual 85, 3) := by decide +kernel
theorem dX7_parent_18 : decode cX7_parent 18 = .ok (.ireturn, 1) := by decide +kernel
theorem dX7_parent_19 : decode cX7_parent 19 = .ok (.iload_n 1, 1) := by decide +kernel
theorem dX7_parent_20 : decode cX7_parent 20 = .ok (.ifCond .ne 7, 3) := by decide +kernel
theorem dX7_parent_23 : decode cX7_parent 23 = .ok (.iconst (-1), 1) := by decide +kernel
theorem dX7_parent_24 : decode cX7_parent 24 = .ok (.goto 19, 3) := by decide +kernel
theorem dX7_parent_27 : decode cX7_parent 27 = .ok (.aload_n 0, 1) := by decide +kernel
theorem dX7_parent_28 : decode cX7_parent 28 = .ok (.getfield 43, 3) := by decide +kernel
theorem dX7_parent_31 : decode cX7_parent 31 = .ok (.aload_n 0, 1) := by decide +kernel
theorem dX7_parent_32 : decode cX7_parent 32 = .ok (.getfield 16, 3) := by decide +kernel
theorem dX7_parent_35 : decode cX7_parent 35 = .ok (.aload_n 0, 1) := by decide +kernel
theorem dX7_parent_36 : decode cX7_parent 36 = .ok (.getfield 40, 3) := by decide +kernel
theorem dX7_parent_39 : decode cX7_parent 39 = .ok (.iload_n 1, 1) := by decide +kernel
theorem dX7_parent_40 : decode cX7_parent 40 = .ok (.iaload, 1) := by decide +kernel
theorem dX7_parent_41 : decode cX7_parent 41 = .ok (.iaload, 1) := by decide +kernel
theorem dX7_parent_42 : decode cX7_parent 42 = .ok (.iaload, 1) := by decide +kernel
theorem dX7_parent_43 : decode cX7_parent 43 = .ok (.ireturn, 1) := by decide +kernel
theorem dX7_childCount_0 : decode cX7_childCount 0 = .ok (.aload_n 0, 1) := by decide +kernel
theorem dX7_childCount_1 : decode cX7_childCount 1 = .ok (.iconst 0, 1) := by decide +kernel
theorem dX7_childCount_2 : decode cX7_childCount 2 = .ok (.putfield 71, 3) := by decide +kernel
theorem dX7_childCount_5 : decode cX7_childCount 5 = .ok (.aload_n 0, 1) := by decide +kernel
theorem dX7_childCount_6 : decode cX7_childCount 6 = .ok (.iload_n 1, 1) := by decide +kernel
theorem dX7_childCount_7 : decode cX7_childCount 7 = .ok (.invokevirtual 197, 3) := by decide +kernel
theorem dX7_childCount_10 : decode cX7_childCount 10 = .ok (.ifCond .eq 16, 3) := by decide +kernel
theorem dX7_childCount_13 : decode cX7_childCount 13 = .ok (.aload_n 0, 1) := by decide +kernel
theorem dX7_childCount_14 : decode cX7_childCount 14 = .ok (.aload_n 0, 1) := by decide +kernel
theorem dX7_childCount_15 : decode cX7_childCount 15 = .ok (.getfield 40, 3) := by decide +kernel
theorem dX7_childCount_18 : decode cX7_childCount 18 = .ok (.iload_n 1, 1) := by decide +kernel
theorem dX7_childCount_19 : decode cX7_childCount 19 = .ok (.iaload, 1) := by decide +kernel
theorem dX7_childCount_20 : decode cX7_childCount 20 = .ok (.invokevirtual 102, 3) := by decide +kernel
theorem dX7_childCount_23 : decode cX7_childCount 23 = .ok (.goto 8, 3) := by decide +kernel
theorem dX7_childCount_26 : decode cX7_childCount 26 = .ok (.aload_n 0, 1) := by decide +kernel
theorem dX7_childCount_27 : decode cX7_childCount 27 = .ok (.iconst 1, 1) := by decide +kernel
theorem dX7_childCount_28 : decode cX7_childCount 28 = .ok (.invokevirtual 85, 3) := by decide +kernel
theorem dX7_childCount_31 : decode cX7_childCount 31 = .ok (.ireturn, 1) := by decide +kernel
theorem dX7_child_0 : decode cX7_child 0 = .ok (.aload_n 0, 1) := by decide +kernel
theorem dX7_child_1 : decode cX7_child 1 = .ok (.iconst 0, 1) := by decide +kernel
theorem dX7_child_2 : decode cX7_child 2 = .ok (.putfield 71, 3) := by decide +kernel
theorem dX7_child_5 : decode cX7_child 5 = .ok (.aload_n 0, 1) := by decide +kernel
theorem dX7_child_6 : decode cX7_child 6 = .ok (.iload_n 1, 1) := by decide +kernel
theorem dX7_child_7 : decode cX7_child 7 = .ok (.invokevirtual 197, 3) := by decide +kernel
theorem dX7_child_10 : decode cX7_child 10 = .ok (.ifCond .eq 40, 3) := by decide +kernel
theorem dX7_child_13 : decode cX7_child 13 = .ok (.iload_n 2, 1) := by decide +kernel
theorem dX7_child_14 : decode cX7_child 14 = .ok (.ifCond .lt 36, 3) := by decide +kernel
theorem dX7_child_17 : decode cX7_child 17 = .ok (.iload_n 2, 1) := by decide +kernel
theorem dX7_child_18 : decode cX7_child 18 = .ok (.aload_n 0, 1) := by decide +kernel
theorem dX7_child_19 : decode cX7_child 19 = .ok (.aload_n 0, 1) := by decide +kernel
theorem dX7_child_20 : decode cX7_child 20 = .ok (.getfield 40, 3) := by decide +kernel
theorem dX7_child_23 : decode cX7_child 23 = .ok (.iload_n 1, 1) := by decide +kernel
theorem dX7_child_24 : decode cX7_child 24 = .ok (.iaload, 1) := by decide +kernel
theorem dX7_child_25 : decode cX7_child 25 = .ok (.invokevirtual 102, 3) := by decide +kernel
theorem dX7_child_28 : decode cX7_child 28 = .ok (.if_icmp .ge 22, 3) := by decide +kernel
theorem dX7_child_31 : decode cX7_child 31 = .ok (.aload_n 0, 1) := by decide +kernel
theorem dX7_child_32 : decode cX7_child 32 = .ok (.getfield 43, 3) := by decide +kernel
theorem dX7_child_35 : decode cX7_child 35 = .ok (.aload_n 0, 1) := by decide +kernel
theorem dX7_child_36 : decode cX7_child 36 = .ok (.aload_n 0, 1) := by decide +kernel
theorem dX7_child_37 : decode cX7_child 37 = .ok (.getfield 40, 3) := by decide +kernel
theorem dX7_child_40 : decode cX7_child 40 = .ok (.iload_n 1, 1) := by decide +kernel
theorem dX7_child_41 : decode cX7_child 41 = .ok (.iaload, 1) := by decide +kernel
theorem dX7_child_42 : decode cX7_child 42 = .ok (.iload_n 2, 1) := by decide +kernel
theorem dX7_child_43 : decode cX7_child 43 = .ok (.invokevirtual 109, 3) := by decide +kernel
theorem dX7_child_46 : decode cX7_child 46 = .ok (.iaload, 1) := by decide +kernel
theorem dX7_child_47 : decode cX7_child 47 = .ok (.goto 8, 3) := by decide +kernel
theorem dX7_child_50 : decode cX7_child 50 = .ok (.aload_n 0, 1) := by decide +kernel
theorem dX7_child_51 : decode cX7_child 51 = .ok (.iconst 1, 1) := by decide +kernel
theorem dX7_child_52 : decode cX7_child 52 = .ok (.invokevirtual 85, 3) := by decide +kernel
theorem dX7_child_55 : decode cX7_child 55 = .ok (.ireturn, 1) := by decide +kernel
theorem dX7_line_0 : decode cX7_line 0 = .ok (.aload_n 0, 1) := by decide +kernel
theorem dX7_line_1 : decode cX7_line 1 = .ok (.iconst 0, 1) := by decide +kernel
theorem dX7_line_2 : decode cX7_line 2 = .ok (.putfield 71, 3) := by decide +kernel
theorem dX7_line_5 : decode cX7_line 5 = .ok (.aload_n 0, 1) := by decide +kernel
theorem dX7_line_6 : decode cX7_line 6 = .ok (.iload_n 1, 1) := by decide +kernel
theorem dX7_line_7 : decode cX7_line 7 = .ok (.invokevirtual 197, 3) := by decide +kernel
theorem dX7_line_10 : decode cX7_line 10 = .ok (.ifCond .eq 17, 3) := by decide +kernel
theorem dX7_line_13 : decode cX7_line 13 = .ok (.aload_n 0, 1) := by decide +kernel
theorem dX7_line_14 : decode cX7_line 14 = .ok (.getfield 25, 3) := by decide +kernel
theorem dX7_line_17 : decode cX7_line 17 = .ok (.aload_n 0, 1) := by decide +kernel
theorem dX7_line_18 : decode cX7_line 18 = .ok (.getfield 40, 3) := by decide +kernel
theorem dX7_line_21 : decode cX7_line 21 = .ok (.iload_n 1, 1) := by decide +kernel
theorem dX7_line_22 : decode cX7_line 22 = .ok (.iaload, 1) := by decide +kernel
theorem dX7_line_23 : decode cX7_line 23 = .ok (.iaload, 1) := by decide +kernel
theorem dX7_line_24 : decode cX7_line 24 = .ok (.goto 8, 3) := by decide +kernel
theorem dX7_line_27 : decode cX7_line 27 = .ok (.aload_n 0, 1) := by decide +kernel
theorem dX7_line_28 : decode cX7_line 28 = .ok (.iconst 1, 1) := by decide +kernel
theorem dX7_line_29 : decode cX7_line 29 = .ok (.invokevirtual 85, 3) := by decide +kernel
theorem dX7_line_32 : decode cX7_line 32 = .ok (.ireturn, 1) := by decide +kernel
theorem dX7_column_0 : decode cX7_column 0 = .ok (.aload_n 0, 1) := by decide +kernel
theorem dX7_column_1 : decode cX7_column 1 = .ok (.iconst 0, 1) := by decide +kernel
theorem dX7_column_2 : decode cX7_column 2 = .ok (.putfield 71, 3) := by decide +kernel
theorem dX7_column_5 : decode cX7_column 5 = .ok (.aload_n 0, 1) := by decide +kernel
theorem dX7_column_6 : decode cX7_column 6 = .ok (.iload_n 1, 1) := by decide +kernel
theorem dX7_column_7 : decode cX7_column 7 = .ok (.invokevirtual 197, 3) := by decide +kernel
theorem dX7_column_10 : decode cX7_column 10 = .ok (.ifCond .eq 17, 3) := by decide +kernel
theorem dX7_column_13 : decode cX7_column 13 = .ok (.aload_n 0, 1) := by decide +kernel
theorem dX7_column_14 : decode cX7_column 14 = .ok (.getfield 28, 3) := by decide +kernel
theorem dX7_column_17 : decode cX7_column 17 = .ok (.aload_n 0, 1) := by decide +kernel
theorem dX7_column_18 : decode cX7_column 18 = .ok (.getfield 40, 3) := by decide +kernel
theorem dX7_column_21 : decode cX7_column 21 = .ok (.iload_n 1, 1) := by decide +kernel
theorem dX7_column_22 : decode cX7_column 22 = .ok (.iaload, 1) := by decide +kernel
theorem dX7_column_23 : decode cX7_column 23 = .ok (.iaload, 1) := by decide +kernel
theorem dX7_column_24 : decode cX7_column 24 = .ok (.goto 8, 3) := by decide +kernel
theorem dX7_column_27 : decode cX7_column 27 = .ok (.aload_n 0, 1) := by decide +kernel
theorem dX7_column_28 : decode cX7_column 28 = .ok (.iconst 1, 1) := by decide +kernel
theorem dX7_column_29 : decode cX7_column 29 = .ok (.invokevirtual 85, 3) := by decide +kernel
theorem dX7_column_32 : decode cX7_column 32 = .ok (.ireturn, 1) := by decide +kernel
theorem dX7_value_0 : decode cX7_value 0 = .ok (.aload_n 0, 1) := by decide +kernel
theorem dX7_value_1 : decode cX7_value 1 = .ok (.iconst 0, 1) := by decide +kernel
theorem dX7_value_2 : decode cX7_value 2 = .ok (.putfield 71, 3) := by decide +kernel
theorem dX7_value_5 : decode cX7_value 5 = .ok (.aload_n 0, 1) := by decide +kernel
theorem dX7_value_6 : decode cX7_value 6 = .ok (.iload_n 1, 1) := by decide +kernel
theorem dX7_value_7 : decode cX7_value 7 = .ok (.invokevirtual 197, 3) := by decide +kernel
theorem dX7_value_10 : decode cX7_value 10 = .ok (.ifCond .eq 17, 3) := by decide +kernel
theorem dX7_value_13 : decode cX7_value 13 = .ok (.aload_n 0, 1) := by decide +kernel
theorem dX7_value_14 : decode cX7_value 14 = .ok (.getfield 31, 3) := by decide +kernel
theorem dX7_value_17 : decode cX7_value 17 = .ok (.aload_n 0, 1) := by decide +kernel
theorem dX7_value_18 : decode cX7_value 18 = .ok (.getfield 40, 3) := by decide +kernel
theorem dX7_value_21 : decode cX7_value 21 = .ok (.iload_n 1, 1) := by decide +kernel
theorem dX7_value_22 : decode cX7_value 22 = .ok (.iaload, 1) := by decide +kernel
theorem dX7_value_23 : decode cX7_value 23 = .ok (.iaload, 1) := by decide +kernel
theorem dX7_value_24 : decode cX7_value 24 = .ok (.goto 8, 3) := by decide +kernel
theorem dX7_value_27 : decode cX7_value 27 = .ok (.aload_n 0, 1) := by decide +kernel
theorem dX7_value_28 : decode cX7_value 28 = .ok (.iconst 1, 1) := by decide +kernel
theorem dX7_value_29 : decode cX7_value 29 = .ok (.invokevirtual 85, 3) := by decide +kernel
theorem dX7_value_32 : decode cX7_value 32 = .ok (.ireturn, 1) := by decide +kernel
theorem dX7_letter_0 : decode cX7_letter 0 = .ok (.aload_n 0, 1) := by decide +kernel
theorem dX7_letter_1 : decode cX7_letter 1 = .ok (.iconst 0, 1) := by decide +kernel
theorem dX7_letter_2 : decode cX7_letter 2 = .ok (.putfield 71, 3) := by decide +kernel
theorem dX7_letter_5 : decode cX7_letter 5 = .ok (.aload_n 0, 1) := by decide +kernel
theorem dX7_letter_6 : decode cX7_letter 6 = .ok (.iload_n 1, 1) := by decide +kernel
theorem dX7_letter_7 : decode cX7_letter 7 = .ok (.invokevirtual 197, 3) := by decide +kernel
theorem dX7_letter_10 : decode cX7_letter 10 = .ok (.ifCond .ne 9, 3) := by decide +kernel
theorem dX7_letter_13 : decode cX7_letter 13 = .ok (.aload_n 0, 1) := by decide +kernel
theorem dX7_letter_14 : decode cX7_letter 14 = .ok (.iconst 1, 1) := by decide +kernel
theorem dX7_letter_15 : decode cX7_letter 15 = .ok (.invokevirtual 85, 3) := by decide +kernel
theorem dX7_letter_18 : decode cX7_letter 18 = .ok (.ireturn, 1) := by decide +kernel
theorem dX7_letter_19 : decode cX7_letter 19 = .ok (.aload_n 0, 1) := by decide +kernel
theorem dX7_letter_20 : decode cX7_letter 20 = .ok (.getfield 40, 3) := by decide +kernel
theorem dX7_letter_23 : decode cX7_letter 23 = .ok (.iload_n 1, 1) := by decide +kernel
theorem dX7_letter_24 : decode cX7_letter 24 = .ok (.iaload, 1) := by decide +kernel
theorem dX7_letter_25 : decode cX7_letter 25 = .ok (.istore_n 3, 1) := by decide +kernel
theorem dX7_letter_26 : decode cX7_letter 26 = .ok (.aload_n 0, 1) := by decide +kernel
theorem dX7_letter_27 : decode cX7_letter 27 = .ok (.getfield 13, 3) := by decide +kernel
theorem dX7_letter_30 : decode cX7_letter 30 = .ok (.iload_n 3, 1) := by decide +kernel
theorem dX7_letter_31 : decode cX7_letter 31 = .ok (.iaload, 1) := by decide +kernel
theorem dX7_letter_32 : decode cX7_letter 32 = .ok (.iconst 2, 1) := by decide +kernel
theorem dX7_letter_33 : decode cX7_letter 33 = .ok (.if_icmp .ne 33, 3) := by decide +kernel
theorem dX7_letter_36 : decode cX7_letter 36 = .ok (.iload_n 2, 1) := by decide +kernel
theorem dX7_letter_37 : decode cX7_letter 37 = .ok (.ifCond .lt 29, 3) := by decide +kernel
theorem dX7_letter_40 : decode cX7_letter 40 = .ok (.iload_n 2, 1) := by decide +kernel
theorem dX7_letter_41 : decode cX7_letter 41 = .ok (.aload_n 0, 1) := by decide +kernel
theorem dX7_letter_42 : decode cX7_letter 42 = .ok (.getfield 31, 3) := by decide +kernel
theorem dX7_letter_45 : decode cX7_letter 45 = .ok (.iload_n 3, 1) := by decide +kernel
theorem dX7_letter_46 : decode cX7_letter 46 = .ok (.iaload, 1) := by decide +kernel
theorem dX7_letter_47 : decode cX7_letter 47 = .ok (.if_icmp .ge 19, 3) := by decide +kernel
theorem dX7_letter_50 : decode cX7_letter 50 = .ok (.aload_n 0, 1) := by decide +kernel
theorem dX7_letter_51 : decode cX7_letter 51 = .ok (.getfield 37, 3) := by decide +kernel
theorem dX7_letter_54 : decode cX7_letter 54 = .ok (.aload_n 0, 1) := by decide +kernel
theorem dX7_letter_55 : decode cX7_letter 55 = .ok (.getfield 34, 3) := by decide +kernel
theorem dX7_letter_58 : decode cX7_letter 58 = .ok (.iload_n 3, 1) := by decide +kernel
theorem dX7_letter_59 : decode cX7_letter 59 = .ok (.iaload, 1) := by decide +kernel
theorem dX7_letter_60 : decode cX7_letter 60 = .ok (.iload_n 2, 1) := by decide +kernel
theorem dX7_letter_61 : decode cX7_letter 61 = .ok (.iadd, 1) := by decide +kernel
theorem dX7_letter_62 : decode cX7_letter 62 = .ok (.iaload, 1) := by decide +kernel
theorem dX7_letter_63 : decode cX7_letter 63 = .ok (.goto 4, 3) := by decide +kernel
theorem dX7_letter_66 : decode cX7_letter 66 = .ok (.iconst (-1), 1) := by decide +kernel
theorem dX7_letter_67 : decode cX7_letter 67 = .ok (.ireturn, 1) := by decide +kernel
theorem dX7_depthOf_0 : decode cX7_depthOf 0 = .ok (.iconst 0, 1) := by decide +kernel
theorem dX7_depthOf_1 : decode cX7_depthOf 1 = .ok (.istore_n 3, 1) := by decide +kernel
theorem dX7_depthOf_2 : decode cX7_depthOf 2 = .ok (.aload_n 0, 1) := by decide +kernel
theorem dX7_depthOf_3 : decode cX7_depthOf 3 = .ok (.getfield 16, 3) := by decide +kernel
theorem dX7_depthOf_6 : decode cX7_depthOf 6 = .ok (.iload_n 1, 1) := by decide +kernel
theorem dX7_depthOf_7 : decode cX7_depthOf 7 = .ok (.iaload, 1) := by decide +kernel
theorem dX7_depthOf_8 : decode cX7_depthOf 8 = .ok (.istore 4, 2) := by decide +kernel
theorem dX7_depthOf_10 : decode cX7_depthOf 10 = .ok (.iload 4, 2) := by decide +kernel
theorem dX7_depthOf_12 : decode cX7_depthOf 12 = .ok (.iconst (-1), 1) := by decide +kernel
theorem dX7_depthOf_13 : decode cX7_depthOf 13 = .ok (.if_icmp .eq 48, 3) := by decide +kernel
theorem dX7_depthOf_16 : decode cX7_depthOf 16 = .ok (.iload_n 3, 1) := by decide +kernel
theorem dX7_depthOf_17 : decode cX7_depthOf 17 = .ok (.aload_n 0, 1) := by decide +kernel
theorem dX7_depthOf_18 : decode cX7_depthOf 18 = .ok (.getfield 13, 3) := by decide +kernel
theorem dX7_depthOf_21 : decode cX7_depthOf 21 = .ok (.iload 4, 2) := by decide +kernel
theorem dX7_depthOf_23 : decode cX7_depthOf 23 = .ok (.iaload, 1) := by decide +kernel
theorem dX7_depthOf_24 : decode cX7_depthOf 24 = .ok (.ifCond .eq 18, 3) := by decide +kernel
theorem dX7_depthOf_27 : decode cX7_depthOf 27 = .ok (.iload_n 2, 1) := by decide +kernel
theorem dX7_depthOf_28 : decode cX7_depthOf 28 = .ok (.ifCond .eq 18, 3) := by decide +kernel
theorem dX7_depthOf_31 : decode cX7_depthOf 31 = .ok (.aload_n 0, 1) := by decide +kernel
theorem dX7_depthOf_32 : decode cX7_depthOf 32 = .ok (.getfield 13, 3) := by decide +kernel
theorem dX7_depthOf_35 : decode cX7_depthOf 35 = .ok (.iload 4, 2) := by decide +kernel
theorem dX7_depthOf_37 : decode cX7_depthOf 37 = .ok (.iaload, 1) := by decide +kernel
theorem dX7_depthOf_38 : decode cX7_depthOf 38 = .ok (.iconst 4, 1) := by decide +kernel
theorem dX7_depthOf_39 : decode cX7_depthOf 39 = .ok (.if_icmp .ne 7, 3) := by decide +kernel
theorem dX7_depthOf_42 : decode cX7_depthOf 42 = .ok (.iconst 1, 1) := by decide +kernel
theorem dX7_depthOf_43 : decode cX7_depthOf 43 = .ok (.goto 4, 3) := by decide +kernel
theorem dX7_depthOf_46 : decode cX7_depthOf 46 = .ok (.iconst 0, 1) := by decide +kernel
theorem dX7_depthOf_47 : decode cX7_depthOf 47 = .ok (.iadd, 1) := by decide +kernel
theorem dX7_depthOf_48 : decode cX7_depthOf 48 = .ok (.istore_n 3, 1) := by decide +kernel
theorem dX7_depthOf_49 : decode cX7_depthOf 49 = .ok (.aload_n 0, 1) := by decide +kernel
theorem dX7_depthOf_50 : decode cX7_depthOf 50 = .ok (.getfield 16, 3) := by decide +kernel
theorem dX7_depthOf_53 : decode cX7_depthOf 53 = .ok (.iload 4, 2) := by decide +kernel
theorem dX7_depthOf_55 : decode cX7_depthOf 55 = .ok (.iaload, 1) := by decide +kernel
theorem dX7_depthOf_56 : decode cX7_depthOf 56 = .ok (.istore 4, 2) := by decide +kernel
theorem dX7_depthOf_58 : decode cX7_depthOf 58 = .ok (.goto (-48), 3) := by decide +kernel
theorem dX7_depthOf_61 : decode cX7_depthOf 61 = .ok (.iload_n 3, 1) := by decide +kernel
theorem dX7_depthOf_62 : decode cX7_depthOf 62 = .ok (.ireturn, 1) := by decide +kernel
theorem dX7_depth_0 : decode cX7_depth 0 = .ok (.aload_n 0, 1) := by decide +kernel
theorem dX7_depth_1 : decode cX7_depth 1 = .ok (.iconst 0, 1) := by decide +kernel
theorem dX7_depth_2 : decode cX7_depth 2 = .ok (.putfield 71, 3) := by decide +kernel
theorem dX7_depth_5 : decode cX7_depth 5 = .ok (.aload_n 0, 1) := by decide +kernel
theorem dX7_depth_6 : decode cX7_depth 6 = .ok (.iload_n 1, 1) := by decide +kernel
theorem dX7_depth_7 : decode cX7_depth 7 = .ok (.invokevirtual 197, 3) := by decide +kernel
theorem dX7_depth_10 : decode cX7_depth 10 = .ok (.ifCond .eq 17, 3) := by decide +kernel
theorem dX7_depth_13 : decode cX7_depth 13 = .ok (.aload_n 0, 1) := by decide +kernel
theorem dX7_depth_14 : decode cX7_depth 14 = .ok (.aload_n 0, 1) := by decide +kernel
theorem dX7_depth_15 : decode cX7_depth 15 = .ok (.getfield 40, 3) := by decide +kernel
theorem dX7_depth_18 : decode cX7_depth 18 = .ok (.iload_n 1, 1) := by decide +kernel
theorem dX7_depth_19 : decode cX7_depth 19 = .ok (.iaload, 1) := by decide +kernel
theorem dX7_depth_20 : decode cX7_depth 20 = .ok (.iconst 0, 1) := by decide +kernel
theorem dX7_depth_21 : decode cX7_depth 21 = .ok (.invokevirtual 200, 3) := by decide +kernel
theorem dX7_depth_24 : decode cX7_depth 24 = .ok (.goto 8, 3) := by decide +kernel
theorem dX7_depth_27 : decode cX7_depth 27 = .ok (.aload_n 0, 1) := by decide +kernel
theorem dX7_depth_28 : decode cX7_depth 28 = .ok (.iconst 1, 1) := by decide +kernel
theorem dX7_depth_29 : decode cX7_depth 29 = .ok (.invokevirtual 85, 3) := by decide +kernel
theorem dX7_depth_32 : decode cX7_depth 32 = .ok (.ireturn, 1) := by decide +kernel
theorem dX7_isFed_0 : decode cX7_isFed 0 = .ok (.aload_n 0, 1) := by decide +kernel
theorem dX7_isFed_1 : decode cX7_isFed 1 = .ok (.getfield 13, 3) := by decide +kernel
theorem dX7_isFed_4 : decode cX7_isFed 4 = .ok (.iload_n 1, 1) := by decide +kernel
theorem dX7_isFed_5 : decode cX7_isFed 5 = .ok (.iaload, 1) := by decide +kernel
theorem dX7_isFed_6 : decode cX7_isFed 6 = .ok (.iconst 2, 1) := by decide +kernel
theorem dX7_isFed_7 : decode cX7_isFed 7 = .ok (.if_icmp .ne 13, 3) := by decide +kernel
theorem dX7_isFed_10 : decode cX7_isFed 10 = .ok (.aload_n 0, 1) := by decide +kernel
theorem dX7_isFed_11 : decode cX7_isFed 11 = .ok (.getfield 31, 3) := by decide +kernel
theorem dX7_isFed_14 : decode cX7_isFed 14 = .ok (.iload_n 1, 1) := by decide +kernel
theorem dX7_isFed_15 : decode cX7_isFed 15 = .ok (.iaload, 1) := by decide +kernel
theorem dX7_isFed_16 : decode cX7_isFed 16 = .ok (.iload_n 2, 1) := by decide +kernel
theorem dX7_isFed_17 : decode cX7_isFed 17 = .ok (.if_icmp .eq 5, 3) := by decide +kernel
theorem dX7_isFed_20 : decode cX7_isFed 20 = .ok (.iconst 0, 1) := by decide +kernel
theorem dX7_isFed_21 : decode cX7_isFed 21 = .ok (.ireturn, 1) := by decide +kernel
theorem dX7_isFed_22 : decode cX7_isFed 22 = .ok (.iconst 0, 1) := by decide +kernel
theorem dX7_isFed_23 : decode cX7_isFed 23 = .ok (.istore_n 3, 1) := by decide +kernel
theorem dX7_isFed_24 : decode cX7_isFed 24 = .ok (.iload_n 3, 1) := by decide +kernel
theorem dX7_isFed_25 : decode cX7_isFed 25 = .ok (.iload_n 2, 1) := by decide +kernel
theorem dX7_isFed_26 : decode cX7_isFed 26 = .ok (.if_icmp .ge 33, 3) := by decide +kernel
theorem dX7_isFed_29 : decode cX7_isFed 29 = .ok (.aload_n 0, 1) := by decide +kernel
theorem dX7_isFed_30 : decode cX7_isFed 30 = .ok (.getfield 37, 3) := by decide +kernel
theorem dX7_isFed_33 : decode cX7_isFed 33 = .ok (.aload_n 0, 1) := by decide +kernel
theorem dX7_isFed_34 : decode cX7_isFed 34 = .ok (.getfield 34, 3) := by decide +kernel
theorem dX7_isFed_37 : decode cX7_isFed 37 = .ok (.iload_n 1, 1) := by decide +kernel
theorem dX7_isFed_38 : decode cX7_isFed 38 = .ok (.iaload, 1) := by decide +kernel
theorem dX7_isFed_39 : decode cX7_isFed 39 = .ok (.iload_n 3, 1) := by decide +kernel
theorem dX7_isFed_40 : decode cX7_isFed 40 = .ok (.iadd, 1) := by decide +kernel
theorem dX7_isFed_41 : decode cX7_isFed 41 = .ok (.iaload, 1) := by decide +kernel
theorem dX7_isFed_42 : decode cX7_isFed 42 = .ok (.aload_n 0, 1) := by decide +kernel
theorem dX7_isFed_43 : decode cX7_isFed 43 = .ok (.getfield 53, 3) := by decide +kernel
theorem dX7_isFed_46 : decode cX7_isFed 46 = .ok (.iload_n 3, 1) := by decide +kernel
theorem dX7_isFed_47 : decode cX7_isFed 47 = .ok (.iaload, 1) := by decide +kernel
theorem dX7_isFed_48 : decode cX7_isFed 48 = .ok (.if_icmp .eq 5, 3) := by decide +kernel
theorem dX7_isFed_51 : decode cX7_isFed 51 = .ok (.iconst 0, 1) := by decide +kernel
theorem dX7_isFed_52 : decode cX7_isFed 52 = .ok (.ireturn, 1) := by decide +kernel
theorem dX7_isFed_53 : decode cX7_isFed 53 = .ok (.iinc 3 1, 3) := by decide +kernel
theorem dX7_isFed_56 : decode cX7_isFed 56 = .ok (.goto (-32), 3) := by decide +kernel
theorem dX7_isFed_59 : decode cX7_isFed 59 = .ok (.iconst 1, 1) := by decide +kernel
theorem dX7_isFed_60 : decode cX7_isFed 60 = .ok (.ireturn, 1) := by decide +kernel
theorem dX7_find_0 : decode cX7_find 0 = .ok (.aload_n 0, 1) := by decide +kernel
theorem dX7_find_1 : decode cX7_find 1 = .ok (.iconst 0, 1) := by decide +kernel
theorem dX7_find_2 : decode cX7_find 2 = .ok (.putfield 71, 3) := by decide +kernel
theorem dX7_find_5 : decode cX7_find 5 = .ok (.aload_n 0, 1) := by decide +kernel
theorem dX7_find_6 : decode cX7_find 6 = .ok (.lload_n 1, 1) := by decide +kernel
theorem dX7_find_7 : decode cX7_find 7 = .ok (.invokevirtual 81, 3) := by decide +kernel
theorem dX7_find_10 : decode cX7_find 10 = .ok (.istore 4, 2) := by decide +kernel
theorem dX7_find_12 : decode cX7_find 12 = .ok (.iload_n 3, 1) := by decide +kernel
theorem dX7_find_13 : decode cX7_find 13 = .ok (.istore 5, 2) := by decide +kernel
theorem dX7_find_15 : decode cX7_find 15 = .ok (.iconst 0, 1) := by decide +kernel
theorem dX7_find_16 : decode cX7_find 16 = .ok (.istore 6, 2) := by decide +kernel
theorem dX7_find_18 : decode cX7_find 18 = .ok (.iload 6, 2) := by decide +kernel
theorem dX7_find_20 : decode cX7_find 20 = .ok (.aload_n 0, 1) := by decide +kernel
theorem dX7_find_21 : decode cX7_find 21 = .ok (.getfield 113, 3) := by decide +kernel
theorem dX7_find_24 : decode cX7_find 24 = .ok (.if_icmp .ge 44, 3) := by decide +kernel
theorem dX7_find_27 : decode cX7_find 27 = .ok (.iload 5, 2) := by decide +kernel
theorem dX7_find_29 : decode cX7_find 29 = .ok (.ifCond .lt 39, 3) := by decide +kernel
theorem dX7_find_32 : decode cX7_find 32 = .ok (.aload_n 0, 1) := by decide +kernel
theorem dX7_find_33 : decode cX7_find 33 = .ok (.aload_n 0, 1) := by decide +kernel
theorem dX7_find_34 : decode cX7_find 34 = .ok (.getfield 40, 3) := by decide +kernel
theorem dX7_find_37 : decode cX7_find 37 = .ok (.iload 6, 2) := by decide +kernel
theorem dX7_find_39 : decode cX7_find 39 = .ok (.iaload, 1) := by decide +kernel
theorem dX7_find_40 : decode cX7_find 40 = .ok (.iload 4, 2) := by decide +kernel
theorem dX7_find_42 : decode cX7_find 42 = .ok (.invokevirtual 204, 3) := by decide +kernel
theorem dX7_find_45 : decode cX7_find 45 = .ok (.ifCond .ne 6, 3) := by decide +kernel
theorem dX7_find_48 : decode cX7_find 48 = .ok (.goto 14, 3) := by decide +kernel
theorem dX7_find_51 : decode cX7_find 51 = .ok (.iload 5, 2) := by decide +kernel
theorem dX7_find_53 : decode cX7_find 53 = .ok (.ifCond .ne 6, 3) := by decide +kernel
theorem dX7_find_56 : decode cX7_find 56 = .ok (.iload 6, 2) := by decide +kernel
theorem dX7_find_58 : decode cX7_find 58 = .ok (.ireturn, 1) := by decide +kernel
theorem dX7_find_59 : decode cX7_find 59 = .ok (.iinc 5 (-1), 3) := by decide +kernel
theorem dX7_find_62 : decode cX7_find 62 = .ok (.iinc 6 1, 3) := by decide +kernel
theorem dX7_find_65 : decode cX7_find 65 = .ok (.goto (-47), 3) := by decide +kernel
theorem dX7_find_68 : decode cX7_find 68 = .ok (.iconst (-1), 1) := by decide +kernel
theorem dX7_find_69 : decode cX7_find 69 = .ok (.ireturn, 1) := by decide +kernel
theorem dX7_areSame_0 : decode cX7_areSame 0 = .ok (.aload_n 0, 1) := by decide +kernel
theorem dX7_areSame_1 : decode cX7_areSame 1 = .ok (.getfield 13, 3) := by decide +kernel
theorem dX7_areSame_4 : decode cX7_areSame 4 = .ok (.iload_n 1, 1) := by decide +kernel
theorem dX7_areSame_5 : decode cX7_areSame 5 = .ok (.iaload, 1) := by decide +kernel
theorem dX7_areSame_6 : decode cX7_areSame 6 = .ok (.aload_n 0, 1) := by decide +kernel
theorem dX7_areSame_7 : decode cX7_areSame 7 = .ok (.getfield 13, 3) := by decide +kernel
theorem dX7_areSame_10 : decode cX7_areSame 10 = .ok (.iload_n 2, 1) := by decide +kernel
theorem dX7_areSame_11 : decode cX7_areSame 11 = .ok (.iaload, 1) := by decide +kernel
theorem dX7_areSame_12 : decode cX7_areSame 12 = .ok (.if_icmp .ne 18, 3) := by decide +kernel
theorem dX7_areSame_15 : decode cX7_areSame 15 = .ok (.aload_n 0, 1) := by decide +kernel
theorem dX7_areSame_16 : decode cX7_areSame 16 = .ok (.getfield 31, 3) := by decide +kernel
theorem dX7_areSame_19 : decode cX7_areSame 19 = .ok (.iload_n 1, 1) := by decide +kernel
theorem dX7_areSame_20 : decode cX7_areSame 20 = .ok (.iaload, 1) := by decide +kernel
theorem dX7_areSame_21 : decode cX7_areSame 21 = .ok (.aload_n 0, 1) := by decide +kernel
theorem dX7_areSame_22 : decode cX7_areSame 22 = .ok (.getfield 31, 3) := by decide +kernel
theorem dX7_areSame_25 : decode cX7_areSame 25 = .ok (.iload_n 2, 1) := by decide +kernel
theorem dX7_areSame_26 : decode cX7_areSame 26 = .ok (.iaload, 1) := by decide +kernel
theorem dX7_areSame_27 : decode cX7_areSame 27 = .ok (.if_icmp .eq 5, 3) := by decide +kernel
theorem dX7_areSame_30 : decode cX7_areSame 30 = .ok (.iconst 0, 1) := by decide +kernel
theorem dX7_areSame_31 : decode cX7_areSame 31 = .ok (.ireturn, 1) := by decide +kernel
theorem dX7_areSame_32 : decode cX7_areSame 32 = .ok (.iconst 0, 1) := by decide +kernel
theorem dX7_areSame_33 : decode cX7_areSame 33 = .ok (.istore_n 3, 1) := by decide +kernel
theorem dX7_areSame_34 : decode cX7_areSame 34 = .ok (.iload_n 3, 1) := by decide +kernel
theorem dX7_areSame_35 : decode cX7_areSame 35 = .ok (.aload_n 0, 1) := by decide +kernel
theorem dX7_areSame_36 : decode cX7_areSame 36 = .ok (.getfield 31, 3) := by decide +kernel
theorem dX7_areSame_39 : decode cX7_areSame 39 = .ok (.iload_n 1, 1) := by decide +kernel
theorem dX7_areSame_40 : decode cX7_areSame 40 = .ok (.iaload, 1) := by decide +kernel
theorem dX7_areSame_41 : decode cX7_areSame 41 = .ok (.if_icmp .ge 40, 3) := by decide +kernel
theorem dX7_areSame_44 : decode cX7_areSame 44 = .ok (.aload_n 0, 1) := by decide +kernel
theorem dX7_areSame_45 : decode cX7_areSame 45 = .ok (.getfield 37, 3) := by decide +kernel
theorem dX7_areSame_48 : decode cX7_areSame 48 = .ok (.aload_n 0, 1) := by decide +kernel
theorem dX7_areSame_49 : decode cX7_areSame 49 = .ok (.getfield 34, 3) := by decide +kernel
theorem dX7_areSame_52 : decode cX7_areSame 52 = .ok (.iload_n 1, 1) := by decide +kernel
theorem dX7_areSame_53 : decode cX7_areSame 53 = .ok (.iaload, 1) := by decide +kernel
theorem dX7_areSame_54 : decode cX7_areSame 54 = .ok (.iload_n 3, 1) := by decide +kernel
theorem dX7_areSame_55 : decode cX7_areSame 55 = .ok (.iadd, 1) := by decide +kernel
theorem dX7_areSame_56 : decode cX7_areSame 56 = .ok (.iaload, 1) := by decide +kernel
theorem dX7_areSame_57 : decode cX7_areSame 57 = .ok (.aload_n 0, 1) := by decide +kernel
theorem dX7_areSame_58 : decode cX7_areSame 58 = .ok (.getfield 37, 3) := by decide +kernel
theorem dX7_areSame_61 : decode cX7_areSame 61 = .ok (.aload_n 0, 1) := by decide +kernel
theorem dX7_areSame_62 : decode cX7_areSame 62 = .ok (.getfield 34, 3) := by decide +kernel
theorem dX7_areSame_65 : decode cX7_areSame 65 = .ok (.iload_n 2, 1) := by decide +kernel
theorem dX7_areSame_66 : decode cX7_areSame 66 = .ok (.iaload, 1) := by decide +kernel
theorem dX7_areSame_67 : decode cX7_areSame 67 = .ok (.iload_n 3, 1) := by decide +kernel
theorem dX7_areSame_68 : decode cX7_areSame 68 = .ok (.iadd, 1) := by decide +kernel
theorem dX7_areSame_69 : decode cX7_areSame 69 = .ok (.iaload, 1) := by decide +kernel
theorem dX7_areSame_70 : decode cX7_areSame 70 = .ok (.if_icmp .eq 5, 3) := by decide +kernel
theorem dX7_areSame_73 : decode cX7_areSame 73 = .ok (.iconst 0, 1) := by decide +kernel
theorem dX7_areSame_74 : decode cX7_areSame 74 = .ok (.ireturn, 1) := by decide +kernel
theorem dX7_areSame_75 : decode cX7_areSame 75 = .ok (.iinc 3 1, 3) := by decide +kernel
theorem dX7_areSame_78 : decode cX7_areSame 78 = .ok (.goto (-44), 3) := by decide +kernel
theorem dX7_areSame_81 : decode cX7_areSame 81 = .ok (.iconst 1, 1) := by decide +kernel
theorem dX7_areSame_82 : decode cX7_areSame 82 = .ok (.ireturn, 1) := by decide +kernel
theorem dX7_words_0 : decode cX7_words 0 = .ok (.iconst 0, 1) := by decide +kernel
theorem dX7_words_1 : decode cX7_words 1 = .ok (.istore_n 1, 1) := by decide +kernel
theorem dX7_words_2 : decode cX7_words 2 = .ok (.iconst 0, 1) := by decide +kernel
theorem dX7_words_3 : decode cX7_words 3 = .ok (.istore_n 2, 1) := by decide +kernel
theorem dX7_words_4 : decode cX7_words 4 = .ok (.iload_n 2, 1) := by decide +kernel
theorem dX7_words_5 : decode cX7_words 5 = .ok (.aload_n 0, 1) := by decide +kernel
theorem dX7_words_6 : decode cX7_words 6 = .ok (.getfield 113, 3) := by decide +kernel
theorem dX7_words_9 : decode cX7_words 9 = .ok (.if_icmp .ge 87, 3) := by decide +kernel
theorem dX7_words_12 : decode cX7_words 12 = .ok (.aload_n 0, 1) := by decide +kernel
theorem dX7_words_13 : decode cX7_words 13 = .ok (.getfield 13, 3) := by decide +kernel
theorem dX7_words_16 : decode cX7_words 16 = .ok (.aload_n 0, 1) := by decide +kernel
theorem dX7_words_17 : decode cX7_words 17 = .ok (.getfield 40, 3) := by decide +kernel
theorem dX7_words_20 : decode cX7_words 20 = .ok (.iload_n 2, 1) := by decide +kernel
theorem dX7_words_21 : decode cX7_words 21 = .ok (.iaload, 1) := by decide +kernel
theorem dX7_words_22 : decode cX7_words 22 = .ok (.iaload, 1) := by decide +kernel
theorem dX7_words_23 : decode cX7_words 23 = .ok (.iconst 2, 1) := by decide +kernel
theorem dX7_words_24 : decode cX7_words 24 = .ok (.if_icmp .ne 7, 3) := by decide +kernel
theorem dX7_words_27 : decode cX7_words 27 = .ok (.iconst 1, 1) := by decide +kernel
theorem dX7_words_28 : decode cX7_words 28 = .ok (.goto 4, 3) := by decide +kernel
theorem dX7_words_31 : decode cX7_words 31 = .ok (.iconst 0, 1) := by decide +kernel
theorem dX7_words_32 : decode cX7_words 32 = .ok (.istore_n 3, 1) := by decide +kernel
theorem dX7_words_33 : decode cX7_words 33 = .ok (.iconst 0, 1) := by decide +kernel
theorem dX7_words_34 : decode cX7_words 34 = .ok (.istore 4, 2) := by decide +kernel
theorem dX7_words_36 : decode cX7_words 36 = .ok (.iload 4, 2) := by decide +kernel
theorem dX7_words_38 : decode cX7_words 38 = .ok (.iload_n 2, 1) := by decide +kernel
theorem dX7_words_39 : decode cX7_words 39 = .ok (.if_icmp .ge 39, 3) := by decide +kernel
theorem dX7_words_42 : decode cX7_words 42 = .ok (.iload_n 3, 1) := by decide +kernel
theorem dX7_words_43 : decode cX7_words 43 = .ok (.ifCond .eq 35, 3) := by decide +kernel
theorem dX7_words_46 : decode cX7_words 46 = .ok (.aload_n 0, 1) := by decide +kernel
theorem dX7_words_47 : decode cX7_words 47 = .ok (.aload_n 0, 1) := by decide +kernel
theorem dX7_words_48 : decode cX7_words 48 = .ok (.getfield 40, 3) := by decide +kernel
theorem dX7_words_51 : decode cX7_words 51 = .ok (.iload 4, 2) := by decide +kernel
theorem dX7_words_53 : decode cX7_words 53 = .ok (.iaload, 1) := by decide +kernel
theorem dX7_words_54 : decode cX7_words 54 = .ok (.aload_n 0, 1) := by decide +kernel
theorem dX7_words_55 : decode cX7_words 55 = .ok (.getfield 40, 3) := by decide +kernel
theorem dX7_words_58 : decode cX7_words 58 = .ok (.iload_n 2, 1) := by decide +kernel
theorem dX7_words_59 : decode cX7_words 59 = .ok (.iaload, 1) := by decide +kernel
theorem dX7_words_60 : decode cX7_words 60 = .ok (.invokevirtual 208, 3) := by decide +kernel
theorem dX7_words_63 : decode cX7_words 63 = .ok (.ifCond .ne 7, 3) := by decide +kernel
theorem dX7_words_66 : decode cX7_words 66 = .ok (.iconst 1, 1) := by decide +kernel
theorem dX7_words_67 : decode cX7_words 67 = .ok (.goto 4, 3) := by decide +kernel
theorem dX7_words_70 : decode cX7_words 70 = .ok (.iconst 0, 1) := by decide +kernel
theorem dX7_words_71 : decode cX7_words 71 = .ok (.istore_n 3, 1) := by decide +kernel
theorem dX7_words_72 : decode cX7_words 72 = .ok (.iinc 4 1, 3) := by decide +kernel
theorem dX7_words_75 : decode cX7_words 75 = .ok (.goto (-39), 3) := by decide +kernel
theorem dX7_words_78 : decode cX7_words 78 = .ok (.iload_n 1, 1) := by decide +kernel
theorem dX7_words_79 : decode cX7_words 79 = .ok (.iload_n 3, 1) := by decide +kernel
theorem dX7_words_80 : decode cX7_words 80 = .ok (.ifCond .eq 7, 3) := by decide +kernel
theorem dX7_words_83 : decode cX7_words 83 = .ok (.iconst 1, 1) := by decide +kernel
theorem dX7_words_84 : decode cX7_words 84 = .ok (.goto 4, 3) := by decide +kernel
theorem dX7_words_87 : decode cX7_words 87 = .ok (.iconst 0, 1) := by decide +kernel
theorem dX7_words_88 : decode cX7_words 88 = .ok (.iadd, 1) := by decide +kernel
theorem dX7_words_89 : decode cX7_words 89 = .ok (.istore_n 1, 1) := by decide +kernel
theorem dX7_words_90 : decode cX7_words 90 = .ok (.iinc 2 1, 3) := by decide +kernel
theorem dX7_words_93 : decode cX7_words 93 = .ok (.goto (-89), 3) := by decide +kernel
theorem dX7_words_96 : decode cX7_words 96 = .ok (.iload_n 1, 1) := by decide +kernel
theorem dX7_words_97 : decode cX7_words 97 = .ok (.ireturn, 1) := by decide +kernel
theorem dX7_wordCount_0 : decode cX7_wordCount 0 = .ok (.aload_n 0, 1) := by decide +kernel
theorem dX7_wordCount_1 : decode cX7_wordCount 1 = .ok (.iconst 0, 1) := by decide +kernel
theorem dX7_wordCount_2 : decode cX7_wordCount 2 = .ok (.putfield 71, 3) := by decide +kernel
theorem dX7_wordCount_5 : decode cX7_wordCount 5 = .ok (.aload_n 0, 1) := by decide +kernel
theorem dX7_wordCount_6 : decode cX7_wordCount 6 = .ok (.invokevirtual 211, 3) := by decide +kernel
theorem dX7_wordCount_9 : decode cX7_wordCount 9 = .ok (.ireturn, 1) := by decide +kernel
theorem dX7_isItem_0 : decode cX7_isItem 0 = .ok (.aload_n 0, 1) := by decide +kernel
theorem dX7_isItem_1 : decode cX7_isItem 1 = .ok (.getfield 13, 3) := by decide +kernel
theorem dX7_isItem_4 : decode cX7_isItem 4 = .ok (.aload_n 0, 1) := by decide +kernel
theorem dX7_isItem_5 : decode cX7_isItem 5 = .ok (.getfield 40, 3) := by decide +kernel
theorem dX7_isItem_8 : decode cX7_isItem 8 = .ok (.iload_n 1, 1) := by decide +kernel
theorem dX7_isItem_9 : decode cX7_isItem 9 = .ok (.iaload, 1) := by decide +kernel
theorem dX7_isItem_10 : decode cX7_isItem 10 = .ok (.iaload, 1) := by decide +kernel
theorem dX7_isItem_11 : decode cX7_isItem 11 = .ok (.iconst 1, 1) := by decide +kernel
theorem dX7_isItem_12 : decode cX7_isItem 12 = .ok (.if_icmp .ne 7, 3) := by decide +kernel
theorem dX7_isItem_15 : decode cX7_isItem 15 = .ok (.iconst 1, 1) := by decide +kernel
theorem dX7_isItem_16 : decode cX7_isItem 16 = .ok (.goto 4, 3) := by decide +kernel
theorem dX7_isItem_19 : decode cX7_isItem 19 = .ok (.iconst 0, 1) := by decide +kernel
theorem dX7_isItem_20 : decode cX7_isItem 20 = .ok (.ireturn, 1) := by decide +kernel
theorem dX7_remove_0 : decode cX7_remove 0 = .ok (.aload_n 0, 1) := by decide +kernel
theorem dX7_remove_1 : decode cX7_remove 1 = .ok (.iconst 0, 1) := by decide +kernel
theorem dX7_remove_2 : decode cX7_remove 2 = .ok (.putfield 71, 3) := by decide +kernel
theorem dX7_remove_5 : decode cX7_remove 5 = .ok (.aload_n 0, 1) := by decide +kernel
theorem dX7_remove_6 : decode cX7_remove 6 = .ok (.iload_n 1, 1) := by decide +kernel
theorem dX7_remove_7 : decode cX7_remove 7 = .ok (.invokevirtual 197, 3) := by decide +kernel
theorem dX7_remove_10 : decode cX7_remove 10 = .ok (.ifCond .ne 9, 3) := by decide +kernel
theorem dX7_remove_13 : decode cX7_remove 13 = .ok (.aload_n 0, 1) := by decide +kernel
theorem dX7_remove_14 : decode cX7_remove 14 = .ok (.iconst 1, 1) := by decide +kernel
theorem dX7_remove_15 : decode cX7_remove 15 = .ok (.invokevirtual 85, 3) := by decide +kernel
theorem dX7_remove_18 : decode cX7_remove 18 = .ok (.ireturn, 1) := by decide +kernel
theorem dX7_remove_19 : decode cX7_remove 19 = .ok (.aload_n 0, 1) := by decide +kernel
theorem dX7_remove_20 : decode cX7_remove 20 = .ok (.iload_n 1, 1) := by decide +kernel
theorem dX7_remove_21 : decode cX7_remove 21 = .ok (.invokevirtual 214, 3) := by decide +kernel
theorem dX7_remove_24 : decode cX7_remove 24 = .ok (.ifCond .ne 9, 3) := by decide +kernel
theorem dX7_remove_27 : decode cX7_remove 27 = .ok (.aload_n 0, 1) := by decide +kernel
theorem dX7_remove_28 : decode cX7_remove 28 = .ok (.iconst 2, 1) := by decide +kernel
theorem dX7_remove_29 : decode cX7_remove 29 = .ok (.invokevirtual 85, 3) := by decide +kernel
theorem dX7_remove_32 : decode cX7_remove 32 = .ok (.ireturn, 1) := by decide +kernel
theorem dX7_remove_33 : decode cX7_remove 33 = .ok (.aload_n 0, 1) := by decide +kernel
theorem dX7_remove_34 : decode cX7_remove 34 = .ok (.aload_n 0, 1) := by decide +kernel
theorem dX7_remove_35 : decode cX7_remove 35 = .ok (.getfield 40, 3) := by decide +kernel
theorem dX7_remove_38 : decode cX7_remove 38 = .ok (.iload_n 1, 1) := by decide +kernel
theorem dX7_remove_39 : decode cX7_remove 39 = .ok (.iaload, 1) := by decide +kernel
theorem dX7_remove_40 : decode cX7_remove 40 = .ok (.invokevirtual 217, 3) := by decide +kernel
theorem dX7_remove_43 : decode cX7_remove 43 = .ok (.aload_n 0, 1) := by decide +kernel
theorem dX7_remove_44 : decode cX7_remove 44 = .ok (.invokevirtual 68, 3) := by decide +kernel
theorem dX7_remove_47 : decode cX7_remove 47 = .ok (.aload_n 0, 1) := by decide +kernel
theorem dX7_remove_48 : decode cX7_remove 48 = .ok (.getfield 113, 3) := by decide +kernel
theorem dX7_remove_51 : decode cX7_remove 51 = .ok (.ireturn, 1) := by decide +kernel
theorem dX7_isWithin_0 : decode cX7_isWithin 0 = .ok (.iload_n 1, 1) := by decide +kernel
theorem dX7_isWithin_1 : decode cX7_isWithin 1 = .ok (.istore_n 3, 1) := by decide +kernel
theorem dX7_isWithin_2 : decode cX7_isWithin 2 = .ok (.iload_n 3, 1) := by decide +kernel
theorem dX7_isWithin_3 : decode cX7_isWithin 3 = .ok (.iconst (-1), 1) := by decide +kernel
theorem dX7_isWithin_4 : decode cX7_isWithin 4 = .ok (.if_icmp .eq 18, 3) := by decide +kernel
theorem dX7_isWithin_7 : decode cX7_isWithin 7 = .ok (.iload_n 3, 1) := by decide +kernel
theorem dX7_isWithin_8 : decode cX7_isWithin 8 = .ok (.iload_n 2, 1) := by decide +kernel
theorem dX7_isWithin_9 : decode cX7_isWithin 9 = .ok (.if_icmp .eq 13, 3) := by decide +kernel
theorem dX7_isWithin_12 : decode cX7_isWithin 12 = .ok (.aload_n 0, 1) := by decide +kernel
theorem dX7_isWithin_13 : decode cX7_isWithin 13 = .ok (.getfield 16, 3) := by decide +kernel
theorem dX7_isWithin_16 : decode cX7_isWithin 16 = .ok (.iload_n 3, 1) := by decide +kernel
theorem dX7_isWithin_17 : decode cX7_isWithin 17 = .ok (.iaload, 1) := by decide +kernel
theorem dX7_isWithin_18 : decode cX7_isWithin 18 = .ok (.istore_n 3, 1) := by decide +kernel
theorem dX7_isWithin_19 : decode cX7_isWithin 19 = .ok (.goto (-17), 3) := by decide +kernel
theorem dX7_isWithin_22 : decode cX7_isWithin 22 = .ok (.iload_n 3, 1) := by decide +kernel
theorem dX7_isWithin_23 : decode cX7_isWithin 23 = .ok (.iload_n 2, 1) := by decide +kernel
theorem dX7_isWithin_24 : decode cX7_isWithin 24 = .ok (.if_icmp .ne 7, 3) := by decide +kernel
theorem dX7_isWithin_27 : decode cX7_isWithin 27 = .ok (.iconst 1, 1) := by decide +kernel
theorem dX7_isWithin_28 : decode cX7_isWithin 28 = .ok (.goto 4, 3) := by decide +kernel
theorem dX7_isWithin_31 : decode cX7_isWithin 31 = .ok (.iconst 0, 1) := by decide +kernel
theorem dX7_isWithin_32 : decode cX7_isWithin 32 = .ok (.ireturn, 1) := by decide +kernel
theorem dX7_heightOf_0 : decode cX7_heightOf 0 = .ok (.iconst 0, 1) := by decide +kernel
theorem dX7_heightOf_1 : decode cX7_heightOf 1 = .ok (.istore_n 2, 1) := by decide +kernel
theorem dX7_heightOf_2 : decode cX7_heightOf 2 = .ok (.iload_n 1, 1) := by decide +kernel
theorem dX7_heightOf_3 : decode cX7_heightOf 3 = .ok (.istore_n 3, 1) := by decide +kernel
theorem dX7_heightOf_4 : decode cX7_heightOf 4 = .ok (.iload_n 3, 1) := by decide +kernel
theorem dX7_heightOf_5 : decode cX7_heightOf 5 = .ok (.iconst (-1), 1) := by decide +kernel
theorem dX7_heightOf_6 : decode cX7_heightOf 6 = .ok (.if_icmp .eq 52, 3) := by decide +kernel
theorem dX7_heightOf_9 : decode cX7_heightOf 9 = .ok (.aload_n 0, 1) := by decide +kernel
theorem dX7_heightOf_10 : decode cX7_heightOf 10 = .ok (.getfield 13, 3) := by decide +kernel
theorem dX7_heightOf_13 : decode cX7_heightOf 13 = .ok (.iload_n 3, 1) := by decide +kernel
theorem dX7_heightOf_14 : decode cX7_heightOf 14 = .ok (.iaload, 1) := by decide +kernel
theorem dX7_heightOf_15 : decode cX7_heightOf 15 = .ok (.ifCond .eq 13, 3) := by decide +kernel
theorem dX7_heightOf_18 : decode cX7_heightOf 18 = .ok (.aload_n 0, 1) := by decide +kernel
theorem dX7_heightOf_19 : decode cX7_heightOf 19 = .ok (.getfield 13, 3) := by decide +kernel
theorem dX7_heightOf_22 : decode cX7_heightOf 22 = .ok (.iload_n 3, 1) := by decide +kernel
theorem dX7_heightOf_23 : decode cX7_heightOf 23 = .ok (.iaload, 1) := by decide +kernel
theorem dX7_heightOf_24 : decode cX7_heightOf 24 = .ok (.iconst 4, 1) := by decide +kernel
theorem dX7_heightOf_25 : decode cX7_heightOf 25 = .ok (.if_icmp .ne 23, 3) := by decide +kernel
theorem dX7_heightOf_28 : decode cX7_heightOf 28 = .ok (.iload_n 2, 1) := by decide +kernel
theorem dX7_heightOf_29 : decode cX7_heightOf 29 = .ok (.aload_n 0, 1) := by decide +kernel
theorem dX7_heightOf_30 : decode cX7_heightOf 30 = .ok (.iload_n 3, 1) := by decide +kernel
theorem dX7_heightOf_31 : decode cX7_heightOf 31 = .ok (.iconst 1, 1) := by decide +kernel
theorem dX7_heightOf_32 : decode cX7_heightOf 32 = .ok (.invokevirtual 200, 3) := by decide +kernel
theorem dX7_heightOf_35 : decode cX7_heightOf 35 = .ok (.aload_n 0, 1) := by decide +kernel
theorem dX7_heightOf_36 : decode cX7_heightOf 36 = .ok (.iload_n 1, 1) := by decide +kernel
theorem dX7_heightOf_37 : decode cX7_heightOf 37 = .ok (.iconst 1, 1) := by decide +kernel
theorem dX7_heightOf_38 : decode cX7_heightOf 38 = .ok (.invokevirtual 200, 3) := by decide +kernel
theorem dX7_heightOf_41 : decode cX7_heightOf 41 = .ok (.isub, 1) := by decide +kernel
theorem dX7_heightOf_42 : decode cX7_heightOf 42 = .ok (.iconst 1, 1) := by decide +kernel
theorem dX7_heightOf_43 : decode cX7_heightOf 43 = .ok (.iadd, 1) := by decide +kernel
theorem dX7_heightOf_44 : decode cX7_heightOf 44 = .ok (.invokestatic 220, 3) := by decide +kernel
theorem dX7_heightOf_47 : decode cX7_heightOf 47 = .ok (.istore_n 2, 1) := by decide +kernel
theorem dX7_heightOf_48 : decode cX7_heightOf 48 = .ok (.aload_n 0, 1) := by decide +kernel
theorem dX7_heightOf_49 : decode cX7_heightOf 49 = .ok (.iload_n 3, 1) := by decide +kernel
theorem dX7_heightOf_50 : decode cX7_heightOf 50 = .ok (.iload_n 1, 1) := by decide +kernel
theorem dX7_heightOf_51 : decode cX7_heightOf 51 = .ok (.invokevirtual 116, 3) := by decide +kernel
theorem dX7_heightOf_54 : decode cX7_heightOf 54 = .ok (.istore_n 3, 1) := by decide +kernel
theorem dX7_heightOf_55 : decode cX7_heightOf 55 = .ok (.goto (-51), 3) := by decide +kernel
theorem dX7_heightOf_58 : decode cX7_heightOf 58 = .ok (.iload_n 2, 1) := by decide +kernel
theorem dX7_heightOf_59 : decode cX7_heightOf 59 = .ok (.ireturn, 1) := by decide +kernel
theorem dX7_move_0 : decode cX7_move 0 = .ok (.aload_n 0, 1) := by decide +kernel
theorem dX7_move_1 : decode cX7_move 1 = .ok (.iconst 0, 1) := by decide +kernel
theorem dX7_move_2 : decode cX7_move 2 = .ok (.putfield 71, 3) := by decide +kernel
theorem dX7_move_5 : decode cX7_move 5 = .ok (.aload_n 0, 1) := by decide +kernel
theorem dX7_move_6 : decode cX7_move 6 = .ok (.iload_n 1, 1) := by decide +kernel
theorem dX7_move_7 : decode cX7_move 7 = .ok (.invokevirtual 197, 3) := by decide +kernel
theorem dX7_move_10 : decode cX7_move 10 = .ok (.ifCond .eq 11, 3) := by decide +kernel
theorem dX7_move_13 : decode cX7_move 13 = .ok (.aload_n 0, 1) := by decide +kernel
theorem dX7_move_14 : decode cX7_move 14 = .ok (.iload_n 2, 1) := by decide +kernel
theorem dX7_move_15 : decode cX7_move 15 = .ok (.invokevirtual 197, 3) := by decide +kernel
theorem dX7_move_18 : decode cX7_move 18 = .ok (.ifCond .ne 9, 3) := by decide +kernel
theorem dX7_move_21 : decode cX7_move 21 = .ok (.aload_n 0, 1) := by decide +kernel
theorem dX7_move_22 : decode cX7_move 22 = .ok (.iconst 1, 1) := by decide +kernel
theorem dX7_move_23 : decode cX7_move 23 = .ok (.invokevirtual 85, 3) := by decide +kernel
theorem dX7_move_26 : decode cX7_move 26 = .ok (.ireturn, 1) := by decide +kernel
theorem dX7_move_27 : decode cX7_move 27 = .ok (.aload_n 0, 1) := by decide +kernel
theorem dX7_move_28 : decode cX7_move 28 = .ok (.getfield 40, 3) := by decide +kernel
theorem dX7_move_31 : decode cX7_move 31 = .ok (.iload_n 1, 1) := by decide +kernel
theorem dX7_move_32 : decode cX7_move 32 = .ok (.iaload, 1) := by decide +kernel
theorem dX7_move_33 : decode cX7_move 33 = .ok (.istore 4, 2) := by decide +kernel
theorem dX7_move_35 : decode cX7_move 35 = .ok (.aload_n 0, 1) := by decide +kernel
theorem dX7_move_36 : decode cX7_move 36 = .ok (.getfield 40, 3) := by decide +kernel
theorem dX7_move_39 : decode cX7_move 39 = .ok (.iload_n 2, 1) := by decide +kernel
theorem dX7_move_40 : decode cX7_move 40 = .ok (.iaload, 1) := by decide +kernel
theorem dX7_move_41 : decode cX7_move 41 = .ok (.istore 5, 2) := by decide +kernel
theorem dX7_move_43 : decode cX7_move 43 = .ok (.aload_n 0, 1) := by decide +kernel
theorem dX7_move_44 : decode cX7_move 44 = .ok (.getfield 13, 3) := by decide +kernel
theorem dX7_move_47 : decode cX7_move 47 = .ok (.iload 4, 2) := by decide +kernel
theorem dX7_move_49 : decode cX7_move 49 = .ok (.iaload, 1) := by decide +kernel
theorem dX7_move_50 : decode cX7_move 50 = .ok (.iconst 1, 1) := by decide +kernel
theorem dX7_move_51 : decode cX7_move 51 = .ok (.if_icmp .ne 43, 3) := by decide +kernel
theorem dX7_move_54 : decode cX7_move 54 = .ok (.aload_n 0, 1) := by decide +kernel
theorem dX7_move_55 : decode cX7_move 55 = .ok (.getfield 13, 3) := by decide +kernel
theorem dX7_move_58 : decode cX7_move 58 = .ok (.iload 5, 2) := by decide +kernel
theorem dX7_move_60 : decode cX7_move 60 = .ok (.iaload, 1) := by decide +kernel
theorem dX7_move_61 : decode cX7_move 61 = .ok (.ifCond .ne 33, 3) := by decide +kernel
theorem dX7_move_64 : decode cX7_move 64 = .ok (.aload_n 0, 1) := by decide +kernel
theorem dX7_move_65 : decode cX7_move 65 = .ok (.iload 5, 2) := by decide +kernel
theorem dX7_move_67 : decode cX7_move 67 = .ok (.iload 4, 2) := by decide +kernel
theorem dX7_move_69 : decode cX7_move 69 = .ok (.invokevirtual 225, 3) := by decide +kernel
theorem dX7_move_72 : decode cX7_move 72 = .ok (.ifCond .ne 22, 3) := by decide +kernel
theorem dX7_move_75 : decode cX7_move 75 = .ok (.aload_n 0, 1) := by decide +kernel
theorem dX7_move_76 : decode cX7_move 76 = .ok (.iload 5, 2) := by decide +kernel
theorem dX7_move_78 : decode cX7_move 78 = .ok (.iconst 1, 1) := by decide +kernel
theorem dX7_move_79 : decode cX7_move 79 = .ok (.invokevirtual 200, 3) := by decide +kernel
theorem dX7_move_82 : decode cX7_move 82 = .ok (.aload_n 0, 1) := by decide +kernel
theorem dX7_move_83 : decode cX7_move 83 = .ok (.iload 4, 2) := by decide +kernel
theorem dX7_move_85 : decode cX7_move 85 = .ok (.invokevirtual 228, 3) := by decide +kernel
theorem dX7_move_88 : decode cX7_move 88 = .ok (.iadd, 1) := by decide +kernel
theorem dX7_move_89 : decode cX7_move 89 = .ok (.bipush 30, 2) := by decide +kernel
theorem dX7_move_91 : decode cX7_move 91 = .ok (.if_icmp .le 9, 3) := by decide +kernel
theorem dX7_move_94 : decode cX7_move 94 = .ok (.aload_n 0, 1) := by decide +kernel
theorem dX7_move_95 : decode cX7_move 95 = .ok (.iconst 2, 1) := by decide +kernel
theorem dX7_move_96 : decode cX7_move 96 = .ok (.invokevirtual 85, 3) := by decide +kernel
theorem dX7_move_99 : decode cX7_move 99 = .ok (.ireturn, 1) := by decide +kernel
theorem dX7_move_100 : decode cX7_move 100 = .ok (.aload_n 0, 1) := by decide +kernel
theorem dX7_move_101 : decode cX7_move 101 = .ok (.iload 5, 2) := by decide +kernel
theorem dX7_move_103 : decode cX7_move 103 = .ok (.invokevirtual 102, 3) := by decide +kernel
theorem dX7_move_106 : decode cX7_move 106 = .ok (.aload_n 0, 1) := by decide +kernel
theorem dX7_move_107 : decode cX7_move 107 = .ok (.getfield 16, 3) := by decide +kernel
theorem dX7_move_110 : decode cX7_move 110 = .ok (.iload 4, 2) := by decide +kernel
theorem dX7_move_112 : decode cX7_move 112 = .ok (.iaload, 1) := by decide +kernel
theorem dX7_move_113 : decode cX7_move 113 = .ok (.iload 5, 2) := by decide +kernel
theorem dX7_move_115 : decode cX7_move 115 = .ok (.if_icmp .ne 7, 3) := by decide +kernel
theorem dX7_move_118 : decode cX7_move 118 = .ok (.iconst 1, 1) := by decide +kernel
theorem dX7_move_119 : decode cX7_move 119 = .ok (.goto 4, 3) := by decide +kernel
theorem dX7_move_122 : decode cX7_move 122 = .ok (.iconst 0, 1) := by decide +kernel
theorem dX7_move_123 : decode cX7_move 123 = .ok (.isub, 1) := by decide +kernel
theorem dX7_move_124 : decode cX7_move 124 = .ok (.istore 6, 2) := by decide +kernel
theorem dX7_move_126 : decode cX7_move 126 = .ok (.iload_n 3, 1) := by decide +kernel
theorem dX7_move_127 : decode cX7_move 127 = .ok (.ifCond .lt 9, 3) := by decide +kernel
theorem dX7_move_130 : decode cX7_move 130 = .ok (.iload_n 3, 1) := by decide +kernel
theorem dX7_move_131 : decode cX7_move 131 = .ok (.iload 6, 2) := by decide +kernel
theorem dX7_move_133 : decode cX7_move 133 = .ok (.if_icmp .le 9, 3) := by decide +kernel
theorem dX7_move_136 : decode cX7_move 136 = .ok (.aload_n 0, 1) := by decide +kernel
theorem dX7_move_137 : decode cX7_move 137 = .ok (.iconst 2, 1) := by decide +kernel
theorem dX7_move_138 : decode cX7_move 138 = .ok (.invokevirtual 85, 3) := by decide +kernel
theorem dX7_move_141 : decode cX7_move 141 = .ok (.ireturn, 1) := by decide +kernel
theorem dX7_move_142 : decode cX7_move 142 = .ok (.aload_n 0, 1) := by decide +kernel
theorem dX7_move_143 : decode cX7_move 143 = .ok (.iload 4, 2) := by decide +kernel
theorem dX7_move_145 : decode cX7_move 145 = .ok (.invokevirtual 217, 3) := by decide +kernel
theorem dX7_move_148 : decode cX7_move 148 = .ok (.aload_n 0, 1) := by decide +kernel
theorem dX7_move_149 : decode cX7_move 149 = .ok (.iload 4, 2) := by decide +kernel
theorem dX7_move_151 : decode cX7_move 151 = .ok (.iload 5, 2) := by decide +kernel
theorem dX7_move_153 : decode cX7_move 153 = .ok (.iload_n 3, 1) := by decide +kernel
theorem dX7_move_154 : decode cX7_move 154 = .ok (.invokevirtual 105, 3) := by decide +kernel
theorem dX7_move_157 : decode cX7_move 157 = .ok (.aload_n 0, 1) := by decide +kernel
theorem dX7_move_158 : decode cX7_move 158 = .ok (.invokevirtual 68, 3) := by decide +kernel
theorem dX7_move_161 : decode cX7_move 161 = .ok (.aload_n 0, 1) := by decide +kernel
theorem dX7_move_162 : decode cX7_move 162 = .ok (.getfield 43, 3) := by decide +kernel
theorem dX7_move_165 : decode cX7_move 165 = .ok (.iload 4, 2) := by decide +kernel
theorem dX7_move_167 : decode cX7_move 167 = .ok (.iaload, 1) := by decide +kernel
theorem dX7_move_168 : decode cX7_move 168 = .ok (.ireturn, 1) := by decide +kernel
theorem dX7_rename_0 : decode cX7_rename 0 = .ok (.aload_n 0, 1) := by decide +kernel
theorem dX7_rename_1 : decode cX7_rename 1 = .ok (.iconst 0, 1) := by decide +kernel
theorem dX7_rename_2 : decode cX7_rename 2 = .ok (.putfield 71, 3) := by decide +kernel
theorem dX7_rename_5 : decode cX7_rename 5 = .ok (.aload_n 0, 1) := by decide +kernel
theorem dX7_rename_6 : decode cX7_rename 6 = .ok (.iload_n 1, 1) := by decide +kernel
theorem dX7_rename_7 : decode cX7_rename 7 = .ok (.invokevirtual 197, 3) := by decide +kernel
theorem dX7_rename_10 : decode cX7_rename 10 = .ok (.ifCond .ne 9, 3) := by decide +kernel
theorem dX7_rename_13 : decode cX7_rename 13 = .ok (.aload_n 0, 1) := by decide +kernel
theorem dX7_rename_14 : decode cX7_rename 14 = .ok (.iconst 1, 1) := by decide +kernel
theorem dX7_rename_15 : decode cX7_rename 15 = .ok (.invokevirtual 85, 3) := by decide +kernel
theorem dX7_rename_18 : decode cX7_rename 18 = .ok (.ireturn, 1) := by decide +kernel
theorem dX7_rename_19 : decode cX7_rename 19 = .ok (.aload_n 0, 1) := by decide +kernel
theorem dX7_rename_20 : decode cX7_rename 20 = .ok (.lload_n 2, 1) := by decide +kernel
theorem dX7_rename_21 : decode cX7_rename 21 = .ok (.invokevirtual 81, 3) := by decide +kernel
theorem dX7_rename_24 : decode cX7_rename 24 = .ok (.istore 4, 2) := by decide +kernel
theorem dX7_rename_26 : decode cX7_rename 26 = .ok (.iload 4, 2) := by decide +kernel
theorem dX7_rename_28 : decode cX7_rename 28 = .ok (.ifCond .le 19, 3) := by decide +kernel
theorem dX7_rename_31 : decode cX7_rename 31 = .ok (.aload_n 0, 1) := by decide +kernel
theorem dX7_rename_32 : decode cX7_rename 32 = .ok (.getfield 53, 3) := by decide +kernel
theorem dX7_rename_35 : decode cX7_rename 35 = .ok (.iconst 0, 1) := by decide +kernel
theorem dX7_rename_36 : decode cX7_rename 36 = .ok (.iaload, 1) := by decide +kernel
theorem dX7_rename_37 : decode cX7_rename 37 = .ok (.invokestatic 140, 3) := by decide +kernel
theorem dX7_rename_40 : decode cX7_rename 40 = .ok (.ifCond .eq 7, 3) := by decide +kernel
theorem dX7_rename_43 : decode cX7_rename 43 = .ok (.iconst 1, 1) := by decide +kernel
theorem dX7_rename_44 : decode cX7_rename 44 = .ok (.goto 4, 3) := by decide +kernel
theorem dX7_rename_47 : decode cX7_rename 47 = .ok (.iconst 0, 1) := by decide +kernel
theorem dX7_rename_48 : decode cX7_rename 48 = .ok (.istore 5, 2) := by decide +kernel
theorem dX7_rename_50 : decode cX7_rename 50 = .ok (.iconst 0, 1) := by decide +kernel
theorem dX7_rename_51 : decode cX7_rename 51 = .ok (.istore 6, 2) := by decide +kernel
theorem dX7_rename_53 : decode cX7_rename 53 = .ok (.iload 6, 2) := by decide +kernel
theorem dX7_rename_55 : decode cX7_rename 55 = .ok (.iload 4, 2) := by decide +kernel
theorem dX7_rename_57 : decode cX7_rename 57 = .ok (.if_icmp .ge 47, 3) := by decide +kernel
theorem dX7_rename_60 : decode cX7_rename 60 = .ok (.iload 5, 2) := by decide +kernel
theorem dX7_rename_62 : decode cX7_rename 62 = .ok (.ifCond .eq 33, 3) := by decide +kernel
theorem dX7_rename_65 : decode cX7_rename 65 = .ok (.aload_n 0, 1) := by decide +kernel
theorem dX7_rename_66 : decode cX7_rename 66 = .ok (.getfield 53, 3) := by decide +kernel
theorem dX7_rename_69 : decode cX7_rename 69 = .ok (.iload 6, 2) := by decide +kernel
theorem dX7_rename_71 : decode cX7_rename 71 = .ok (.iaload, 1) := by decide +kernel
theorem dX7_rename_72 : decode cX7_rename 72 = .ok (.invokestatic 140, 3) := by decide +kernel
theorem dX7_rename_75 : decode cX7_rename 75 = .ok (.ifCond .ne 16, 3) := by decide +kernel
theorem dX7_rename_78 : decode cX7_rename 78 = .ok (.aload_n 0, 1) := by decide +kernel
theorem dX7_rename_79 : decode cX7_rename 79 = .ok (.getfield 53, 3) := by decide +kernel
theorem dX7_rename_82 : decode cX7_rename 82 = .ok (.iload 6, 2) := by decide +kernel
theorem dX7_rename_84 : decode cX7_rename 84 = .ok (.iaload, 1) := by decide +kernel
theorem dX7_rename_85 : decode cX7_rename 85 = .ok (.invokestatic 144, 3) := by decide +kernel
theorem dX7_rename_88 : decode cX7_rename 88 = .ok (.ifCond .eq 7, 3) := by decide +kernel
theorem dX7_rename_91 : decode cX7_rename 91 = .ok (.iconst 1, 1) := by decide +kernel
theorem dX7_rename_92 : decode cX7_rename 92 = .ok (.goto 4, 3) := by decide +kernel
theorem dX7_rename_95 : decode cX7_rename 95 = .ok (.iconst 0, 1) := by decide +kernel
theorem dX7_rename_96 : decode cX7_rename 96 = .ok (.istore 5, 2) := by decide +kernel
theorem dX7_rename_98 : decode cX7_rename 98 = .ok (.iinc 6 1, 3) := by decide +kernel
theorem dX7_rename_101 : decode cX7_rename 101 = .ok (.goto (-48), 3) := by decide +kernel
theorem dX7_rename_104 : decode cX7_rename 104 = .ok (.aload_n 0, 1) := by decide +kernel
theorem dX7_rename_105 : decode cX7_rename 105 = .ok (.getfield 40, 3) := by decide +kernel
theorem dX7_rename_108 : decode cX7_rename 108 = .ok (.iload_n 1, 1) := by decide +kernel
theorem dX7_rename_109 : decode cX7_rename 109 = .ok (.iaload, 1) := by decide +kernel
theorem dX7_rename_110 : decode cX7_rename 110 = .ok (.istore 6, 2) := by decide +kernel
theorem dX7_rename_112 : decode cX7_rename 112 = .ok (.aload_n 0, 1) := by decide +kernel
theorem dX7_rename_113 : decode cX7_rename 113 = .ok (.getfield 13, 3) := by decide +kernel
theorem dX7_rename_116 : decode cX7_rename 116 = .ok (.iload 6, 2) := by decide +kernel
theorem dX7_rename_118 : decode cX7_rename 118 = .ok (.iaload, 1) := by decide +kernel
theorem dX7_rename_119 : decode cX7_rename 119 = .ok (.iconst 2, 1) := by decide +kernel
theorem dX7_rename_120 : decode cX7_rename 120 = .ok (.if_icmp .ne 8, 3) := by decide +kernel
theorem dX7_rename_123 : decode cX7_rename 123 = .ok (.iload 5, 2) := by decide +kernel
theorem dX7_rename_125 : decode cX7_rename 125 = .ok (.ifCond .ne 9, 3) := by decide +kernel
theorem dX7_rename_128 : decode cX7_rename 128 = .ok (.aload_n 0, 1) := by decide +kernel
theorem dX7_rename_129 : decode cX7_rename 129 = .ok (.iconst 2, 1) := by decide +kernel
theorem dX7_rename_130 : decode cX7_rename 130 = .ok (.invokevirtual 85, 3) := by decide +kernel
theorem dX7_rename_133 : decode cX7_rename 133 = .ok (.ireturn, 1) := by decide +kernel
theorem dX7_rename_134 : decode cX7_rename 134 = .ok (.aload_n 0, 1) := by decide +kernel
theorem dX7_rename_135 : decode cX7_rename 135 = .ok (.getfield 34, 3) := by decide +kernel
theorem dX7_rename_138 : decode cX7_rename 138 = .ok (.iload 6, 2) := by decide +kernel
theorem dX7_rename_140 : decode cX7_rename 140 = .ok (.sipush 600, 3) := by decide +kernel
theorem dX7_rename_143 : decode cX7_rename 143 = .ok (.bipush 8, 2) := by decide +kernel
theorem dX7_rename_145 : decode cX7_rename 145 = .ok (.iload 6, 2) := by decide +kernel
theorem dX7_rename_147 : decode cX7_rename 147 = .ok (.imul, 1) := by decide +kernel
theorem dX7_rename_148 : decode cX7_rename 148 = .ok (.iadd, 1) := by decide +kernel
theorem dX7_rename_149 : decode cX7_rename 149 = .ok (.iastore, 1) := by decide +kernel
theorem dX7_rename_150 : decode cX7_rename 150 = .ok (.aload_n 0, 1) := by decide +kernel
theorem dX7_rename_151 : decode cX7_rename 151 = .ok (.getfield 31, 3) := by decide +kernel
theorem dX7_rename_154 : decode cX7_rename 154 = .ok (.iload 6, 2) := by decide +kernel
theorem dX7_rename_156 : decode cX7_rename 156 = .ok (.iload 4, 2) := by decide +kernel
theorem dX7_rename_158 : decode cX7_rename 158 = .ok (.iastore, 1) := by decide +kernel
theorem dX7_rename_159 : decode cX7_rename 159 = .ok (.iconst 0, 1) := by decide +kernel
theorem dX7_rename_160 : decode cX7_rename 160 = .ok (.istore 7, 2) := by decide +kernel
theorem dX7_rename_162 : decode cX7_rename 162 = .ok (.iload 7, 2) := by decide +kernel
theorem dX7_rename_164 : decode cX7_rename 164 = .ok (.iload 4, 2) := by decide +kernel
theorem dX7_rename_166 : decode cX7_rename 166 = .ok (.if_icmp .ge 31, 3) := by decide +kernel
theorem dX7_rename_169 : decode cX7_rename 169 = .ok (.aload_n 0, 1) := by decide +kernel
theorem dX7_rename_170 : decode cX7_rename 170 = .ok (.getfield 37, 3) := by decide +kernel
theorem dX7_rename_173 : decode cX7_rename 173 = .ok (.aload_n 0, 1) := by decide +kernel
theorem dX7_rename_174 : decode cX7_rename 174 = .ok (.getfield 34, 3) := by decide +kernel
theorem dX7_rename_177 : decode cX7_rename 177 = .ok (.iload 6, 2) := by decide +kernel
theorem dX7_rename_179 : decode cX7_rename 179 = .ok (.iaload, 1) := by decide +kernel
theorem dX7_rename_180 : decode cX7_rename 180 = .ok (.iload 7, 2) := by decide +kernel
theorem dX7_rename_182 : decode cX7_rename 182 = .ok (.iadd, 1) := by decide +kernel
theorem dX7_rename_183 : decode cX7_rename 183 = .ok (.aload_n 0, 1) := by decide +kernel
theorem dX7_rename_184 : decode cX7_rename 184 = .ok (.getfield 53, 3) := by decide +kernel
theorem dX7_rename_187 : decode cX7_rename 187 = .ok (.iload 7, 2) := by decide +kernel
theorem dX7_rename_189 : decode cX7_rename 189 = .ok (.iaload, 1) := by decide +kernel
theorem dX7_rename_190 : decode cX7_rename 190 = .ok (.iastore, 1) := by decide +kernel
theorem dX7_rename_191 : decode cX7_rename 191 = .ok (.iinc 7 1, 3) := by decide +kernel
theorem dX7_rename_194 : decode cX7_rename 194 = .ok (.goto (-32), 3) := by decide +kernel
theorem dX7_rename_197 : decode cX7_rename 197 = .ok (.iload 4, 2) := by decide +kernel
theorem dX7_rename_199 : decode cX7_rename 199 = .ok (.ireturn, 1) := by decide +kernel
theorem dX7_put_0 : decode cX7_put 0 = .ok (.aload_n 0, 1) := by decide +kernel
theorem dX7_put_1 : decode cX7_put 1 = .ok (.getfield 50, 3) := by decide +kernel
theorem dX7_put_4 : decode cX7_put 4 = .ok (.aload_n 0, 1) := by decide +kernel
theorem dX7_put_5 : decode cX7_put 5 = .ok (.getfield 231, 3) := by decide +kernel
theorem dX7_put_8 : decode cX7_put 8 = .ok (.iload_n 1, 1) := by decide +kernel
theorem dX7_put_9 : decode cX7_put 9 = .ok (.iastore, 1) := by decide +kernel
theorem dX7_put_10 : decode cX7_put 10 = .ok (.aload_n 0, 1) := by decide +kernel
theorem dX7_put_11 : decode cX7_put 11 = .ok (.dup, 1) := by decide +kernel
theorem dX7_put_12 : decode cX7_put 12 = .ok (.getfield 231, 3) := by decide +kernel
theorem dX7_put_15 : decode cX7_put 15 = .ok (.iconst 1, 1) := by decide +kernel
theorem dX7_put_16 : decode cX7_put 16 = .ok (.iadd, 1) := by decide +kernel
theorem dX7_put_17 : decode cX7_put 17 = .ok (.putfield 231, 3) := by decide +kernel
theorem dX7_put_20 : decode cX7_put 20 = .ok (.return_, 1) := by decide +kernel
theorem dX7_putNumber_0 : decode cX7_putNumber 0 = .ok (.iload_n 1, 1) := by decide +kernel
theorem dX7_putNumber_1 : decode cX7_putNumber 1 = .ok (.bipush 9, 2) := by decide +kernel
theorem dX7_putNumber_3 : decode cX7_putNumber 3 = .ok (.if_icmp .le 11, 3) := by decide +kernel
theorem dX7_putNumber_6 : decode cX7_putNumber 6 = .ok (.aload_n 0, 1) := by decide +kernel
theorem dX7_putNumber_7 : decode cX7_putNumber 7 = .ok (.iload_n 1, 1) := by decide +kernel
theorem dX7_putNumber_8 : decode cX7_putNumber 8 = .ok (.bipush 10, 2) := by decide +kernel
theorem dX7_putNumber_10 : decode cX7_putNumber 10 = .ok (.idiv, 1) := by decide +kernel
theorem dX7_putNumber_11 : decode cX7_putNumber 11 = .ok (.invokevirtual 234, 3) := by decide +kernel
theorem dX7_putNumber_14 : decode cX7_putNumber 14 = .ok (.aload_n 0, 1) := by decide +kernel
theorem dX7_putNumber_15 : decode cX7_putNumber 15 = .ok (.iload_n 1, 1) := by decide +kernel
theorem dX7_putNumber_16 : decode cX7_putNumber 16 = .ok (.bipush 10, 2) := by decide +kernel
theorem dX7_putNumber_18 : decode cX7_putNumber 18 = .ok (.irem, 1) := by decide +kernel
theorem dX7_putNumber_19 : decode cX7_putNumber 19 = .ok (.bipush 48, 2) := by decide +kernel
theorem dX7_putNumber_21 : decode cX7_putNumber 21 = .ok (.iadd, 1) := by decide +kernel
theorem dX7_putNumber_22 : decode cX7_putNumber 22 = .ok (.invokevirtual 237, 3) := by decide +kernel
theorem dX7_putNumber_25 : decode cX7_putNumber 25 = .ok (.return_, 1) := by decide +kernel
theorem dX7_putAll_0 : decode cX7_putAll 0 = .ok (.aload_n 0, 1) := by decide +kernel
theorem dX7_putAll_1 : decode cX7_putAll 1 = .ok (.getfield 19, 3) := by decide +kernel
theorem dX7_putAll_4 : decode cX7_putAll 4 = .ok (.iload_n 1, 1) := by decide +kernel
theorem dX7_putAll_5 : decode cX7_putAll 5 = .ok (.iaload, 1) := by decide +kernel
theorem dX7_putAll_6 : decode cX7_putAll 6 = .ok (.istore 4, 2) := by decide +kernel
theorem dX7_putAll_8 : decode cX7_putAll 8 = .ok (.iload 4, 2) := by decide +kernel
theorem dX7_putAll_10 : decode cX7_putAll 10 = .ok (.iload_n 3, 1) := by decide +kernel
theorem dX7_putAll_11 : decode cX7_putAll 11 = .ok (.if_icmp .eq 69, 3) := by decide +kernel
theorem dX7_putAll_14 : decode cX7_putAll 14 = .ok (.iload 4, 2) := by decide +kernel
theorem dX7_putAll_16 : decode cX7_putAll 16 = .ok (.aload_n 0, 1) := by decide +kernel
theorem dX7_putAll_17 : decode cX7_putAll 17 = .ok (.getfield 19, 3) := by decide +kernel
theorem dX7_putAll_20 : decode cX7_putAll 20 = .ok (.iload_n 1, 1) := by decide +kernel
theorem dX7_putAll_21 : decode cX7_putAll 21 = .ok (.iaload, 1) := by decide +kernel
theorem dX7_putAll_22 : decode cX7_putAll 22 = .ok (.if_icmp .eq 13, 3) := by decide +kernel
theorem dX7_putAll_25 : decode cX7_putAll 25 = .ok (.iload_n 2, 1) := by decide +kernel
theorem dX7_putAll_26 : decode cX7_putAll 26 = .ok (.ifCond .eq 9, 3) := by decide +kernel
theorem dX7_putAll_29 : decode cX7_putAll 29 = .ok (.aload_n 0, 1) := by decide +kernel
theorem dX7_putAll_30 : decode cX7_putAll 30 = .ok (.bipush 59, 2) := by decide +kernel
theorem dX7_putAll_32 : decode cX7_putAll 32 = .ok (.invokevirtual 237, 3) := by decide +kernel
theorem dX7_putAll_35 : decode cX7_putAll 35 = .ok (.iload 4, 2) := by decide +kernel
theorem dX7_putAll_37 : decode cX7_putAll 37 = .ok (.aload_n 0, 1) := by decide +kernel
theorem dX7_putAll_38 : decode cX7_putAll 38 = .ok (.getfield 19, 3) := by decide +kernel
theorem dX7_putAll_41 : decode cX7_putAll 41 = .ok (.iload_n 1, 1) := by decide +kernel
theorem dX7_putAll_42 : decode cX7_putAll 42 = .ok (.iaload, 1) := by decide +kernel
theorem dX7_putAll_43 : decode cX7_putAll 43 = .ok (.if_icmp .eq 19, 3) := by decide +kernel
theorem dX7_putAll_46 : decode cX7_putAll 46 = .ok (.aload_n 0, 1) := by decide +kernel
theorem dX7_putAll_47 : decode cX7_putAll 47 = .ok (.getfield 13, 3) := by decide +kernel
theorem dX7_putAll_50 : decode cX7_putAll 50 = .ok (.iload 4, 2) := by decide +kernel
theorem dX7_putAll_52 : decode cX7_putAll 52 = .ok (.iaload, 1) := by decide +kernel
theorem dX7_putAll_53 : decode cX7_putAll 53 = .ok (.ifCond .eq 9, 3) := by decide +kernel
theorem dX7_putAll_56 : decode cX7_putAll 56 = .ok (.aload_n 0, 1) := by decide +kernel
theorem dX7_putAll_57 : decode cX7_putAll 57 = .ok (.bipush 32, 2) := by decide +kernel
theorem dX7_putAll_59 : decode cX7_putAll 59 = .ok (.invokevirtual 237, 3) := by decide +kernel
theorem dX7_putAll_62 : decode cX7_putAll 62 = .ok (.aload_n 0, 1) := by decide +kernel
theorem dX7_putAll_63 : decode cX7_putAll 63 = .ok (.iload 4, 2) := by decide +kernel
theorem dX7_putAll_65 : decode cX7_putAll 65 = .ok (.invokevirtual 240, 3) := by decide +kernel
theorem dX7_putAll_68 : decode cX7_putAll 68 = .ok (.aload_n 0, 1) := by decide +kernel
theorem dX7_putAll_69 : decode cX7_putAll 69 = .ok (.getfield 22, 3) := by decide +kernel
theorem dX7_putAll_72 : decode cX7_putAll 72 = .ok (.iload 4, 2) := by decide +kernel
theorem dX7_putAll_74 : decode cX7_putAll 74 = .ok (.iaload, 1) := by decide +kernel
theorem dX7_putAll_75 : decode cX7_putAll 75 = .ok (.istore 4, 2) := by decide +kernel
theorem dX7_putAll_77 : decode cX7_putAll 77 = .ok (.goto (-69), 3) := by decide +kernel
theorem dX7_putAll_80 : decode cX7_putAll 80 = .ok (.return_, 1) := by decide +kernel
theorem dX7_putNode_0 : decode cX7_putNode 0 = .ok (.aload_n 0, 1) := by decide +kernel
theorem dX7_putNode_1 : decode cX7_putNode 1 = .ok (.getfield 13, 3) := by decide +kernel
theorem dX7_putNode_4 : decode cX7_putNode 4 = .ok (.iload_n 1, 1) := by decide +kernel
theorem dX7_putNode_5 : decode cX7_putNode 5 = .ok (.iaload, 1) := by decide +kernel
theorem dX7_putNode_6 : decode cX7_putNode 6 = .ok (.iconst 2, 1) := by decide +kernel
theorem dX7_putNode_7 : decode cX7_putNode 7 = .ok (.if_icmp .ne 38, 3) := by decide +kernel
theorem dX7_putNode_10 : decode cX7_putNode 10 = .ok (.iconst 0, 1) := by decide +kernel
theorem dX7_putNode_11 : decode cX7_putNode 11 = .ok (.istore_n 2, 1) := by decide +kernel
theorem dX7_putNode_12 : decode cX7_putNode 12 = .ok (.iload_n 2, 1) := by decide +kernel
theorem dX7_putNode_13 : decode cX7_putNode 13 = .ok (.aload_n 0, 1) := by decide +kernel
theorem dX7_putNode_14 : decode cX7_putNode 14 = .ok (.getfield 31, 3) := by decide +kernel
theorem dX7_putNode_17 : decode cX7_putNode 17 = .ok (.iload_n 1, 1) := by decide +kernel
theorem dX7_putNode_18 : decode cX7_putNode 18 = .ok (.iaload, 1) := by decide +kernel
theorem dX7_putNode_19 : decode cX7_putNode 19 = .ok (.if_icmp .ge 26, 3) := by decide +kernel
theorem dX7_putNode_22 : decode cX7_putNode 22 = .ok (.aload_n 0, 1) := by decide +kernel
theorem dX7_putNode_23 : decode cX7_putNode 23 = .ok (.aload_n 0, 1) := by decide +kernel
theorem dX7_putNode_24 : decode cX7_putNode 24 = .ok (.getfield 37, 3) := by decide +kernel
theorem dX7_putNode_27 : decode cX7_putNode 27 = .ok (.aload_n 0, 1) := by decide +kernel
theorem dX7_putNode_28 : decode cX7_putNode 28 = .ok (.getfield 34, 3) := by decide +kernel
theorem dX7_putNode_31 : decode cX7_putNode 31 = .ok (.iload_n 1, 1) := by decide +kernel
theorem dX7_putNode_32 : decode cX7_putNode 32 = .ok (.iaload, 1) := by decide +kernel
theorem dX7_putNode_33 : decode cX7_putNode 33 = .ok (.iload_n 2, 1) := by decide +kernel
theorem dX7_putNode_34 : decode cX7_putNode 34 = .ok (.iadd, 1) := by decide +kernel
theorem dX7_putNode_35 : decode cX7_putNode 35 = .ok (.iaload, 1) := by decide +kernel
theorem dX7_putNode_36 : decode cX7_putNode 36 = .ok (.invokevirtual 237, 3) := by decide +kernel
theorem dX7_putNode_39 : decode cX7_putNode 39 = .ok (.iinc 2 1, 3) := by decide +kernel
theorem dX7_putNode_42 : decode cX7_putNode 42 = .ok (.goto (-30), 3) := by decide +kernel
theorem dX7_putNode_45 : decode cX7_putNode 45 = .ok (.aload_n 0, 1) := by decide +kernel
theorem dX7_putNode_46 : decode cX7_putNode 46 = .ok (.getfield 13, 3) := by decide +kernel
theorem dX7_putNode_49 : decode cX7_putNode 49 = .ok (.iload_n 1, 1) := by decide +kernel
theorem dX7_putNode_50 : decode cX7_putNode 50 = .ok (.iaload, 1) := by decide +kernel
theorem dX7_putNode_51 : decode cX7_putNode 51 = .ok (.iconst 3, 1) := by decide +kernel
theorem dX7_putNode_52 : decode cX7_putNode 52 = .ok (.if_icmp .ne 13, 3) := by decide +kernel
theorem dX7_putNode_55 : decode cX7_putNode 55 = .ok (.aload_n 0, 1) := by decide +kernel
theorem dX7_putNode_56 : decode cX7_putNode 56 = .ok (.aload_n 0, 1) := by decide +kernel
theorem dX7_putNode_57 : decode cX7_putNode 57 = .ok (.getfield 31, 3) := by decide +kernel
theorem dX7_putNode_60 : decode cX7_putNode 60 = .ok (.iload_n 1, 1) := by decide +kernel
theorem dX7_putNode_61 : decode cX7_putNode 61 = .ok (.iaload, 1) := by decide +kernel
theorem dX7_putNode_62 : decode cX7_putNode 62 = .ok (.invokevirtual 234, 3) := by decide +kernel
theorem dX7_putNode_65 : decode cX7_putNode 65 = .ok (.aload_n 0, 1) := by decide +kernel
theorem dX7_putNode_66 : decode cX7_putNode 66 = .ok (.getfield 13, 3) := by decide +kernel
theorem dX7_putNode_69 : decode cX7_putNode 69 = .ok (.iload_n 1, 1) := by decide +kernel
theorem dX7_putNode_70 : decode cX7_putNode 70 = .ok (.iaload, 1) := by decide +kernel
theorem dX7_putNode_71 : decode cX7_putNode 71 = .ok (.iconst 1, 1) := by decide +kernel
theorem dX7_putNode_72 : decode cX7_putNode 72 = .ok (.if_icmp .ne 10, 3) := by decide +kernel
theorem dX7_putNode_75 : decode cX7_putNode 75 = .ok (.aload_n 0, 1) := by decide +kernel
theorem dX7_putNode_76 : decode cX7_putNode 76 = .ok (.iload_n 1, 1) := by decide +kernel
theorem dX7_putNode_77 : decode cX7_putNode 77 = .ok (.iconst 0, 1) := by decide +kernel
theorem dX7_putNode_78 : decode cX7_putNode 78 = .ok (.iconst (-1), 1) := by decide +kernel
theorem dX7_putNode_79 : decode cX7_putNode 79 = .ok (.invokevirtual 243, 3) := by decide +kernel
theorem dX7_putNode_82 : decode cX7_putNode 82 = .ok (.aload_n 0, 1) := by decide +kernel
theorem dX7_putNode_83 : decode cX7_putNode 83 = .ok (.getfield 13, 3) := by decide +kernel
theorem dX7_putNode_86 : decode cX7_putNode 86 = .ok (.iload_n 1, 1) := by decide +kernel
theorem dX7_putNode_87 : decode cX7_putNode 87 = .ok (.iaload, 1) := by decide +kernel
theorem dX7_putNode_88 : decode cX7_putNode 88 = .ok (.iconst 4, 1) := by decide +kernel
theorem dX7_putNode_89 : decode cX7_putNode 89 = .ok (.if_icmp .ne 22, 3) := by decide +kernel
theorem dX7_putNode_92 : decode cX7_putNode 92 = .ok (.aload_n 0, 1) := by decide +kernel
theorem dX7_putNode_93 : decode cX7_putNode 93 = .ok (.bipush 40, 2) := by decide +kernel
theorem dX7_putNode_95 : decode cX7_putNode 95 = .ok (.invokevirtual 237, 3) := by decide +kernel
theorem dX7_putNode_98 : decode cX7_putNode 98 = .ok (.aload_n 0, 1) := by decide +kernel
theorem dX7_putNode_99 : decode cX7_putNode 99 = .ok (.iload_n 1, 1) := by decide +kernel
theorem dX7_putNode_100 : decode cX7_putNode 100 = .ok (.iconst 0, 1) := by decide +kernel
theorem dX7_putNode_101 : decode cX7_putNode 101 = .ok (.iconst (-1), 1) := by decide +kernel
theorem dX7_putNode_102 : decode cX7_putNode 102 = .ok (.invokevirtual 243, 3) := by decide +kernel
theorem dX7_putNode_105 : decode cX7_putNode 105 = .ok (.aload_n 0, 1) := by decide +kernel
theorem dX7_putNode_106 : decode cX7_putNode 106 = .ok (.bipush 41, 2) := by decide +kernel
theorem dX7_putNode_108 : decode cX7_putNode 108 = .ok (.invokevirtual 237, 3) := by decide +kernel
theorem dX7_putNode_111 : decode cX7_putNode 111 = .ok (.aload_n 0, 1) := by decide +kernel
theorem dX7_putNode_112 : decode cX7_putNode 112 = .ok (.getfield 13, 3) := by decide +kernel
theorem dX7_putNode_115 : decode cX7_putNode 115 = .ok (.iload_n 1, 1) := by decide +kernel
theorem dX7_putNode_116 : decode cX7_putNode 116 = .ok (.iaload, 1) := by decide +kernel
theorem dX7_putNode_117 : decode cX7_putNode 117 = .ok (.ifCond .eq 4, 3) := by decide +kernel
theorem dX7_putNode_120 : decode cX7_putNode 120 = .ok (.return_, 1) := by decide +kernel
theorem dX7_putNode_121 : decode cX7_putNode 121 = .ok (.aload_n 0, 1) := by decide +kernel
theorem dX7_putNode_122 : decode cX7_putNode 122 = .ok (.bipush 58, 2) := by decide +kernel
theorem dX7_putNode_124 : decode cX7_putNode 124 = .ok (.invokevirtual 237, 3) := by decide +kernel
theorem dX7_putNode_127 : decode cX7_putNode 127 = .ok (.aload_n 0, 1) := by decide +kernel
theorem dX7_putNode_128 : decode cX7_putNode 128 = .ok (.bipush 32, 2) := by decide +kernel
theorem dX7_putNode_130 : decode cX7_putNode 130 = .ok (.invokevirtual 237, 3) := by decide +kernel
theorem dX7_putNode_133 : decode cX7_putNode 133 = .ok (.aload_n 0, 1) := by decide +kernel
theorem dX7_putNode_134 : decode cX7_putNode 134 = .ok (.bipush 123, 2) := by decide +kernel
theorem dX7_putNode_136 : decode cX7_putNode 136 = .ok (.invokevirtual 237, 3) := by decide +kernel
theorem dX7_putNode_139 : decode cX7_putNode 139 = .ok (.aload_n 0, 1) := by decide +kernel
theorem dX7_putNode_140 : decode cX7_putNode 140 = .ok (.getfield 19, 3) := by decide +kernel
theorem dX7_putNode_143 : decode cX7_putNode 143 = .ok (.iload_n 1, 1) := by decide +kernel
theorem dX7_putNode_144 : decode cX7_putNode 144 = .ok (.iaload, 1) := by decide +kernel
theorem dX7_putNode_145 : decode cX7_putNode 145 = .ok (.iconst (-1), 1) := by decide +kernel
theorem dX7_putNode_146 : decode cX7_putNode 146 = .ok (.if_icmp .eq 9, 3) := by decide +kernel
theorem dX7_putNode_149 : decode cX7_putNode 149 = .ok (.aload_n 0, 1) := by decide +kernel
theorem dX7_putNode_150 : decode cX7_putNode 150 = .ok (.bipush 32, 2) := by decide +kernel
theorem dX7_putNode_152 : decode cX7_putNode 152 = .ok (.invokevirtual 237, 3) := by decide +kernel
theorem dX7_putNode_155 : decode cX7_putNode 155 = .ok (.aload_n 0, 1) := by decide +kernel
theorem dX7_putNode_156 : decode cX7_putNode 156 = .ok (.iload_n 1, 1) := by decide +kernel
theorem dX7_putNode_157 : decode cX7_putNode 157 = .ok (.iconst 1, 1) := by decide +kernel
theorem dX7_putNode_158 : decode cX7_putNode 158 = .ok (.iconst (-1), 1) := by decide +kernel
theorem dX7_putNode_159 : decode cX7_putNode 159 = .ok (.invokevirtual 243, 3) := by decide +kernel
theorem dX7_putNode_162 : decode cX7_putNode 162 = .ok (.aload_n 0, 1) := by decide +kernel
theorem dX7_putNode_163 : decode cX7_putNode 163 = .ok (.bipush 32, 2) := by decide +kernel
theorem dX7_putNode_165 : decode cX7_putNode 165 = .ok (.invokevirtual 237, 3) := by decide +kernel
theorem dX7_putNode_168 : decode cX7_putNode 168 = .ok (.aload_n 0, 1) := by decide +kernel
theorem dX7_putNode_169 : decode cX7_putNode 169 = .ok (.bipush 125, 2) := by decide +kernel
theorem dX7_putNode_171 : decode cX7_putNode 171 = .ok (.invokevirtual 237, 3) := by decide +kernel
theorem dX7_putNode_174 : decode cX7_putNode 174 = .ok (.return_, 1) := by decide +kernel
theorem dX7_lastOf_0 : decode cX7_lastOf 0 = .ok (.aload_n 0, 1) := by decide +kernel
theorem dX7_lastOf_1 : decode cX7_lastOf 1 = .ok (.iload_n 1, 1) := by decide +kernel
theorem dX7_lastOf_2 : decode cX7_lastOf 2 = .ok (.aload_n 0, 1) := by decide +kernel
theorem dX7_lastOf_3 : decode cX7_lastOf 3 = .ok (.iload_n 1, 1) := by decide +kernel
theorem dX7_lastOf_4 : decode cX7_lastOf 4 = .ok (.invokevirtual 102, 3) := by decide +kernel
theorem dX7_lastOf_7 : decode cX7_lastOf 7 = .ok (.iconst 1, 1) := by decide +kernel
theorem dX7_lastOf_8 : decode cX7_lastOf 8 = .ok (.isub, 1) := by decide +kernel
theorem dX7_lastOf_9 : decode cX7_lastOf 9 = .ok (.invokevirtual 109, 3) := by decide +kernel
theorem dX7_lastOf_12 : decode cX7_lastOf 12 = .ok (.ireturn, 1) := by decide +kernel
theorem dX7_putLine_0 : decode cX7_putLine 0 = .ok (.iconst 0, 1) := by decide +kernel
theorem dX7_putLine_1 : decode cX7_putLine 1 = .ok (.istore 4, 2) := by decide +kernel
theorem dX7_putLine_3 : decode cX7_putLine 3 = .ok (.iload 4, 2) := by decide +kernel
theorem dX7_putLine_5 : decode cX7_putLine 5 = .ok (.iload_n 2, 1) := by decide +kernel
theorem dX7_putLine_6 : decode cX7_putLine 6 = .ok (.if_icmp .ge 15, 3) := by decide +kernel
theorem dX7_putLine_9 : decode cX7_putLine 9 = .ok (.aload_n 0, 1) := by decide +kernel
theorem dX7_putLine_10 : decode cX7_putLine 10 = .ok (.bipush 32, 2) := by decide +kernel
theorem dX7_putLine_12 : decode cX7_putLine 12 = .ok (.invokevirtual 237, 3) := by decide +kernel
theorem dX7_putLine_15 : decode cX7_putLine 15 = .ok (.iinc 4 1, 3) := by decide +kernel
theorem dX7_putLine_18 : decode cX7_putLine 18 = .ok (.goto (-15), 3) := by decide +kernel
theorem dX7_putLine_21 : decode cX7_putLine 21 = .ok (.aload_n 0, 1) := by decide +kernel
theorem dX7_putLine_22 : decode cX7_putLine 22 = .ok (.iload_n 1, 1) := by decide +kernel
theorem dX7_putLine_23 : decode cX7_putLine 23 = .ok (.invokevirtual 247, 3) := by decide +kernel
theorem dX7_putLine_26 : decode cX7_putLine 26 = .ok (.istore 4, 2) := by decide +kernel
theorem dX7_putLine_28 : decode cX7_putLine 28 = .ok (.iload_n 3, 1) := by decide +kernel
theorem dX7_putLine_29 : decode cX7_putLine 29 = .ok (.ifCond .eq 17, 3) := by decide +kernel
theorem dX7_putLine_32 : decode cX7_putLine 32 = .ok (.aload_n 0, 1) := by decide +kernel
theorem dX7_putLine_33 : decode cX7_putLine 33 = .ok (.getfield 13, 3) := by decide +kernel
theorem dX7_putLine_36 : decode cX7_putLine 36 = .ok (.iload 4, 2) := by decide +kernel
theorem dX7_putLine_38 : decode cX7_putLine 38 = .ok (.iaload, 1) := by decide +kernel
theorem dX7_putLine_39 : decode cX7_putLine 39 = .ok (.ifCond .ne 7, 3) := by decide +kernel
theorem dX7_putLine_42 : decode cX7_putLine 42 = .ok (.iconst 1, 1) := by decide +kernel
theorem dX7_putLine_43 : decode cX7_putLine 43 = .ok (.goto 4, 3) := by decide +kernel
theorem dX7_putLine_46 : decode cX7_putLine 46 = .ok (.iconst 0, 1) := by decide +kernel
theorem dX7_putLine_47 : decode cX7_putLine 47 = .ok (.istore 5, 2) := by decide +kernel
theorem dX7_putLine_49 : decode cX7_putLine 49 = .ok (.aload_n 0, 1) := by decide +kernel
theorem dX7_putLine_50 : decode cX7_putLine 50 = .ok (.iload_n 1, 1) := by decide +kernel
theorem dX7_putLine_51 : decode cX7_putLine 51 = .ok (.iconst 0, 1) := by decide +kernel
theorem dX7_putLine_52 : decode cX7_putLine 52 = .ok (.iload 5, 2) := by decide +kernel
theorem dX7_putLine_54 : decode cX7_putLine 54 = .ok (.ifCond .eq 8, 3) := by decide +kernel
theorem dX7_putLine_57 : decode cX7_putLine 57 = .ok (.iload 4, 2) := by decide +kernel
theorem dX7_putLine_59 : decode cX7_putLine 59 = .ok (.goto 4, 3) := by decide +kernel
theorem dX7_putLine_62 : decode cX7_putLine 62 = .ok (.iconst (-1), 1) := by decide +kernel
theorem dX7_putLine_63 : decode cX7_putLine 63 = .ok (.invokevirtual 243, 3) := by decide +kernel
theorem dX7_putLine_66 : decode cX7_putLine 66 = .ok (.iload 5, 2) := by decide +kernel
theorem dX7_putLine_68 : decode cX7_putLine 68 = .ok (.ifCond .eq 9, 3) := by decide +kernel
theorem dX7_putLine_71 : decode cX7_putLine 71 = .ok (.aload_n 0, 1) := by decide +kernel
theorem dX7_putLine_72 : decode cX7_putLine 72 = .ok (.bipush 58, 2) := by decide +kernel
theorem dX7_putLine_74 : decode cX7_putLine 74 = .ok (.invokevirtual 237, 3) := by decide +kernel
theorem dX7_putLine_77 : decode cX7_putLine 77 = .ok (.aload_n 0, 1) := by decide +kernel
theorem dX7_putLine_78 : decode cX7_putLine 78 = .ok (.bipush 10, 2) := by decide +kernel
theorem dX7_putLine_80 : decode cX7_putLine 80 = .ok (.invokevirtual 237, 3) := by decide +kernel
theorem dX7_putLine_83 : decode cX7_putLine 83 = .ok (.iload 5, 2) := by decide +kernel
theorem dX7_putLine_85 : decode cX7_putLine 85 = .ok (.ifCond .eq 40, 3) := by decide +kernel
theorem dX7_putLine_88 : decode cX7_putLine 88 = .ok (.aload_n 0, 1) := by decide +kernel
theorem dX7_putLine_89 : decode cX7_putLine 89 = .ok (.getfield 19, 3) := by decide +kernel
theorem dX7_putLine_92 : decode cX7_putLine 92 = .ok (.iload 4, 2) := by decide +kernel
theorem dX7_putLine_94 : decode cX7_putLine 94 = .ok (.iaload, 1) := by decide +kernel
theorem dX7_putLine_95 : decode cX7_putLine 95 = .ok (.istore 6, 2) := by decide +kernel
theorem dX7_putLine_97 : decode cX7_putLine 97 = .ok (.iload 6, 2) := by decide +kernel
theorem dX7_putLine_99 : decode cX7_putLine 99 = .ok (.iconst (-1), 1) := by decide +kernel
theorem dX7_putLine_100 : decode cX7_putLine 100 = .ok (.if_icmp .eq 25, 3) := by decide +kernel
theorem dX7_putLine_103 : decode cX7_putLine 103 = .ok (.aload_n 0, 1) := by decide +kernel
theorem dX7_putLine_104 : decode cX7_putLine 104 = .ok (.iload 6, 2) := by decide +kernel
theorem dX7_putLine_106 : decode cX7_putLine 106 = .ok (.iload_n 2, 1) := by decide +kernel
theorem dX7_putLine_107 : decode cX7_putLine 107 = .ok (.iconst 2, 1) := by decide +kernel
theorem dX7_putLine_108 : decode cX7_putLine 108 = .ok (.iadd, 1) := by decide +kernel
theorem dX7_putLine_109 : decode cX7_putLine 109 = .ok (.iconst 1, 1) := by decide +kernel
theorem dX7_putLine_110 : decode cX7_putLine 110 = .ok (.invokevirtual 250, 3) := by decide +kernel
theorem dX7_putLine_113 : decode cX7_putLine 113 = .ok (.aload_n 0, 1) := by decide +kernel
theorem dX7_putLine_114 : decode cX7_putLine 114 = .ok (.getfield 22, 3) := by decide +kernel
theorem dX7_putLine_117 : decode cX7_putLine 117 = .ok (.iload 6, 2) := by decide +kernel
theorem dX7_putLine_119 : decode cX7_putLine 119 = .ok (.iaload, 1) := by decide +kernel
theorem dX7_putLine_120 : decode cX7_putLine 120 = .ok (.istore 6, 2) := by decide +kernel
theorem dX7_putLine_122 : decode cX7_putLine 122 = .ok (.goto (-25), 3) := by decide +kernel
theorem dX7_putLine_125 : decode cX7_putLine 125 = .ok (.return_, 1) := by decide +kernel
theorem dX7_write_0 : decode cX7_write 0 = .ok (.aload_n 0, 1) := by decide +kernel
theorem dX7_write_1 : decode cX7_write 1 = .ok (.iconst 0, 1) := by decide +kernel
theorem dX7_write_2 : decode cX7_write 2 = .ok (.putfield 71, 3) := by decide +kernel
theorem dX7_write_5 : decode cX7_write 5 = .ok (.aload_n 0, 1) := by decide +kernel
theorem dX7_write_6 : decode cX7_write 6 = .ok (.iconst 0, 1) := by decide +kernel
theorem dX7_write_7 : decode cX7_write 7 = .ok (.putfield 231, 3) := by decide +kernel
theorem dX7_write_10 : decode cX7_write 10 = .ok (.aload_n 0, 1) := by decide +kernel
theorem dX7_write_11 : decode cX7_write 11 = .ok (.getfield 19, 3) := by decide +kernel
theorem dX7_write_14 : decode cX7_write 14 = .ok (.iconst 0, 1) := by decide +kernel
theorem dX7_write_15 : decode cX7_write 15 = .ok (.iaload, 1) := by decide +kernel
theorem dX7_write_16 : decode cX7_write 16 = .ok (.istore_n 2, 1) := by decide +kernel
theorem dX7_write_17 : decode cX7_write 17 = .ok (.iload_n 2, 1) := by decide +kernel
theorem dX7_write_18 : decode cX7_write 18 = .ok (.iconst (-1), 1) := by decide +kernel
theorem dX7_write_19 : decode cX7_write 19 = .ok (.if_icmp .eq 20, 3) := by decide +kernel
theorem dX7_write_22 : decode cX7_write 22 = .ok (.aload_n 0, 1) := by decide +kernel
theorem dX7_write_23 : decode cX7_write 23 = .ok (.iload_n 2, 1) := by decide +kernel
theorem dX7_write_24 : decode cX7_write 24 = .ok (.iconst 0, 1) := by decide +kernel
theorem dX7_write_25 : decode cX7_write 25 = .ok (.iload_n 1, 1) := by decide +kernel
theorem dX7_write_26 : decode cX7_write 26 = .ok (.invokevirtual 250, 3) := by decide +kernel
theorem dX7_write_29 : decode cX7_write 29 = .ok (.aload_n 0, 1) := by decide +kernel
theorem dX7_write_30 : decode cX7_write 30 = .ok (.getfield 22, 3) := by decide +kernel
theorem dX7_write_33 : decode cX7_write 33 = .ok (.iload_n 2, 1) := by decide +kernel
theorem dX7_write_34 : decode cX7_write 34 = .ok (.iaload, 1) := by decide +kernel
theorem dX7_write_35 : decode cX7_write 35 = .ok (.istore_n 2, 1) := by decide +kernel
theorem dX7_write_36 : decode cX7_write 36 = .ok (.goto (-19), 3) := by decide +kernel
theorem dX7_write_39 : decode cX7_write 39 = .ok (.aload_n 0, 1) := by decide +kernel
theorem dX7_write_40 : decode cX7_write 40 = .ok (.getfield 231, 3) := by decide +kernel
theorem dX7_write_43 : decode cX7_write 43 = .ok (.ireturn, 1) := by decide +kernel
theorem dX7_written_0 : decode cX7_written 0 = .ok (.aload_n 0, 1) := by decide +kernel
theorem dX7_written_1 : decode cX7_written 1 = .ok (.iconst 0, 1) := by decide +kernel
theorem dX7_written_2 : decode cX7_written 2 = .ok (.putfield 71, 3) := by decide +kernel
theorem dX7_written_5 : decode cX7_written 5 = .ok (.iload_n 1, 1) := by decide +kernel
theorem dX7_written_6 : decode cX7_written 6 = .ok (.ifCond .lt 20, 3) := by decide +kernel
theorem dX7_written_9 : decode cX7_written 9 = .ok (.iload_n 1, 1) := by decide +kernel
theorem dX7_written_10 : decode cX7_written 10 = .ok (.aload_n 0, 1) := by decide +kernel
theorem dX7_written_11 : decode cX7_written 11 = .ok (.getfield 231, 3) := by decide +kernel
theorem dX7_written_14 : decode cX7_written 14 = .ok (.if_icmp .ge 12, 3) := by decide +kernel
theorem dX7_written_17 : decode cX7_written 17 = .ok (.aload_n 0, 1) := by decide +kernel
theorem dX7_written_18 : decode cX7_written 18 = .ok (.getfield 50, 3) := by decide +kernel
theorem dX7_written_21 : decode cX7_written 21 = .ok (.iload_n 1, 1) := by decide +kernel
theorem dX7_written_22 : decode cX7_written 22 = .ok (.iaload, 1) := by decide +kernel
theorem dX7_written_23 : decode cX7_written 23 = .ok (.goto 8, 3) := by decide +kernel
theorem dX7_written_26 : decode cX7_written 26 = .ok (.aload_n 0, 1) := by decide +kernel
theorem dX7_written_27 : decode cX7_written 27 = .ok (.iconst 1, 1) := by decide +kernel
theorem dX7_written_28 : decode cX7_written 28 = .ok (.invokevirtual 85, 3) := by decide +kernel
theorem dX7_written_31 : decode cX7_written 31 = .ok (.ireturn, 1) := by decide +kernel
theorem dX7_digest_0 : decode cX7_digest 0 = .ok (.aload_n 0, 1) := by decide +kernel
theorem dX7_digest_1 : decode cX7_digest 1 = .ok (.iconst 0, 1) := by decide +kernel
theorem dX7_digest_2 : decode cX7_digest 2 = .ok (.putfield 71, 3) := by decide +kernel
theorem dX7_digest_5 : decode cX7_digest 5 = .ok (.ldc2_w 254, 3) := by decide +kernel
theorem dX7_digest_8 : decode cX7_digest 8 = .ok (.aload_n 0, 1) := by decide +kernel
theorem dX7_digest_9 : decode cX7_digest 9 = .ok (.getfield 89, 3) := by decide +kernel
theorem dX7_digest_12 : decode cX7_digest 12 = .ok (.i2l, 1) := by decide +kernel
theorem dX7_digest_13 : decode cX7_digest 13 = .ok (.ladd, 1) := by decide +kernel
theorem dX7_digest_14 : decode cX7_digest 14 = .ok (.ldc2_w 256, 3) := by decide +kernel
theorem dX7_digest_17 : decode cX7_digest 17 = .ok (.lmul, 1) := by decide +kernel
theorem dX7_digest_18 : decode cX7_digest 18 = .ok (.aload_n 0, 1) := by decide +kernel
theorem dX7_digest_19 : decode cX7_digest 19 = .ok (.getfield 113, 3) := by decide +kernel
theorem dX7_digest_22 : decode cX7_digest 22 = .ok (.i2l, 1) := by decide +kernel
theorem dX7_digest_23 : decode cX7_digest 23 = .ok (.ladd, 1) := by decide +kernel
theorem dX7_digest_24 : decode cX7_digest 24 = .ok (.lstore_n 1, 1) := by decide +kernel
theorem dX7_digest_25 : decode cX7_digest 25 = .ok (.iconst 0, 1) := by decide +kernel
theorem dX7_digest_26 : decode cX7_digest 26 = .ok (.istore_n 3, 1) := by decide +kernel
theorem dX7_digest_27 : decode cX7_digest 27 = .ok (.iload_n 3, 1) := by decide +kernel
theorem dX7_digest_28 : decode cX7_digest 28 = .ok (.aload_n 0, 1) := by decide +kernel
theorem dX7_digest_29 : decode cX7_digest 29 = .ok (.getfield 113, 3) := by decide +kernel
theorem dX7_digest_32 : decode cX7_digest 32 = .ok (.if_icmp .ge 112, 3) := by decide +kernel
theorem dX7_digest_35 : decode cX7_digest 35 = .ok (.aload_n 0, 1) := by decide +kernel
theorem dX7_digest_36 : decode cX7_digest 36 = .ok (.getfield 40, 3) := by decide +kernel
theorem dX7_digest_39 : decode cX7_digest 39 = .ok (.iload_n 3, 1) := by decide +kernel
theorem dX7_digest_40 : decode cX7_digest 40 = .ok (.iaload, 1) := by decide +kernel
theorem dX7_digest_41 : decode cX7_digest 41 = .ok (.istore 4, 2) := by decide +kernel
theorem dX7_digest_43 : decode cX7_digest 43 = .ok (.lload_n 1, 1) := by decide +kernel
theorem dX7_digest_44 : decode cX7_digest 44 = .ok (.ldc2_w 256, 3) := by decide +kernel
theorem dX7_digest_47 : decode cX7_digest 47 = .ok (.lmul, 1) := by decide +kernel
theorem dX7_digest_48 : decode cX7_digest 48 = .ok (.aload_n 0, 1) := by decide +kernel
theorem dX7_digest_49 : decode cX7_digest 49 = .ok (.getfield 13, 3) := by decide +kernel
theorem dX7_digest_52 : decode cX7_digest 52 = .ok (.iload 4, 2) := by decide +kernel
theorem dX7_digest_54 : decode cX7_digest 54 = .ok (.iaload, 1) := by decide +kernel
theorem dX7_digest_55 : decode cX7_digest 55 = .ok (.i2l, 1) := by decide +kernel
theorem dX7_digest_56 : decode cX7_digest 56 = .ok (.ladd, 1) := by decide +kernel
theorem dX7_digest_57 : decode cX7_digest 57 = .ok (.ldc2_w 256, 3) := by decide +kernel
theorem dX7_digest_60 : decode cX7_digest 60 = .ok (.lmul, 1) := by decide +kernel
theorem dX7_digest_61 : decode cX7_digest 61 = .ok (.aload_n 0, 1) := by decide +kernel
theorem dX7_digest_62 : decode cX7_digest 62 = .ok (.iload 4, 2) := by decide +kernel
theorem dX7_digest_64 : decode cX7_digest 64 = .ok (.invokevirtual 102, 3) := by decide +kernel
theorem dX7_digest_67 : decode cX7_digest 67 = .ok (.i2l, 1) := by decide +kernel
theorem dX7_digest_68 : decode cX7_digest 68 = .ok (.ladd, 1) := by decide +kernel
theorem dX7_digest_69 : decode cX7_digest 69 = .ok (.ldc2_w 256, 3) := by decide +kernel
theorem dX7_digest_72 : decode cX7_digest 72 = .ok (.lmul, 1) := by decide +kernel
theorem dX7_digest_73 : decode cX7_digest 73 = .ok (.aload_n 0, 1) := by decide +kernel
theorem dX7_digest_74 : decode cX7_digest 74 = .ok (.getfield 31, 3) := by decide +kernel
theorem dX7_digest_77 : decode cX7_digest 77 = .ok (.iload 4, 2) := by decide +kernel
theorem dX7_digest_79 : decode cX7_digest 79 = .ok (.iaload, 1) := by decide +kernel
theorem dX7_digest_80 : decode cX7_digest 80 = .ok (.i2l, 1) := by decide +kernel
theorem dX7_digest_81 : decode cX7_digest 81 = .ok (.ladd, 1) := by decide +kernel
theorem dX7_digest_82 : decode cX7_digest 82 = .ok (.lstore_n 1, 1) := by decide +kernel
theorem dX7_digest_83 : decode cX7_digest 83 = .ok (.iconst 0, 1) := by decide +kernel
theorem dX7_digest_84 : decode cX7_digest 84 = .ok (.istore 5, 2) := by decide +kernel
theorem dX7_digest_86 : decode cX7_digest 86 = .ok (.iload 5, 2) := by decide +kernel
theorem dX7_digest_88 : decode cX7_digest 88 = .ok (.aload_n 0, 1) := by decide +kernel
theorem dX7_digest_89 : decode cX7_digest 89 = .ok (.getfield 31, 3) := by decide +kernel
theorem dX7_digest_92 : decode cX7_digest 92 = .ok (.iload 4, 2) := by decide +kernel
theorem dX7_digest_94 : decode cX7_digest 94 = .ok (.iaload, 1) := by decide +kernel
theorem dX7_digest_95 : decode cX7_digest 95 = .ok (.if_icmp .ge 43, 3) := by decide +kernel
theorem dX7_digest_98 : decode cX7_digest 98 = .ok (.aload_n 0, 1) := by decide +kernel
theorem dX7_digest_99 : decode cX7_digest 99 = .ok (.getfield 13, 3) := by decide +kernel
theorem dX7_digest_102 : decode cX7_digest 102 = .ok (.iload 4, 2) := by decide +kernel
theorem dX7_digest_104 : decode cX7_digest 104 = .ok (.iaload, 1) := by decide +kernel
theorem dX7_digest_105 : decode cX7_digest 105 = .ok (.iconst 2, 1) := by decide +kernel
theorem dX7_digest_106 : decode cX7_digest 106 = .ok (.if_icmp .ne 32, 3) := by decide +kernel
theorem dX7_digest_109 : decode cX7_digest 109 = .ok (.lload_n 1, 1) := by decide +kernel
theorem dX7_digest_110 : decode cX7_digest 110 = .ok (.ldc2_w 256, 3) := by decide +kernel
theorem dX7_digest_113 : decode cX7_digest 113 = .ok (.lmul, 1) := by decide +kernel
theorem dX7_digest_114 : decode cX7_digest 114 = .ok (.aload_n 0, 1) := by decide +kernel
theorem dX7_digest_115 : decode cX7_digest 115 = .ok (.getfield 37, 3) := by decide +kernel
theorem dX7_digest_118 : decode cX7_digest 118 = .ok (.aload_n 0, 1) := by decide +kernel
theorem dX7_digest_119 : decode cX7_digest 119 = .ok (.getfield 34, 3) := by decide +kernel
theorem dX7_digest_122 : decode cX7_digest 122 = .ok (.iload 4, 2) := by decide +kernel
theorem dX7_digest_124 : decode cX7_digest 124 = .ok (.iaload, 1) := by decide +kernel
theorem dX7_digest_125 : decode cX7_digest 125 = .ok (.iload 5, 2) := by decide +kernel
theorem dX7_digest_127 : decode cX7_digest 127 = .ok (.iadd, 1) := by decide +kernel
theorem dX7_digest_128 : decode cX7_digest 128 = .ok (.iaload, 1) := by decide +kernel
theorem dX7_digest_129 : decode cX7_digest 129 = .ok (.i2l, 1) := by decide +kernel
theorem dX7_digest_130 : decode cX7_digest 130 = .ok (.ladd, 1) := by decide +kernel
theorem dX7_digest_131 : decode cX7_digest 131 = .ok (.lstore_n 1, 1) := by decide +kernel
theorem dX7_digest_132 : decode cX7_digest 132 = .ok (.iinc 5 1, 3) := by decide +kernel
theorem dX7_digest_135 : decode cX7_digest 135 = .ok (.goto (-49), 3) := by decide +kernel
theorem dX7_digest_138 : decode cX7_digest 138 = .ok (.iinc 3 1, 3) := by decide +kernel
theorem dX7_digest_141 : decode cX7_digest 141 = .ok (.goto (-114), 3) := by decide +kernel
theorem dX7_digest_144 : decode cX7_digest 144 = .ok (.lload_n 1, 1) := by decide +kernel
theorem dX7_digest_145 : decode cX7_digest 145 = .ok (.ldc2_w 256, 3) := by decide +kernel
theorem dX7_digest_148 : decode cX7_digest 148 = .ok (.lmul, 1) := by decide +kernel
theorem dX7_digest_149 : decode cX7_digest 149 = .ok (.aload_n 0, 1) := by decide +kernel
theorem dX7_digest_150 : decode cX7_digest 150 = .ok (.getfield 95, 3) := by decide +kernel
theorem dX7_digest_153 : decode cX7_digest 153 = .ok (.i2l, 1) := by decide +kernel
theorem dX7_digest_154 : decode cX7_digest 154 = .ok (.ladd, 1) := by decide +kernel
theorem dX7_digest_155 : decode cX7_digest 155 = .ok (.ldc2_w 256, 3) := by decide +kernel
theorem dX7_digest_158 : decode cX7_digest 158 = .ok (.lmul, 1) := by decide +kernel
theorem dX7_digest_159 : decode cX7_digest 159 = .ok (.aload_n 0, 1) := by decide +kernel
theorem dX7_digest_160 : decode cX7_digest 160 = .ok (.invokevirtual 211, 3) := by decide +kernel
theorem dX7_digest_163 : decode cX7_digest 163 = .ok (.i2l, 1) := by decide +kernel
theorem dX7_digest_164 : decode cX7_digest 164 = .ok (.ladd, 1) := by decide +kernel
theorem dX7_digest_165 : decode cX7_digest 165 = .ok (.lreturn, 1) := by decide +kernel
end
section
theorem dL_feed_0 : decode cL_feed 0 = .ok (.aload_n 3, 1) := by decide +kernel
theorem dL_feed_1 : decode cL_feed 1 = .ok (.iconst 0, 1) := by decide +kernel
theorem dL_feed_2 : decode cL_feed 2 = .ok (.aload_n 0, 1) := by decide +kernel
theorem dL_feed_3 : decode cL_feed 3 = .ok (.lload_n 1, 1) := by decide +kernel
theorem dL_feed_4 : decode cL_feed 4 = .ok (.invokevirtual 7, 3) := by decide +kernel
theorem dL_feed_7 : decode cL_feed 7 = .ok (.i2l, 1) := by decide +kernel
theorem dL_feed_8 : decode cL_feed 8 = .ok (.lastore, 1) := by decide +kernel
theorem dL_feed_9 : decode cL_feed 9 = .ok (.goto 11, 3) := by decide +kernel
theorem dL_feed_12 : decode cL_feed 12 = .ok (.astore 4, 2) := by decide +kernel
theorem dL_feed_14 : decode cL_feed 14 = .ok (.iconst 1, 1) := by decide +kernel
theorem dL_feed_15 : decode cL_feed 15 = .ok (.ireturn, 1) := by decide +kernel
theorem dL_feed_16 : decode cL_feed 16 = .ok (.astore 4, 2) := by decide +kernel
theorem dL_feed_18 : decode cL_feed 18 = .ok (.iconst 2, 1) := by decide +kernel
theorem dL_feed_19 : decode cL_feed 19 = .ok (.ireturn, 1) := by decide +kernel
theorem dL_feed_20 : decode cL_feed 20 = .ok (.iconst 0, 1) := by decide +kernel
theorem dL_feed_21 : decode cL_feed 21 = .ok (.ireturn, 1) := by decide +kernel
theorem dL_trim_0 : decode cL_trim 0 = .ok (.aload_n 2, 1) := by decide +kernel
theorem dL_trim_1 : decode cL_trim 1 = .ok (.iconst 0, 1) := by decide +kernel
theorem dL_trim_2 : decode cL_trim 2 = .ok (.aload_n 0, 1) := by decide +kernel
theorem dL_trim_3 : decode cL_trim 3 = .ok (.iload_n 1, 1) := by decide +kernel
theorem dL_trim_4 : decode cL_trim 4 = .ok (.invokevirtual 17, 3) := by decide +kernel
theorem dL_trim_7 : decode cL_trim 7 = .ok (.i2l, 1) := by decide +kernel
theorem dL_trim_8 : decode cL_trim 8 = .ok (.lastore, 1) := by decide +kernel
theorem dL_trim_9 : decode cL_trim 9 = .ok (.goto 6, 3) := by decide +kernel
theorem dL_trim_12 : decode cL_trim 12 = .ok (.astore_n 3, 1) := by decide +kernel
theorem dL_trim_13 : decode cL_trim 13 = .ok (.iconst 1, 1) := by decide +kernel
theorem dL_trim_14 : decode cL_trim 14 = .ok (.ireturn, 1) := by decide +kernel
theorem dL_trim_15 : decode cL_trim 15 = .ok (.iconst 0, 1) := by decide +kernel
theorem dL_trim_16 : decode cL_trim 16 = .ok (.ireturn, 1) := by decide +kernel
theorem dL_repair_0 : decode cL_repair 0 = .ok (.aload_n 3, 1) := by decide +kernel
theorem dL_repair_1 : decode cL_repair 1 = .ok (.iconst 0, 1) := by decide +kernel
theorem dL_repair_2 : decode cL_repair 2 = .ok (.aload_n 0, 1) := by decide +kernel
theorem dL_repair_3 : decode cL_repair 3 = .ok (.iload_n 1, 1) := by decide +kernel
theorem dL_repair_4 : decode cL_repair 4 = .ok (.iload_n 2, 1) := by decide +kernel
theorem dL_repair_5 : decode cL_repair 5 = .ok (.invokevirtual 21, 3) := by decide +kernel
theorem dL_repair_8 : decode cL_repair 8 = .ok (.i2l, 1) := by decide +kernel
theorem dL_repair_9 : decode cL_repair 9 = .ok (.lastore, 1) := by decide +kernel
theorem dL_repair_10 : decode cL_repair 10 = .ok (.goto 7, 3) := by decide +kernel
theorem dL_repair_13 : decode cL_repair 13 = .ok (.astore 4, 2) := by decide +kernel
theorem dL_repair_15 : decode cL_repair 15 = .ok (.iconst 1, 1) := by decide +kernel
theorem dL_repair_16 : decode cL_repair 16 = .ok (.ireturn, 1) := by decide +kernel
theorem dL_repair_17 : decode cL_repair 17 = .ok (.iconst 0, 1) := by decide +kernel
theorem dL_repair_18 : decode cL_repair 18 = .ok (.ireturn, 1) := by decide +kernel
theorem dL_kind_0 : decode cL_kind 0 = .ok (.aload_n 2, 1) := by decide +kernel
theorem dL_kind_1 : decode cL_kind 1 = .ok (.iconst 0, 1) := by decide +kernel
theorem dL_kind_2 : decode cL_kind 2 = .ok (.aload_n 0, 1) := by decide +kernel
theorem dL_kind_3 : decode cL_kind 3 = .ok (.iload_n 1, 1) := by decide +kernel
theorem dL_kind_4 : decode cL_kind 4 = .ok (.invokevirtual 27, 3) := by decide +kernel
theorem dL_kind_7 : decode cL_kind 7 = .ok (.i2l, 1) := by decide +kernel
theorem dL_kind_8 : decode cL_kind 8 = .ok (.lastore, 1) := by decide +kernel
theorem dL_kind_9 : decode cL_kind 9 = .ok (.goto 6, 3) := by decide +kernel
theorem dL_kind_12 : decode cL_kind 12 = .ok (.astore_n 3, 1) := by decide +kernel
theorem dL_kind_13 : decode cL_kind 13 = .ok (.iconst 1, 1) := by decide +kernel
theorem dL_kind_14 : decode cL_kind 14 = .ok (.ireturn, 1) := by decide +kernel
theorem dL_kind_15 : decode cL_kind 15 = .ok (.iconst 0, 1) := by decide +kernel
theorem dL_kind_16 : decode cL_kind 16 = .ok (.ireturn, 1) := by decide +kernel
theorem dL_parent_0 : decode cL_parent 0 = .ok (.aload_n 2, 1) := by decide +kernel
theorem dL_parent_1 : decode cL_parent 1 = .ok (.iconst 0, 1) := by decide +kernel
theorem dL_parent_2 : decode cL_parent 2 = .ok (.aload_n 0, 1) := by decide +kernel
theorem dL_parent_3 : decode cL_parent 3 = .ok (.iload_n 1, 1) := by decide +kernel
theorem dL_parent_4 : decode cL_parent 4 = .ok (.invokevirtual 30, 3) := by decide +kernel
theorem dL_parent_7 : decode cL_parent 7 = .ok (.i2l, 1) := by decide +kernel
theorem dL_parent_8 : decode cL_parent 8 = .ok (.lastore, 1) := by decide +kernel
theorem dL_parent_9 : decode cL_parent 9 = .ok (.goto 6, 3) := by decide +kernel
theorem dL_parent_12 : decode cL_parent 12 = .ok (.astore_n 3, 1) := by decide +kernel
theorem dL_parent_13 : decode cL_parent 13 = .ok (.iconst 1, 1) := by decide +kernel
theorem dL_parent_14 : decode cL_parent 14 = .ok (.ireturn, 1) := by decide +kernel
theorem dL_parent_15 : decode cL_parent 15 = .ok (.iconst 0, 1) := by decide +kernel
theorem dL_parent_16 : decode cL_parent 16 = .ok (.ireturn, 1) := by decide +kernel
theorem dL_childCount_0 : decode cL_childCount 0 = .ok (.aload_n 2, 1) := by decide +kernel
theorem dL_childCount_1 : decode cL_childCount 1 = .ok (.iconst 0, 1) := by decide +kernel
theorem dL_childCount_2 : decode cL_childCount 2 = .ok (.aload_n 0, 1) := by decide +kernel
theorem dL_childCount_3 : decode cL_childCount 3 = .ok (.iload_n 1, 1) := by decide +kernel
theorem dL_childCount_4 : decode cL_childCount 4 = .ok (.invokevirtual 33, 3) := by decide +kernel
theorem dL_childCount_7 : decode cL_childCount 7 = .ok (.i2l, 1) := by decide +kernel
theorem dL_childCount_8 : decode cL_childCount 8 = .ok (.lastore, 1) := by decide +kernel
theorem dL_childCount_9 : decode cL_childCount 9 = .ok (.goto 6, 3) := by decide +kernel
theorem dL_childCount_12 : decode cL_childCount 12 = .ok (.astore_n 3, 1) := by decide +kernel
theorem dL_childCount_13 : decode cL_childCount 13 = .ok (.iconst 1, 1) := by decide +kernel
theorem dL_childCount_14 : decode cL_childCount 14 = .ok (.ireturn, 1) := by decide +kernel
theorem dL_childCount_15 : decode cL_childCount 15 = .ok (.iconst 0, 1) := by decide +kernel
theorem dL_childCount_16 : decode cL_childCount 16 = .ok (.ireturn, 1) := by decide +kernel
theorem dL_child_0 : decode cL_child 0 = .ok (.aload_n 3, 1) := by decide +kernel
theorem dL_child_1 : decode cL_child 1 = .ok (.iconst 0, 1) := by decide +kernel
theorem dL_child_2 : decode cL_child 2 = .ok (.aload_n 0, 1) := by decide +kernel
theorem dL_child_3 : decode cL_child 3 = .ok (.iload_n 1, 1) := by decide +kernel
theorem dL_child_4 : decode cL_child 4 = .ok (.iload_n 2, 1) := by decide +kernel
theorem dL_child_5 : decode cL_child 5 = .ok (.invokevirtual 36, 3) := by decide +kernel
theorem dL_child_8 : decode cL_child 8 = .ok (.i2l, 1) := by decide +kernel
theorem dL_child_9 : decode cL_child 9 = .ok (.lastore, 1) := by decide +kernel
theorem dL_child_10 : decode cL_child 10 = .ok (.goto 7, 3) := by decide +kernel
theorem dL_child_13 : decode cL_child 13 = .ok (.astore 4, 2) := by decide +kernel
theorem dL_child_15 : decode cL_child 15 = .ok (.iconst 1, 1) := by decide +kernel
theorem dL_child_16 : decode cL_child 16 = .ok (.ireturn, 1) := by decide +kernel
theorem dL_child_17 : decode cL_child 17 = .ok (.iconst 0, 1) := by decide +kernel
theorem dL_child_18 : decode cL_child 18 = .ok (.ireturn, 1) := by decide +kernel
theorem dL_line_0 : decode cL_line 0 = .ok (.aload_n 2, 1) := by decide +kernel
theorem dL_line_1 : decode cL_line 1 = .ok (.iconst 0, 1) := by decide +kernel
theorem dL_line_2 : decode cL_line 2 = .ok (.aload_n 0, 1) := by decide +kernel
theorem dL_line_3 : decode cL_line 3 = .ok (.iload_n 1, 1) := by decide +kernel
theorem dL_line_4 : decode cL_line 4 = .ok (.invokevirtual 39, 3) := by decide +kernel
theorem dL_line_7 : decode cL_line 7 = .ok (.i2l, 1) := by decide +kernel
theorem dL_line_8 : decode cL_line 8 = .ok (.lastore, 1) := by decide +kernel
theorem dL_line_9 : decode cL_line 9 = .ok (.goto 6, 3) := by decide +kernel
theorem dL_line_12 : decode cL_line 12 = .ok (.astore_n 3, 1) := by decide +kernel
theorem dL_line_13 : decode cL_line 13 = .ok (.iconst 1, 1) := by decide +kernel
theorem dL_line_14 : decode cL_line 14 = .ok (.ireturn, 1) := by decide +kernel
theorem dL_line_15 : decode cL_line 15 = .ok (.iconst 0, 1) := by decide +kernel
theorem dL_line_16 : decode cL_line 16 = .ok (.ireturn, 1) := by decide +kernel
theorem dL_column_0 : decode cL_column 0 = .ok (.aload_n 2, 1) := by decide +kernel
theorem dL_column_1 : decode cL_column 1 = .ok (.iconst 0, 1) := by decide +kernel
theorem dL_column_2 : decode cL_column 2 = .ok (.aload_n 0, 1) := by decide +kernel
theorem dL_column_3 : decode cL_column 3 = .ok (.iload_n 1, 1) := by decide +kernel
theorem dL_column_4 : decode cL_column 4 = .ok (.invokevirtual 42, 3) := by decide +kernel
theorem dL_column_7 : decode cL_column 7 = .ok (.i2l, 1) := by decide +kernel
theorem dL_column_8 : decode cL_column 8 = .ok (.lastore, 1) := by decide +kernel
theorem dL_column_9 : decode cL_column 9 = .ok (.goto 6, 3) := by decide +kernel
theorem dL_column_12 : decode cL_column 12 = .ok (.astore_n 3, 1) := by decide +kernel
theorem dL_column_13 : decode cL_column 13 = .ok (.iconst 1, 1) := by decide +kernel
theorem dL_column_14 : decode cL_column 14 = .ok (.ireturn, 1) := by decide +kernel
theorem dL_column_15 : decode cL_column 15 = .ok (.iconst 0, 1) := by decide +kernel
theorem dL_column_16 : decode cL_column 16 = .ok (.ireturn, 1) := by decide +kernel
theorem dL_value_0 : decode cL_value 0 = .ok (.aload_n 2, 1) := by decide +kernel
theorem dL_value_1 : decode cL_value 1 = .ok (.iconst 0, 1) := by decide +kernel
theorem dL_value_2 : decode cL_value 2 = .ok (.aload_n 0, 1) := by decide +kernel
theorem dL_value_3 : decode cL_value 3 = .ok (.iload_n 1, 1) := by decide +kernel
theorem dL_value_4 : decode cL_value 4 = .ok (.invokevirtual 45, 3) := by decide +kernel
theorem dL_value_7 : decode cL_value 7 = .ok (.i2l, 1) := by decide +kernel
theorem dL_value_8 : decode cL_value 8 = .ok (.lastore, 1) := by decide +kernel
theorem dL_value_9 : decode cL_value 9 = .ok (.goto 6, 3) := by decide +kernel
theorem dL_value_12 : decode cL_value 12 = .ok (.astore_n 3, 1) := by decide +kernel
theorem dL_value_13 : decode cL_value 13 = .ok (.iconst 1, 1) := by decide +kernel
theorem dL_value_14 : decode cL_value 14 = .ok (.ireturn, 1) := by decide +kernel
theorem dL_value_15 : decode cL_value 15 = .ok (.iconst 0, 1) := by decide +kernel
theorem dL_value_16 : decode cL_value 16 = .ok (.ireturn, 1) := by decide +kernel
theorem dL_letter_0 : decode cL_letter 0 = .ok (.aload_n 3, 1) := by decide +kernel
theorem dL_letter_1 : decode cL_letter 1 = .ok (.iconst 0, 1) := by decide +kernel
theorem dL_letter_2 : decode cL_letter 2 = .ok (.aload_n 0, 1) := by decide +kernel
theorem dL_letter_3 : decode cL_letter 3 = .ok (.iload_n 1, 1) := by decide +kernel
theorem dL_letter_4 : decode cL_letter 4 = .ok (.iload_n 2, 1) := by decide +kernel
theorem dL_letter_5 : decode cL_letter 5 = .ok (.invokevirtual 48, 3) := by decide +kernel
theorem dL_letter_8 : decode cL_letter 8 = .ok (.i2l, 1) := by decide +kernel
theorem dL_letter_9 : decode cL_letter 9 = .ok (.lastore, 1) := by decide +kernel
theorem dL_letter_10 : decode cL_letter 10 = .ok (.goto 7, 3) := by decide +kernel
theorem dL_letter_13 : decode cL_letter 13 = .ok (.astore 4, 2) := by decide +kernel
theorem dL_letter_15 : decode cL_letter 15 = .ok (.iconst 1, 1) := by decide +kernel
theorem dL_letter_16 : decode cL_letter 16 = .ok (.ireturn, 1) := by decide +kernel
theorem dL_letter_17 : decode cL_letter 17 = .ok (.iconst 0, 1) := by decide +kernel
theorem dL_letter_18 : decode cL_letter 18 = .ok (.ireturn, 1) := by decide +kernel
theorem dL_depth_0 : decode cL_depth 0 = .ok (.aload_n 2, 1) := by decide +kernel
theorem dL_depth_1 : decode cL_depth 1 = .ok (.iconst 0, 1) := by decide +kernel
theorem dL_depth_2 : decode cL_depth 2 = .ok (.aload_n 0, 1) := by decide +kernel
theorem dL_depth_3 : decode cL_depth 3 = .ok (.iload_n 1, 1) := by decide +kernel
theorem dL_depth_4 : decode cL_depth 4 = .ok (.invokevirtual 51, 3) := by decide +kernel
theorem dL_depth_7 : decode cL_depth 7 = .ok (.i2l, 1) := by decide +kernel
theorem dL_depth_8 : decode cL_depth 8 = .ok (.lastore, 1) := by decide +kernel
theorem dL_depth_9 : decode cL_depth 9 = .ok (.goto 6, 3) := by decide +kernel
theorem dL_depth_12 : decode cL_depth 12 = .ok (.astore_n 3, 1) := by decide +kernel
theorem dL_depth_13 : decode cL_depth 13 = .ok (.iconst 1, 1) := by decide +kernel
theorem dL_depth_14 : decode cL_depth 14 = .ok (.ireturn, 1) := by decide +kernel
theorem dL_depth_15 : decode cL_depth 15 = .ok (.iconst 0, 1) := by decide +kernel
theorem dL_depth_16 : decode cL_depth 16 = .ok (.ireturn, 1) := by decide +kernel
theorem dL_remove_0 : decode cL_remove 0 = .ok (.aload_n 2, 1) := by decide +kernel
theorem dL_remove_1 : decode cL_remove 1 = .ok (.iconst 0, 1) := by decide +kernel
theorem dL_remove_2 : decode cL_remove 2 = .ok (.aload_n 0, 1) := by decide +kernel
theorem dL_remove_3 : decode cL_remove 3 = .ok (.iload_n 1, 1) := by decide +kernel
theorem dL_remove_4 : decode cL_remove 4 = .ok (.invokevirtual 54, 3) := by decide +kernel
theorem dL_remove_7 : decode cL_remove 7 = .ok (.i2l, 1) := by decide +kernel
theorem dL_remove_8 : decode cL_remove 8 = .ok (.lastore, 1) := by decide +kernel
theorem dL_remove_9 : decode cL_remove 9 = .ok (.goto 9, 3) := by decide +kernel
theorem dL_remove_12 : decode cL_remove 12 = .ok (.astore_n 3, 1) := by decide +kernel
theorem dL_remove_13 : decode cL_remove 13 = .ok (.iconst 1, 1) := by decide +kernel
theorem dL_remove_14 : decode cL_remove 14 = .ok (.ireturn, 1) := by decide +kernel
theorem dL_remove_15 : decode cL_remove 15 = .ok (.astore_n 3, 1) := by decide +kernel
theorem dL_remove_16 : decode cL_remove 16 = .ok (.iconst 2, 1) := by decide +kernel
theorem dL_remove_17 : decode cL_remove 17 = .ok (.ireturn, 1) := by decide +kernel
theorem dL_remove_18 : decode cL_remove 18 = .ok (.iconst 0, 1) := by decide +kernel
theorem dL_remove_19 : decode cL_remove 19 = .ok (.ireturn, 1) := by decide +kernel
theorem dL_move_0 : decode cL_move 0 = .ok (.aload 4, 2) := by decide +kernel
theorem dL_move_2 : decode cL_move 2 = .ok (.iconst 0, 1) := by decide +kernel
theorem dL_move_3 : decode cL_move 3 = .ok (.aload_n 0, 1) := by decide +kernel
theorem dL_move_4 : decode cL_move 4 = .ok (.iload_n 1, 1) := by decide +kernel
theorem dL_move_5 : decode cL_move 5 = .ok (.iload_n 2, 1) := by decide +kernel
theorem dL_move_6 : decode cL_move 6 = .ok (.iload_n 3, 1) := by decide +kernel
theorem dL_move_7 : decode cL_move 7 = .ok (.invokevirtual 57, 3) := by decide +kernel
theorem dL_move_10 : decode cL_move 10 = .ok (.i2l, 1) := by decide +kernel
theorem dL_move_11 : decode cL_move 11 = .ok (.lastore, 1) := by decide +kernel
theorem dL_move_12 : decode cL_move 12 = .ok (.goto 11, 3) := by decide +kernel
theorem dL_move_15 : decode cL_move 15 = .ok (.astore 5, 2) := by decide +kernel
theorem dL_move_17 : decode cL_move 17 = .ok (.iconst 1, 1) := by decide +kernel
theorem dL_move_18 : decode cL_move 18 = .ok (.ireturn, 1) := by decide +kernel
theorem dL_move_19 : decode cL_move 19 = .ok (.astore 5, 2) := by decide +kernel
theorem dL_move_21 : decode cL_move 21 = .ok (.iconst 2, 1) := by decide +kernel
theorem dL_move_22 : decode cL_move 22 = .ok (.ireturn, 1) := by decide +kernel
theorem dL_move_23 : decode cL_move 23 = .ok (.iconst 0, 1) := by decide +kernel
theorem dL_move_24 : decode cL_move 24 = .ok (.ireturn, 1) := by decide +kernel
theorem dL_rename_0 : decode cL_rename 0 = .ok (.aload 4, 2) := by decide +kernel
theorem dL_rename_2 : decode cL_rename 2 = .ok (.iconst 0, 1) := by decide +kernel
theorem dL_rename_3 : decode cL_rename 3 = .ok (.aload_n 0, 1) := by decide +kernel
theorem dL_rename_4 : decode cL_rename 4 = .ok (.iload_n 1, 1) := by decide +kernel
theorem dL_rename_5 : decode cL_rename 5 = .ok (.lload_n 2, 1) := by decide +kernel
theorem dL_rename_6 : decode cL_rename 6 = .ok (.invokevirtual 61, 3) := by decide +kernel
theorem dL_rename_9 : decode cL_rename 9 = .ok (.i2l, 1) := by decide +kernel
theorem dL_rename_10 : decode cL_rename 10 = .ok (.lastore, 1) := by decide +kernel
theorem dL_rename_11 : decode cL_rename 11 = .ok (.goto 11, 3) := by decide +kernel
theorem dL_rename_14 : decode cL_rename 14 = .ok (.astore 5, 2) := by decide +kernel
theorem dL_rename_16 : decode cL_rename 16 = .ok (.iconst 1, 1) := by decide +kernel
theorem dL_rename_17 : decode cL_rename 17 = .ok (.ireturn, 1) := by decide +kernel
theorem dL_rename_18 : decode cL_rename 18 = .ok (.astore 5, 2) := by decide +kernel
theorem dL_rename_20 : decode cL_rename 20 = .ok (.iconst 2, 1) := by decide +kernel
theorem dL_rename_21 : decode cL_rename 21 = .ok (.ireturn, 1) := by decide +kernel
theorem dL_rename_22 : decode cL_rename 22 = .ok (.iconst 0, 1) := by decide +kernel
theorem dL_rename_23 : decode cL_rename 23 = .ok (.ireturn, 1) := by decide +kernel
theorem dL_written_0 : decode cL_written 0 = .ok (.aload_n 2, 1) := by decide +kernel
theorem dL_written_1 : decode cL_written 1 = .ok (.iconst 0, 1) := by decide +kernel
theorem dL_written_2 : decode cL_written 2 = .ok (.aload_n 0, 1) := by decide +kernel
theorem dL_written_3 : decode cL_written 3 = .ok (.iload_n 1, 1) := by decide +kernel
theorem dL_written_4 : decode cL_written 4 = .ok (.invokevirtual 65, 3) := by decide +kernel
theorem dL_written_7 : decode cL_written 7 = .ok (.i2l, 1) := by decide +kernel
theorem dL_written_8 : decode cL_written 8 = .ok (.lastore, 1) := by decide +kernel
theorem dL_written_9 : decode cL_written 9 = .ok (.goto 6, 3) := by decide +kernel
theorem dL_written_12 : decode cL_written 12 = .ok (.astore_n 3, 1) := by decide +kernel
theorem dL_written_13 : decode cL_written 13 = .ok (.iconst 1, 1) := by decide +kernel
theorem dL_written_14 : decode cL_written 14 = .ok (.ireturn, 1) := by decide +kernel
theorem dL_written_15 : decode cL_written 15 = .ok (.iconst 0, 1) := by decide +kernel
theorem dL_written_16 : decode cL_written 16 = .ok (.ireturn, 1) := by decide +kernel
theorem dL_law_0 : decode cL_law 0 = .ok (.new 8, 3) := by decide +kernel
theorem dL_law_3 : decode cL_law 3 = .ok (.dup, 1) := by decide +kernel
theorem dL_law_4 : decode cL_law 4 = .ok (.invokespecial 68, 3) := by decide +kernel
theorem dL_law_7 : decode cL_law 7 = .ok (.astore_n 1, 1) := by decide +kernel
theorem dL_law_8 : decode cL_law 8 = .ok (.new 69, 3) := by decide +kernel
theorem dL_law_11 : decode cL_law 11 = .ok (.dup, 1) := by decide +kernel
theorem dL_law_12 : decode cL_law 12 = .ok (.invokespecial 71, 3) := by decide +kernel
theorem dL_law_15 : decode cL_law 15 = .ok (.astore_n 2, 1) := by decide +kernel
theorem dL_law_16 : decode cL_law 16 = .ok (.iconst 1, 1) := by decide +kernel
theorem dL_law_17 : decode cL_law 17 = .ok (.newarray .long, 2) := by decide +kernel
theorem dL_law_19 : decode cL_law 19 = .ok (.astore_n 3, 1) := by decide +kernel
theorem dL_law_20 : decode cL_law 20 = .ok (.iconst 0, 1) := by decide +kernel
theorem dL_law_21 : decode cL_law 21 = .ok (.istore 4, 2) := by decide +kernel
theorem dL_law_23 : decode cL_law 23 = .ok (.iload 4, 2) := by decide +kernel
theorem dL_law_25 : decode cL_law 25 = .ok (.aload_n 0, 1) := by decide +kernel
theorem dL_law_26 : decode cL_law 26 = .ok (.arraylength, 1) := by decide +kernel
theorem dL_law_27 : decode cL_law 27 = .ok (.iconst 4, 1) := by decide +kernel
theorem dL_law_28 : decode cL_law 28 = .ok (.isub, 1) := by decide +kernel
theorem dL_law_29 : decode cL_law 29 = .ok (.if_icmp .gt 1346, 3) := by decide +kernel
theorem dL_law_32 : decode cL_law 32 = .ok (.aload_n 0, 1) := by decide +kernel
theorem dL_law_33 : decode cL_law 33 = .ok (.iload 4, 2) := by decide +kernel
theorem dL_law_35 : decode cL_law 35 = .ok (.iaload, 1) := by decide +kernel
theorem dL_law_36 : decode cL_law 36 = .ok (.bipush 31, 2) := by decide +kernel
theorem dL_law_38 : decode cL_law 38 = .ok (.iand, 1) := by decide +kernel
theorem dL_law_39 : decode cL_law 39 = .ok (.tableswitch 1330 0 23 #[109, 197, 253, 266, 279, 292, 360, 373, 429, 485, 541, 609, 665, 721, 777, 845, 901, 970, 983, 1039, 1119, 1219, 1260, 1316], 109) := by decide +kernel
theorem dL_law_148 : decode cL_law 148 = .ok (.aload_n 1, 1) := by decide +kernel
theorem dL_law_149 : decode cL_law 149 = .ok (.aload_n 0, 1) := by decide +kernel
theorem dL_law_150 : decode cL_law 150 = .ok (.iload 4, 2) := by decide +kernel
theorem dL_law_152 : decode cL_law 152 = .ok (.iconst 1, 1) := by decide +kernel
theorem dL_law_153 : decode cL_law 153 = .ok (.iadd, 1) := by decide +kernel
theorem dL_law_154 : decode cL_law 154 = .ok (.iaload, 1) := by decide +kernel
theorem dL_law_155 : decode cL_law 155 = .ok (.i2l, 1) := by decide +kernel
theorem dL_law_156 : decode cL_law 156 = .ok (.bipush 32, 2) := by decide +kernel
theorem dL_law_158 : decode cL_law 158 = .ok (.lshl, 1) := by decide +kernel
theorem dL_law_159 : decode cL_law 159 = .ok (.aload_n 0, 1) := by decide +kernel
theorem dL_law_160 : decode cL_law 160 = .ok (.iload 4, 2) := by decide +kernel
theorem dL_law_162 : decode cL_law 162 = .ok (.iconst 2, 1) := by decide +kernel
theorem dL_law_163 : decode cL_law 163 = .ok (.iadd, 1) := by decide +kernel
theorem dL_law_164 : decode cL_law 164 = .ok (.iaload, 1) := by decide +kernel
theorem dL_law_165 : decode cL_law 165 = .ok (.i2l, 1) := by decide +kernel
theorem dL_law_166 : decode cL_law 166 = .ok (.ldc2_w 72, 3) := by decide +kernel
theorem dL_law_169 : decode cL_law 169 = .ok (.land, 1) := by decide +kernel
theorem dL_law_170 : decode cL_law 170 = .ok (.lor, 1) := by decide +kernel
theorem dL_law_171 : decode cL_law 171 = .ok (.aload_n 3, 1) := by decide +kernel
theorem dL_law_172 : decode cL_law 172 = .ok (.invokestatic 74, 3) := by decide +kernel
theorem dL_law_175 : decode cL_law 175 = .ok (.istore 5, 2) := by decide +kernel
theorem dL_law_177 : decode cL_law 177 = .ok (.aload_n 2, 1) := by decide +kernel
theorem dL_law_178 : decode cL_law 178 = .ok (.aload_n 0, 1) := by decide +kernel
theorem dL_law_179 : decode cL_law 179 = .ok (.iload 4, 2) := by decide +kernel
theorem dL_law_181 : decode cL_law 181 = .ok (.iconst 1, 1) := by decide +kernel
theorem dL_law_182 : decode cL_law 182 = .ok (.iadd, 1) := by decide +kernel
theorem dL_law_183 : decode cL_law 183 = .ok (.iaload, 1) := by decide +kernel
theorem dL_law_184 : decode cL_law 184 = .ok (.i2l, 1) := by decide +kernel
theorem dL_law_185 : decode cL_law 185 = .ok (.bipush 32, 2) := by decide +kernel
theorem dL_law_187 : decode cL_law 187 = .ok (.lshl, 1) := by decide +kernel
theorem dL_law_188 : decode cL_law 188 = .ok (.aload_n 0, 1) := by decide +kernel
theorem dL_law_189 : decode cL_law 189 = .ok (.iload 4, 2) := by decide +kernel
theorem dL_law_191 : decode cL_law 191 = .ok (.iconst 2, 1) := by decide +kernel
theorem dL_law_192 : decode cL_law 192 = .ok (.iadd, 1) := by decide +kernel
theorem dL_law_193 : decode cL_law 193 = .ok (.iaload, 1) := by decide +kernel
theorem dL_law_194 : decode cL_law 194 = .ok (.i2l, 1) := by decide +kernel
theorem dL_law_195 : decode cL_law 195 = .ok (.ldc2_w 72, 3) := by decide +kernel
theorem dL_law_198 : decode cL_law 198 = .ok (.land, 1) := by decide +kernel
theorem dL_law_199 : decode cL_law 199 = .ok (.lor, 1) := by decide +kernel
theorem dL_law_200 : decode cL_law 200 = .ok (.invokevirtual 79, 3) := by decide +kernel
theorem dL_law_203 : decode cL_law 203 = .ok (.istore 6, 2) := by decide +kernel
theorem dL_law_205 : decode cL_law 205 = .ok (.aload_n 2, 1) := by decide +kernel
theorem dL_law_206 : decode cL_law 206 = .ok (.invokevirtual 80, 3) := by decide +kernel
theorem dL_law_209 : decode cL_law 209 = .ok (.iload 5, 2) := by decide +kernel
theorem dL_law_211 : decode cL_law 211 = .ok (.if_icmp .eq 5, 3) := by decide +kernel
theorem dL_law_214 : decode cL_law 214 = .ok (.iconst 0, 1) := by decide +kernel
theorem dL_law_215 : decode cL_law 215 = .ok (.ireturn, 1) := by decide +kernel
theorem dL_law_216 : decode cL_law 216 = .ok (.iload 5, 2) := by decide +kernel
theorem dL_law_218 : decode cL_law 218 = .ok (.ifCond .ne 15, 3) := by decide +kernel
theorem dL_law_221 : decode cL_law 221 = .ok (.aload_n 3, 1) := by decide +kernel
theorem dL_law_222 : decode cL_law 222 = .ok (.iconst 0, 1) := by decide +kernel
theorem dL_law_223 : decode cL_law 223 = .ok (.laload, 1) := by decide +kernel
theorem dL_law_224 : decode cL_law 224 = .ok (.iload 6, 2) := by decide +kernel
theorem dL_law_226 : decode cL_law 226 = .ok (.i2l, 1) := by decide +kernel
theorem dL_law_227 : decode cL_law 227 = .ok (.lcmp, 1) := by decide +kernel
theorem dL_law_228 : decode cL_law 228 = .ok (.ifCond .eq 5, 3) := by decide +kernel
theorem dL_law_231 : decode cL_law 231 = .ok (.iconst 0, 1) := by decide +kernel
theorem dL_law_232 : decode cL_law 232 = .ok (.ireturn, 1) := by decide +kernel
theorem dL_law_233 : decode cL_law 233 = .ok (.goto 1136, 3) := by decide +kernel
theorem dL_law_236 : decode cL_law 236 = .ok (.aload_n 1, 1) := by decide +kernel
theorem dL_law_237 : decode cL_law 237 = .ok (.aload_n 0, 1) := by decide +kernel
theorem dL_law_238 : decode cL_law 238 = .ok (.iload 4, 2) := by decide +kernel
theorem dL_law_240 : decode cL_law 240 = .ok (.iconst 1, 1) := by decide +kernel
theorem dL_law_241 : decode cL_law 241 = .ok (.iadd, 1) := by decide +kernel
theorem dL_law_242 : decode cL_law 242 = .ok (.iaload, 1) := by decide +kernel
theorem dL_law_243 : decode cL_law 243 = .ok (.aload_n 3, 1) := by decide +kernel
theorem dL_law_244 : decode cL_law 244 = .ok (.invokestatic 84, 3) := by decide +kernel
theorem dL_law_247 : decode cL_law 247 = .ok (.istore 5, 2) := by decide +kernel
theorem dL_law_249 : decode cL_law 249 = .ok (.aload_n 2, 1) := by decide +kernel
theorem dL_law_250 : decode cL_law 250 = .ok (.aload_n 0, 1) := by decide +kernel
theorem dL_law_251 : decode cL_law 251 = .ok (.iload 4, 2) := by decide +kernel
theorem dL_law_253 : decode cL_law 253 = .ok (.iconst 1, 1) := by decide +kernel
theorem dL_law_254 : decode cL_law 254 = .ok (.iadd, 1) := by decide +kernel
theorem dL_law_255 : decode cL_law 255 = .ok (.iaload, 1) := by decide +kernel
theorem dL_law_256 : decode cL_law 256 = .ok (.invokevirtual 87, 3) := by decide +kernel
theorem dL_law_259 : decode cL_law 259 = .ok (.istore 6, 2) := by decide +kernel
theorem dL_law_261 : decode cL_law 261 = .ok (.aload_n 2, 1) := by decide +kernel
theorem dL_law_262 : decode cL_law 262 = .ok (.invokevirtual 80, 3) := by decide +kernel
theorem dL_law_265 : decode cL_law 265 = .ok (.iload 5, 2) := by decide +kernel
theorem dL_law_267 : decode cL_law 267 = .ok (.if_icmp .eq 5, 3) := by decide +kernel
theorem dL_law_270 : decode cL_law 270 = .ok (.iconst 0, 1) := by decide +kernel
theorem dL_law_271 : decode cL_law 271 = .ok (.ireturn, 1) := by decide +kernel
theorem dL_law_272 : decode cL_law 272 = .ok (.iload 5, 2) := by decide +kernel
theorem dL_law_274 : decode cL_law 274 = .ok (.ifCond .ne 15, 3) := by decide +kernel
theorem dL_law_277 : decode cL_law 277 = .ok (.aload_n 3, 1) := by decide +kernel
theorem dL_law_278 : decode cL_law 278 = .ok (.iconst 0, 1) := by decide +kernel
theorem dL_law_279 : decode cL_law 279 = .ok (.laload, 1) := by decide +kernel
theorem dL_law_280 : decode cL_law 280 = .ok (.iload 6, 2) := by decide +kernel
theorem dL_law_282 : decode cL_law 282 = .ok (.i2l, 1) := by decide +kernel
theorem dL_law_283 : decode cL_law 283 = .ok (.lcmp, 1) := by decide +kernel
theorem dL_law_284 : decode cL_law 284 = .ok (.ifCond .eq 5, 3) := by decide +kernel
theorem dL_law_287 : decode cL_law 287 = .ok (.iconst 0, 1) := by decide +kernel
theorem dL_law_288 : decode cL_law 288 = .ok (.ireturn, 1) := by decide +kernel
theorem dL_law_289 : decode cL_law 289 = .ok (.goto 1080, 3) := by decide +kernel
theorem dL_law_292 : decode cL_law 292 = .ok (.aload_n 1, 1) := by decide +kernel
theorem dL_law_293 : decode cL_law 293 = .ok (.invokevirtual 88, 3) := by decide +kernel
theorem dL_law_296 : decode cL_law 296 = .ok (.aload_n 2, 1) := by decide +kernel
theorem dL_law_297 : decode cL_law 297 = .ok (.invokevirtual 91, 3) := by decide +kernel
theorem dL_law_300 : decode cL_law 300 = .ok (.if_icmp .eq 1069, 3) := by decide +kernel
theorem dL_law_303 : decode cL_law 303 = .ok (.iconst 0, 1) := by decide +kernel
theorem dL_law_304 : decode cL_law 304 = .ok (.ireturn, 1) := by decide +kernel
theorem dL_law_305 : decode cL_law 305 = .ok (.aload_n 1, 1) := by decide +kernel
theorem dL_law_306 : decode cL_law 306 = .ok (.invokevirtual 92, 3) := by decide +kernel
theorem dL_law_309 : decode cL_law 309 = .ok (.aload_n 2, 1) := by decide +kernel
theorem dL_law_310 : decode cL_law 310 = .ok (.invokevirtual 95, 3) := by decide +kernel
theorem dL_law_313 : decode cL_law 313 = .ok (.if_icmp .eq 1056, 3) := by decide +kernel
theorem dL_law_316 : decode cL_law 316 = .ok (.iconst 0, 1) := by decide +kernel
theorem dL_law_317 : decode cL_law 317 = .ok (.ireturn, 1) := by decide +kernel
theorem dL_law_318 : decode cL_law 318 = .ok (.aload_n 1, 1) := by decide +kernel
theorem dL_law_319 : decode cL_law 319 = .ok (.invokevirtual 96, 3) := by decide +kernel
theorem dL_law_322 : decode cL_law 322 = .ok (.aload_n 2, 1) := by decide +kernel
theorem dL_law_323 : decode cL_law 323 = .ok (.invokevirtual 99, 3) := by decide +kernel
theorem dL_law_326 : decode cL_law 326 = .ok (.if_icmp .eq 1043, 3) := by decide +kernel
theorem dL_law_329 : decode cL_law 329 = .ok (.iconst 0, 1) := by decide +kernel
theorem dL_law_330 : decode cL_law 330 = .ok (.ireturn, 1) := by decide +kernel
theorem dL_law_331 : decode cL_law 331 = .ok (.aload_n 1, 1) := by decide +kernel
theorem dL_law_332 : decode cL_law 332 = .ok (.aload_n 0, 1) := by decide +kernel
theorem dL_law_333 : decode cL_law 333 = .ok (.iload 4, 2) := by decide +kernel
theorem dL_law_335 : decode cL_law 335 = .ok (.iconst 1, 1) := by decide +kernel
theorem dL_law_336 : decode cL_law 336 = .ok (.iadd, 1) := by decide +kernel
theorem dL_law_337 : decode cL_law 337 = .ok (.iaload, 1) := by decide +kernel
theorem dL_law_338 : decode cL_law 338 = .ok (.aload_n 0, 1) := by decide +kernel
theorem dL_law_339 : decode cL_law 339 = .ok (.iload 4, 2) := by decide +kernel
theorem dL_law_341 : decode cL_law 341 = .ok (.iconst 2, 1) := by decide +kernel
theorem dL_law_342 : decode cL_law 342 = .ok (.iadd, 1) := by decide +kernel
theorem dL_law_343 : decode cL_law 343 = .ok (.iaload, 1) := by decide +kernel
theorem dL_law_344 : decode cL_law 344 = .ok (.aload_n 3, 1) := by decide +kernel
theorem dL_law_345 : decode cL_law 345 = .ok (.invokestatic 100, 3) := by decide +kernel
theorem dL_law_348 : decode cL_law 348 = .ok (.istore 5, 2) := by decide +kernel
theorem dL_law_350 : decode cL_law 350 = .ok (.aload_n 2, 1) := by decide +kernel
theorem dL_law_351 : decode cL_law 351 = .ok (.aload_n 0, 1) := by decide +kernel
theorem dL_law_352 : decode cL_law 352 = .ok (.iload 4, 2) := by decide +kernel
theorem dL_law_354 : decode cL_law 354 = .ok (.iconst 1, 1) := by decide +kernel
theorem dL_law_355 : decode cL_law 355 = .ok (.iadd, 1) := by decide +kernel
theorem dL_law_356 : decode cL_law 356 = .ok (.iaload, 1) := by decide +kernel
theorem dL_law_357 : decode cL_law 357 = .ok (.aload_n 0, 1) := by decide +kernel
theorem dL_law_358 : decode cL_law 358 = .ok (.iload 4, 2) := by decide +kernel
theorem dL_law_360 : decode cL_law 360 = .ok (.iconst 2, 1) := by decide +kernel
theorem dL_law_361 : decode cL_law 361 = .ok (.iadd, 1) := by decide +kernel
theorem dL_law_362 : decode cL_law 362 = .ok (.iaload, 1) := by decide +kernel
theorem dL_law_363 : decode cL_law 363 = .ok (.invokevirtual 103, 3) := by decide +kernel
theorem dL_law_366 : decode cL_law 366 = .ok (.istore 6, 2) := by decide +kernel
theorem dL_law_368 : decode cL_law 368 = .ok (.aload_n 2, 1) := by decide +kernel
theorem dL_law_369 : decode cL_law 369 = .ok (.invokevirtual 80, 3) := by decide +kernel
theorem dL_law_372 : decode cL_law 372 = .ok (.iload 5, 2) := by decide +kernel
theorem dL_law_374 : decode cL_law 374 = .ok (.if_icmp .eq 5, 3) := by decide +kernel
theorem dL_law_377 : decode cL_law 377 = .ok (.iconst 0, 1) := by decide +kernel
theorem dL_law_378 : decode cL_law 378 = .ok (.ireturn, 1) := by decide +kernel
theorem dL_law_379 : decode cL_law 379 = .ok (.iload 5, 2) := by decide +kernel
theorem dL_law_381 : decode cL_law 381 = .ok (.ifCond .ne 15, 3) := by decide +kernel
theorem dL_law_384 : decode cL_law 384 = .ok (.aload_n 3, 1) := by decide +kernel
theorem dL_law_385 : decode cL_law 385 = .ok (.iconst 0, 1) := by decide +kernel
theorem dL_law_386 : decode cL_law 386 = .ok (.laload, 1) := by decide +kernel
theorem dL_law_387 : decode cL_law 387 = .ok (.iload 6, 2) := by decide +kernel
theorem dL_law_389 : decode cL_law 389 = .ok (.i2l, 1) := by decide +kernel
theorem dL_law_390 : decode cL_law 390 = .ok (.lcmp, 1) := by decide +kernel
theorem dL_law_391 : decode cL_law 391 = .ok (.ifCond .eq 5, 3) := by decide +kernel
theorem dL_law_394 : decode cL_law 394 = .ok (.iconst 0, 1) := by decide +kernel
theorem dL_law_395 : decode cL_law 395 = .ok (.ireturn, 1) := by decide +kernel
theorem dL_law_396 : decode cL_law 396 = .ok (.goto 973, 3) := by decide +kernel
theorem dL_law_399 : decode cL_law 399 = .ok (.aload_n 1, 1) := by decide +kernel
theorem dL_law_400 : decode cL_law 400 = .ok (.invokevirtual 104, 3) := by decide +kernel
theorem dL_law_403 : decode cL_law 403 = .ok (.aload_n 2, 1) := by decide +kernel
theorem dL_law_404 : decode cL_law 404 = .ok (.invokevirtual 107, 3) := by decide +kernel
theorem dL_law_407 : decode cL_law 407 = .ok (.if_icmp .eq 962, 3) := by decide +kernel
theorem dL_law_410 : decode cL_law 410 = .ok (.iconst 0, 1) := by decide +kernel
theorem dL_law_411 : decode cL_law 411 = .ok (.ireturn, 1) := by decide +kernel
theorem dL_law_412 : decode cL_law 412 = .ok (.aload_n 1, 1) := by decide +kernel
theorem dL_law_413 : decode cL_law 413 = .ok (.aload_n 0, 1) := by decide +kernel
theorem dL_law_414 : decode cL_law 414 = .ok (.iload 4, 2) := by decide +kernel
theorem dL_law_416 : decode cL_law 416 = .ok (.iconst 1, 1) := by decide +kernel
theorem dL_law_417 : decode cL_law 417 = .ok (.iadd, 1) := by decide +kernel
theorem dL_law_418 : decode cL_law 418 = .ok (.iaload, 1) := by decide +kernel
theorem dL_law_419 : decode cL_law 419 = .ok (.aload_n 3, 1) := by decide +kernel
theorem dL_law_420 : decode cL_law 420 = .ok (.invokestatic 108, 3) := by decide +kernel
theorem dL_law_423 : decode cL_law 423 = .ok (.istore 5, 2) := by decide +kernel
theorem dL_law_425 : decode cL_law 425 = .ok (.aload_n 2, 1) := by decide +kernel
theorem dL_law_426 : decode cL_law 426 = .ok (.aload_n 0, 1) := by decide +kernel
theorem dL_law_427 : decode cL_law 427 = .ok (.iload 4, 2) := by decide +kernel
theorem dL_law_429 : decode cL_law 429 = .ok (.iconst 1, 1) := by decide +kernel
theorem dL_law_430 : decode cL_law 430 = .ok (.iadd, 1) := by decide +kernel
theorem dL_law_431 : decode cL_law 431 = .ok (.iaload, 1) := by decide +kernel
theorem dL_law_432 : decode cL_law 432 = .ok (.invokevirtual 110, 3) := by decide +kernel
theorem dL_law_435 : decode cL_law 435 = .ok (.istore 6, 2) := by decide +kernel
theorem dL_law_437 : decode cL_law 437 = .ok (.aload_n 2, 1) := by decide +kernel
theorem dL_law_438 : decode cL_law 438 = .ok (.invokevirtual 80, 3) := by decide +kernel
theorem dL_law_441 : decode cL_law 441 = .ok (.iload 5, 2) := by decide +kernel
theorem dL_law_443 : decode cL_law 443 = .ok (.if_icmp .eq 5, 3) := by decide +kernel
theorem dL_law_446 : decode cL_law 446 = .ok (.iconst 0, 1) := by decide +kernel
theorem dL_law_447 : decode cL_law 447 = .ok (.ireturn, 1) := by decide +kernel
theorem dL_law_448 : decode cL_law 448 = .ok (.iload 5, 2) := by decide +kernel
theorem dL_law_450 : decode cL_law 450 = .ok (.ifCond .ne 15, 3) := by decide +kernel
theorem dL_law_453 : decode cL_law 453 = .ok (.aload_n 3, 1) := by decide +kernel
theorem dL_law_454 : decode cL_law 454 = .ok (.iconst 0, 1) := by decide +kernel
theorem dL_law_455 : decode cL_law 455 = .ok (.laload, 1) := by decide +kernel
theorem dL_law_456 : decode cL_law 456 = .ok (.iload 6, 2) := by decide +kernel
theorem dL_law_458 : decode cL_law 458 = .ok (.i2l, 1) := by decide +kernel
theorem dL_law_459 : decode cL_law 459 = .ok (.lcmp, 1) := by decide +kernel
theorem dL_law_460 : decode cL_law 460 = .ok (.ifCond .eq 5, 3) := by decide +kernel
theorem dL_law_463 : decode cL_law 463 = .ok (.iconst 0, 1) := by decide +kernel
theorem dL_law_464 : decode cL_law 464 = .ok (.ireturn, 1) := by decide +kernel
theorem dL_law_465 : decode cL_law 465 = .ok (.goto 904, 3) := by decide +kernel
theorem dL_law_468 : decode cL_law 468 = .ok (.aload_n 1, 1) := by decide +kernel
theorem dL_law_469 : decode cL_law 469 = .ok (.aload_n 0, 1) := by decide +kernel
theorem dL_law_470 : decode cL_law 470 = .ok (.iload 4, 2) := by decide +kernel
theorem dL_law_472 : decode cL_law 472 = .ok (.iconst 1, 1) := by decide +kernel
theorem dL_law_473 : decode cL_law 473 = .ok (.iadd, 1) := by decide +kernel
theorem dL_law_474 : decode cL_law 474 = .ok (.iaload, 1) := by decide +kernel
theorem dL_law_475 : decode cL_law 475 = .ok (.aload_n 3, 1) := by decide +kernel
theorem dL_law_476 : decode cL_law 476 = .ok (.invokestatic 111, 3) := by decide +kernel
theorem dL_law_479 : decode cL_law 479 = .ok (.istore 5, 2) := by decide +kernel
theorem dL_law_481 : decode cL_law 481 = .ok (.aload_n 2, 1) := by decide +kernel
theorem dL_law_482 : decode cL_law 482 = .ok (.aload_n 0, 1) := by decide +kernel
theorem dL_law_483 : decode cL_law 483 = .ok (.iload 4, 2) := by decide +kernel
theorem dL_law_485 : decode cL_law 485 = .ok (.iconst 1, 1) := by decide +kernel
theorem dL_law_486 : decode cL_law 486 = .ok (.iadd, 1) := by decide +kernel
theorem dL_law_487 : decode cL_law 487 = .ok (.iaload, 1) := by decide +kernel
theorem dL_law_488 : decode cL_law 488 = .ok (.invokevirtual 113, 3) := by decide +kernel
theorem dL_law_491 : decode cL_law 491 = .ok (.istore 6, 2) := by decide +kernel
theorem dL_law_493 : decode cL_law 493 = .ok (.aload_n 2, 1) := by decide +kernel
theorem dL_law_494 : decode cL_law 494 = .ok (.invokevirtual 80, 3) := by decide +kernel
theorem dL_law_497 : decode cL_law 497 = .ok (.iload 5, 2) := by decide +kernel
theorem dL_law_499 : decode cL_law 499 = .ok (.if_icmp .eq 5, 3) := by decide +kernel
theorem dL_law_502 : decode cL_law 502 = .ok (.iconst 0, 1) := by decide +kernel
theorem dL_law_503 : decode cL_law 503 = .ok (.ireturn, 1) := by decide +kernel
theorem dL_law_504 : decode cL_law 504 = .ok (.iload 5, 2) := by decide +kernel
theorem dL_law_506 : decode cL_law 506 = .ok (.ifCond .ne 15, 3) := by decide +kernel
theorem dL_law_509 : decode cL_law 509 = .ok (.aload_n 3, 1) := by decide +kernel
theorem dL_law_510 : decode cL_law 510 = .ok (.iconst 0, 1) := by decide +kernel
theorem dL_law_511 : decode cL_law 511 = .ok (.laload, 1) := by decide +kernel
theorem dL_law_512 : decode cL_law 512 = .ok (.iload 6, 2) := by decide +kernel
theorem dL_law_514 : decode cL_law 514 = .ok (.i2l, 1) := by decide +kernel
theorem dL_law_515 : decode cL_law 515 = .ok (.lcmp, 1) := by decide +kernel
theorem dL_law_516 : decode cL_law 516 = .ok (.ifCond .eq 5, 3) := by decide +kernel
theorem dL_law_519 : decode cL_law 519 = .ok (.iconst 0, 1) := by decide +kernel
theorem dL_law_520 : decode cL_law 520 = .ok (.ireturn, 1) := by decide +kernel
theorem dL_law_521 : decode cL_law 521 = .ok (.goto 848, 3) := by decide +kernel
theorem dL_law_524 : decode cL_law 524 = .ok (.aload_n 1, 1) := by decide +kernel
theorem dL_law_525 : decode cL_law 525 = .ok (.aload_n 0, 1) := by decide +kernel
theorem dL_law_526 : decode cL_law 526 = .ok (.iload 4, 2) := by decide +kernel
theorem dL_law_528 : decode cL_law 528 = .ok (.iconst 1, 1) := by decide +kernel
theorem dL_law_529 : decode cL_law 529 = .ok (.iadd, 1) := by decide +kernel
theorem dL_law_530 : decode cL_law 530 = .ok (.iaload, 1) := by decide +kernel
theorem dL_law_531 : decode cL_law 531 = .ok (.aload_n 3, 1) := by decide +kernel
theorem dL_law_532 : decode cL_law 532 = .ok (.invokestatic 114, 3) := by decide +kernel
theorem dL_law_535 : decode cL_law 535 = .ok (.istore 5, 2) := by decide +kernel
theorem dL_law_537 : decode cL_law 537 = .ok (.aload_n 2, 1) := by decide +kernel
theorem dL_law_538 : decode cL_law 538 = .ok (.aload_n 0, 1) := by decide +kernel
theorem dL_law_539 : decode cL_law 539 = .ok (.iload 4, 2) := by decide +kernel
theorem dL_law_541 : decode cL_law 541 = .ok (.iconst 1, 1) := by decide +kernel
theorem dL_law_542 : decode cL_law 542 = .ok (.iadd, 1) := by decide +kernel
theorem dL_law_543 : decode cL_law 543 = .ok (.iaload, 1) := by decide +kernel
theorem dL_law_544 : decode cL_law 544 = .ok (.invokevirtual 116, 3) := by decide +kernel
theorem dL_law_547 : decode cL_law 547 = .ok (.istore 6, 2) := by decide +kernel
theorem dL_law_549 : decode cL_law 549 = .ok (.aload_n 2, 1) := by decide +kernel
theorem dL_law_550 : decode cL_law 550 = .ok (.invokevirtual 80, 3) := by decide +kernel
theorem dL_law_553 : decode cL_law 553 = .ok (.iload 5, 2) := by decide +kernel
theorem dL_law_555 : decode cL_law 555 = .ok (.if_icmp .eq 5, 3) := by decide +kernel
theorem dL_law_558 : decode cL_law 558 = .ok (.iconst 0, 1) := by decide +kernel
theorem dL_law_559 : decode cL_law 559 = .ok (.ireturn, 1) := by decide +kernel
theorem dL_law_560 : decode cL_law 560 = .ok (.iload 5, 2) := by decide +kernel
theorem dL_law_562 : decode cL_law 562 = .ok (.ifCond .ne 15, 3) := by decide +kernel
theorem dL_law_565 : decode cL_law 565 = .ok (.aload_n 3, 1) := by decide +kernel
theorem dL_law_566 : decode cL_law 566 = .ok (.iconst 0, 1) := by decide +kernel
theorem dL_law_567 : decode cL_law 567 = .ok (.laload, 1) := by decide +kernel
theorem dL_law_568 : decode cL_law 568 = .ok (.iload 6, 2) := by decide +kernel
theorem dL_law_570 : decode cL_law 570 = .ok (.i2l, 1) := by decide +kernel
theorem dL_law_571 : decode cL_law 571 = .ok (.lcmp, 1) := by decide +kernel
theorem dL_law_572 : decode cL_law 572 = .ok (.ifCond .eq 5, 3) := by decide +kernel
theorem dL_law_575 : decode cL_law 575 = .ok (.iconst 0, 1) := by decide +kernel
theorem dL_law_576 : decode cL_law 576 = .ok (.ireturn, 1) := by decide +kernel
theorem dL_law_577 : decode cL_law 577 = .ok (.goto 792, 3) := by decide +kernel
theorem dL_law_580 : decode cL_law 580 = .ok (.aload_n 1, 1) := by decide +kernel
theorem dL_law_581 : decode cL_law 581 = .ok (.aload_n 0, 1) := by decide +kernel
theorem dL_law_582 : decode cL_law 582 = .ok (.iload 4, 2) := by decide +kernel
theorem dL_law_584 : decode cL_law 584 = .ok (.iconst 1, 1) := by decide +kernel
theorem dL_law_585 : decode cL_law 585 = .ok (.iadd, 1) := by decide +kernel
theorem dL_law_586 : decode cL_law 586 = .ok (.iaload, 1) := by decide +kernel
theorem dL_law_587 : decode cL_law 587 = .ok (.aload_n 0, 1) := by decide +kernel
theorem dL_law_588 : decode cL_law 588 = .ok (.iload 4, 2) := by decide +kernel
theorem dL_law_590 : decode cL_law 590 = .ok (.iconst 2, 1) := by decide +kernel
theorem dL_law_591 : decode cL_law 591 = .ok (.iadd, 1) := by decide +kernel
theorem dL_law_592 : decode cL_law 592 = .ok (.iaload, 1) := by decide +kernel
theorem dL_law_593 : decode cL_law 593 = .ok (.aload_n 3, 1) := by decide +kernel
theorem dL_law_594 : decode cL_law 594 = .ok (.invokestatic 117, 3) := by decide +kernel
theorem dL_law_597 : decode cL_law 597 = .ok (.istore 5, 2) := by decide +kernel
theorem dL_law_599 : decode cL_law 599 = .ok (.aload_n 2, 1) := by decide +kernel
theorem dL_law_600 : decode cL_law 600 = .ok (.aload_n 0, 1) := by decide +kernel
theorem dL_law_601 : decode cL_law 601 = .ok (.iload 4, 2) := by decide +kernel
theorem dL_law_603 : decode cL_law 603 = .ok (.iconst 1, 1) := by decide +kernel
theorem dL_law_604 : decode cL_law 604 = .ok (.iadd, 1) := by decide +kernel
theorem dL_law_605 : decode cL_law 605 = .ok (.iaload, 1) := by decide +kernel
theorem dL_law_606 : decode cL_law 606 = .ok (.aload_n 0, 1) := by decide +kernel
theorem dL_law_607 : decode cL_law 607 = .ok (.iload 4, 2) := by decide +kernel
theorem dL_law_609 : decode cL_law 609 = .ok (.iconst 2, 1) := by decide +kernel
theorem dL_law_610 : decode cL_law 610 = .ok (.iadd, 1) := by decide +kernel
theorem dL_law_611 : decode cL_law 611 = .ok (.iaload, 1) := by decide +kernel
theorem dL_law_612 : decode cL_law 612 = .ok (.invokevirtual 119, 3) := by decide +kernel
theorem dL_law_615 : decode cL_law 615 = .ok (.istore 6, 2) := by decide +kernel
theorem dL_law_617 : decode cL_law 617 = .ok (.aload_n 2, 1) := by decide +kernel
theorem dL_law_618 : decode cL_law 618 = .ok (.invokevirtual 80, 3) := by decide +kernel
theorem dL_law_621 : decode cL_law 621 = .ok (.iload 5, 2) := by decide +kernel
theorem dL_law_623 : decode cL_law 623 = .ok (.if_icmp .eq 5, 3) := by decide +kernel
theorem dL_law_626 : decode cL_law 626 = .ok (.iconst 0, 1) := by decide +kernel
theorem dL_law_627 : decode cL_law 627 = .ok (.ireturn, 1) := by decide +kernel
theorem dL_law_628 : decode cL_law 628 = .ok (.iload 5, 2) := by decide +kernel
theorem dL_law_630 : decode cL_law 630 = .ok (.ifCond .ne 15, 3) := by decide +kernel
theorem dL_law_633 : decode cL_law 633 = .ok (.aload_n 3, 1) := by decide +kernel
theorem dL_law_634 : decode cL_law 634 = .ok (.iconst 0, 1) := by decide +kernel
theorem dL_law_635 : decode cL_law 635 = .ok (.laload, 1) := by decide +kernel
theorem dL_law_636 : decode cL_law 636 = .ok (.iload 6, 2) := by decide +kernel
theorem dL_law_638 : decode cL_law 638 = .ok (.i2l, 1) := by decide +kernel
theorem dL_law_639 : decode cL_law 639 = .ok (.lcmp, 1) := by decide +kernel
theorem dL_law_640 : decode cL_law 640 = .ok (.ifCond .eq 5, 3) := by decide +kernel
theorem dL_law_643 : decode cL_law 643 = .ok (.iconst 0, 1) := by decide +kernel
theorem dL_law_644 : decode cL_law 644 = .ok (.ireturn, 1) := by decide +kernel
theorem dL_law_645 : decode cL_law 645 = .ok (.goto 724, 3) := by decide +kernel
theorem dL_law_648 : decode cL_law 648 = .ok (.aload_n 1, 1) := by decide +kernel
theorem dL_law_649 : decode cL_law 649 = .ok (.aload_n 0, 1) := by decide +kernel
theorem dL_law_650 : decode cL_law 650 = .ok (.iload 4, 2) := by decide +kernel
theorem dL_law_652 : decode cL_law 652 = .ok (.iconst 1, 1) := by decide +kernel
theorem dL_law_653 : decode cL_law 653 = .ok (.iadd, 1) := by decide +kernel
theorem dL_law_654 : decode cL_law 654 = .ok (.iaload, 1) := by decide +kernel
theorem dL_law_655 : decode cL_law 655 = .ok (.aload_n 3, 1) := by decide +kernel
theorem dL_law_656 : decode cL_law 656 = .ok (.invokestatic 120, 3) := by decide +kernel
theorem dL_law_659 : decode cL_law 659 = .ok (.istore 5, 2) := by decide +kernel
theorem dL_law_661 : decode cL_law 661 = .ok (.aload_n 2, 1) := by decide +kernel
theorem dL_law_662 : decode cL_law 662 = .ok (.aload_n 0, 1) := by decide +kernel
theorem dL_law_663 : decode cL_law 663 = .ok (.iload 4, 2) := by decide +kernel
theorem dL_law_665 : decode cL_law 665 = .ok (.iconst 1, 1) := by decide +kernel
theorem dL_law_666 : decode cL_law 666 = .ok (.iadd, 1) := by decide +kernel
theorem dL_law_667 : decode cL_law 667 = .ok (.iaload, 1) := by decide +kernel
theorem dL_law_668 : decode cL_law 668 = .ok (.invokevirtual 122, 3) := by decide +kernel
theorem dL_law_671 : decode cL_law 671 = .ok (.istore 6, 2) := by decide +kernel
theorem dL_law_673 : decode cL_law 673 = .ok (.aload_n 2, 1) := by decide +kernel
theorem dL_law_674 : decode cL_law 674 = .ok (.invokevirtual 80, 3) := by decide +kernel
theorem dL_law_677 : decode cL_law 677 = .ok (.iload 5, 2) := by decide +kernel
theorem dL_law_679 : decode cL_law 679 = .ok (.if_icmp .eq 5, 3) := by decide +kernel
theorem dL_law_682 : decode cL_law 682 = .ok (.iconst 0, 1) := by decide +kernel
theorem dL_law_683 : decode cL_law 683 = .ok (.ireturn, 1) := by decide +kernel
theorem dL_law_684 : decode cL_law 684 = .ok (.iload 5, 2) := by decide +kernel
theorem dL_law_686 : decode cL_law 686 = .ok (.ifCond .ne 15, 3) := by decide +kernel
theorem dL_law_689 : decode cL_law 689 = .ok (.aload_n 3, 1) := by decide +kernel
theorem dL_law_690 : decode cL_law 690 = .ok (.iconst 0, 1) := by decide +kernel
theorem dL_law_691 : decode cL_law 691 = .ok (.laload, 1) := by decide +kernel
theorem dL_law_692 : decode cL_law 692 = .ok (.iload 6, 2) := by decide +kernel
theorem dL_law_694 : decode cL_law 694 = .ok (.i2l, 1) := by decide +kernel
theorem dL_law_695 : decode cL_law 695 = .ok (.lcmp, 1) := by decide +kernel
theorem dL_law_696 : decode cL_law 696 = .ok (.ifCond .eq 5, 3) := by decide +kernel
theorem dL_law_699 : decode cL_law 699 = .ok (.iconst 0, 1) := by decide +kernel
theorem dL_law_700 : decode cL_law 700 = .ok (.ireturn, 1) := by decide +kernel
theorem dL_law_701 : decode cL_law 701 = .ok (.goto 668, 3) := by decide +kernel
theorem dL_law_704 : decode cL_law 704 = .ok (.aload_n 1, 1) := by decide +kernel
theorem dL_law_705 : decode cL_law 705 = .ok (.aload_n 0, 1) := by decide +kernel
theorem dL_law_706 : decode cL_law 706 = .ok (.iload 4, 2) := by decide +kernel
theorem dL_law_708 : decode cL_law 708 = .ok (.iconst 1, 1) := by decide +kernel
theorem dL_law_709 : decode cL_law 709 = .ok (.iadd, 1) := by decide +kernel
theorem dL_law_710 : decode cL_law 710 = .ok (.iaload, 1) := by decide +kernel
theorem dL_law_711 : decode cL_law 711 = .ok (.aload_n 3, 1) := by decide +kernel
theorem dL_law_712 : decode cL_law 712 = .ok (.invokestatic 123, 3) := by decide +kernel
theorem dL_law_715 : decode cL_law 715 = .ok (.istore 5, 2) := by decide +kernel
theorem dL_law_717 : decode cL_law 717 = .ok (.aload_n 2, 1) := by decide +kernel
theorem dL_law_718 : decode cL_law 718 = .ok (.aload_n 0, 1) := by decide +kernel
theorem dL_law_719 : decode cL_law 719 = .ok (.iload 4, 2) := by decide +kernel
theorem dL_law_721 : decode cL_law 721 = .ok (.iconst 1, 1) := by decide +kernel
theorem dL_law_722 : decode cL_law 722 = .ok (.iadd, 1) := by decide +kernel
theorem dL_law_723 : decode cL_law 723 = .ok (.iaload, 1) := by decide +kernel
theorem dL_law_724 : decode cL_law 724 = .ok (.invokevirtual 125, 3) := by decide +kernel
theorem dL_law_727 : decode cL_law 727 = .ok (.istore 6, 2) := by decide +kernel
theorem dL_law_729 : decode cL_law 729 = .ok (.aload_n 2, 1) := by decide +kernel
theorem dL_law_730 : decode cL_law 730 = .ok (.invokevirtual 80, 3) := by decide +kernel
theorem dL_law_733 : decode cL_law 733 = .ok (.iload 5, 2) := by decide +kernel
theorem dL_law_735 : decode cL_law 735 = .ok (.if_icmp .eq 5, 3) := by decide +kernel
theorem dL_law_738 : decode cL_law 738 = .ok (.iconst 0, 1) := by decide +kernel
theorem dL_law_739 : decode cL_law 739 = .ok (.ireturn, 1) := by decide +kernel
theorem dL_law_740 : decode cL_law 740 = .ok (.iload 5, 2) := by decide +kernel
theorem dL_law_742 : decode cL_law 742 = .ok (.ifCond .ne 15, 3) := by decide +kernel
theorem dL_law_745 : decode cL_law 745 = .ok (.aload_n 3, 1) := by decide +kernel
theorem dL_law_746 : decode cL_law 746 = .ok (.iconst 0, 1) := by decide +kernel
theorem dL_law_747 : decode cL_law 747 = .ok (.laload, 1) := by decide +kernel
theorem dL_law_748 : decode cL_law 748 = .ok (.iload 6, 2) := by decide +kernel
theorem dL_law_750 : decode cL_law 750 = .ok (.i2l, 1) := by decide +kernel
theorem dL_law_751 : decode cL_law 751 = .ok (.lcmp, 1) := by decide +kernel
theorem dL_law_752 : decode cL_law 752 = .ok (.ifCond .eq 5, 3) := by decide +kernel
theorem dL_law_755 : decode cL_law 755 = .ok (.iconst 0, 1) := by decide +kernel
theorem dL_law_756 : decode cL_law 756 = .ok (.ireturn, 1) := by decide +kernel
theorem dL_law_757 : decode cL_law 757 = .ok (.goto 612, 3) := by decide +kernel
theorem dL_law_760 : decode cL_law 760 = .ok (.aload_n 1, 1) := by decide +kernel
theorem dL_law_761 : decode cL_law 761 = .ok (.aload_n 0, 1) := by decide +kernel
theorem dL_law_762 : decode cL_law 762 = .ok (.iload 4, 2) := by decide +kernel
theorem dL_law_764 : decode cL_law 764 = .ok (.iconst 1, 1) := by decide +kernel
theorem dL_law_765 : decode cL_law 765 = .ok (.iadd, 1) := by decide +kernel
theorem dL_law_766 : decode cL_law 766 = .ok (.iaload, 1) := by decide +kernel
theorem dL_law_767 : decode cL_law 767 = .ok (.aload_n 3, 1) := by decide +kernel
theorem dL_law_768 : decode cL_law 768 = .ok (.invokestatic 126, 3) := by decide +kernel
theorem dL_law_771 : decode cL_law 771 = .ok (.istore 5, 2) := by decide +kernel
theorem dL_law_773 : decode cL_law 773 = .ok (.aload_n 2, 1) := by decide +kernel
theorem dL_law_774 : decode cL_law 774 = .ok (.aload_n 0, 1) := by decide +kernel
theorem dL_law_775 : decode cL_law 775 = .ok (.iload 4, 2) := by decide +kernel
theorem dL_law_777 : decode cL_law 777 = .ok (.iconst 1, 1) := by decide +kernel
theorem dL_law_778 : decode cL_law 778 = .ok (.iadd, 1) := by decide +kernel
theorem dL_law_779 : decode cL_law 779 = .ok (.iaload, 1) := by decide +kernel
theorem dL_law_780 : decode cL_law 780 = .ok (.invokevirtual 128, 3) := by decide +kernel
theorem dL_law_783 : decode cL_law 783 = .ok (.istore 6, 2) := by decide +kernel
theorem dL_law_785 : decode cL_law 785 = .ok (.aload_n 2, 1) := by decide +kernel
theorem dL_law_786 : decode cL_law 786 = .ok (.invokevirtual 80, 3) := by decide +kernel
theorem dL_law_789 : decode cL_law 789 = .ok (.iload 5, 2) := by decide +kernel
theorem dL_law_791 : decode cL_law 791 = .ok (.if_icmp .eq 5, 3) := by decide +kernel
theorem dL_law_794 : decode cL_law 794 = .ok (.iconst 0, 1) := by decide +kernel
theorem dL_law_795 : decode cL_law 795 = .ok (.ireturn, 1) := by decide +kernel
theorem dL_law_796 : decode cL_law 796 = .ok (.iload 5, 2) := by decide +kernel
theorem dL_law_798 : decode cL_law 798 = .ok (.ifCond .ne 15, 3) := by decide +kernel
theorem dL_law_801 : decode cL_law 801 = .ok (.aload_n 3, 1) := by decide +kernel
theorem dL_law_802 : decode cL_law 802 = .ok (.iconst 0, 1) := by decide +kernel
theorem dL_law_803 : decode cL_law 803 = .ok (.laload, 1) := by decide +kernel
theorem dL_law_804 : decode cL_law 804 = .ok (.iload 6, 2) := by decide +kernel
theorem dL_law_806 : decode cL_law 806 = .ok (.i2l, 1) := by decide +kernel
theorem dL_law_807 : decode cL_law 807 = .ok (.lcmp, 1) := by decide +kernel
theorem dL_law_808 : decode cL_law 808 = .ok (.ifCond .eq 5, 3) := by decide +kernel
theorem dL_law_811 : decode cL_law 811 = .ok (.iconst 0, 1) := by decide +kernel
theorem dL_law_812 : decode cL_law 812 = .ok (.ireturn, 1) := by decide +kernel
theorem dL_law_813 : decode cL_law 813 = .ok (.goto 556, 3) := by decide +kernel
theorem dL_law_816 : decode cL_law 816 = .ok (.aload_n 1, 1) := by decide +kernel
theorem dL_law_817 : decode cL_law 817 = .ok (.aload_n 0, 1) := by decide +kernel
theorem dL_law_818 : decode cL_law 818 = .ok (.iload 4, 2) := by decide +kernel
theorem dL_law_820 : decode cL_law 820 = .ok (.iconst 1, 1) := by decide +kernel
theorem dL_law_821 : decode cL_law 821 = .ok (.iadd, 1) := by decide +kernel
theorem dL_law_822 : decode cL_law 822 = .ok (.iaload, 1) := by decide +kernel
theorem dL_law_823 : decode cL_law 823 = .ok (.aload_n 0, 1) := by decide +kernel
theorem dL_law_824 : decode cL_law 824 = .ok (.iload 4, 2) := by decide +kernel
theorem dL_law_826 : decode cL_law 826 = .ok (.iconst 2, 1) := by decide +kernel
theorem dL_law_827 : decode cL_law 827 = .ok (.iadd, 1) := by decide +kernel
theorem dL_law_828 : decode cL_law 828 = .ok (.iaload, 1) := by decide +kernel
theorem dL_law_829 : decode cL_law 829 = .ok (.aload_n 3, 1) := by decide +kernel
theorem dL_law_830 : decode cL_law 830 = .ok (.invokestatic 129, 3) := by decide +kernel
theorem dL_law_833 : decode cL_law 833 = .ok (.istore 5, 2) := by decide +kernel
theorem dL_law_835 : decode cL_law 835 = .ok (.aload_n 2, 1) := by decide +kernel
theorem dL_law_836 : decode cL_law 836 = .ok (.aload_n 0, 1) := by decide +kernel
theorem dL_law_837 : decode cL_law 837 = .ok (.iload 4, 2) := by decide +kernel
theorem dL_law_839 : decode cL_law 839 = .ok (.iconst 1, 1) := by decide +kernel
theorem dL_law_840 : decode cL_law 840 = .ok (.iadd, 1) := by decide +kernel
theorem dL_law_841 : decode cL_law 841 = .ok (.iaload, 1) := by decide +kernel
theorem dL_law_842 : decode cL_law 842 = .ok (.aload_n 0, 1) := by decide +kernel
theorem dL_law_843 : decode cL_law 843 = .ok (.iload 4, 2) := by decide +kernel
theorem dL_law_845 : decode cL_law 845 = .ok (.iconst 2, 1) := by decide +kernel
theorem dL_law_846 : decode cL_law 846 = .ok (.iadd, 1) := by decide +kernel
theorem dL_law_847 : decode cL_law 847 = .ok (.iaload, 1) := by decide +kernel
theorem dL_law_848 : decode cL_law 848 = .ok (.invokevirtual 131, 3) := by decide +kernel
theorem dL_law_851 : decode cL_law 851 = .ok (.istore 6, 2) := by decide +kernel
theorem dL_law_853 : decode cL_law 853 = .ok (.aload_n 2, 1) := by decide +kernel
theorem dL_law_854 : decode cL_law 854 = .ok (.invokevirtual 80, 3) := by decide +kernel
theorem dL_law_857 : decode cL_law 857 = .ok (.iload 5, 2) := by decide +kernel
theorem dL_law_859 : decode cL_law 859 = .ok (.if_icmp .eq 5, 3) := by decide +kernel
theorem dL_law_862 : decode cL_law 862 = .ok (.iconst 0, 1) := by decide +kernel
theorem dL_law_863 : decode cL_law 863 = .ok (.ireturn, 1) := by decide +kernel
theorem dL_law_864 : decode cL_law 864 = .ok (.iload 5, 2) := by decide +kernel
theorem dL_law_866 : decode cL_law 866 = .ok (.ifCond .ne 15, 3) := by decide +kernel
theorem dL_law_869 : decode cL_law 869 = .ok (.aload_n 3, 1) := by decide +kernel
theorem dL_law_870 : decode cL_law 870 = .ok (.iconst 0, 1) := by decide +kernel
theorem dL_law_871 : decode cL_law 871 = .ok (.laload, 1) := by decide +kernel
theorem dL_law_872 : decode cL_law 872 = .ok (.iload 6, 2) := by decide +kernel
theorem dL_law_874 : decode cL_law 874 = .ok (.i2l, 1) := by decide +kernel
theorem dL_law_875 : decode cL_law 875 = .ok (.lcmp, 1) := by decide +kernel
theorem dL_law_876 : decode cL_law 876 = .ok (.ifCond .eq 5, 3) := by decide +kernel
theorem dL_law_879 : decode cL_law 879 = .ok (.iconst 0, 1) := by decide +kernel
theorem dL_law_880 : decode cL_law 880 = .ok (.ireturn, 1) := by decide +kernel
theorem dL_law_881 : decode cL_law 881 = .ok (.goto 488, 3) := by decide +kernel
theorem dL_law_884 : decode cL_law 884 = .ok (.aload_n 1, 1) := by decide +kernel
theorem dL_law_885 : decode cL_law 885 = .ok (.aload_n 0, 1) := by decide +kernel
theorem dL_law_886 : decode cL_law 886 = .ok (.iload 4, 2) := by decide +kernel
theorem dL_law_888 : decode cL_law 888 = .ok (.iconst 1, 1) := by decide +kernel
theorem dL_law_889 : decode cL_law 889 = .ok (.iadd, 1) := by decide +kernel
theorem dL_law_890 : decode cL_law 890 = .ok (.iaload, 1) := by decide +kernel
theorem dL_law_891 : decode cL_law 891 = .ok (.aload_n 3, 1) := by decide +kernel
theorem dL_law_892 : decode cL_law 892 = .ok (.invokestatic 132, 3) := by decide +kernel
theorem dL_law_895 : decode cL_law 895 = .ok (.istore 5, 2) := by decide +kernel
theorem dL_law_897 : decode cL_law 897 = .ok (.aload_n 2, 1) := by decide +kernel
theorem dL_law_898 : decode cL_law 898 = .ok (.aload_n 0, 1) := by decide +kernel
theorem dL_law_899 : decode cL_law 899 = .ok (.iload 4, 2) := by decide +kernel
theorem dL_law_901 : decode cL_law 901 = .ok (.iconst 1, 1) := by decide +kernel
theorem dL_law_902 : decode cL_law 902 = .ok (.iadd, 1) := by decide +kernel
theorem dL_law_903 : decode cL_law 903 = .ok (.iaload, 1) := by decide +kernel
theorem dL_law_904 : decode cL_law 904 = .ok (.invokevirtual 134, 3) := by decide +kernel
theorem dL_law_907 : decode cL_law 907 = .ok (.istore 6, 2) := by decide +kernel
theorem dL_law_909 : decode cL_law 909 = .ok (.aload_n 2, 1) := by decide +kernel
theorem dL_law_910 : decode cL_law 910 = .ok (.invokevirtual 80, 3) := by decide +kernel
theorem dL_law_913 : decode cL_law 913 = .ok (.iload 5, 2) := by decide +kernel
theorem dL_law_915 : decode cL_law 915 = .ok (.if_icmp .eq 5, 3) := by decide +kernel
theorem dL_law_918 : decode cL_law 918 = .ok (.iconst 0, 1) := by decide +kernel
theorem dL_law_919 : decode cL_law 919 = .ok (.ireturn, 1) := by decide +kernel
theorem dL_law_920 : decode cL_law 920 = .ok (.iload 5, 2) := by decide +kernel
theorem dL_law_922 : decode cL_law 922 = .ok (.ifCond .ne 15, 3) := by decide +kernel
theorem dL_law_925 : decode cL_law 925 = .ok (.aload_n 3, 1) := by decide +kernel
theorem dL_law_926 : decode cL_law 926 = .ok (.iconst 0, 1) := by decide +kernel
theorem dL_law_927 : decode cL_law 927 = .ok (.laload, 1) := by decide +kernel
theorem dL_law_928 : decode cL_law 928 = .ok (.iload 6, 2) := by decide +kernel
theorem dL_law_930 : decode cL_law 930 = .ok (.i2l, 1) := by decide +kernel
theorem dL_law_931 : decode cL_law 931 = .ok (.lcmp, 1) := by decide +kernel
theorem dL_law_932 : decode cL_law 932 = .ok (.ifCond .eq 5, 3) := by decide +kernel
theorem dL_law_935 : decode cL_law 935 = .ok (.iconst 0, 1) := by decide +kernel
theorem dL_law_936 : decode cL_law 936 = .ok (.ireturn, 1) := by decide +kernel
theorem dL_law_937 : decode cL_law 937 = .ok (.goto 432, 3) := by decide +kernel
theorem dL_law_940 : decode cL_law 940 = .ok (.aload_n 1, 1) := by decide +kernel
theorem dL_law_941 : decode cL_law 941 = .ok (.aload_n 0, 1) := by decide +kernel
theorem dL_law_942 : decode cL_law 942 = .ok (.iload 4, 2) := by decide +kernel
theorem dL_law_944 : decode cL_law 944 = .ok (.iconst 1, 1) := by decide +kernel
theorem dL_law_945 : decode cL_law 945 = .ok (.iadd, 1) := by decide +kernel
theorem dL_law_946 : decode cL_law 946 = .ok (.iaload, 1) := by decide +kernel
theorem dL_law_947 : decode cL_law 947 = .ok (.i2l, 1) := by decide +kernel
theorem dL_law_948 : decode cL_law 948 = .ok (.bipush 32, 2) := by decide +kernel
theorem dL_law_950 : decode cL_law 950 = .ok (.lshl, 1) := by decide +kernel
theorem dL_law_951 : decode cL_law 951 = .ok (.aload_n 0, 1) := by decide +kernel
theorem dL_law_952 : decode cL_law 952 = .ok (.iload 4, 2) := by decide +kernel
theorem dL_law_954 : decode cL_law 954 = .ok (.iconst 2, 1) := by decide +kernel
theorem dL_law_955 : decode cL_law 955 = .ok (.iadd, 1) := by decide +kernel
theorem dL_law_956 : decode cL_law 956 = .ok (.iaload, 1) := by decide +kernel
theorem dL_law_957 : decode cL_law 957 = .ok (.i2l, 1) := by decide +kernel
theorem dL_law_958 : decode cL_law 958 = .ok (.ldc2_w 72, 3) := by decide +kernel
theorem dL_law_961 : decode cL_law 961 = .ok (.land, 1) := by decide +kernel
theorem dL_law_962 : decode cL_law 962 = .ok (.lor, 1) := by decide +kernel
theorem dL_law_963 : decode cL_law 963 = .ok (.aload_n 0, 1) := by decide +kernel
theorem dL_law_964 : decode cL_law 964 = .ok (.iload 4, 2) := by decide +kernel
theorem dL_law_966 : decode cL_law 966 = .ok (.iconst 3, 1) := by decide +kernel
theorem dL_law_967 : decode cL_law 967 = .ok (.iadd, 1) := by decide +kernel
theorem dL_law_968 : decode cL_law 968 = .ok (.iaload, 1) := by decide +kernel
theorem dL_law_969 : decode cL_law 969 = .ok (.invokevirtual 135, 3) := by decide +kernel
theorem dL_law_972 : decode cL_law 972 = .ok (.aload_n 2, 1) := by decide +kernel
theorem dL_law_973 : decode cL_law 973 = .ok (.aload_n 0, 1) := by decide +kernel
theorem dL_law_974 : decode cL_law 974 = .ok (.iload 4, 2) := by decide +kernel
theorem dL_law_976 : decode cL_law 976 = .ok (.iconst 1, 1) := by decide +kernel
theorem dL_law_977 : decode cL_law 977 = .ok (.iadd, 1) := by decide +kernel
theorem dL_law_978 : decode cL_law 978 = .ok (.iaload, 1) := by decide +kernel
theorem dL_law_979 : decode cL_law 979 = .ok (.i2l, 1) := by decide +kernel
theorem dL_law_980 : decode cL_law 980 = .ok (.bipush 32, 2) := by decide +kernel
theorem dL_law_982 : decode cL_law 982 = .ok (.lshl, 1) := by decide +kernel
theorem dL_law_983 : decode cL_law 983 = .ok (.aload_n 0, 1) := by decide +kernel
theorem dL_law_984 : decode cL_law 984 = .ok (.iload 4, 2) := by decide +kernel
theorem dL_law_986 : decode cL_law 986 = .ok (.iconst 2, 1) := by decide +kernel
theorem dL_law_987 : decode cL_law 987 = .ok (.iadd, 1) := by decide +kernel
theorem dL_law_988 : decode cL_law 988 = .ok (.iaload, 1) := by decide +kernel
theorem dL_law_989 : decode cL_law 989 = .ok (.i2l, 1) := by decide +kernel
theorem dL_law_990 : decode cL_law 990 = .ok (.ldc2_w 72, 3) := by decide +kernel
theorem dL_law_993 : decode cL_law 993 = .ok (.land, 1) := by decide +kernel
theorem dL_law_994 : decode cL_law 994 = .ok (.lor, 1) := by decide +kernel
theorem dL_law_995 : decode cL_law 995 = .ok (.aload_n 0, 1) := by decide +kernel
theorem dL_law_996 : decode cL_law 996 = .ok (.iload 4, 2) := by decide +kernel
theorem dL_law_998 : decode cL_law 998 = .ok (.iconst 3, 1) := by decide +kernel
theorem dL_law_999 : decode cL_law 999 = .ok (.iadd, 1) := by decide +kernel
theorem dL_law_1000 : decode cL_law 1000 = .ok (.iaload, 1) := by decide +kernel
theorem dL_law_1001 : decode cL_law 1001 = .ok (.invokevirtual 139, 3) := by decide +kernel
theorem dL_law_1004 : decode cL_law 1004 = .ok (.if_icmp .eq 365, 3) := by decide +kernel
theorem dL_law_1007 : decode cL_law 1007 = .ok (.iconst 0, 1) := by decide +kernel
theorem dL_law_1008 : decode cL_law 1008 = .ok (.ireturn, 1) := by decide +kernel
theorem dL_law_1009 : decode cL_law 1009 = .ok (.aload_n 1, 1) := by decide +kernel
theorem dL_law_1010 : decode cL_law 1010 = .ok (.invokevirtual 140, 3) := by decide +kernel
theorem dL_law_1013 : decode cL_law 1013 = .ok (.aload_n 2, 1) := by decide +kernel
theorem dL_law_1014 : decode cL_law 1014 = .ok (.invokevirtual 143, 3) := by decide +kernel
theorem dL_law_1017 : decode cL_law 1017 = .ok (.if_icmp .eq 352, 3) := by decide +kernel
theorem dL_law_1020 : decode cL_law 1020 = .ok (.iconst 0, 1) := by decide +kernel
theorem dL_law_1021 : decode cL_law 1021 = .ok (.ireturn, 1) := by decide +kernel
theorem dL_law_1022 : decode cL_law 1022 = .ok (.aload_n 1, 1) := by decide +kernel
theorem dL_law_1023 : decode cL_law 1023 = .ok (.aload_n 0, 1) := by decide +kernel
theorem dL_law_1024 : decode cL_law 1024 = .ok (.iload 4, 2) := by decide +kernel
theorem dL_law_1026 : decode cL_law 1026 = .ok (.iconst 1, 1) := by decide +kernel
theorem dL_law_1027 : decode cL_law 1027 = .ok (.iadd, 1) := by decide +kernel
theorem dL_law_1028 : decode cL_law 1028 = .ok (.iaload, 1) := by decide +kernel
theorem dL_law_1029 : decode cL_law 1029 = .ok (.aload_n 3, 1) := by decide +kernel
theorem dL_law_1030 : decode cL_law 1030 = .ok (.invokestatic 144, 3) := by decide +kernel
theorem dL_law_1033 : decode cL_law 1033 = .ok (.istore 5, 2) := by decide +kernel
theorem dL_law_1035 : decode cL_law 1035 = .ok (.aload_n 2, 1) := by decide +kernel
theorem dL_law_1036 : decode cL_law 1036 = .ok (.aload_n 0, 1) := by decide +kernel
theorem dL_law_1037 : decode cL_law 1037 = .ok (.iload 4, 2) := by decide +kernel
theorem dL_law_1039 : decode cL_law 1039 = .ok (.iconst 1, 1) := by decide +kernel
theorem dL_law_1040 : decode cL_law 1040 = .ok (.iadd, 1) := by decide +kernel
theorem dL_law_1041 : decode cL_law 1041 = .ok (.iaload, 1) := by decide +kernel
theorem dL_law_1042 : decode cL_law 1042 = .ok (.invokevirtual 146, 3) := by decide +kernel
theorem dL_law_1045 : decode cL_law 1045 = .ok (.istore 6, 2) := by decide +kernel
theorem dL_law_1047 : decode cL_law 1047 = .ok (.aload_n 2, 1) := by decide +kernel
theorem dL_law_1048 : decode cL_law 1048 = .ok (.invokevirtual 80, 3) := by decide +kernel
theorem dL_law_1051 : decode cL_law 1051 = .ok (.iload 5, 2) := by decide +kernel
theorem dL_law_1053 : decode cL_law 1053 = .ok (.if_icmp .eq 5, 3) := by decide +kernel
theorem dL_law_1056 : decode cL_law 1056 = .ok (.iconst 0, 1) := by decide +kernel
theorem dL_law_1057 : decode cL_law 1057 = .ok (.ireturn, 1) := by decide +kernel
theorem dL_law_1058 : decode cL_law 1058 = .ok (.iload 5, 2) := by decide +kernel
theorem dL_law_1060 : decode cL_law 1060 = .ok (.ifCond .ne 15, 3) := by decide +kernel
theorem dL_law_1063 : decode cL_law 1063 = .ok (.aload_n 3, 1) := by decide +kernel
theorem dL_law_1064 : decode cL_law 1064 = .ok (.iconst 0, 1) := by decide +kernel
theorem dL_law_1065 : decode cL_law 1065 = .ok (.laload, 1) := by decide +kernel
theorem dL_law_1066 : decode cL_law 1066 = .ok (.iload 6, 2) := by decide +kernel
theorem dL_law_1068 : decode cL_law 1068 = .ok (.i2l, 1) := by decide +kernel
theorem dL_law_1069 : decode cL_law 1069 = .ok (.lcmp, 1) := by decide +kernel
theorem dL_law_1070 : decode cL_law 1070 = .ok (.ifCond .eq 5, 3) := by decide +kernel
theorem dL_law_1073 : decode cL_law 1073 = .ok (.iconst 0, 1) := by decide +kernel
theorem dL_law_1074 : decode cL_law 1074 = .ok (.ireturn, 1) := by decide +kernel
theorem dL_law_1075 : decode cL_law 1075 = .ok (.goto 294, 3) := by decide +kernel
theorem dL_law_1078 : decode cL_law 1078 = .ok (.aload_n 1, 1) := by decide +kernel
theorem dL_law_1079 : decode cL_law 1079 = .ok (.aload_n 0, 1) := by decide +kernel
theorem dL_law_1080 : decode cL_law 1080 = .ok (.iload 4, 2) := by decide +kernel
theorem dL_law_1082 : decode cL_law 1082 = .ok (.iconst 1, 1) := by decide +kernel
theorem dL_law_1083 : decode cL_law 1083 = .ok (.iadd, 1) := by decide +kernel
theorem dL_law_1084 : decode cL_law 1084 = .ok (.iaload, 1) := by decide +kernel
theorem dL_law_1085 : decode cL_law 1085 = .ok (.aload_n 0, 1) := by decide +kernel
theorem dL_law_1086 : decode cL_law 1086 = .ok (.iload 4, 2) := by decide +kernel
theorem dL_law_1088 : decode cL_law 1088 = .ok (.iconst 2, 1) := by decide +kernel
theorem dL_law_1089 : decode cL_law 1089 = .ok (.iadd, 1) := by decide +kernel
theorem dL_law_1090 : decode cL_law 1090 = .ok (.iaload, 1) := by decide +kernel
theorem dL_law_1091 : decode cL_law 1091 = .ok (.aload_n 0, 1) := by decide +kernel
theorem dL_law_1092 : decode cL_law 1092 = .ok (.iload 4, 2) := by decide +kernel
theorem dL_law_1094 : decode cL_law 1094 = .ok (.iconst 3, 1) := by decide +kernel
theorem dL_law_1095 : decode cL_law 1095 = .ok (.iadd, 1) := by decide +kernel
theorem dL_law_1096 : decode cL_law 1096 = .ok (.iaload, 1) := by decide +kernel
theorem dL_law_1097 : decode cL_law 1097 = .ok (.aload_n 3, 1) := by decide +kernel
theorem dL_law_1098 : decode cL_law 1098 = .ok (.invokestatic 147, 3) := by decide +kernel
theorem dL_law_1101 : decode cL_law 1101 = .ok (.istore 5, 2) := by decide +kernel
theorem dL_law_1103 : decode cL_law 1103 = .ok (.aload_n 2, 1) := by decide +kernel
theorem dL_law_1104 : decode cL_law 1104 = .ok (.aload_n 0, 1) := by decide +kernel
theorem dL_law_1105 : decode cL_law 1105 = .ok (.iload 4, 2) := by decide +kernel
theorem dL_law_1107 : decode cL_law 1107 = .ok (.iconst 1, 1) := by decide +kernel
theorem dL_law_1108 : decode cL_law 1108 = .ok (.iadd, 1) := by decide +kernel
theorem dL_law_1109 : decode cL_law 1109 = .ok (.iaload, 1) := by decide +kernel
theorem dL_law_1110 : decode cL_law 1110 = .ok (.aload_n 0, 1) := by decide +kernel
theorem dL_law_1111 : decode cL_law 1111 = .ok (.iload 4, 2) := by decide +kernel
theorem dL_law_1113 : decode cL_law 1113 = .ok (.iconst 2, 1) := by decide +kernel
theorem dL_law_1114 : decode cL_law 1114 = .ok (.iadd, 1) := by decide +kernel
theorem dL_law_1115 : decode cL_law 1115 = .ok (.iaload, 1) := by decide +kernel
theorem dL_law_1116 : decode cL_law 1116 = .ok (.aload_n 0, 1) := by decide +kernel
theorem dL_law_1117 : decode cL_law 1117 = .ok (.iload 4, 2) := by decide +kernel
theorem dL_law_1119 : decode cL_law 1119 = .ok (.iconst 3, 1) := by decide +kernel
theorem dL_law_1120 : decode cL_law 1120 = .ok (.iadd, 1) := by decide +kernel
theorem dL_law_1121 : decode cL_law 1121 = .ok (.iaload, 1) := by decide +kernel
theorem dL_law_1122 : decode cL_law 1122 = .ok (.invokevirtual 150, 3) := by decide +kernel
theorem dL_law_1125 : decode cL_law 1125 = .ok (.istore 6, 2) := by decide +kernel
theorem dL_law_1127 : decode cL_law 1127 = .ok (.aload_n 2, 1) := by decide +kernel
theorem dL_law_1128 : decode cL_law 1128 = .ok (.invokevirtual 80, 3) := by decide +kernel
theorem dL_law_1131 : decode cL_law 1131 = .ok (.iload 5, 2) := by decide +kernel
theorem dL_law_1133 : decode cL_law 1133 = .ok (.if_icmp .eq 5, 3) := by decide +kernel
theorem dL_law_1136 : decode cL_law 1136 = .ok (.iconst 0, 1) := by decide +kernel
theorem dL_law_1137 : decode cL_law 1137 = .ok (.ireturn, 1) := by decide +kernel
theorem dL_law_1138 : decode cL_law 1138 = .ok (.iload 5, 2) := by decide +kernel
theorem dL_law_1140 : decode cL_law 1140 = .ok (.ifCond .ne 15, 3) := by decide +kernel
theorem dL_law_1143 : decode cL_law 1143 = .ok (.aload_n 3, 1) := by decide +kernel
theorem dL_law_1144 : decode cL_law 1144 = .ok (.iconst 0, 1) := by decide +kernel
theorem dL_law_1145 : decode cL_law 1145 = .ok (.laload, 1) := by decide +kernel
theorem dL_law_1146 : decode cL_law 1146 = .ok (.iload 6, 2) := by decide +kernel
theorem dL_law_1148 : decode cL_law 1148 = .ok (.i2l, 1) := by decide +kernel
theorem dL_law_1149 : decode cL_law 1149 = .ok (.lcmp, 1) := by decide +kernel
theorem dL_law_1150 : decode cL_law 1150 = .ok (.ifCond .eq 5, 3) := by decide +kernel
theorem dL_law_1153 : decode cL_law 1153 = .ok (.iconst 0, 1) := by decide +kernel
theorem dL_law_1154 : decode cL_law 1154 = .ok (.ireturn, 1) := by decide +kernel
theorem dL_law_1155 : decode cL_law 1155 = .ok (.goto 214, 3) := by decide +kernel
theorem dL_law_1158 : decode cL_law 1158 = .ok (.aload_n 1, 1) := by decide +kernel
theorem dL_law_1159 : decode cL_law 1159 = .ok (.aload_n 0, 1) := by decide +kernel
theorem dL_law_1160 : decode cL_law 1160 = .ok (.iload 4, 2) := by decide +kernel
theorem dL_law_1162 : decode cL_law 1162 = .ok (.iconst 1, 1) := by decide +kernel
theorem dL_law_1163 : decode cL_law 1163 = .ok (.iadd, 1) := by decide +kernel
theorem dL_law_1164 : decode cL_law 1164 = .ok (.iaload, 1) := by decide +kernel
theorem dL_law_1165 : decode cL_law 1165 = .ok (.aload_n 0, 1) := by decide +kernel
theorem dL_law_1166 : decode cL_law 1166 = .ok (.iload 4, 2) := by decide +kernel
theorem dL_law_1168 : decode cL_law 1168 = .ok (.iconst 2, 1) := by decide +kernel
theorem dL_law_1169 : decode cL_law 1169 = .ok (.iadd, 1) := by decide +kernel
theorem dL_law_1170 : decode cL_law 1170 = .ok (.iaload, 1) := by decide +kernel
theorem dL_law_1171 : decode cL_law 1171 = .ok (.i2l, 1) := by decide +kernel
theorem dL_law_1172 : decode cL_law 1172 = .ok (.bipush 32, 2) := by decide +kernel
theorem dL_law_1174 : decode cL_law 1174 = .ok (.lshl, 1) := by decide +kernel
theorem dL_law_1175 : decode cL_law 1175 = .ok (.aload_n 0, 1) := by decide +kernel
theorem dL_law_1176 : decode cL_law 1176 = .ok (.iload 4, 2) := by decide +kernel
theorem dL_law_1178 : decode cL_law 1178 = .ok (.iconst 3, 1) := by decide +kernel
theorem dL_law_1179 : decode cL_law 1179 = .ok (.iadd, 1) := by decide +kernel
theorem dL_law_1180 : decode cL_law 1180 = .ok (.iaload, 1) := by decide +kernel
theorem dL_law_1181 : decode cL_law 1181 = .ok (.i2l, 1) := by decide +kernel
theorem dL_law_1182 : decode cL_law 1182 = .ok (.ldc2_w 72, 3) := by decide +kernel
theorem dL_law_1185 : decode cL_law 1185 = .ok (.land, 1) := by decide +kernel
theorem dL_law_1186 : decode cL_law 1186 = .ok (.lor, 1) := by decide +kernel
theorem dL_law_1187 : decode cL_law 1187 = .ok (.aload_n 3, 1) := by decide +kernel
theorem dL_law_1188 : decode cL_law 1188 = .ok (.invokestatic 151, 3) := by decide +kernel
theorem dL_law_1191 : decode cL_law 1191 = .ok (.istore 5, 2) := by decide +kernel
theorem dL_law_1193 : decode cL_law 1193 = .ok (.aload_n 2, 1) := by decide +kernel
theorem dL_law_1194 : decode cL_law 1194 = .ok (.aload_n 0, 1) := by decide +kernel
theorem dL_law_1195 : decode cL_law 1195 = .ok (.iload 4, 2) := by decide +kernel
theorem dL_law_1197 : decode cL_law 1197 = .ok (.iconst 1, 1) := by decide +kernel
theorem dL_law_1198 : decode cL_law 1198 = .ok (.iadd, 1) := by decide +kernel
theorem dL_law_1199 : decode cL_law 1199 = .ok (.iaload, 1) := by decide +kernel
theorem dL_law_1200 : decode cL_law 1200 = .ok (.aload_n 0, 1) := by decide +kernel
theorem dL_law_1201 : decode cL_law 1201 = .ok (.iload 4, 2) := by decide +kernel
theorem dL_law_1203 : decode cL_law 1203 = .ok (.iconst 2, 1) := by decide +kernel
theorem dL_law_1204 : decode cL_law 1204 = .ok (.iadd, 1) := by decide +kernel
theorem dL_law_1205 : decode cL_law 1205 = .ok (.iaload, 1) := by decide +kernel
theorem dL_law_1206 : decode cL_law 1206 = .ok (.i2l, 1) := by decide +kernel
theorem dL_law_1207 : decode cL_law 1207 = .ok (.bipush 32, 2) := by decide +kernel
theorem dL_law_1209 : decode cL_law 1209 = .ok (.lshl, 1) := by decide +kernel
theorem dL_law_1210 : decode cL_law 1210 = .ok (.aload_n 0, 1) := by decide +kernel
theorem dL_law_1211 : decode cL_law 1211 = .ok (.iload 4, 2) := by decide +kernel
theorem dL_law_1213 : decode cL_law 1213 = .ok (.iconst 3, 1) := by decide +kernel
theorem dL_law_1214 : decode cL_law 1214 = .ok (.iadd, 1) := by decide +kernel
theorem dL_law_1215 : decode cL_law 1215 = .ok (.iaload, 1) := by decide +kernel
theorem dL_law_1216 : decode cL_law 1216 = .ok (.i2l, 1) := by decide +kernel
theorem dL_law_1217 : decode cL_law 1217 = .ok (.ldc2_w 72, 3) := by decide +kernel
theorem dL_law_1220 : decode cL_law 1220 = .ok (.land, 1) := by decide +kernel
theorem dL_law_1221 : decode cL_law 1221 = .ok (.lor, 1) := by decide +kernel
theorem dL_law_1222 : decode cL_law 1222 = .ok (.invokevirtual 154, 3) := by decide +kernel
theorem dL_law_1225 : decode cL_law 1225 = .ok (.istore 6, 2) := by decide +kernel
theorem dL_law_1227 : decode cL_law 1227 = .ok (.aload_n 2, 1) := by decide +kernel
theorem dL_law_1228 : decode cL_law 1228 = .ok (.invokevirtual 80, 3) := by decide +kernel
theorem dL_law_1231 : decode cL_law 1231 = .ok (.iload 5, 2) := by decide +kernel
theorem dL_law_1233 : decode cL_law 1233 = .ok (.if_icmp .eq 5, 3) := by decide +kernel
theorem dL_law_1236 : decode cL_law 1236 = .ok (.iconst 0, 1) := by decide +kernel
theorem dL_law_1237 : decode cL_law 1237 = .ok (.ireturn, 1) := by decide +kernel
theorem dL_law_1238 : decode cL_law 1238 = .ok (.iload 5, 2) := by decide +kernel
theorem dL_law_1240 : decode cL_law 1240 = .ok (.ifCond .ne 15, 3) := by decide +kernel
theorem dL_law_1243 : decode cL_law 1243 = .ok (.aload_n 3, 1) := by decide +kernel
theorem dL_law_1244 : decode cL_law 1244 = .ok (.iconst 0, 1) := by decide +kernel
theorem dL_law_1245 : decode cL_law 1245 = .ok (.laload, 1) := by decide +kernel
theorem dL_law_1246 : decode cL_law 1246 = .ok (.iload 6, 2) := by decide +kernel
theorem dL_law_1248 : decode cL_law 1248 = .ok (.i2l, 1) := by decide +kernel
theorem dL_law_1249 : decode cL_law 1249 = .ok (.lcmp, 1) := by decide +kernel
theorem dL_law_1250 : decode cL_law 1250 = .ok (.ifCond .eq 5, 3) := by decide +kernel
theorem dL_law_1253 : decode cL_law 1253 = .ok (.iconst 0, 1) := by decide +kernel
theorem dL_law_1254 : decode cL_law 1254 = .ok (.ireturn, 1) := by decide +kernel
theorem dL_law_1255 : decode cL_law 1255 = .ok (.goto 114, 3) := by decide +kernel
theorem dL_law_1258 : decode cL_law 1258 = .ok (.aload_n 1, 1) := by decide +kernel
theorem dL_law_1259 : decode cL_law 1259 = .ok (.aload_n 0, 1) := by decide +kernel
theorem dL_law_1260 : decode cL_law 1260 = .ok (.iload 4, 2) := by decide +kernel
theorem dL_law_1262 : decode cL_law 1262 = .ok (.iconst 1, 1) := by decide +kernel
theorem dL_law_1263 : decode cL_law 1263 = .ok (.iadd, 1) := by decide +kernel
theorem dL_law_1264 : decode cL_law 1264 = .ok (.iaload, 1) := by decide +kernel
theorem dL_law_1265 : decode cL_law 1265 = .ok (.ifCond .eq 7, 3) := by decide +kernel
theorem dL_law_1268 : decode cL_law 1268 = .ok (.iconst 1, 1) := by decide +kernel
theorem dL_law_1269 : decode cL_law 1269 = .ok (.goto 4, 3) := by decide +kernel
theorem dL_law_1272 : decode cL_law 1272 = .ok (.iconst 0, 1) := by decide +kernel
theorem dL_law_1273 : decode cL_law 1273 = .ok (.invokevirtual 155, 3) := by decide +kernel
theorem dL_law_1276 : decode cL_law 1276 = .ok (.aload_n 2, 1) := by decide +kernel
theorem dL_law_1277 : decode cL_law 1277 = .ok (.aload_n 0, 1) := by decide +kernel
theorem dL_law_1278 : decode cL_law 1278 = .ok (.iload 4, 2) := by decide +kernel
theorem dL_law_1280 : decode cL_law 1280 = .ok (.iconst 1, 1) := by decide +kernel
theorem dL_law_1281 : decode cL_law 1281 = .ok (.iadd, 1) := by decide +kernel
theorem dL_law_1282 : decode cL_law 1282 = .ok (.iaload, 1) := by decide +kernel
theorem dL_law_1283 : decode cL_law 1283 = .ok (.ifCond .eq 7, 3) := by decide +kernel
theorem dL_law_1286 : decode cL_law 1286 = .ok (.iconst 1, 1) := by decide +kernel
theorem dL_law_1287 : decode cL_law 1287 = .ok (.goto 4, 3) := by decide +kernel
theorem dL_law_1290 : decode cL_law 1290 = .ok (.iconst 0, 1) := by decide +kernel
theorem dL_law_1291 : decode cL_law 1291 = .ok (.invokevirtual 159, 3) := by decide +kernel
theorem dL_law_1294 : decode cL_law 1294 = .ok (.if_icmp .eq 75, 3) := by decide +kernel
theorem dL_law_1297 : decode cL_law 1297 = .ok (.iconst 0, 1) := by decide +kernel
theorem dL_law_1298 : decode cL_law 1298 = .ok (.ireturn, 1) := by decide +kernel
theorem dL_law_1299 : decode cL_law 1299 = .ok (.aload_n 1, 1) := by decide +kernel
theorem dL_law_1300 : decode cL_law 1300 = .ok (.aload_n 0, 1) := by decide +kernel
theorem dL_law_1301 : decode cL_law 1301 = .ok (.iload 4, 2) := by decide +kernel
theorem dL_law_1303 : decode cL_law 1303 = .ok (.iconst 1, 1) := by decide +kernel
theorem dL_law_1304 : decode cL_law 1304 = .ok (.iadd, 1) := by decide +kernel
theorem dL_law_1305 : decode cL_law 1305 = .ok (.iaload, 1) := by decide +kernel
theorem dL_law_1306 : decode cL_law 1306 = .ok (.aload_n 3, 1) := by decide +kernel
theorem dL_law_1307 : decode cL_law 1307 = .ok (.invokestatic 160, 3) := by decide +kernel
theorem dL_law_1310 : decode cL_law 1310 = .ok (.istore 5, 2) := by decide +kernel
theorem dL_law_1312 : decode cL_law 1312 = .ok (.aload_n 2, 1) := by decide +kernel
theorem dL_law_1313 : decode cL_law 1313 = .ok (.aload_n 0, 1) := by decide +kernel
theorem dL_law_1314 : decode cL_law 1314 = .ok (.iload 4, 2) := by decide +kernel
theorem dL_law_1316 : decode cL_law 1316 = .ok (.iconst 1, 1) := by decide +kernel
theorem dL_law_1317 : decode cL_law 1317 = .ok (.iadd, 1) := by decide +kernel
theorem dL_law_1318 : decode cL_law 1318 = .ok (.iaload, 1) := by decide +kernel
theorem dL_law_1319 : decode cL_law 1319 = .ok (.invokevirtual 162, 3) := by decide +kernel
theorem dL_law_1322 : decode cL_law 1322 = .ok (.istore 6, 2) := by decide +kernel
theorem dL_law_1324 : decode cL_law 1324 = .ok (.aload_n 2, 1) := by decide +kernel
theorem dL_law_1325 : decode cL_law 1325 = .ok (.invokevirtual 80, 3) := by decide +kernel
theorem dL_law_1328 : decode cL_law 1328 = .ok (.iload 5, 2) := by decide +kernel
theorem dL_law_1330 : decode cL_law 1330 = .ok (.if_icmp .eq 5, 3) := by decide +kernel
theorem dL_law_1333 : decode cL_law 1333 = .ok (.iconst 0, 1) := by decide +kernel
theorem dL_law_1334 : decode cL_law 1334 = .ok (.ireturn, 1) := by decide +kernel
theorem dL_law_1335 : decode cL_law 1335 = .ok (.iload 5, 2) := by decide +kernel
theorem dL_law_1337 : decode cL_law 1337 = .ok (.ifCond .ne 15, 3) := by decide +kernel
theorem dL_law_1340 : decode cL_law 1340 = .ok (.aload_n 3, 1) := by decide +kernel
theorem dL_law_1341 : decode cL_law 1341 = .ok (.iconst 0, 1) := by decide +kernel
theorem dL_law_1342 : decode cL_law 1342 = .ok (.laload, 1) := by decide +kernel
theorem dL_law_1343 : decode cL_law 1343 = .ok (.iload 6, 2) := by decide +kernel
theorem dL_law_1345 : decode cL_law 1345 = .ok (.i2l, 1) := by decide +kernel
theorem dL_law_1346 : decode cL_law 1346 = .ok (.lcmp, 1) := by decide +kernel
theorem dL_law_1347 : decode cL_law 1347 = .ok (.ifCond .eq 5, 3) := by decide +kernel
theorem dL_law_1350 : decode cL_law 1350 = .ok (.iconst 0, 1) := by decide +kernel
theorem dL_law_1351 : decode cL_law 1351 = .ok (.ireturn, 1) := by decide +kernel
theorem dL_law_1352 : decode cL_law 1352 = .ok (.goto 17, 3) := by decide +kernel
theorem dL_law_1355 : decode cL_law 1355 = .ok (.aload_n 1, 1) := by decide +kernel
theorem dL_law_1356 : decode cL_law 1356 = .ok (.invokevirtual 163, 3) := by decide +kernel
theorem dL_law_1359 : decode cL_law 1359 = .ok (.aload_n 2, 1) := by decide +kernel
theorem dL_law_1360 : decode cL_law 1360 = .ok (.invokevirtual 167, 3) := by decide +kernel
theorem dL_law_1363 : decode cL_law 1363 = .ok (.lcmp, 1) := by decide +kernel
theorem dL_law_1364 : decode cL_law 1364 = .ok (.ifCond .eq 5, 3) := by decide +kernel
theorem dL_law_1367 : decode cL_law 1367 = .ok (.iconst 0, 1) := by decide +kernel
theorem dL_law_1368 : decode cL_law 1368 = .ok (.ireturn, 1) := by decide +kernel
theorem dL_law_1369 : decode cL_law 1369 = .ok (.iinc 4 4, 3) := by decide +kernel
theorem dL_law_1372 : decode cL_law 1372 = .ok (.goto (-1349), 3) := by decide +kernel
theorem dL_law_1375 : decode cL_law 1375 = .ok (.iconst 1, 1) := by decide +kernel
theorem dL_law_1376 : decode cL_law 1376 = .ok (.ireturn, 1) := by decide +kernel
end
section
def o_WS : List Cond := lw_tbl.filter goodWord
theorem o_mem {w : Cond} (h : w ∈ lw_tbl) (hg : goodWord w = true) : w ∈ o_WS := List.mem_filter.mpr ⟨h, hg⟩
theorem se_X0_enter : Cond.selects RX0 yX0_enter yX0_enter ∈ o_WS := o_mem (List.mem_of_getElem? (i := 0) (by decide +kernel)) rfl
theorem se_X1_beginLine : Cond.selects RX1 yX1_beginLine yX1_beginLine ∈ o_WS := o_mem (List.mem_of_getElem? (i := 1) (by decide +kernel)) rfl
theorem se_X1_takeToken : Cond.selects RX1 yX1_takeToken yX1_takeToken ∈ o_WS := o_mem (List.mem_of_getElem? (i := 2) (by decide +kernel)) rfl
theorem se_X1_endOfRun : Cond.selects RX1 yX1_endOfRun yX1_endOfRun ∈ o_WS := o_mem (List.mem_of_getElem? (i := 3) (by decide +kernel)) rfl
theorem se_X1_takeOtherByte : Cond.selects RX1 yX1_takeOtherByte yX1_takeOtherByte ∈ o_WS := o_mem (List.mem_of_getElem? (i := 4) (by decide +kernel)) rfl
theorem se_X0_innermost : Cond.selects RX0 yX0_innermost yX0_innermost ∈ o_WS := o_mem (List.mem_of_getElem? (i := 5) (by decide +kernel)) rfl
theorem se_X0_placeInGroup : Cond.selects RX0 yX0_placeInGroup yX0_placeInGroup ∈ o_WS := o_mem (List.mem_of_getElem? (i := 6) (by decide +kernel)) rfl
theorem se_X0_addWord : Cond.selects RX0 yX0_addWord yX0_addWord ∈ o_WS := o_mem (List.mem_of_getElem? (i := 7) (by decide +kernel)) rfl
theorem se_X0_addPart : Cond.selects RX0 yX0_addPart yX0_addPart ∈ o_WS := o_mem (List.mem_of_getElem? (i := 8) (by decide +kernel)) rfl
theorem se_X5_set : Cond.selects RX5 yX5_set yX5_set ∈ o_WS := o_mem (List.mem_of_getElem? (i := 9) (by decide +kernel)) rfl
theorem se_X0_openGroup : Cond.selects RX0 yX0_openGroup yX0_openGroup ∈ o_WS := o_mem (List.mem_of_getElem? (i := 10) (by decide +kernel)) rfl
theorem se_X0_isDeep : Cond.selects RX0 yX0_isDeep yX0_isDeep ∈ o_WS := o_mem (List.mem_of_getElem? (i := 11) (by decide +kernel)) rfl
theorem se_X0_report : Cond.selects RX0 yX0_report yX0_report ∈ o_WS := o_mem (List.mem_of_getElem? (i := 12) (by decide +kernel)) rfl
theorem se_X0_close : Cond.selects RX0 yX0_close yX0_close ∈ o_WS := o_mem (List.mem_of_getElem? (i := 13) (by decide +kernel)) rfl
theorem se_X0_beginsBlock : Cond.selects RX0 yX0_beginsBlock yX0_beginsBlock ∈ o_WS := o_mem (List.mem_of_getElem? (i := 14) (by decide +kernel)) rfl
theorem se_X0_alignToColumn : Cond.selects RX0 yX0_alignToColumn yX0_alignToColumn ∈ o_WS := o_mem (List.mem_of_getElem? (i := 15) (by decide +kernel)) rfl
theorem se_X0_endItem : Cond.selects RX0 yX0_endItem yX0_endItem ∈ o_WS := o_mem (List.mem_of_getElem? (i := 16) (by decide +kernel)) rfl
theorem se_X0_placeInBlock : Cond.selects RX0 yX0_placeInBlock yX0_placeInBlock ∈ o_WS := o_mem (List.mem_of_getElem? (i := 17) (by decide +kernel)) rfl
theorem se_X0_takeColon : Cond.selects RX0 yX0_takeColon yX0_takeColon ∈ o_WS := o_mem (List.mem_of_getElem? (i := 18) (by decide +kernel)) rfl
theorem se_X0_closeBraces : Cond.selects RX0 yX0_closeBraces yX0_closeBraces ∈ o_WS := o_mem (List.mem_of_getElem? (i := 19) (by decide +kernel)) rfl
theorem se_X6_unpack : Cond.selects RX6 yX6_unpack yX6_unpack ∈ o_WS := o_mem (List.mem_of_getElem? (i := 20) (by decide +kernel)) rfl
theorem se_X5_isSpelled : Cond.selects RX5 yX5_isSpelled yX5_isSpelled ∈ o_WS := o_mem (List.mem_of_getElem? (i := 21) (by decide +kernel)) rfl
theorem se_X5_isNewWord : Cond.selects RX5 yX5_isNewWord yX5_isNewWord ∈ o_WS := o_mem (List.mem_of_getElem? (i := 22) (by decide +kernel)) rfl
theorem se_X5_areSame : Cond.selects RX5 yX5_areSame yX5_areSame ∈ o_WS := o_mem (List.mem_of_getElem? (i := 23) (by decide +kernel)) rfl
theorem se_X2_printLines : Cond.selects RX2 yX2_printLines yX2_printLines ∈ o_WS := o_mem (List.mem_of_getElem? (i := 24) (by decide +kernel)) rfl
theorem se_X2_printLinesOfItem : Cond.selects RX2 yX2_printLinesOfItem yX2_printLinesOfItem ∈ o_WS := o_mem (List.mem_of_getElem? (i := 25) (by decide +kernel)) rfl
theorem se_X2_printParts : Cond.selects RX2 yX2_printParts yX2_printParts ∈ o_WS := o_mem (List.mem_of_getElem? (i := 26) (by decide +kernel)) rfl
theorem se_X2_printPart : Cond.selects RX2 yX2_printPart yX2_printPart ∈ o_WS := o_mem (List.mem_of_getElem? (i := 27) (by decide +kernel)) rfl
theorem se_X2_printWord : Cond.selects RX2 yX2_printWord yX2_printWord ∈ o_WS := o_mem (List.mem_of_getElem? (i := 28) (by decide +kernel)) rfl
theorem se_X2_printNumber : Cond.selects RX2 yX2_printNumber yX2_printNumber ∈ o_WS := o_mem (List.mem_of_getElem? (i := 29) (by decide +kernel)) rfl
theorem se_X2_printBraces : Cond.selects RX2 yX2_printBraces yX2_printBraces ∈ o_WS := o_mem (List.mem_of_getElem? (i := 30) (by decide +kernel)) rfl
theorem se_X6_checkNode : Cond.selects RX6 yX6_checkNode yX6_checkNode ∈ o_WS := o_mem (List.mem_of_getElem? (i := 32) (by decide +kernel)) rfl
theorem se_X4_reverse : Cond.selects RX4 yX4_reverse yX4_reverse ∈ o_WS := o_mem (List.mem_of_getElem? (i := 33) (by decide +kernel)) rfl
theorem se_X7_begin : Cond.selects RX7 yX7_begin yX7_begin ∈ o_WS := o_mem (List.mem_of_getElem? (i := 34) (by decide +kernel)) rfl
theorem se_X7_add : Cond.selects RX7 yX7_add yX7_add ∈ o_WS := o_mem (List.mem_of_getElem? (i := 35) (by decide +kernel)) rfl
theorem se_X7_countOf : Cond.selects RX7 yX7_countOf yX7_countOf ∈ o_WS := o_mem (List.mem_of_getElem? (i := 36) (by decide +kernel)) rfl
theorem se_X7_insert : Cond.selects RX7 yX7_insert yX7_insert ∈ o_WS := o_mem (List.mem_of_getElem? (i := 37) (by decide +kernel)) rfl
theorem se_X7_childOf : Cond.selects RX7 yX7_childOf yX7_childOf ∈ o_WS := o_mem (List.mem_of_getElem? (i := 38) (by decide +kernel)) rfl
theorem se_X7_number : Cond.selects RX7 yX7_number yX7_number ∈ o_WS := o_mem (List.mem_of_getElem? (i := 39) (by decide +kernel)) rfl
theorem se_X7_following : Cond.selects RX7 yX7_following yX7_following ∈ o_WS := o_mem (List.mem_of_getElem? (i := 40) (by decide +kernel)) rfl
theorem se_X7_take : Cond.selects RX7 yX7_take yX7_take ∈ o_WS := o_mem (List.mem_of_getElem? (i := 41) (by decide +kernel)) rfl
theorem se_X7_fail : Cond.selects RX7 yX7_fail yX7_fail ∈ o_WS := o_mem (List.mem_of_getElem? (i := 42) (by decide +kernel)) rfl
theorem se_X7_push : Cond.selects RX7 yX7_push yX7_push ∈ o_WS := o_mem (List.mem_of_getElem? (i := 43) (by decide +kernel)) rfl
theorem se_X7_accept : Cond.selects RX7 yX7_accept yX7_accept ∈ o_WS := o_mem (List.mem_of_getElem? (i := 44) (by decide +kernel)) rfl
theorem se_X7_isGroupOpen : Cond.selects RX7 yX7_isGroupOpen yX7_isGroupOpen ∈ o_WS := o_mem (List.mem_of_getElem? (i := 45) (by decide +kernel)) rfl
theorem se_X7_top : Cond.selects RX7 yX7_top yX7_top ∈ o_WS := o_mem (List.mem_of_getElem? (i := 46) (by decide +kernel)) rfl
theorem se_X7_isPart : Cond.selects RX7 yX7_isPart yX7_isPart ∈ o_WS := o_mem (List.mem_of_getElem? (i := 47) (by decide +kernel)) rfl
theorem se_X7_addPart : Cond.selects RX7 yX7_addPart yX7_addPart ∈ o_WS := o_mem (List.mem_of_getElem? (i := 48) (by decide +kernel)) rfl
theorem se_X7_repair : Cond.selects RX7 yX7_repair yX7_repair ∈ o_WS := o_mem (List.mem_of_getElem? (i := 49) (by decide +kernel)) rfl
theorem se_X7_align : Cond.selects RX7 yX7_align yX7_align ∈ o_WS := o_mem (List.mem_of_getElem? (i := 50) (by decide +kernel)) rfl
theorem se_X7_act : Cond.selects RX7 yX7_act yX7_act ∈ o_WS := o_mem (List.mem_of_getElem? (i := 51) (by decide +kernel)) rfl
theorem se_X7_addToItem : Cond.selects RX7 yX7_addToItem yX7_addToItem ∈ o_WS := o_mem (List.mem_of_getElem? (i := 52) (by decide +kernel)) rfl
theorem se_X7_close : Cond.selects RX7 yX7_close yX7_close ∈ o_WS := o_mem (List.mem_of_getElem? (i := 53) (by decide +kernel)) rfl
theorem se_X7_isNode : Cond.selects RX7 yX7_isNode yX7_isNode ∈ o_WS := o_mem (List.mem_of_getElem? (i := 54) (by decide +kernel)) rfl
theorem se_X7_depthOf : Cond.selects RX7 yX7_depthOf yX7_depthOf ∈ o_WS := o_mem (List.mem_of_getElem? (i := 55) (by decide +kernel)) rfl
theorem se_X7_isFed : Cond.selects RX7 yX7_isFed yX7_isFed ∈ o_WS := o_mem (List.mem_of_getElem? (i := 56) (by decide +kernel)) rfl
theorem se_X7_words : Cond.selects RX7 yX7_words yX7_words ∈ o_WS := o_mem (List.mem_of_getElem? (i := 57) (by decide +kernel)) rfl
theorem se_X7_areSame : Cond.selects RX7 yX7_areSame yX7_areSame ∈ o_WS := o_mem (List.mem_of_getElem? (i := 58) (by decide +kernel)) rfl
theorem se_X7_isItem : Cond.selects RX7 yX7_isItem yX7_isItem ∈ o_WS := o_mem (List.mem_of_getElem? (i := 59) (by decide +kernel)) rfl
theorem se_X7_takeOut : Cond.selects RX7 yX7_takeOut yX7_takeOut ∈ o_WS := o_mem (List.mem_of_getElem? (i := 60) (by decide +kernel)) rfl
theorem se_X7_isWithin : Cond.selects RX7 yX7_isWithin yX7_isWithin ∈ o_WS := o_mem (List.mem_of_getElem? (i := 61) (by decide +kernel)) rfl
theorem se_X7_heightOf : Cond.selects RX7 yX7_heightOf yX7_heightOf ∈ o_WS := o_mem (List.mem_of_getElem? (i := 62) (by decide +kernel)) rfl
theorem se_X7_putLine : Cond.selects RX7 yX7_putLine yX7_putLine ∈ o_WS := o_mem (List.mem_of_getElem? (i := 63) (by decide +kernel)) rfl
theorem se_X7_put : Cond.selects RX7 yX7_put yX7_put ∈ o_WS := o_mem (List.mem_of_getElem? (i := 64) (by decide +kernel)) rfl
theorem se_X7_lastOf : Cond.selects RX7 yX7_lastOf yX7_lastOf ∈ o_WS := o_mem (List.mem_of_getElem? (i := 65) (by decide +kernel)) rfl
theorem se_X7_putAll : Cond.selects RX7 yX7_putAll yX7_putAll ∈ o_WS := o_mem (List.mem_of_getElem? (i := 66) (by decide +kernel)) rfl
theorem se_X7_putNode : Cond.selects RX7 yX7_putNode yX7_putNode ∈ o_WS := o_mem (List.mem_of_getElem? (i := 67) (by decide +kernel)) rfl
theorem se_X7_putNumber : Cond.selects RX7 yX7_putNumber yX7_putNumber ∈ o_WS := o_mem (List.mem_of_getElem? (i := 68) (by decide +kernel)) rfl
theorem in_L : Cond.initialized RL ∈ o_WS := o_mem (List.mem_of_getElem? (i := 69) (by decide +kernel)) rfl
theorem in_X6 : Cond.initialized RX6 ∈ o_WS := o_mem (List.mem_of_getElem? (i := 70) (by decide +kernel)) rfl
theorem in_X4 : Cond.initialized RX4 ∈ o_WS := o_mem (List.mem_of_getElem? (i := 71) (by decide +kernel)) rfl
theorem in_X3 : Cond.initialized RX3 ∈ o_WS := o_mem (List.mem_of_getElem? (i := 72) (by decide +kernel)) rfl
theorem in_X5 : Cond.initialized RX5 ∈ o_WS := o_mem (List.mem_of_getElem? (i := 73) (by decide +kernel)) rfl
theorem in_X1 : Cond.initialized RX1 ∈ o_WS := o_mem (List.mem_of_getElem? (i := 74) (by decide +kernel)) rfl
theorem in_X0 : Cond.initialized RX0 ∈ o_WS := o_mem (List.mem_of_getElem? (i := 75) (by decide +kernel)) rfl
theorem in_X2 : Cond.initialized RX2 ∈ o_WS := o_mem (List.mem_of_getElem? (i := 76) (by decide +kernel)) rfl
theorem in_J7 : Cond.initialized RJ7 ∈ o_WS := o_mem (List.mem_of_getElem? (i := 77) (by decide +kernel)) rfl
theorem in_J9 : Cond.initialized RJ9 ∈ o_WS := o_mem (List.mem_of_getElem? (i := 78) (by decide +kernel)) rfl
theorem in_J10 : Cond.initialized RJ10 ∈ o_WS := o_mem (List.mem_of_getElem? (i := 79) (by decide +kernel)) rfl
theorem in_X7 : Cond.initialized RX7 ∈ o_WS := o_mem (List.mem_of_getElem? (i := 80) (by decide +kernel)) rfl
theorem in_Throwable : Cond.initialized "java/lang/Throwable" ∈ o_WS := o_mem (List.mem_of_getElem? (i := 81) (by decide +kernel)) rfl
theorem in_Exception : Cond.initialized "java/lang/Exception" ∈ o_WS := o_mem (List.mem_of_getElem? (i := 82) (by decide +kernel)) rfl
theorem in_RuntimeException : Cond.initialized "java/lang/RuntimeException" ∈ o_WS := o_mem (List.mem_of_getElem? (i := 83) (by decide +kernel)) rfl
theorem in_IllegalArgumentException : Cond.initialized "java/lang/IllegalArgumentException" ∈ o_WS := o_mem (List.mem_of_getElem? (i := 84) (by decide +kernel)) rfl
theorem in_IllegalStateException : Cond.initialized "java/lang/IllegalStateException" ∈ o_WS := o_mem (List.mem_of_getElem? (i := 85) (by decide +kernel)) rfl
theorem in_IndexOutOfBoundsException : Cond.initialized "java/lang/IndexOutOfBoundsException" ∈ o_WS := o_mem (List.mem_of_getElem? (i := 86) (by decide +kernel)) rfl
theorem kl_L_8 : Cond.classLink RL 8 "OffsideParser" ∈ o_WS := o_mem (List.mem_of_getElem? (i := 87) (by decide +kernel)) rfl
theorem ib_X6 : Cond.instantiable RX6 7 ∈ o_WS := o_mem (List.mem_of_getElem? (i := 88) (by decide +kernel)) rfl
theorem ml_L_68 : Cond.methodLink RL 68 yX6_init ∈ o_WS := o_mem (List.mem_of_getElem? (i := 89) (by decide +kernel)) rfl
theorem im_X6_init : Cond.instanceMethod yX6_init ∈ o_WS := o_mem (List.mem_of_getElem? (i := 90) (by decide +kernel)) rfl
theorem co_X6_init : Cond.code yX6_init cX6_init 1 (Option.none : Option Jvm.ClassFile.FieldType) ∈ o_WS := o_mem (List.mem_of_getElem? (i := 91) (by decide +kernel)) rfl
theorem ml_X6_1 : Cond.methodLink RX6 1 ⟨"java/lang/Object", "<init>", "()V"⟩ ∈ o_WS := o_mem (List.mem_of_getElem? (i := 92) (by decide +kernel)) rfl
theorem kl_X6_7 : Cond.classLink RX6 7 "OffsideParser$Row" ∈ o_WS := o_mem (List.mem_of_getElem? (i := 95) (by decide +kernel)) rfl
theorem ib_X4 : Cond.instantiable RX4 2 ∈ o_WS := o_mem (List.mem_of_getElem? (i := 96) (by decide +kernel)) rfl
theorem im_X4_init : Cond.instanceMethod yX4_init ∈ o_WS := o_mem (List.mem_of_getElem? (i := 98) (by decide +kernel)) rfl
theorem co_X4_init : Cond.code yX4_init cX4_init 1 (Option.none : Option Jvm.ClassFile.FieldType) ∈ o_WS := o_mem (List.mem_of_getElem? (i := 99) (by decide +kernel)) rfl
theorem ml_X4_3 : Cond.methodLink RX4 3 ⟨"java/lang/Object", "<init>", "()V"⟩ ∈ o_WS := o_mem (List.mem_of_getElem? (i := 100) (by decide +kernel)) rfl
theorem fl_X4_11 : Cond.fieldLink RX4 11 "OffsideParser$Row" "cells" "[I" ∈ o_WS := o_mem (List.mem_of_getElem? (i := 101) (by decide +kernel)) rfl
theorem fl_X4_15 : Cond.fieldLink RX4 15 "OffsideParser$Row" "count" "I" ∈ o_WS := o_mem (List.mem_of_getElem? (i := 102) (by decide +kernel)) rfl
theorem kl_X6_19 : Cond.classLink RX6 19 "OffsideParser$Repairs" ∈ o_WS := o_mem (List.mem_of_getElem? (i := 109) (by decide +kernel)) rfl
theorem ib_X3 : Cond.instantiable RX3 2 ∈ o_WS := o_mem (List.mem_of_getElem? (i := 110) (by decide +kernel)) rfl
theorem im_X3_init : Cond.instanceMethod yX3_init ∈ o_WS := o_mem (List.mem_of_getElem? (i := 112) (by decide +kernel)) rfl
theorem co_X3_init : Cond.code yX3_init cX3_init 1 (Option.none : Option Jvm.ClassFile.FieldType) ∈ o_WS := o_mem (List.mem_of_getElem? (i := 113) (by decide +kernel)) rfl
theorem ml_X3_1 : Cond.methodLink RX3 1 ⟨"java/lang/Object", "<init>", "()V"⟩ ∈ o_WS := o_mem (List.mem_of_getElem? (i := 114) (by decide +kernel)) rfl
theorem kl_X3_7 : Cond.classLink RX3 7 "OffsideParser$Row" ∈ o_WS := o_mem (List.mem_of_getElem? (i := 115) (by decide +kernel)) rfl
theorem fl_X3_10 : Cond.fieldLink RX3 10 "OffsideParser$Repairs" "cells" "LOffsideParser$Row;" ∈ o_WS := o_mem (List.mem_of_getElem? (i := 117) (by decide +kernel)) rfl
theorem fl_X3_16 : Cond.fieldLink RX3 16 "OffsideParser$Repairs" "count" "I" ∈ o_WS := o_mem (List.mem_of_getElem? (i := 118) (by decide +kernel)) rfl
theorem kl_X6_26 : Cond.classLink RX6 26 "OffsideParser$Tree" ∈ o_WS := o_mem (List.mem_of_getElem? (i := 124) (by decide +kernel)) rfl
theorem ib_X5 : Cond.instantiable RX5 3 ∈ o_WS := o_mem (List.mem_of_getElem? (i := 125) (by decide +kernel)) rfl
theorem im_X5_init : Cond.instanceMethod yX5_init ∈ o_WS := o_mem (List.mem_of_getElem? (i := 127) (by decide +kernel)) rfl
theorem co_X5_init : Cond.code yX5_init cX5_init 1 (Option.none : Option Jvm.ClassFile.FieldType) ∈ o_WS := o_mem (List.mem_of_getElem? (i := 128) (by decide +kernel)) rfl
theorem ml_X5_3 : Cond.methodLink RX5 3 ⟨"java/lang/Object", "<init>", "()V"⟩ ∈ o_WS := o_mem (List.mem_of_getElem? (i := 129) (by decide +kernel)) rfl
theorem kl_X5_9 : Cond.classLink RX5 9 "OffsideParser$Row" ∈ o_WS := o_mem (List.mem_of_getElem? (i := 130) (by decide +kernel)) rfl
theorem fl_X5_12 : Cond.fieldLink RX5 12 "OffsideParser$Tree" "cells" "LOffsideParser$Row;" ∈ o_WS := o_mem (List.mem_of_getElem? (i := 132) (by decide +kernel)) rfl
theorem fl_X5_18 : Cond.fieldLink RX5 18 "OffsideParser$Tree" "letters" "LOffsideParser$Row;" ∈ o_WS := o_mem (List.mem_of_getElem? (i := 133) (by decide +kernel)) rfl
theorem fl_X5_21 : Cond.fieldLink RX5 21 "OffsideParser$Tree" "count" "I" ∈ o_WS := o_mem (List.mem_of_getElem? (i := 134) (by decide +kernel)) rfl
theorem kl_X6_33 : Cond.classLink RX6 33 "OffsideParser$Lexer" ∈ o_WS := o_mem (List.mem_of_getElem? (i := 142) (by decide +kernel)) rfl
theorem ib_X1 : Cond.instantiable RX1 13 ∈ o_WS := o_mem (List.mem_of_getElem? (i := 143) (by decide +kernel)) rfl
theorem ml_X6_35 : Cond.methodLink RX6 35 yX1_init ∈ o_WS := o_mem (List.mem_of_getElem? (i := 144) (by decide +kernel)) rfl
theorem im_X1_init : Cond.instanceMethod yX1_init ∈ o_WS := o_mem (List.mem_of_getElem? (i := 145) (by decide +kernel)) rfl
theorem co_X1_init : Cond.code yX1_init cX1_init 3 (Option.none : Option Jvm.ClassFile.FieldType) ∈ o_WS := o_mem (List.mem_of_getElem? (i := 146) (by decide +kernel)) rfl
theorem ml_X1_3 : Cond.methodLink RX1 3 ⟨"java/lang/Object", "<init>", "()V"⟩ ∈ o_WS := o_mem (List.mem_of_getElem? (i := 147) (by decide +kernel)) rfl
theorem fl_X1_46 : Cond.fieldLink RX1 46 "OffsideParser$Lexer" "text" "LOffsideParser$Row;" ∈ o_WS := o_mem (List.mem_of_getElem? (i := 148) (by decide +kernel)) rfl
theorem fl_X1_50 : Cond.fieldLink RX1 50 "OffsideParser$Lexer" "repairs" "LOffsideParser$Repairs;" ∈ o_WS := o_mem (List.mem_of_getElem? (i := 149) (by decide +kernel)) rfl
theorem fl_X1_9 : Cond.fieldLink RX1 9 "OffsideParser$Lexer" "position" "I" ∈ o_WS := o_mem (List.mem_of_getElem? (i := 150) (by decide +kernel)) rfl
theorem fl_X1_15 : Cond.fieldLink RX1 15 "OffsideParser$Lexer" "lineNumber" "I" ∈ o_WS := o_mem (List.mem_of_getElem? (i := 152) (by decide +kernel)) rfl
theorem fl_X1_18 : Cond.fieldLink RX1 18 "OffsideParser$Lexer" "lineStart" "I" ∈ o_WS := o_mem (List.mem_of_getElem? (i := 153) (by decide +kernel)) rfl
theorem fl_X1_21 : Cond.fieldLink RX1 21 "OffsideParser$Lexer" "inComment" "Z" ∈ o_WS := o_mem (List.mem_of_getElem? (i := 154) (by decide +kernel)) rfl
theorem fl_X1_25 : Cond.fieldLink RX1 25 "OffsideParser$Lexer" "joinsNextLine" "Z" ∈ o_WS := o_mem (List.mem_of_getElem? (i := 155) (by decide +kernel)) rfl
theorem fl_X1_28 : Cond.fieldLink RX1 28 "OffsideParser$Lexer" "firstIsGone" "Z" ∈ o_WS := o_mem (List.mem_of_getElem? (i := 156) (by decide +kernel)) rfl
theorem fl_X1_31 : Cond.fieldLink RX1 31 "OffsideParser$Lexer" "token" "I" ∈ o_WS := o_mem (List.mem_of_getElem? (i := 157) (by decide +kernel)) rfl
theorem fl_X1_34 : Cond.fieldLink RX1 34 "OffsideParser$Lexer" "start" "I" ∈ o_WS := o_mem (List.mem_of_getElem? (i := 159) (by decide +kernel)) rfl
theorem fl_X1_37 : Cond.fieldLink RX1 37 "OffsideParser$Lexer" "atLine" "I" ∈ o_WS := o_mem (List.mem_of_getElem? (i := 161) (by decide +kernel)) rfl
theorem fl_X1_40 : Cond.fieldLink RX1 40 "OffsideParser$Lexer" "atColumn" "I" ∈ o_WS := o_mem (List.mem_of_getElem? (i := 163) (by decide +kernel)) rfl
theorem fl_X1_43 : Cond.fieldLink RX1 43 "OffsideParser$Lexer" "isFirst" "Z" ∈ o_WS := o_mem (List.mem_of_getElem? (i := 165) (by decide +kernel)) rfl
theorem kl_X6_42 : Cond.classLink RX6 42 "OffsideParser$Builder" ∈ o_WS := o_mem (List.mem_of_getElem? (i := 194) (by decide +kernel)) rfl
theorem ib_X0 : Cond.instantiable RX0 9 ∈ o_WS := o_mem (List.mem_of_getElem? (i := 195) (by decide +kernel)) rfl
theorem ml_X6_44 : Cond.methodLink RX6 44 yX0_init ∈ o_WS := o_mem (List.mem_of_getElem? (i := 196) (by decide +kernel)) rfl
theorem im_X0_init : Cond.instanceMethod yX0_init ∈ o_WS := o_mem (List.mem_of_getElem? (i := 197) (by decide +kernel)) rfl
theorem co_X0_init : Cond.code yX0_init cX0_init 5 (Option.none : Option Jvm.ClassFile.FieldType) ∈ o_WS := o_mem (List.mem_of_getElem? (i := 198) (by decide +kernel)) rfl
theorem ml_X0_3 : Cond.methodLink RX0 3 ⟨"java/lang/Object", "<init>", "()V"⟩ ∈ o_WS := o_mem (List.mem_of_getElem? (i := 199) (by decide +kernel)) rfl
theorem kl_X0_9 : Cond.classLink RX0 9 "OffsideParser$Row" ∈ o_WS := o_mem (List.mem_of_getElem? (i := 200) (by decide +kernel)) rfl
theorem fl_X0_31 : Cond.fieldLink RX0 31 "OffsideParser$Builder" "text" "LOffsideParser$Row;" ∈ o_WS := o_mem (List.mem_of_getElem? (i := 202) (by decide +kernel)) rfl
theorem fl_X0_34 : Cond.fieldLink RX0 34 "OffsideParser$Builder" "lexer" "LOffsideParser$Lexer;" ∈ o_WS := o_mem (List.mem_of_getElem? (i := 203) (by decide +kernel)) rfl
theorem fl_X0_38 : Cond.fieldLink RX0 38 "OffsideParser$Builder" "tree" "LOffsideParser$Tree;" ∈ o_WS := o_mem (List.mem_of_getElem? (i := 204) (by decide +kernel)) rfl
theorem fl_X0_42 : Cond.fieldLink RX0 42 "OffsideParser$Builder" "repairs" "LOffsideParser$Repairs;" ∈ o_WS := o_mem (List.mem_of_getElem? (i := 205) (by decide +kernel)) rfl
theorem fl_X0_12 : Cond.fieldLink RX0 12 "OffsideParser$Builder" "openNodes" "LOffsideParser$Row;" ∈ o_WS := o_mem (List.mem_of_getElem? (i := 206) (by decide +kernel)) rfl
theorem fl_X0_18 : Cond.fieldLink RX0 18 "OffsideParser$Builder" "openColumns" "LOffsideParser$Row;" ∈ o_WS := o_mem (List.mem_of_getElem? (i := 207) (by decide +kernel)) rfl
theorem fl_X0_21 : Cond.fieldLink RX0 21 "OffsideParser$Builder" "currentItems" "LOffsideParser$Row;" ∈ o_WS := o_mem (List.mem_of_getElem? (i := 208) (by decide +kernel)) rfl
theorem fl_X0_24 : Cond.fieldLink RX0 24 "OffsideParser$Builder" "hasBegun" "Z" ∈ o_WS := o_mem (List.mem_of_getElem? (i := 209) (by decide +kernel)) rfl
theorem fl_X0_28 : Cond.fieldLink RX0 28 "OffsideParser$Builder" "colonBefore" "Z" ∈ o_WS := o_mem (List.mem_of_getElem? (i := 210) (by decide +kernel)) rfl
theorem kl_X6_51 : Cond.classLink RX6 51 "OffsideParser$Printer" ∈ o_WS := o_mem (List.mem_of_getElem? (i := 230) (by decide +kernel)) rfl
theorem ib_X2 : Cond.instantiable RX2 2 ∈ o_WS := o_mem (List.mem_of_getElem? (i := 231) (by decide +kernel)) rfl
theorem ml_X6_53 : Cond.methodLink RX6 53 yX2_init ∈ o_WS := o_mem (List.mem_of_getElem? (i := 232) (by decide +kernel)) rfl
theorem im_X2_init : Cond.instanceMethod yX2_init ∈ o_WS := o_mem (List.mem_of_getElem? (i := 233) (by decide +kernel)) rfl
theorem co_X2_init : Cond.code yX2_init cX2_init 2 (Option.none : Option Jvm.ClassFile.FieldType) ∈ o_WS := o_mem (List.mem_of_getElem? (i := 234) (by decide +kernel)) rfl
theorem ml_X2_3 : Cond.methodLink RX2 3 ⟨"java/lang/Object", "<init>", "()V"⟩ ∈ o_WS := o_mem (List.mem_of_getElem? (i := 235) (by decide +kernel)) rfl
theorem kl_X2_9 : Cond.classLink RX2 9 "OffsideParser$Row" ∈ o_WS := o_mem (List.mem_of_getElem? (i := 236) (by decide +kernel)) rfl
theorem fl_X2_18 : Cond.fieldLink RX2 18 "OffsideParser$Printer" "tree" "LOffsideParser$Tree;" ∈ o_WS := o_mem (List.mem_of_getElem? (i := 238) (by decide +kernel)) rfl
theorem fl_X2_12 : Cond.fieldLink RX2 12 "OffsideParser$Printer" "out" "LOffsideParser$Row;" ∈ o_WS := o_mem (List.mem_of_getElem? (i := 239) (by decide +kernel)) rfl
theorem ml_X6_60 : Cond.methodLink RX6 60 yX5_startAgain ∈ o_WS := o_mem (List.mem_of_getElem? (i := 245) (by decide +kernel)) rfl
theorem im_X5_startAgain : Cond.instanceMethod yX5_startAgain ∈ o_WS := o_mem (List.mem_of_getElem? (i := 246) (by decide +kernel)) rfl
theorem se_X5_startAgain : Cond.selects RX5 yX5_startAgain yX5_startAgain ∈ o_WS := o_mem (List.mem_of_getElem? (i := 247) (by decide +kernel)) rfl
theorem co_X5_startAgain : Cond.code yX5_startAgain cX5_startAgain 1 (Option.none : Option Jvm.ClassFile.FieldType) ∈ o_WS := o_mem (List.mem_of_getElem? (i := 248) (by decide +kernel)) rfl
theorem ml_X5_25 : Cond.methodLink RX5 25 yX4_cut ∈ o_WS := o_mem (List.mem_of_getElem? (i := 249) (by decide +kernel)) rfl
theorem im_X4_cut : Cond.instanceMethod yX4_cut ∈ o_WS := o_mem (List.mem_of_getElem? (i := 250) (by decide +kernel)) rfl
theorem se_X4_cut : Cond.selects RX4 yX4_cut yX4_cut ∈ o_WS := o_mem (List.mem_of_getElem? (i := 251) (by decide +kernel)) rfl
theorem co_X4_cut : Cond.code yX4_cut cX4_cut 2 (Option.none : Option Jvm.ClassFile.FieldType) ∈ o_WS := o_mem (List.mem_of_getElem? (i := 252) (by decide +kernel)) rfl
theorem ml_X5_29 : Cond.methodLink RX5 29 yX5_add ∈ o_WS := o_mem (List.mem_of_getElem? (i := 253) (by decide +kernel)) rfl
theorem im_X5_add : Cond.instanceMethod yX5_add ∈ o_WS := o_mem (List.mem_of_getElem? (i := 254) (by decide +kernel)) rfl
theorem se_X5_add : Cond.selects RX5 yX5_add yX5_add ∈ o_WS := o_mem (List.mem_of_getElem? (i := 255) (by decide +kernel)) rfl
theorem co_X5_add : Cond.code yX5_add cX5_add 7 (Option.some Jvm.ClassFile.FieldType.int) ∈ o_WS := o_mem (List.mem_of_getElem? (i := 256) (by decide +kernel)) rfl
theorem ml_X5_41 : Cond.methodLink RX5 41 yX4_push ∈ o_WS := o_mem (List.mem_of_getElem? (i := 257) (by decide +kernel)) rfl
theorem im_X4_push : Cond.instanceMethod yX4_push ∈ o_WS := o_mem (List.mem_of_getElem? (i := 258) (by decide +kernel)) rfl
theorem se_X4_push : Cond.selects RX4 yX4_push yX4_push ∈ o_WS := o_mem (List.mem_of_getElem? (i := 259) (by decide +kernel)) rfl
theorem co_X4_push : Cond.code yX4_push cX4_push 2 (Option.none : Option Jvm.ClassFile.FieldType) ∈ o_WS := o_mem (List.mem_of_getElem? (i := 260) (by decide +kernel)) rfl
theorem cn_X4_19 : Cond.constant RX4 19 (1048576 : Int32) ∈ o_WS := o_mem (List.mem_of_getElem? (i := 261) (by decide +kernel)) rfl
theorem ml_X4_20 : Cond.methodLink RX4 20 yJ7_copyOf_59c91 ∈ o_WS := o_mem (List.mem_of_getElem? (i := 262) (by decide +kernel)) rfl
theorem sm_J7_copyOf_59c91 : Cond.static yJ7_copyOf_59c91 ∈ o_WS := o_mem (List.mem_of_getElem? (i := 263) (by decide +kernel)) rfl
theorem co_J7_copyOf_59c91 : Cond.code yJ7_copyOf_59c91 cJ7_copyOf_59c91 3 (Option.some (Jvm.ClassFile.FieldType.array Jvm.ClassFile.FieldType.int)) ∈ o_WS := o_mem (List.mem_of_getElem? (i := 264) (by decide +kernel)) rfl
theorem ml_J7_316 : Cond.methodLink RJ7 316 ⟨"[I", "clone", "()Ljava/lang/Object;"⟩ ∈ o_WS := o_mem (List.mem_of_getElem? (i := 265) (by decide +kernel)) rfl
theorem kl_J7_317 : Cond.classLink RJ7 317 "[I" ∈ o_WS := o_mem (List.mem_of_getElem? (i := 271) (by decide +kernel)) rfl
theorem ml_J7_304 : Cond.methodLink RJ7 304 yJ9_min_7cf53 ∈ o_WS := o_mem (List.mem_of_getElem? (i := 272) (by decide +kernel)) rfl
theorem sm_J9_min_7cf53 : Cond.static yJ9_min_7cf53 ∈ o_WS := o_mem (List.mem_of_getElem? (i := 273) (by decide +kernel)) rfl
theorem co_J9_min_7cf53 : Cond.code yJ9_min_7cf53 cJ9_min_7cf53 2 (Option.some Jvm.ClassFile.FieldType.int) ∈ o_WS := o_mem (List.mem_of_getElem? (i := 274) (by decide +kernel)) rfl
theorem ml_J7_150 : Cond.methodLink RJ7 150 ⟨"java/lang/System", "arraycopy", "(Ljava/lang/Object;ILjava/lang/Object;II)V"⟩ ∈ o_WS := o_mem (List.mem_of_getElem? (i := 275) (by decide +kernel)) rfl
theorem ml_X5_44 : Cond.methodLink RX5 44 yX5_get ∈ o_WS := o_mem (List.mem_of_getElem? (i := 278) (by decide +kernel)) rfl
theorem im_X5_get : Cond.instanceMethod yX5_get ∈ o_WS := o_mem (List.mem_of_getElem? (i := 279) (by decide +kernel)) rfl
theorem se_X5_get : Cond.selects RX5 yX5_get yX5_get ∈ o_WS := o_mem (List.mem_of_getElem? (i := 280) (by decide +kernel)) rfl
theorem co_X5_get : Cond.code yX5_get cX5_get 3 (Option.some Jvm.ClassFile.FieldType.int) ∈ o_WS := o_mem (List.mem_of_getElem? (i := 281) (by decide +kernel)) rfl
theorem ml_X5_33 : Cond.methodLink RX5 33 yX4_at ∈ o_WS := o_mem (List.mem_of_getElem? (i := 282) (by decide +kernel)) rfl
theorem im_X4_at : Cond.instanceMethod yX4_at ∈ o_WS := o_mem (List.mem_of_getElem? (i := 283) (by decide +kernel)) rfl
theorem se_X4_at : Cond.selects RX4 yX4_at yX4_at ∈ o_WS := o_mem (List.mem_of_getElem? (i := 284) (by decide +kernel)) rfl
theorem co_X4_at : Cond.code yX4_at cX4_at 2 (Option.some Jvm.ClassFile.FieldType.int) ∈ o_WS := o_mem (List.mem_of_getElem? (i := 285) (by decide +kernel)) rfl
theorem ml_X5_48 : Cond.methodLink RX5 48 yX5_is ∈ o_WS := o_mem (List.mem_of_getElem? (i := 286) (by decide +kernel)) rfl
theorem im_X5_is : Cond.instanceMethod yX5_is ∈ o_WS := o_mem (List.mem_of_getElem? (i := 287) (by decide +kernel)) rfl
theorem se_X5_is : Cond.selects RX5 yX5_is yX5_is ∈ o_WS := o_mem (List.mem_of_getElem? (i := 288) (by decide +kernel)) rfl
theorem co_X5_is : Cond.code yX5_is cX5_is 3 (Option.some Jvm.ClassFile.FieldType.boolean) ∈ o_WS := o_mem (List.mem_of_getElem? (i := 289) (by decide +kernel)) rfl
theorem ml_X5_52 : Cond.methodLink RX5 52 yX4_size ∈ o_WS := o_mem (List.mem_of_getElem? (i := 290) (by decide +kernel)) rfl
theorem im_X4_size : Cond.instanceMethod yX4_size ∈ o_WS := o_mem (List.mem_of_getElem? (i := 291) (by decide +kernel)) rfl
theorem se_X4_size : Cond.selects RX4 yX4_size yX4_size ∈ o_WS := o_mem (List.mem_of_getElem? (i := 292) (by decide +kernel)) rfl
theorem co_X4_size : Cond.code yX4_size cX4_size 1 (Option.some Jvm.ClassFile.FieldType.int) ∈ o_WS := o_mem (List.mem_of_getElem? (i := 293) (by decide +kernel)) rfl
theorem fl_X6_10 : Cond.fieldLink RX6 10 "OffsideParser" "text" "LOffsideParser$Row;" ∈ o_WS := o_mem (List.mem_of_getElem? (i := 294) (by decide +kernel)) rfl
theorem fl_X6_16 : Cond.fieldLink RX6 16 "OffsideParser" "unpacked" "LOffsideParser$Row;" ∈ o_WS := o_mem (List.mem_of_getElem? (i := 295) (by decide +kernel)) rfl
theorem fl_X6_22 : Cond.fieldLink RX6 22 "OffsideParser" "repairs" "LOffsideParser$Repairs;" ∈ o_WS := o_mem (List.mem_of_getElem? (i := 296) (by decide +kernel)) rfl
theorem fl_X6_29 : Cond.fieldLink RX6 29 "OffsideParser" "tree" "LOffsideParser$Tree;" ∈ o_WS := o_mem (List.mem_of_getElem? (i := 297) (by decide +kernel)) rfl
theorem fl_X6_38 : Cond.fieldLink RX6 38 "OffsideParser" "lexer" "LOffsideParser$Lexer;" ∈ o_WS := o_mem (List.mem_of_getElem? (i := 298) (by decide +kernel)) rfl
theorem fl_X6_47 : Cond.fieldLink RX6 47 "OffsideParser" "builder" "LOffsideParser$Builder;" ∈ o_WS := o_mem (List.mem_of_getElem? (i := 299) (by decide +kernel)) rfl
theorem fl_X6_56 : Cond.fieldLink RX6 56 "OffsideParser" "printer" "LOffsideParser$Printer;" ∈ o_WS := o_mem (List.mem_of_getElem? (i := 300) (by decide +kernel)) rfl
theorem ml_L_88 : Cond.methodLink RL 88 yX6_length ∈ o_WS := o_mem (List.mem_of_getElem? (i := 316) (by decide +kernel)) rfl
theorem im_X6_length : Cond.instanceMethod yX6_length ∈ o_WS := o_mem (List.mem_of_getElem? (i := 317) (by decide +kernel)) rfl
theorem se_X6_length : Cond.selects RX6 yX6_length yX6_length ∈ o_WS := o_mem (List.mem_of_getElem? (i := 318) (by decide +kernel)) rfl
theorem co_X6_length : Cond.code yX6_length cX6_length 1 (Option.some Jvm.ClassFile.FieldType.int) ∈ o_WS := o_mem (List.mem_of_getElem? (i := 319) (by decide +kernel)) rfl
theorem ml_X6_67 : Cond.methodLink RX6 67 yX4_size ∈ o_WS := o_mem (List.mem_of_getElem? (i := 320) (by decide +kernel)) rfl
theorem ml_L_92 : Cond.methodLink RL 92 yX6_parse ∈ o_WS := o_mem (List.mem_of_getElem? (i := 321) (by decide +kernel)) rfl
theorem im_X6_parse : Cond.instanceMethod yX6_parse ∈ o_WS := o_mem (List.mem_of_getElem? (i := 322) (by decide +kernel)) rfl
theorem se_X6_parse : Cond.selects RX6 yX6_parse yX6_parse ∈ o_WS := o_mem (List.mem_of_getElem? (i := 323) (by decide +kernel)) rfl
theorem co_X6_parse : Cond.code yX6_parse cX6_parse 2 (Option.some Jvm.ClassFile.FieldType.int) ∈ o_WS := o_mem (List.mem_of_getElem? (i := 324) (by decide +kernel)) rfl
theorem ml_X6_100 : Cond.methodLink RX6 100 yX3_startAgain ∈ o_WS := o_mem (List.mem_of_getElem? (i := 325) (by decide +kernel)) rfl
theorem im_X3_startAgain : Cond.instanceMethod yX3_startAgain ∈ o_WS := o_mem (List.mem_of_getElem? (i := 326) (by decide +kernel)) rfl
theorem se_X3_startAgain : Cond.selects RX3 yX3_startAgain yX3_startAgain ∈ o_WS := o_mem (List.mem_of_getElem? (i := 327) (by decide +kernel)) rfl
theorem co_X3_startAgain : Cond.code yX3_startAgain cX3_startAgain 1 (Option.none : Option Jvm.ClassFile.FieldType) ∈ o_WS := o_mem (List.mem_of_getElem? (i := 328) (by decide +kernel)) rfl
theorem ml_X3_20 : Cond.methodLink RX3 20 yX4_cut ∈ o_WS := o_mem (List.mem_of_getElem? (i := 329) (by decide +kernel)) rfl
theorem ml_X6_101 : Cond.methodLink RX6 101 yX1_startAgain ∈ o_WS := o_mem (List.mem_of_getElem? (i := 330) (by decide +kernel)) rfl
theorem im_X1_startAgain : Cond.instanceMethod yX1_startAgain ∈ o_WS := o_mem (List.mem_of_getElem? (i := 331) (by decide +kernel)) rfl
theorem se_X1_startAgain : Cond.selects RX1 yX1_startAgain yX1_startAgain ∈ o_WS := o_mem (List.mem_of_getElem? (i := 332) (by decide +kernel)) rfl
theorem co_X1_startAgain : Cond.code yX1_startAgain cX1_startAgain 1 (Option.none : Option Jvm.ClassFile.FieldType) ∈ o_WS := o_mem (List.mem_of_getElem? (i := 333) (by decide +kernel)) rfl
theorem ml_X6_102 : Cond.methodLink RX6 102 yX0_startAgain ∈ o_WS := o_mem (List.mem_of_getElem? (i := 334) (by decide +kernel)) rfl
theorem im_X0_startAgain : Cond.instanceMethod yX0_startAgain ∈ o_WS := o_mem (List.mem_of_getElem? (i := 335) (by decide +kernel)) rfl
theorem se_X0_startAgain : Cond.selects RX0 yX0_startAgain yX0_startAgain ∈ o_WS := o_mem (List.mem_of_getElem? (i := 336) (by decide +kernel)) rfl
theorem co_X0_startAgain : Cond.code yX0_startAgain cX0_startAgain 1 (Option.none : Option Jvm.ClassFile.FieldType) ∈ o_WS := o_mem (List.mem_of_getElem? (i := 337) (by decide +kernel)) rfl
theorem ml_X0_46 : Cond.methodLink RX0 46 yX4_cut ∈ o_WS := o_mem (List.mem_of_getElem? (i := 338) (by decide +kernel)) rfl
theorem ml_X0_50 : Cond.methodLink RX0 50 yX0_enter ∈ o_WS := o_mem (List.mem_of_getElem? (i := 339) (by decide +kernel)) rfl
theorem im_X0_enter : Cond.instanceMethod yX0_enter ∈ o_WS := o_mem (List.mem_of_getElem? (i := 341) (by decide +kernel)) rfl
theorem co_X0_enter : Cond.code yX0_enter cX0_enter 3 (Option.none : Option Jvm.ClassFile.FieldType) ∈ o_WS := o_mem (List.mem_of_getElem? (i := 342) (by decide +kernel)) rfl
theorem ml_X0_103 : Cond.methodLink RX0 103 yX4_push ∈ o_WS := o_mem (List.mem_of_getElem? (i := 343) (by decide +kernel)) rfl
theorem ml_X6_103 : Cond.methodLink RX6 103 yX1_readToken ∈ o_WS := o_mem (List.mem_of_getElem? (i := 344) (by decide +kernel)) rfl
theorem im_X1_readToken : Cond.instanceMethod yX1_readToken ∈ o_WS := o_mem (List.mem_of_getElem? (i := 345) (by decide +kernel)) rfl
theorem se_X1_readToken : Cond.selects RX1 yX1_readToken yX1_readToken ∈ o_WS := o_mem (List.mem_of_getElem? (i := 346) (by decide +kernel)) rfl
theorem co_X1_readToken : Cond.code yX1_readToken cX1_readToken 3 (Option.some Jvm.ClassFile.FieldType.boolean) ∈ o_WS := o_mem (List.mem_of_getElem? (i := 347) (by decide +kernel)) rfl
theorem ml_X1_54 : Cond.methodLink RX1 54 yX4_size ∈ o_WS := o_mem (List.mem_of_getElem? (i := 348) (by decide +kernel)) rfl
theorem ml_X1_60 : Cond.methodLink RX1 60 yX4_at ∈ o_WS := o_mem (List.mem_of_getElem? (i := 349) (by decide +kernel)) rfl
theorem ml_X1_64 : Cond.methodLink RX1 64 yX1_beginLine ∈ o_WS := o_mem (List.mem_of_getElem? (i := 350) (by decide +kernel)) rfl
theorem im_X1_beginLine : Cond.instanceMethod yX1_beginLine ∈ o_WS := o_mem (List.mem_of_getElem? (i := 352) (by decide +kernel)) rfl
theorem co_X1_beginLine : Cond.code yX1_beginLine cX1_beginLine 2 (Option.none : Option Jvm.ClassFile.FieldType) ∈ o_WS := o_mem (List.mem_of_getElem? (i := 353) (by decide +kernel)) rfl
theorem ml_X1_68 : Cond.methodLink RX1 68 yX1_startsToken ∈ o_WS := o_mem (List.mem_of_getElem? (i := 354) (by decide +kernel)) rfl
theorem sm_X1_startsToken : Cond.static yX1_startsToken ∈ o_WS := o_mem (List.mem_of_getElem? (i := 355) (by decide +kernel)) rfl
theorem co_X1_startsToken : Cond.code yX1_startsToken cX1_startsToken 1 (Option.some Jvm.ClassFile.FieldType.boolean) ∈ o_WS := o_mem (List.mem_of_getElem? (i := 356) (by decide +kernel)) rfl
theorem sm_X6_isLetter : Cond.static yX6_isLetter ∈ o_WS := o_mem (List.mem_of_getElem? (i := 358) (by decide +kernel)) rfl
theorem co_X6_isLetter : Cond.code yX6_isLetter cX6_isLetter 1 (Option.some Jvm.ClassFile.FieldType.boolean) ∈ o_WS := o_mem (List.mem_of_getElem? (i := 359) (by decide +kernel)) rfl
theorem sm_X6_isDigit : Cond.static yX6_isDigit ∈ o_WS := o_mem (List.mem_of_getElem? (i := 361) (by decide +kernel)) rfl
theorem co_X6_isDigit : Cond.code yX6_isDigit cX6_isDigit 1 (Option.some Jvm.ClassFile.FieldType.boolean) ∈ o_WS := o_mem (List.mem_of_getElem? (i := 362) (by decide +kernel)) rfl
theorem ml_X1_72 : Cond.methodLink RX1 72 yX1_takeToken ∈ o_WS := o_mem (List.mem_of_getElem? (i := 363) (by decide +kernel)) rfl
theorem im_X1_takeToken : Cond.instanceMethod yX1_takeToken ∈ o_WS := o_mem (List.mem_of_getElem? (i := 365) (by decide +kernel)) rfl
theorem co_X1_takeToken : Cond.code yX1_takeToken cX1_takeToken 3 (Option.none : Option Jvm.ClassFile.FieldType) ∈ o_WS := o_mem (List.mem_of_getElem? (i := 366) (by decide +kernel)) rfl
theorem ml_X1_91 : Cond.methodLink RX1 91 yX1_endOfRun ∈ o_WS := o_mem (List.mem_of_getElem? (i := 367) (by decide +kernel)) rfl
theorem im_X1_endOfRun : Cond.instanceMethod yX1_endOfRun ∈ o_WS := o_mem (List.mem_of_getElem? (i := 369) (by decide +kernel)) rfl
theorem co_X1_endOfRun : Cond.code yX1_endOfRun cX1_endOfRun 4 (Option.some Jvm.ClassFile.FieldType.int) ∈ o_WS := o_mem (List.mem_of_getElem? (i := 370) (by decide +kernel)) rfl
theorem ml_X1_76 : Cond.methodLink RX1 76 yX1_takeOtherByte ∈ o_WS := o_mem (List.mem_of_getElem? (i := 371) (by decide +kernel)) rfl
theorem im_X1_takeOtherByte : Cond.instanceMethod yX1_takeOtherByte ∈ o_WS := o_mem (List.mem_of_getElem? (i := 373) (by decide +kernel)) rfl
theorem co_X1_takeOtherByte : Cond.code yX1_takeOtherByte cX1_takeOtherByte 3 (Option.none : Option Jvm.ClassFile.FieldType) ∈ o_WS := o_mem (List.mem_of_getElem? (i := 374) (by decide +kernel)) rfl
theorem ml_X1_79 : Cond.methodLink RX1 79 yX3_add ∈ o_WS := o_mem (List.mem_of_getElem? (i := 375) (by decide +kernel)) rfl
theorem im_X3_add : Cond.instanceMethod yX3_add ∈ o_WS := o_mem (List.mem_of_getElem? (i := 376) (by decide +kernel)) rfl
theorem se_X3_add : Cond.selects RX3 yX3_add yX3_add ∈ o_WS := o_mem (List.mem_of_getElem? (i := 377) (by decide +kernel)) rfl
theorem co_X3_add : Cond.code yX3_add cX3_add 4 (Option.none : Option Jvm.ClassFile.FieldType) ∈ o_WS := o_mem (List.mem_of_getElem? (i := 378) (by decide +kernel)) rfl
theorem ml_X3_28 : Cond.methodLink RX3 28 yX4_push ∈ o_WS := o_mem (List.mem_of_getElem? (i := 379) (by decide +kernel)) rfl
theorem ml_X6_107 : Cond.methodLink RX6 107 yX0_take ∈ o_WS := o_mem (List.mem_of_getElem? (i := 380) (by decide +kernel)) rfl
theorem im_X0_take : Cond.instanceMethod yX0_take ∈ o_WS := o_mem (List.mem_of_getElem? (i := 381) (by decide +kernel)) rfl
theorem se_X0_take : Cond.selects RX0 yX0_take yX0_take ∈ o_WS := o_mem (List.mem_of_getElem? (i := 382) (by decide +kernel)) rfl
theorem co_X0_take : Cond.code yX0_take cX0_take 2 (Option.none : Option Jvm.ClassFile.FieldType) ∈ o_WS := o_mem (List.mem_of_getElem? (i := 383) (by decide +kernel)) rfl
theorem ml_X0_60 : Cond.methodLink RX0 60 yX4_put ∈ o_WS := o_mem (List.mem_of_getElem? (i := 384) (by decide +kernel)) rfl
theorem im_X4_put : Cond.instanceMethod yX4_put ∈ o_WS := o_mem (List.mem_of_getElem? (i := 385) (by decide +kernel)) rfl
theorem se_X4_put : Cond.selects RX4 yX4_put yX4_put ∈ o_WS := o_mem (List.mem_of_getElem? (i := 386) (by decide +kernel)) rfl
theorem co_X4_put : Cond.code yX4_put cX4_put 3 (Option.none : Option Jvm.ClassFile.FieldType) ∈ o_WS := o_mem (List.mem_of_getElem? (i := 387) (by decide +kernel)) rfl
theorem ml_X0_63 : Cond.methodLink RX0 63 yX0_innermost ∈ o_WS := o_mem (List.mem_of_getElem? (i := 388) (by decide +kernel)) rfl
theorem im_X0_innermost : Cond.instanceMethod yX0_innermost ∈ o_WS := o_mem (List.mem_of_getElem? (i := 390) (by decide +kernel)) rfl
theorem co_X0_innermost : Cond.code yX0_innermost cX0_innermost 1 (Option.some Jvm.ClassFile.FieldType.int) ∈ o_WS := o_mem (List.mem_of_getElem? (i := 391) (by decide +kernel)) rfl
theorem ml_X0_100 : Cond.methodLink RX0 100 yX4_size ∈ o_WS := o_mem (List.mem_of_getElem? (i := 392) (by decide +kernel)) rfl
theorem ml_X0_67 : Cond.methodLink RX0 67 yX4_at ∈ o_WS := o_mem (List.mem_of_getElem? (i := 393) (by decide +kernel)) rfl
theorem ml_X0_71 : Cond.methodLink RX0 71 yX5_is ∈ o_WS := o_mem (List.mem_of_getElem? (i := 394) (by decide +kernel)) rfl
theorem ml_X0_77 : Cond.methodLink RX0 77 yX0_placeInGroup ∈ o_WS := o_mem (List.mem_of_getElem? (i := 395) (by decide +kernel)) rfl
theorem im_X0_placeInGroup : Cond.instanceMethod yX0_placeInGroup ∈ o_WS := o_mem (List.mem_of_getElem? (i := 397) (by decide +kernel)) rfl
theorem co_X0_placeInGroup : Cond.code yX0_placeInGroup cX0_placeInGroup 1 (Option.none : Option Jvm.ClassFile.FieldType) ∈ o_WS := o_mem (List.mem_of_getElem? (i := 398) (by decide +kernel)) rfl
theorem ml_X0_124 : Cond.methodLink RX0 124 yX0_addWord ∈ o_WS := o_mem (List.mem_of_getElem? (i := 399) (by decide +kernel)) rfl
theorem im_X0_addWord : Cond.instanceMethod yX0_addWord ∈ o_WS := o_mem (List.mem_of_getElem? (i := 401) (by decide +kernel)) rfl
theorem co_X0_addWord : Cond.code yX0_addWord cX0_addWord 1 (Option.none : Option Jvm.ClassFile.FieldType) ∈ o_WS := o_mem (List.mem_of_getElem? (i := 402) (by decide +kernel)) rfl
theorem ml_X0_83 : Cond.methodLink RX0 83 yX0_addPart ∈ o_WS := o_mem (List.mem_of_getElem? (i := 403) (by decide +kernel)) rfl
theorem im_X0_addPart : Cond.instanceMethod yX0_addPart ∈ o_WS := o_mem (List.mem_of_getElem? (i := 405) (by decide +kernel)) rfl
theorem co_X0_addPart : Cond.code yX0_addPart cX0_addPart 5 (Option.some Jvm.ClassFile.FieldType.int) ∈ o_WS := o_mem (List.mem_of_getElem? (i := 406) (by decide +kernel)) rfl
theorem ml_X0_152 : Cond.methodLink RX0 152 yX5_add ∈ o_WS := o_mem (List.mem_of_getElem? (i := 407) (by decide +kernel)) rfl
theorem ml_X0_145 : Cond.methodLink RX0 145 yX5_spell ∈ o_WS := o_mem (List.mem_of_getElem? (i := 408) (by decide +kernel)) rfl
theorem im_X5_spell : Cond.instanceMethod yX5_spell ∈ o_WS := o_mem (List.mem_of_getElem? (i := 409) (by decide +kernel)) rfl
theorem se_X5_spell : Cond.selects RX5 yX5_spell yX5_spell ∈ o_WS := o_mem (List.mem_of_getElem? (i := 410) (by decide +kernel)) rfl
theorem co_X5_spell : Cond.code yX5_spell cX5_spell 6 (Option.none : Option Jvm.ClassFile.FieldType) ∈ o_WS := o_mem (List.mem_of_getElem? (i := 411) (by decide +kernel)) rfl
theorem ml_X5_56 : Cond.methodLink RX5 56 yX5_set ∈ o_WS := o_mem (List.mem_of_getElem? (i := 412) (by decide +kernel)) rfl
theorem im_X5_set : Cond.instanceMethod yX5_set ∈ o_WS := o_mem (List.mem_of_getElem? (i := 414) (by decide +kernel)) rfl
theorem co_X5_set : Cond.code yX5_set cX5_set 4 (Option.none : Option Jvm.ClassFile.FieldType) ∈ o_WS := o_mem (List.mem_of_getElem? (i := 415) (by decide +kernel)) rfl
theorem ml_X5_37 : Cond.methodLink RX5 37 yX4_put ∈ o_WS := o_mem (List.mem_of_getElem? (i := 416) (by decide +kernel)) rfl
theorem ml_X0_127 : Cond.methodLink RX0 127 yX1_numberRead ∈ o_WS := o_mem (List.mem_of_getElem? (i := 417) (by decide +kernel)) rfl
theorem im_X1_numberRead : Cond.instanceMethod yX1_numberRead ∈ o_WS := o_mem (List.mem_of_getElem? (i := 418) (by decide +kernel)) rfl
theorem se_X1_numberRead : Cond.selects RX1 yX1_numberRead yX1_numberRead ∈ o_WS := o_mem (List.mem_of_getElem? (i := 419) (by decide +kernel)) rfl
theorem co_X1_numberRead : Cond.code yX1_numberRead cX1_numberRead 4 (Option.some Jvm.ClassFile.FieldType.int) ∈ o_WS := o_mem (List.mem_of_getElem? (i := 420) (by decide +kernel)) rfl
theorem cl_X1_95 : Cond.constantLong RX1 95 (10 : Int64) ∈ o_WS := o_mem (List.mem_of_getElem? (i := 421) (by decide +kernel)) rfl
theorem cl_X1_97 : Cond.constantLong RX1 97 (1000000000 : Int64) ∈ o_WS := o_mem (List.mem_of_getElem? (i := 422) (by decide +kernel)) rfl
theorem ml_X0_130 : Cond.methodLink RX0 130 yX0_openGroup ∈ o_WS := o_mem (List.mem_of_getElem? (i := 423) (by decide +kernel)) rfl
theorem im_X0_openGroup : Cond.instanceMethod yX0_openGroup ∈ o_WS := o_mem (List.mem_of_getElem? (i := 425) (by decide +kernel)) rfl
theorem co_X0_openGroup : Cond.code yX0_openGroup cX0_openGroup 1 (Option.none : Option Jvm.ClassFile.FieldType) ∈ o_WS := o_mem (List.mem_of_getElem? (i := 426) (by decide +kernel)) rfl
theorem ml_X0_149 : Cond.methodLink RX0 149 yX0_isDeep ∈ o_WS := o_mem (List.mem_of_getElem? (i := 427) (by decide +kernel)) rfl
theorem im_X0_isDeep : Cond.instanceMethod yX0_isDeep ∈ o_WS := o_mem (List.mem_of_getElem? (i := 429) (by decide +kernel)) rfl
theorem co_X0_isDeep : Cond.code yX0_isDeep cX0_isDeep 1 (Option.some Jvm.ClassFile.FieldType.boolean) ∈ o_WS := o_mem (List.mem_of_getElem? (i := 430) (by decide +kernel)) rfl
theorem ml_X0_97 : Cond.methodLink RX0 97 yX0_report ∈ o_WS := o_mem (List.mem_of_getElem? (i := 431) (by decide +kernel)) rfl
theorem im_X0_report : Cond.instanceMethod yX0_report ∈ o_WS := o_mem (List.mem_of_getElem? (i := 433) (by decide +kernel)) rfl
theorem co_X0_report : Cond.code yX0_report cX0_report 2 (Option.none : Option Jvm.ClassFile.FieldType) ∈ o_WS := o_mem (List.mem_of_getElem? (i := 434) (by decide +kernel)) rfl
theorem ml_X0_109 : Cond.methodLink RX0 109 yX3_add ∈ o_WS := o_mem (List.mem_of_getElem? (i := 435) (by decide +kernel)) rfl
theorem ml_X0_118 : Cond.methodLink RX0 118 yX0_close ∈ o_WS := o_mem (List.mem_of_getElem? (i := 436) (by decide +kernel)) rfl
theorem im_X0_close : Cond.instanceMethod yX0_close ∈ o_WS := o_mem (List.mem_of_getElem? (i := 438) (by decide +kernel)) rfl
theorem co_X0_close : Cond.code yX0_close cX0_close 2 (Option.none : Option Jvm.ClassFile.FieldType) ∈ o_WS := o_mem (List.mem_of_getElem? (i := 439) (by decide +kernel)) rfl
theorem ml_X0_87 : Cond.methodLink RX0 87 yX0_beginsBlock ∈ o_WS := o_mem (List.mem_of_getElem? (i := 440) (by decide +kernel)) rfl
theorem im_X0_beginsBlock : Cond.instanceMethod yX0_beginsBlock ∈ o_WS := o_mem (List.mem_of_getElem? (i := 442) (by decide +kernel)) rfl
theorem co_X0_beginsBlock : Cond.code yX0_beginsBlock cX0_beginsBlock 2 (Option.some Jvm.ClassFile.FieldType.boolean) ∈ o_WS := o_mem (List.mem_of_getElem? (i := 443) (by decide +kernel)) rfl
theorem ml_X0_91 : Cond.methodLink RX0 91 yX0_alignToColumn ∈ o_WS := o_mem (List.mem_of_getElem? (i := 444) (by decide +kernel)) rfl
theorem im_X0_alignToColumn : Cond.instanceMethod yX0_alignToColumn ∈ o_WS := o_mem (List.mem_of_getElem? (i := 446) (by decide +kernel)) rfl
theorem co_X0_alignToColumn : Cond.code yX0_alignToColumn cX0_alignToColumn 4 (Option.none : Option Jvm.ClassFile.FieldType) ∈ o_WS := o_mem (List.mem_of_getElem? (i := 447) (by decide +kernel)) rfl
theorem ml_X0_121 : Cond.methodLink RX0 121 yX0_endItem ∈ o_WS := o_mem (List.mem_of_getElem? (i := 448) (by decide +kernel)) rfl
theorem im_X0_endItem : Cond.instanceMethod yX0_endItem ∈ o_WS := o_mem (List.mem_of_getElem? (i := 450) (by decide +kernel)) rfl
theorem co_X0_endItem : Cond.code yX0_endItem cX0_endItem 1 (Option.none : Option Jvm.ClassFile.FieldType) ∈ o_WS := o_mem (List.mem_of_getElem? (i := 451) (by decide +kernel)) rfl
theorem ml_X0_94 : Cond.methodLink RX0 94 yX0_placeInBlock ∈ o_WS := o_mem (List.mem_of_getElem? (i := 452) (by decide +kernel)) rfl
theorem im_X0_placeInBlock : Cond.instanceMethod yX0_placeInBlock ∈ o_WS := o_mem (List.mem_of_getElem? (i := 454) (by decide +kernel)) rfl
theorem co_X0_placeInBlock : Cond.code yX0_placeInBlock cX0_placeInBlock 1 (Option.none : Option Jvm.ClassFile.FieldType) ∈ o_WS := o_mem (List.mem_of_getElem? (i := 455) (by decide +kernel)) rfl
theorem ml_X0_133 : Cond.methodLink RX0 133 yX0_takeColon ∈ o_WS := o_mem (List.mem_of_getElem? (i := 456) (by decide +kernel)) rfl
theorem im_X0_takeColon : Cond.instanceMethod yX0_takeColon ∈ o_WS := o_mem (List.mem_of_getElem? (i := 458) (by decide +kernel)) rfl
theorem co_X0_takeColon : Cond.code yX0_takeColon cX0_takeColon 1 (Option.none : Option Jvm.ClassFile.FieldType) ∈ o_WS := o_mem (List.mem_of_getElem? (i := 459) (by decide +kernel)) rfl
theorem ml_X0_136 : Cond.methodLink RX0 136 yX0_closeBraces ∈ o_WS := o_mem (List.mem_of_getElem? (i := 460) (by decide +kernel)) rfl
theorem im_X0_closeBraces : Cond.instanceMethod yX0_closeBraces ∈ o_WS := o_mem (List.mem_of_getElem? (i := 462) (by decide +kernel)) rfl
theorem co_X0_closeBraces : Cond.code yX0_closeBraces cX0_closeBraces 2 (Option.none : Option Jvm.ClassFile.FieldType) ∈ o_WS := o_mem (List.mem_of_getElem? (i := 463) (by decide +kernel)) rfl
theorem ml_X6_110 : Cond.methodLink RX6 110 yX0_finish ∈ o_WS := o_mem (List.mem_of_getElem? (i := 464) (by decide +kernel)) rfl
theorem im_X0_finish : Cond.instanceMethod yX0_finish ∈ o_WS := o_mem (List.mem_of_getElem? (i := 465) (by decide +kernel)) rfl
theorem se_X0_finish : Cond.selects RX0 yX0_finish yX0_finish ∈ o_WS := o_mem (List.mem_of_getElem? (i := 466) (by decide +kernel)) rfl
theorem co_X0_finish : Cond.code yX0_finish cX0_finish 2 (Option.none : Option Jvm.ClassFile.FieldType) ∈ o_WS := o_mem (List.mem_of_getElem? (i := 467) (by decide +kernel)) rfl
theorem ml_X6_113 : Cond.methodLink RX6 113 yX5_size ∈ o_WS := o_mem (List.mem_of_getElem? (i := 468) (by decide +kernel)) rfl
theorem im_X5_size : Cond.instanceMethod yX5_size ∈ o_WS := o_mem (List.mem_of_getElem? (i := 469) (by decide +kernel)) rfl
theorem se_X5_size : Cond.selects RX5 yX5_size yX5_size ∈ o_WS := o_mem (List.mem_of_getElem? (i := 470) (by decide +kernel)) rfl
theorem co_X5_size : Cond.code yX5_size cX5_size 1 (Option.some Jvm.ClassFile.FieldType.int) ∈ o_WS := o_mem (List.mem_of_getElem? (i := 471) (by decide +kernel)) rfl
theorem ml_L_96 : Cond.methodLink RL 96 yX6_repairCount ∈ o_WS := o_mem (List.mem_of_getElem? (i := 472) (by decide +kernel)) rfl
theorem im_X6_repairCount : Cond.instanceMethod yX6_repairCount ∈ o_WS := o_mem (List.mem_of_getElem? (i := 473) (by decide +kernel)) rfl
theorem se_X6_repairCount : Cond.selects RX6 yX6_repairCount yX6_repairCount ∈ o_WS := o_mem (List.mem_of_getElem? (i := 474) (by decide +kernel)) rfl
theorem co_X6_repairCount : Cond.code yX6_repairCount cX6_repairCount 1 (Option.some Jvm.ClassFile.FieldType.int) ∈ o_WS := o_mem (List.mem_of_getElem? (i := 475) (by decide +kernel)) rfl
theorem ml_X6_114 : Cond.methodLink RX6 114 yX3_size ∈ o_WS := o_mem (List.mem_of_getElem? (i := 476) (by decide +kernel)) rfl
theorem im_X3_size : Cond.instanceMethod yX3_size ∈ o_WS := o_mem (List.mem_of_getElem? (i := 477) (by decide +kernel)) rfl
theorem se_X3_size : Cond.selects RX3 yX3_size yX3_size ∈ o_WS := o_mem (List.mem_of_getElem? (i := 478) (by decide +kernel)) rfl
theorem co_X3_size : Cond.code yX3_size cX3_size 1 (Option.some Jvm.ClassFile.FieldType.int) ∈ o_WS := o_mem (List.mem_of_getElem? (i := 479) (by decide +kernel)) rfl
theorem ml_L_104 : Cond.methodLink RL 104 yX6_nodeCount ∈ o_WS := o_mem (List.mem_of_getElem? (i := 480) (by decide +kernel)) rfl
theorem im_X6_nodeCount : Cond.instanceMethod yX6_nodeCount ∈ o_WS := o_mem (List.mem_of_getElem? (i := 481) (by decide +kernel)) rfl
theorem se_X6_nodeCount : Cond.selects RX6 yX6_nodeCount yX6_nodeCount ∈ o_WS := o_mem (List.mem_of_getElem? (i := 482) (by decide +kernel)) rfl
theorem co_X6_nodeCount : Cond.code yX6_nodeCount cX6_nodeCount 1 (Option.some Jvm.ClassFile.FieldType.int) ∈ o_WS := o_mem (List.mem_of_getElem? (i := 483) (by decide +kernel)) rfl
theorem ml_L_135 : Cond.methodLink RL 135 yX6_find ∈ o_WS := o_mem (List.mem_of_getElem? (i := 484) (by decide +kernel)) rfl
theorem im_X6_find : Cond.instanceMethod yX6_find ∈ o_WS := o_mem (List.mem_of_getElem? (i := 485) (by decide +kernel)) rfl
theorem se_X6_find : Cond.selects RX6 yX6_find yX6_find ∈ o_WS := o_mem (List.mem_of_getElem? (i := 486) (by decide +kernel)) rfl
theorem co_X6_find : Cond.code yX6_find cX6_find 4 (Option.some Jvm.ClassFile.FieldType.int) ∈ o_WS := o_mem (List.mem_of_getElem? (i := 487) (by decide +kernel)) rfl
theorem ml_X6_63 : Cond.methodLink RX6 63 yX6_unpack ∈ o_WS := o_mem (List.mem_of_getElem? (i := 488) (by decide +kernel)) rfl
theorem im_X6_unpack : Cond.instanceMethod yX6_unpack ∈ o_WS := o_mem (List.mem_of_getElem? (i := 490) (by decide +kernel)) rfl
theorem co_X6_unpack : Cond.code yX6_unpack cX6_unpack 5 (Option.none : Option Jvm.ClassFile.FieldType) ∈ o_WS := o_mem (List.mem_of_getElem? (i := 491) (by decide +kernel)) rfl
theorem ml_X6_97 : Cond.methodLink RX6 97 yX4_cut ∈ o_WS := o_mem (List.mem_of_getElem? (i := 492) (by decide +kernel)) rfl
theorem ml_X6_91 : Cond.methodLink RX6 91 yX4_push ∈ o_WS := o_mem (List.mem_of_getElem? (i := 493) (by decide +kernel)) rfl
theorem ml_X6_146 : Cond.methodLink RX6 146 yX5_nthWord ∈ o_WS := o_mem (List.mem_of_getElem? (i := 494) (by decide +kernel)) rfl
theorem im_X5_nthWord : Cond.instanceMethod yX5_nthWord ∈ o_WS := o_mem (List.mem_of_getElem? (i := 495) (by decide +kernel)) rfl
theorem se_X5_nthWord : Cond.selects RX5 yX5_nthWord yX5_nthWord ∈ o_WS := o_mem (List.mem_of_getElem? (i := 496) (by decide +kernel)) rfl
theorem co_X5_nthWord : Cond.code yX5_nthWord cX5_nthWord 5 (Option.some Jvm.ClassFile.FieldType.int) ∈ o_WS := o_mem (List.mem_of_getElem? (i := 497) (by decide +kernel)) rfl
theorem ml_X5_63 : Cond.methodLink RX5 63 yX5_isSpelled ∈ o_WS := o_mem (List.mem_of_getElem? (i := 498) (by decide +kernel)) rfl
theorem im_X5_isSpelled : Cond.instanceMethod yX5_isSpelled ∈ o_WS := o_mem (List.mem_of_getElem? (i := 500) (by decide +kernel)) rfl
theorem co_X5_isSpelled : Cond.code yX5_isSpelled cX5_isSpelled 4 (Option.some Jvm.ClassFile.FieldType.boolean) ∈ o_WS := o_mem (List.mem_of_getElem? (i := 501) (by decide +kernel)) rfl
theorem ml_X5_67 : Cond.methodLink RX5 67 yX5_letterOf ∈ o_WS := o_mem (List.mem_of_getElem? (i := 502) (by decide +kernel)) rfl
theorem im_X5_letterOf : Cond.instanceMethod yX5_letterOf ∈ o_WS := o_mem (List.mem_of_getElem? (i := 503) (by decide +kernel)) rfl
theorem se_X5_letterOf : Cond.selects RX5 yX5_letterOf yX5_letterOf ∈ o_WS := o_mem (List.mem_of_getElem? (i := 504) (by decide +kernel)) rfl
theorem co_X5_letterOf : Cond.code yX5_letterOf cX5_letterOf 4 (Option.some Jvm.ClassFile.FieldType.int) ∈ o_WS := o_mem (List.mem_of_getElem? (i := 505) (by decide +kernel)) rfl
theorem ml_L_140 : Cond.methodLink RL 140 yX6_wordCount ∈ o_WS := o_mem (List.mem_of_getElem? (i := 506) (by decide +kernel)) rfl
theorem im_X6_wordCount : Cond.instanceMethod yX6_wordCount ∈ o_WS := o_mem (List.mem_of_getElem? (i := 507) (by decide +kernel)) rfl
theorem se_X6_wordCount : Cond.selects RX6 yX6_wordCount yX6_wordCount ∈ o_WS := o_mem (List.mem_of_getElem? (i := 508) (by decide +kernel)) rfl
theorem co_X6_wordCount : Cond.code yX6_wordCount cX6_wordCount 1 (Option.some Jvm.ClassFile.FieldType.int) ∈ o_WS := o_mem (List.mem_of_getElem? (i := 509) (by decide +kernel)) rfl
theorem ml_X6_150 : Cond.methodLink RX6 150 yX5_countDifferentWords ∈ o_WS := o_mem (List.mem_of_getElem? (i := 510) (by decide +kernel)) rfl
theorem im_X5_countDifferentWords : Cond.instanceMethod yX5_countDifferentWords ∈ o_WS := o_mem (List.mem_of_getElem? (i := 511) (by decide +kernel)) rfl
theorem se_X5_countDifferentWords : Cond.selects RX5 yX5_countDifferentWords yX5_countDifferentWords ∈ o_WS := o_mem (List.mem_of_getElem? (i := 512) (by decide +kernel)) rfl
theorem co_X5_countDifferentWords : Cond.code yX5_countDifferentWords cX5_countDifferentWords 3 (Option.some Jvm.ClassFile.FieldType.int) ∈ o_WS := o_mem (List.mem_of_getElem? (i := 513) (by decide +kernel)) rfl
theorem ml_X5_70 : Cond.methodLink RX5 70 yX5_isNewWord ∈ o_WS := o_mem (List.mem_of_getElem? (i := 514) (by decide +kernel)) rfl
theorem im_X5_isNewWord : Cond.instanceMethod yX5_isNewWord ∈ o_WS := o_mem (List.mem_of_getElem? (i := 516) (by decide +kernel)) rfl
theorem co_X5_isNewWord : Cond.code yX5_isNewWord cX5_isNewWord 3 (Option.some Jvm.ClassFile.FieldType.boolean) ∈ o_WS := o_mem (List.mem_of_getElem? (i := 517) (by decide +kernel)) rfl
theorem ml_X5_74 : Cond.methodLink RX5 74 yX5_areSame ∈ o_WS := o_mem (List.mem_of_getElem? (i := 518) (by decide +kernel)) rfl
theorem im_X5_areSame : Cond.instanceMethod yX5_areSame ∈ o_WS := o_mem (List.mem_of_getElem? (i := 520) (by decide +kernel)) rfl
theorem co_X5_areSame : Cond.code yX5_areSame cX5_areSame 5 (Option.some Jvm.ClassFile.FieldType.boolean) ∈ o_WS := o_mem (List.mem_of_getElem? (i := 521) (by decide +kernel)) rfl
theorem ml_L_155 : Cond.methodLink RL 155 yX6_write ∈ o_WS := o_mem (List.mem_of_getElem? (i := 522) (by decide +kernel)) rfl
theorem im_X6_write : Cond.instanceMethod yX6_write ∈ o_WS := o_mem (List.mem_of_getElem? (i := 523) (by decide +kernel)) rfl
theorem se_X6_write : Cond.selects RX6 yX6_write yX6_write ∈ o_WS := o_mem (List.mem_of_getElem? (i := 524) (by decide +kernel)) rfl
theorem co_X6_write : Cond.code yX6_write cX6_write 2 (Option.some Jvm.ClassFile.FieldType.int) ∈ o_WS := o_mem (List.mem_of_getElem? (i := 525) (by decide +kernel)) rfl
theorem ml_X6_192 : Cond.methodLink RX6 192 yX2_startAgain ∈ o_WS := o_mem (List.mem_of_getElem? (i := 526) (by decide +kernel)) rfl
theorem im_X2_startAgain : Cond.instanceMethod yX2_startAgain ∈ o_WS := o_mem (List.mem_of_getElem? (i := 527) (by decide +kernel)) rfl
theorem se_X2_startAgain : Cond.selects RX2 yX2_startAgain yX2_startAgain ∈ o_WS := o_mem (List.mem_of_getElem? (i := 528) (by decide +kernel)) rfl
theorem co_X2_startAgain : Cond.code yX2_startAgain cX2_startAgain 1 (Option.none : Option Jvm.ClassFile.FieldType) ∈ o_WS := o_mem (List.mem_of_getElem? (i := 529) (by decide +kernel)) rfl
theorem ml_X2_30 : Cond.methodLink RX2 30 yX4_cut ∈ o_WS := o_mem (List.mem_of_getElem? (i := 530) (by decide +kernel)) rfl
theorem im_X2_printLines : Cond.instanceMethod yX2_printLines ∈ o_WS := o_mem (List.mem_of_getElem? (i := 533) (by decide +kernel)) rfl
theorem co_X2_printLines : Cond.code yX2_printLines cX2_printLines 6 (Option.none : Option Jvm.ClassFile.FieldType) ∈ o_WS := o_mem (List.mem_of_getElem? (i := 534) (by decide +kernel)) rfl
theorem ml_X2_41 : Cond.methodLink RX2 41 yX5_after ∈ o_WS := o_mem (List.mem_of_getElem? (i := 535) (by decide +kernel)) rfl
theorem im_X5_after : Cond.instanceMethod yX5_after ∈ o_WS := o_mem (List.mem_of_getElem? (i := 536) (by decide +kernel)) rfl
theorem se_X5_after : Cond.selects RX5 yX5_after yX5_after ∈ o_WS := o_mem (List.mem_of_getElem? (i := 537) (by decide +kernel)) rfl
theorem co_X5_after : Cond.code yX5_after cX5_after 4 (Option.some Jvm.ClassFile.FieldType.int) ∈ o_WS := o_mem (List.mem_of_getElem? (i := 538) (by decide +kernel)) rfl
theorem ml_X2_37 : Cond.methodLink RX2 37 yX5_get ∈ o_WS := o_mem (List.mem_of_getElem? (i := 539) (by decide +kernel)) rfl
theorem ml_X2_51 : Cond.methodLink RX2 51 yX2_printLinesOfItem ∈ o_WS := o_mem (List.mem_of_getElem? (i := 540) (by decide +kernel)) rfl
theorem im_X2_printLinesOfItem : Cond.instanceMethod yX2_printLinesOfItem ∈ o_WS := o_mem (List.mem_of_getElem? (i := 542) (by decide +kernel)) rfl
theorem co_X2_printLinesOfItem : Cond.code yX2_printLinesOfItem cX2_printLinesOfItem 5 (Option.none : Option Jvm.ClassFile.FieldType) ∈ o_WS := o_mem (List.mem_of_getElem? (i := 543) (by decide +kernel)) rfl
theorem ml_X2_48 : Cond.methodLink RX2 48 yX4_push ∈ o_WS := o_mem (List.mem_of_getElem? (i := 544) (by decide +kernel)) rfl
theorem ml_X2_55 : Cond.methodLink RX2 55 yX5_lastChild ∈ o_WS := o_mem (List.mem_of_getElem? (i := 545) (by decide +kernel)) rfl
theorem im_X5_lastChild : Cond.instanceMethod yX5_lastChild ∈ o_WS := o_mem (List.mem_of_getElem? (i := 546) (by decide +kernel)) rfl
theorem se_X5_lastChild : Cond.selects RX5 yX5_lastChild yX5_lastChild ∈ o_WS := o_mem (List.mem_of_getElem? (i := 547) (by decide +kernel)) rfl
theorem co_X5_lastChild : Cond.code yX5_lastChild cX5_lastChild 5 (Option.some Jvm.ClassFile.FieldType.int) ∈ o_WS := o_mem (List.mem_of_getElem? (i := 548) (by decide +kernel)) rfl
theorem ml_X5_60 : Cond.methodLink RX5 60 yX5_after ∈ o_WS := o_mem (List.mem_of_getElem? (i := 549) (by decide +kernel)) rfl
theorem ml_X2_58 : Cond.methodLink RX2 58 yX5_is ∈ o_WS := o_mem (List.mem_of_getElem? (i := 550) (by decide +kernel)) rfl
theorem ml_X2_44 : Cond.methodLink RX2 44 yX2_printParts ∈ o_WS := o_mem (List.mem_of_getElem? (i := 551) (by decide +kernel)) rfl
theorem im_X2_printParts : Cond.instanceMethod yX2_printParts ∈ o_WS := o_mem (List.mem_of_getElem? (i := 553) (by decide +kernel)) rfl
theorem co_X2_printParts : Cond.code yX2_printParts cX2_printParts 6 (Option.none : Option Jvm.ClassFile.FieldType) ∈ o_WS := o_mem (List.mem_of_getElem? (i := 554) (by decide +kernel)) rfl
theorem ml_X2_65 : Cond.methodLink RX2 65 yX2_printPart ∈ o_WS := o_mem (List.mem_of_getElem? (i := 555) (by decide +kernel)) rfl
theorem im_X2_printPart : Cond.instanceMethod yX2_printPart ∈ o_WS := o_mem (List.mem_of_getElem? (i := 557) (by decide +kernel)) rfl
theorem co_X2_printPart : Cond.code yX2_printPart cX2_printPart 3 (Option.none : Option Jvm.ClassFile.FieldType) ∈ o_WS := o_mem (List.mem_of_getElem? (i := 558) (by decide +kernel)) rfl
theorem ml_X2_68 : Cond.methodLink RX2 68 yX2_printWord ∈ o_WS := o_mem (List.mem_of_getElem? (i := 559) (by decide +kernel)) rfl
theorem im_X2_printWord : Cond.instanceMethod yX2_printWord ∈ o_WS := o_mem (List.mem_of_getElem? (i := 561) (by decide +kernel)) rfl
theorem co_X2_printWord : Cond.code yX2_printWord cX2_printWord 4 (Option.none : Option Jvm.ClassFile.FieldType) ∈ o_WS := o_mem (List.mem_of_getElem? (i := 562) (by decide +kernel)) rfl
theorem ml_X2_77 : Cond.methodLink RX2 77 yX5_letterOf ∈ o_WS := o_mem (List.mem_of_getElem? (i := 563) (by decide +kernel)) rfl
theorem ml_X2_71 : Cond.methodLink RX2 71 yX2_printNumber ∈ o_WS := o_mem (List.mem_of_getElem? (i := 564) (by decide +kernel)) rfl
theorem im_X2_printNumber : Cond.instanceMethod yX2_printNumber ∈ o_WS := o_mem (List.mem_of_getElem? (i := 566) (by decide +kernel)) rfl
theorem co_X2_printNumber : Cond.code yX2_printNumber cX2_printNumber 3 (Option.none : Option Jvm.ClassFile.FieldType) ∈ o_WS := o_mem (List.mem_of_getElem? (i := 567) (by decide +kernel)) rfl
theorem cn_X2_80 : Cond.constant RX2 80 (100000000 : Int32) ∈ o_WS := o_mem (List.mem_of_getElem? (i := 568) (by decide +kernel)) rfl
theorem ml_X2_74 : Cond.methodLink RX2 74 yX2_printBraces ∈ o_WS := o_mem (List.mem_of_getElem? (i := 569) (by decide +kernel)) rfl
theorem im_X2_printBraces : Cond.instanceMethod yX2_printBraces ∈ o_WS := o_mem (List.mem_of_getElem? (i := 571) (by decide +kernel)) rfl
theorem co_X2_printBraces : Cond.code yX2_printBraces cX2_printBraces 6 (Option.none : Option Jvm.ClassFile.FieldType) ∈ o_WS := o_mem (List.mem_of_getElem? (i := 572) (by decide +kernel)) rfl
theorem ml_X2_62 : Cond.methodLink RX2 62 yX2_printLines ∈ o_WS := o_mem (List.mem_of_getElem? (i := 573) (by decide +kernel)) rfl
theorem ml_X6_197 : Cond.methodLink RX6 197 yX2_printItems ∈ o_WS := o_mem (List.mem_of_getElem? (i := 574) (by decide +kernel)) rfl
theorem im_X2_printItems : Cond.instanceMethod yX2_printItems ∈ o_WS := o_mem (List.mem_of_getElem? (i := 575) (by decide +kernel)) rfl
theorem se_X2_printItems : Cond.selects RX2 yX2_printItems yX2_printItems ∈ o_WS := o_mem (List.mem_of_getElem? (i := 576) (by decide +kernel)) rfl
theorem co_X2_printItems : Cond.code yX2_printItems cX2_printItems 2 (Option.none : Option Jvm.ClassFile.FieldType) ∈ o_WS := o_mem (List.mem_of_getElem? (i := 577) (by decide +kernel)) rfl
theorem ml_X2_34 : Cond.methodLink RX2 34 yX5_size ∈ o_WS := o_mem (List.mem_of_getElem? (i := 578) (by decide +kernel)) rfl
theorem ml_X6_200 : Cond.methodLink RX6 200 yX2_size ∈ o_WS := o_mem (List.mem_of_getElem? (i := 579) (by decide +kernel)) rfl
theorem im_X2_size : Cond.instanceMethod yX2_size ∈ o_WS := o_mem (List.mem_of_getElem? (i := 580) (by decide +kernel)) rfl
theorem se_X2_size : Cond.selects RX2 yX2_size yX2_size ∈ o_WS := o_mem (List.mem_of_getElem? (i := 581) (by decide +kernel)) rfl
theorem co_X2_size : Cond.code yX2_size cX2_size 1 (Option.some Jvm.ClassFile.FieldType.int) ∈ o_WS := o_mem (List.mem_of_getElem? (i := 582) (by decide +kernel)) rfl
theorem ml_X2_22 : Cond.methodLink RX2 22 yX4_size ∈ o_WS := o_mem (List.mem_of_getElem? (i := 583) (by decide +kernel)) rfl
theorem ml_L_163 : Cond.methodLink RL 163 yX6_digest ∈ o_WS := o_mem (List.mem_of_getElem? (i := 584) (by decide +kernel)) rfl
theorem im_X6_digest : Cond.instanceMethod yX6_digest ∈ o_WS := o_mem (List.mem_of_getElem? (i := 585) (by decide +kernel)) rfl
theorem se_X6_digest : Cond.selects RX6 yX6_digest yX6_digest ∈ o_WS := o_mem (List.mem_of_getElem? (i := 586) (by decide +kernel)) rfl
theorem co_X6_digest : Cond.code yX6_digest cX6_digest 6 (Option.some Jvm.ClassFile.FieldType.long) ∈ o_WS := o_mem (List.mem_of_getElem? (i := 587) (by decide +kernel)) rfl
theorem cl_X6_205 : Cond.constantLong RX6 205 (73 : Int64) ∈ o_WS := o_mem (List.mem_of_getElem? (i := 588) (by decide +kernel)) rfl
theorem ml_X6_207 : Cond.methodLink RX6 207 yX6_mix ∈ o_WS := o_mem (List.mem_of_getElem? (i := 589) (by decide +kernel)) rfl
theorem sm_X6_mix : Cond.static yX6_mix ∈ o_WS := o_mem (List.mem_of_getElem? (i := 590) (by decide +kernel)) rfl
theorem co_X6_mix : Cond.code yX6_mix cX6_mix 4 (Option.some Jvm.ClassFile.FieldType.long) ∈ o_WS := o_mem (List.mem_of_getElem? (i := 591) (by decide +kernel)) rfl
theorem cl_X6_211 : Cond.constantLong RX6 211 (31 : Int64) ∈ o_WS := o_mem (List.mem_of_getElem? (i := 592) (by decide +kernel)) rfl
theorem ml_X6_127 : Cond.methodLink RX6 127 yX5_get ∈ o_WS := o_mem (List.mem_of_getElem? (i := 593) (by decide +kernel)) rfl
theorem ml_X6_131 : Cond.methodLink RX6 131 yX5_countChildren ∈ o_WS := o_mem (List.mem_of_getElem? (i := 594) (by decide +kernel)) rfl
theorem im_X5_countChildren : Cond.instanceMethod yX5_countChildren ∈ o_WS := o_mem (List.mem_of_getElem? (i := 595) (by decide +kernel)) rfl
theorem se_X5_countChildren : Cond.selects RX5 yX5_countChildren yX5_countChildren ∈ o_WS := o_mem (List.mem_of_getElem? (i := 596) (by decide +kernel)) rfl
theorem co_X5_countChildren : Cond.code yX5_countChildren cX5_countChildren 6 (Option.some Jvm.ClassFile.FieldType.int) ∈ o_WS := o_mem (List.mem_of_getElem? (i := 597) (by decide +kernel)) rfl
theorem ml_X6_139 : Cond.methodLink RX6 139 yX5_is ∈ o_WS := o_mem (List.mem_of_getElem? (i := 598) (by decide +kernel)) rfl
theorem ml_X6_143 : Cond.methodLink RX6 143 yX5_letterOf ∈ o_WS := o_mem (List.mem_of_getElem? (i := 599) (by decide +kernel)) rfl
theorem ml_L_74 : Cond.methodLink RL 74 yL_feed ∈ o_WS := o_mem (List.mem_of_getElem? (i := 600) (by decide +kernel)) rfl
theorem sm_L_feed : Cond.static yL_feed ∈ o_WS := o_mem (List.mem_of_getElem? (i := 601) (by decide +kernel)) rfl
theorem co_L_feed : Cond.codeWith yL_feed cL_feed 5 (Option.some Jvm.ClassFile.FieldType.int) [((0 : Nat), (9 : Nat), (12 : Nat), (13 : Nat)), ((0 : Nat), (9 : Nat), (16 : Nat), (15 : Nat))] ∈ o_WS := o_mem (List.mem_of_getElem? (i := 602) (by decide +kernel)) rfl
theorem kl_L_13 : Cond.classLink RL 13 "java/lang/IllegalArgumentException" ∈ o_WS := o_mem (List.mem_of_getElem? (i := 603) (by decide +kernel)) rfl
theorem kl_L_15 : Cond.classLink RL 15 "java/lang/IllegalStateException" ∈ o_WS := o_mem (List.mem_of_getElem? (i := 604) (by decide +kernel)) rfl
theorem ml_L_7 : Cond.methodLink RL 7 yX6_feed ∈ o_WS := o_mem (List.mem_of_getElem? (i := 605) (by decide +kernel)) rfl
theorem im_X6_feed : Cond.instanceMethod yX6_feed ∈ o_WS := o_mem (List.mem_of_getElem? (i := 606) (by decide +kernel)) rfl
theorem se_X6_feed : Cond.selects RX6 yX6_feed yX6_feed ∈ o_WS := o_mem (List.mem_of_getElem? (i := 607) (by decide +kernel)) rfl
theorem co_X6_feed : Cond.code yX6_feed cX6_feed 4 (Option.some Jvm.ClassFile.FieldType.int) ∈ o_WS := o_mem (List.mem_of_getElem? (i := 608) (by decide +kernel)) rfl
theorem ml_X6_71 : Cond.methodLink RX6 71 yX4_at ∈ o_WS := o_mem (List.mem_of_getElem? (i := 609) (by decide +kernel)) rfl
theorem ml_X6_75 : Cond.methodLink RX6 75 yX6_isTextByte ∈ o_WS := o_mem (List.mem_of_getElem? (i := 610) (by decide +kernel)) rfl
theorem sm_X6_isTextByte : Cond.static yX6_isTextByte ∈ o_WS := o_mem (List.mem_of_getElem? (i := 611) (by decide +kernel)) rfl
theorem co_X6_isTextByte : Cond.code yX6_isTextByte cX6_isTextByte 1 (Option.some Jvm.ClassFile.FieldType.boolean) ∈ o_WS := o_mem (List.mem_of_getElem? (i := 612) (by decide +kernel)) rfl
theorem kl_X6_79 : Cond.classLink RX6 79 "java/lang/IllegalArgumentException" ∈ o_WS := o_mem (List.mem_of_getElem? (i := 613) (by decide +kernel)) rfl
theorem ml_X6_83 : Cond.methodLink RX6 83 ⟨"java/lang/IllegalArgumentException", "<init>", "(Ljava/lang/String;)V"⟩ ∈ o_WS := o_mem (List.mem_of_getElem? (i := 655) (by decide +kernel)) rfl
theorem kl_X6_86 : Cond.classLink RX6 86 "java/lang/IllegalStateException" ∈ o_WS := o_mem (List.mem_of_getElem? (i := 681) (by decide +kernel)) rfl
theorem ml_X6_90 : Cond.methodLink RX6 90 ⟨"java/lang/IllegalStateException", "<init>", "(Ljava/lang/String;)V"⟩ ∈ o_WS := o_mem (List.mem_of_getElem? (i := 691) (by decide +kernel)) rfl
theorem ml_L_84 : Cond.methodLink RL 84 yL_trim ∈ o_WS := o_mem (List.mem_of_getElem? (i := 697) (by decide +kernel)) rfl
theorem sm_L_trim : Cond.static yL_trim ∈ o_WS := o_mem (List.mem_of_getElem? (i := 698) (by decide +kernel)) rfl
theorem co_L_trim : Cond.codeWith yL_trim cL_trim 4 (Option.some Jvm.ClassFile.FieldType.int) [((0 : Nat), (9 : Nat), (12 : Nat), (13 : Nat))] ∈ o_WS := o_mem (List.mem_of_getElem? (i := 699) (by decide +kernel)) rfl
theorem ml_L_17 : Cond.methodLink RL 17 yX6_trim ∈ o_WS := o_mem (List.mem_of_getElem? (i := 700) (by decide +kernel)) rfl
theorem im_X6_trim : Cond.instanceMethod yX6_trim ∈ o_WS := o_mem (List.mem_of_getElem? (i := 701) (by decide +kernel)) rfl
theorem se_X6_trim : Cond.selects RX6 yX6_trim yX6_trim ∈ o_WS := o_mem (List.mem_of_getElem? (i := 702) (by decide +kernel)) rfl
theorem co_X6_trim : Cond.code yX6_trim cX6_trim 3 (Option.some Jvm.ClassFile.FieldType.int) ∈ o_WS := o_mem (List.mem_of_getElem? (i := 703) (by decide +kernel)) rfl
theorem ml_L_100 : Cond.methodLink RL 100 yL_repair ∈ o_WS := o_mem (List.mem_of_getElem? (i := 705) (by decide +kernel)) rfl
theorem sm_L_repair : Cond.static yL_repair ∈ o_WS := o_mem (List.mem_of_getElem? (i := 706) (by decide +kernel)) rfl
theorem co_L_repair : Cond.codeWith yL_repair cL_repair 5 (Option.some Jvm.ClassFile.FieldType.int) [((0 : Nat), (10 : Nat), (13 : Nat), (25 : Nat))] ∈ o_WS := o_mem (List.mem_of_getElem? (i := 707) (by decide +kernel)) rfl
theorem kl_L_25 : Cond.classLink RL 25 "java/lang/IndexOutOfBoundsException" ∈ o_WS := o_mem (List.mem_of_getElem? (i := 708) (by decide +kernel)) rfl
theorem ml_L_21 : Cond.methodLink RL 21 yX6_repair ∈ o_WS := o_mem (List.mem_of_getElem? (i := 709) (by decide +kernel)) rfl
theorem im_X6_repair : Cond.instanceMethod yX6_repair ∈ o_WS := o_mem (List.mem_of_getElem? (i := 710) (by decide +kernel)) rfl
theorem se_X6_repair : Cond.selects RX6 yX6_repair yX6_repair ∈ o_WS := o_mem (List.mem_of_getElem? (i := 711) (by decide +kernel)) rfl
theorem co_X6_repair : Cond.code yX6_repair cX6_repair 3 (Option.some Jvm.ClassFile.FieldType.int) ∈ o_WS := o_mem (List.mem_of_getElem? (i := 712) (by decide +kernel)) rfl
theorem kl_X6_115 : Cond.classLink RX6 115 "java/lang/IndexOutOfBoundsException" ∈ o_WS := o_mem (List.mem_of_getElem? (i := 713) (by decide +kernel)) rfl
theorem ml_X6_119 : Cond.methodLink RX6 119 ⟨"java/lang/IndexOutOfBoundsException", "<init>", "(Ljava/lang/String;)V"⟩ ∈ o_WS := o_mem (List.mem_of_getElem? (i := 723) (by decide +kernel)) rfl
theorem ml_X6_120 : Cond.methodLink RX6 120 yX3_get ∈ o_WS := o_mem (List.mem_of_getElem? (i := 729) (by decide +kernel)) rfl
theorem im_X3_get : Cond.instanceMethod yX3_get ∈ o_WS := o_mem (List.mem_of_getElem? (i := 730) (by decide +kernel)) rfl
theorem se_X3_get : Cond.selects RX3 yX3_get yX3_get ∈ o_WS := o_mem (List.mem_of_getElem? (i := 731) (by decide +kernel)) rfl
theorem co_X3_get : Cond.code yX3_get cX3_get 3 (Option.some Jvm.ClassFile.FieldType.int) ∈ o_WS := o_mem (List.mem_of_getElem? (i := 732) (by decide +kernel)) rfl
theorem ml_X3_24 : Cond.methodLink RX3 24 yX4_at ∈ o_WS := o_mem (List.mem_of_getElem? (i := 733) (by decide +kernel)) rfl
theorem ml_L_108 : Cond.methodLink RL 108 yL_kind ∈ o_WS := o_mem (List.mem_of_getElem? (i := 734) (by decide +kernel)) rfl
theorem sm_L_kind : Cond.static yL_kind ∈ o_WS := o_mem (List.mem_of_getElem? (i := 735) (by decide +kernel)) rfl
theorem co_L_kind : Cond.codeWith yL_kind cL_kind 4 (Option.some Jvm.ClassFile.FieldType.int) [((0 : Nat), (9 : Nat), (12 : Nat), (25 : Nat))] ∈ o_WS := o_mem (List.mem_of_getElem? (i := 736) (by decide +kernel)) rfl
theorem ml_L_27 : Cond.methodLink RL 27 yX6_kind ∈ o_WS := o_mem (List.mem_of_getElem? (i := 737) (by decide +kernel)) rfl
theorem im_X6_kind : Cond.instanceMethod yX6_kind ∈ o_WS := o_mem (List.mem_of_getElem? (i := 738) (by decide +kernel)) rfl
theorem se_X6_kind : Cond.selects RX6 yX6_kind yX6_kind ∈ o_WS := o_mem (List.mem_of_getElem? (i := 739) (by decide +kernel)) rfl
theorem co_X6_kind : Cond.code yX6_kind cX6_kind 2 (Option.some Jvm.ClassFile.FieldType.int) ∈ o_WS := o_mem (List.mem_of_getElem? (i := 740) (by decide +kernel)) rfl
theorem ml_X6_124 : Cond.methodLink RX6 124 yX6_checkNode ∈ o_WS := o_mem (List.mem_of_getElem? (i := 741) (by decide +kernel)) rfl
theorem im_X6_checkNode : Cond.instanceMethod yX6_checkNode ∈ o_WS := o_mem (List.mem_of_getElem? (i := 743) (by decide +kernel)) rfl
theorem co_X6_checkNode : Cond.code yX6_checkNode cX6_checkNode 2 (Option.none : Option Jvm.ClassFile.FieldType) ∈ o_WS := o_mem (List.mem_of_getElem? (i := 744) (by decide +kernel)) rfl
theorem ml_L_111 : Cond.methodLink RL 111 yL_parent ∈ o_WS := o_mem (List.mem_of_getElem? (i := 746) (by decide +kernel)) rfl
theorem sm_L_parent : Cond.static yL_parent ∈ o_WS := o_mem (List.mem_of_getElem? (i := 747) (by decide +kernel)) rfl
theorem co_L_parent : Cond.codeWith yL_parent cL_parent 4 (Option.some Jvm.ClassFile.FieldType.int) [((0 : Nat), (9 : Nat), (12 : Nat), (25 : Nat))] ∈ o_WS := o_mem (List.mem_of_getElem? (i := 748) (by decide +kernel)) rfl
theorem ml_L_30 : Cond.methodLink RL 30 yX6_parent ∈ o_WS := o_mem (List.mem_of_getElem? (i := 749) (by decide +kernel)) rfl
theorem im_X6_parent : Cond.instanceMethod yX6_parent ∈ o_WS := o_mem (List.mem_of_getElem? (i := 750) (by decide +kernel)) rfl
theorem se_X6_parent : Cond.selects RX6 yX6_parent yX6_parent ∈ o_WS := o_mem (List.mem_of_getElem? (i := 751) (by decide +kernel)) rfl
theorem co_X6_parent : Cond.code yX6_parent cX6_parent 2 (Option.some Jvm.ClassFile.FieldType.int) ∈ o_WS := o_mem (List.mem_of_getElem? (i := 752) (by decide +kernel)) rfl
theorem ml_X6_128 : Cond.methodLink RX6 128 yX5_holder ∈ o_WS := o_mem (List.mem_of_getElem? (i := 753) (by decide +kernel)) rfl
theorem im_X5_holder : Cond.instanceMethod yX5_holder ∈ o_WS := o_mem (List.mem_of_getElem? (i := 754) (by decide +kernel)) rfl
theorem se_X5_holder : Cond.selects RX5 yX5_holder yX5_holder ∈ o_WS := o_mem (List.mem_of_getElem? (i := 755) (by decide +kernel)) rfl
theorem co_X5_holder : Cond.code yX5_holder cX5_holder 4 (Option.some Jvm.ClassFile.FieldType.int) ∈ o_WS := o_mem (List.mem_of_getElem? (i := 756) (by decide +kernel)) rfl
theorem ml_L_114 : Cond.methodLink RL 114 yL_childCount ∈ o_WS := o_mem (List.mem_of_getElem? (i := 757) (by decide +kernel)) rfl
theorem sm_L_childCount : Cond.static yL_childCount ∈ o_WS := o_mem (List.mem_of_getElem? (i := 758) (by decide +kernel)) rfl
theorem co_L_childCount : Cond.codeWith yL_childCount cL_childCount 4 (Option.some Jvm.ClassFile.FieldType.int) [((0 : Nat), (9 : Nat), (12 : Nat), (25 : Nat))] ∈ o_WS := o_mem (List.mem_of_getElem? (i := 759) (by decide +kernel)) rfl
theorem ml_L_33 : Cond.methodLink RL 33 yX6_childCount ∈ o_WS := o_mem (List.mem_of_getElem? (i := 760) (by decide +kernel)) rfl
theorem im_X6_childCount : Cond.instanceMethod yX6_childCount ∈ o_WS := o_mem (List.mem_of_getElem? (i := 761) (by decide +kernel)) rfl
theorem se_X6_childCount : Cond.selects RX6 yX6_childCount yX6_childCount ∈ o_WS := o_mem (List.mem_of_getElem? (i := 762) (by decide +kernel)) rfl
theorem co_X6_childCount : Cond.code yX6_childCount cX6_childCount 2 (Option.some Jvm.ClassFile.FieldType.int) ∈ o_WS := o_mem (List.mem_of_getElem? (i := 763) (by decide +kernel)) rfl
theorem ml_L_117 : Cond.methodLink RL 117 yL_child ∈ o_WS := o_mem (List.mem_of_getElem? (i := 764) (by decide +kernel)) rfl
theorem sm_L_child : Cond.static yL_child ∈ o_WS := o_mem (List.mem_of_getElem? (i := 765) (by decide +kernel)) rfl
theorem co_L_child : Cond.codeWith yL_child cL_child 5 (Option.some Jvm.ClassFile.FieldType.int) [((0 : Nat), (10 : Nat), (13 : Nat), (25 : Nat))] ∈ o_WS := o_mem (List.mem_of_getElem? (i := 766) (by decide +kernel)) rfl
theorem ml_L_36 : Cond.methodLink RL 36 yX6_child ∈ o_WS := o_mem (List.mem_of_getElem? (i := 767) (by decide +kernel)) rfl
theorem im_X6_child : Cond.instanceMethod yX6_child ∈ o_WS := o_mem (List.mem_of_getElem? (i := 768) (by decide +kernel)) rfl
theorem se_X6_child : Cond.selects RX6 yX6_child yX6_child ∈ o_WS := o_mem (List.mem_of_getElem? (i := 769) (by decide +kernel)) rfl
theorem co_X6_child : Cond.code yX6_child cX6_child 4 (Option.some Jvm.ClassFile.FieldType.int) ∈ o_WS := o_mem (List.mem_of_getElem? (i := 770) (by decide +kernel)) rfl
theorem ml_X6_134 : Cond.methodLink RX6 134 yX5_nthChild ∈ o_WS := o_mem (List.mem_of_getElem? (i := 771) (by decide +kernel)) rfl
theorem im_X5_nthChild : Cond.instanceMethod yX5_nthChild ∈ o_WS := o_mem (List.mem_of_getElem? (i := 772) (by decide +kernel)) rfl
theorem se_X5_nthChild : Cond.selects RX5 yX5_nthChild yX5_nthChild ∈ o_WS := o_mem (List.mem_of_getElem? (i := 773) (by decide +kernel)) rfl
theorem co_X5_nthChild : Cond.code yX5_nthChild cX5_nthChild 7 (Option.some Jvm.ClassFile.FieldType.int) ∈ o_WS := o_mem (List.mem_of_getElem? (i := 774) (by decide +kernel)) rfl
theorem ml_L_120 : Cond.methodLink RL 120 yL_line ∈ o_WS := o_mem (List.mem_of_getElem? (i := 776) (by decide +kernel)) rfl
theorem sm_L_line : Cond.static yL_line ∈ o_WS := o_mem (List.mem_of_getElem? (i := 777) (by decide +kernel)) rfl
theorem co_L_line : Cond.codeWith yL_line cL_line 4 (Option.some Jvm.ClassFile.FieldType.int) [((0 : Nat), (9 : Nat), (12 : Nat), (25 : Nat))] ∈ o_WS := o_mem (List.mem_of_getElem? (i := 778) (by decide +kernel)) rfl
theorem ml_L_39 : Cond.methodLink RL 39 yX6_line ∈ o_WS := o_mem (List.mem_of_getElem? (i := 779) (by decide +kernel)) rfl
theorem im_X6_line : Cond.instanceMethod yX6_line ∈ o_WS := o_mem (List.mem_of_getElem? (i := 780) (by decide +kernel)) rfl
theorem se_X6_line : Cond.selects RX6 yX6_line yX6_line ∈ o_WS := o_mem (List.mem_of_getElem? (i := 781) (by decide +kernel)) rfl
theorem co_X6_line : Cond.code yX6_line cX6_line 2 (Option.some Jvm.ClassFile.FieldType.int) ∈ o_WS := o_mem (List.mem_of_getElem? (i := 782) (by decide +kernel)) rfl
theorem ml_L_123 : Cond.methodLink RL 123 yL_column ∈ o_WS := o_mem (List.mem_of_getElem? (i := 783) (by decide +kernel)) rfl
theorem sm_L_column : Cond.static yL_column ∈ o_WS := o_mem (List.mem_of_getElem? (i := 784) (by decide +kernel)) rfl
theorem co_L_column : Cond.codeWith yL_column cL_column 4 (Option.some Jvm.ClassFile.FieldType.int) [((0 : Nat), (9 : Nat), (12 : Nat), (25 : Nat))] ∈ o_WS := o_mem (List.mem_of_getElem? (i := 785) (by decide +kernel)) rfl
theorem ml_L_42 : Cond.methodLink RL 42 yX6_column ∈ o_WS := o_mem (List.mem_of_getElem? (i := 786) (by decide +kernel)) rfl
theorem im_X6_column : Cond.instanceMethod yX6_column ∈ o_WS := o_mem (List.mem_of_getElem? (i := 787) (by decide +kernel)) rfl
theorem se_X6_column : Cond.selects RX6 yX6_column yX6_column ∈ o_WS := o_mem (List.mem_of_getElem? (i := 788) (by decide +kernel)) rfl
theorem co_X6_column : Cond.code yX6_column cX6_column 2 (Option.some Jvm.ClassFile.FieldType.int) ∈ o_WS := o_mem (List.mem_of_getElem? (i := 789) (by decide +kernel)) rfl
theorem ml_L_126 : Cond.methodLink RL 126 yL_value ∈ o_WS := o_mem (List.mem_of_getElem? (i := 790) (by decide +kernel)) rfl
theorem sm_L_value : Cond.static yL_value ∈ o_WS := o_mem (List.mem_of_getElem? (i := 791) (by decide +kernel)) rfl
theorem co_L_value : Cond.codeWith yL_value cL_value 4 (Option.some Jvm.ClassFile.FieldType.int) [((0 : Nat), (9 : Nat), (12 : Nat), (25 : Nat))] ∈ o_WS := o_mem (List.mem_of_getElem? (i := 792) (by decide +kernel)) rfl
theorem ml_L_45 : Cond.methodLink RL 45 yX6_value ∈ o_WS := o_mem (List.mem_of_getElem? (i := 793) (by decide +kernel)) rfl
theorem im_X6_value : Cond.instanceMethod yX6_value ∈ o_WS := o_mem (List.mem_of_getElem? (i := 794) (by decide +kernel)) rfl
theorem se_X6_value : Cond.selects RX6 yX6_value yX6_value ∈ o_WS := o_mem (List.mem_of_getElem? (i := 795) (by decide +kernel)) rfl
theorem co_X6_value : Cond.code yX6_value cX6_value 2 (Option.some Jvm.ClassFile.FieldType.int) ∈ o_WS := o_mem (List.mem_of_getElem? (i := 796) (by decide +kernel)) rfl
theorem ml_L_129 : Cond.methodLink RL 129 yL_letter ∈ o_WS := o_mem (List.mem_of_getElem? (i := 797) (by decide +kernel)) rfl
theorem sm_L_letter : Cond.static yL_letter ∈ o_WS := o_mem (List.mem_of_getElem? (i := 798) (by decide +kernel)) rfl
theorem co_L_letter : Cond.codeWith yL_letter cL_letter 5 (Option.some Jvm.ClassFile.FieldType.int) [((0 : Nat), (10 : Nat), (13 : Nat), (25 : Nat))] ∈ o_WS := o_mem (List.mem_of_getElem? (i := 799) (by decide +kernel)) rfl
theorem ml_L_48 : Cond.methodLink RL 48 yX6_letter ∈ o_WS := o_mem (List.mem_of_getElem? (i := 800) (by decide +kernel)) rfl
theorem im_X6_letter : Cond.instanceMethod yX6_letter ∈ o_WS := o_mem (List.mem_of_getElem? (i := 801) (by decide +kernel)) rfl
theorem se_X6_letter : Cond.selects RX6 yX6_letter yX6_letter ∈ o_WS := o_mem (List.mem_of_getElem? (i := 802) (by decide +kernel)) rfl
theorem co_X6_letter : Cond.code yX6_letter cX6_letter 3 (Option.some Jvm.ClassFile.FieldType.int) ∈ o_WS := o_mem (List.mem_of_getElem? (i := 803) (by decide +kernel)) rfl
theorem ml_L_132 : Cond.methodLink RL 132 yL_depth ∈ o_WS := o_mem (List.mem_of_getElem? (i := 804) (by decide +kernel)) rfl
theorem sm_L_depth : Cond.static yL_depth ∈ o_WS := o_mem (List.mem_of_getElem? (i := 805) (by decide +kernel)) rfl
theorem co_L_depth : Cond.codeWith yL_depth cL_depth 4 (Option.some Jvm.ClassFile.FieldType.int) [((0 : Nat), (9 : Nat), (12 : Nat), (25 : Nat))] ∈ o_WS := o_mem (List.mem_of_getElem? (i := 806) (by decide +kernel)) rfl
theorem ml_L_51 : Cond.methodLink RL 51 yX6_depth ∈ o_WS := o_mem (List.mem_of_getElem? (i := 807) (by decide +kernel)) rfl
theorem im_X6_depth : Cond.instanceMethod yX6_depth ∈ o_WS := o_mem (List.mem_of_getElem? (i := 808) (by decide +kernel)) rfl
theorem se_X6_depth : Cond.selects RX6 yX6_depth yX6_depth ∈ o_WS := o_mem (List.mem_of_getElem? (i := 809) (by decide +kernel)) rfl
theorem co_X6_depth : Cond.code yX6_depth cX6_depth 2 (Option.some Jvm.ClassFile.FieldType.int) ∈ o_WS := o_mem (List.mem_of_getElem? (i := 810) (by decide +kernel)) rfl
theorem ml_L_144 : Cond.methodLink RL 144 yL_remove ∈ o_WS := o_mem (List.mem_of_getElem? (i := 811) (by decide +kernel)) rfl
theorem sm_L_remove : Cond.static yL_remove ∈ o_WS := o_mem (List.mem_of_getElem? (i := 812) (by decide +kernel)) rfl
theorem co_L_remove : Cond.codeWith yL_remove cL_remove 4 (Option.some Jvm.ClassFile.FieldType.int) [((0 : Nat), (9 : Nat), (12 : Nat), (25 : Nat)), ((0 : Nat), (9 : Nat), (15 : Nat), (13 : Nat))] ∈ o_WS := o_mem (List.mem_of_getElem? (i := 813) (by decide +kernel)) rfl
theorem ml_L_54 : Cond.methodLink RL 54 yX6_remove ∈ o_WS := o_mem (List.mem_of_getElem? (i := 814) (by decide +kernel)) rfl
theorem im_X6_remove : Cond.instanceMethod yX6_remove ∈ o_WS := o_mem (List.mem_of_getElem? (i := 815) (by decide +kernel)) rfl
theorem se_X6_remove : Cond.selects RX6 yX6_remove yX6_remove ∈ o_WS := o_mem (List.mem_of_getElem? (i := 816) (by decide +kernel)) rfl
theorem co_X6_remove : Cond.code yX6_remove cX6_remove 2 (Option.some Jvm.ClassFile.FieldType.int) ∈ o_WS := o_mem (List.mem_of_getElem? (i := 817) (by decide +kernel)) rfl
theorem ml_X6_155 : Cond.methodLink RX6 155 yX5_erase ∈ o_WS := o_mem (List.mem_of_getElem? (i := 819) (by decide +kernel)) rfl
theorem im_X5_erase : Cond.instanceMethod yX5_erase ∈ o_WS := o_mem (List.mem_of_getElem? (i := 820) (by decide +kernel)) rfl
theorem se_X5_erase : Cond.selects RX5 yX5_erase yX5_erase ∈ o_WS := o_mem (List.mem_of_getElem? (i := 821) (by decide +kernel)) rfl
theorem co_X5_erase : Cond.code yX5_erase cX5_erase 3 (Option.none : Option Jvm.ClassFile.FieldType) ∈ o_WS := o_mem (List.mem_of_getElem? (i := 822) (by decide +kernel)) rfl
theorem ml_X5_85 : Cond.methodLink RX5 85 yX4_turn ∈ o_WS := o_mem (List.mem_of_getElem? (i := 823) (by decide +kernel)) rfl
theorem im_X4_turn : Cond.instanceMethod yX4_turn ∈ o_WS := o_mem (List.mem_of_getElem? (i := 824) (by decide +kernel)) rfl
theorem se_X4_turn : Cond.selects RX4 yX4_turn yX4_turn ∈ o_WS := o_mem (List.mem_of_getElem? (i := 825) (by decide +kernel)) rfl
theorem co_X4_turn : Cond.code yX4_turn cX4_turn 4 (Option.none : Option Jvm.ClassFile.FieldType) ∈ o_WS := o_mem (List.mem_of_getElem? (i := 826) (by decide +kernel)) rfl
theorem ml_X4_26 : Cond.methodLink RX4 26 yX4_reverse ∈ o_WS := o_mem (List.mem_of_getElem? (i := 827) (by decide +kernel)) rfl
theorem im_X4_reverse : Cond.instanceMethod yX4_reverse ∈ o_WS := o_mem (List.mem_of_getElem? (i := 829) (by decide +kernel)) rfl
theorem co_X4_reverse : Cond.code yX4_reverse cX4_reverse 6 (Option.none : Option Jvm.ClassFile.FieldType) ∈ o_WS := o_mem (List.mem_of_getElem? (i := 830) (by decide +kernel)) rfl
theorem ml_X4_30 : Cond.methodLink RX4 30 yX4_at ∈ o_WS := o_mem (List.mem_of_getElem? (i := 831) (by decide +kernel)) rfl
theorem ml_X4_34 : Cond.methodLink RX4 34 yX4_put ∈ o_WS := o_mem (List.mem_of_getElem? (i := 832) (by decide +kernel)) rfl
theorem ml_L_147 : Cond.methodLink RL 147 yL_move ∈ o_WS := o_mem (List.mem_of_getElem? (i := 833) (by decide +kernel)) rfl
theorem sm_L_move : Cond.static yL_move ∈ o_WS := o_mem (List.mem_of_getElem? (i := 834) (by decide +kernel)) rfl
theorem co_L_move : Cond.codeWith yL_move cL_move 6 (Option.some Jvm.ClassFile.FieldType.int) [((0 : Nat), (12 : Nat), (15 : Nat), (25 : Nat)), ((0 : Nat), (12 : Nat), (19 : Nat), (13 : Nat))] ∈ o_WS := o_mem (List.mem_of_getElem? (i := 835) (by decide +kernel)) rfl
theorem ml_L_57 : Cond.methodLink RL 57 yX6_move ∈ o_WS := o_mem (List.mem_of_getElem? (i := 836) (by decide +kernel)) rfl
theorem im_X6_move : Cond.instanceMethod yX6_move ∈ o_WS := o_mem (List.mem_of_getElem? (i := 837) (by decide +kernel)) rfl
theorem se_X6_move : Cond.selects RX6 yX6_move yX6_move ∈ o_WS := o_mem (List.mem_of_getElem? (i := 838) (by decide +kernel)) rfl
theorem co_X6_move : Cond.code yX6_move cX6_move 5 (Option.some Jvm.ClassFile.FieldType.int) ∈ o_WS := o_mem (List.mem_of_getElem? (i := 839) (by decide +kernel)) rfl
theorem ml_X6_160 : Cond.methodLink RX6 160 yX5_after ∈ o_WS := o_mem (List.mem_of_getElem? (i := 841) (by decide +kernel)) rfl
theorem ml_X6_165 : Cond.methodLink RX6 165 yX5_nesting ∈ o_WS := o_mem (List.mem_of_getElem? (i := 843) (by decide +kernel)) rfl
theorem im_X5_nesting : Cond.instanceMethod yX5_nesting ∈ o_WS := o_mem (List.mem_of_getElem? (i := 844) (by decide +kernel)) rfl
theorem se_X5_nesting : Cond.selects RX5 yX5_nesting yX5_nesting ∈ o_WS := o_mem (List.mem_of_getElem? (i := 845) (by decide +kernel)) rfl
theorem co_X5_nesting : Cond.code yX5_nesting cX5_nesting 2 (Option.some Jvm.ClassFile.FieldType.int) ∈ o_WS := o_mem (List.mem_of_getElem? (i := 846) (by decide +kernel)) rfl
theorem ml_X6_168 : Cond.methodLink RX6 168 yX5_innerNesting ∈ o_WS := o_mem (List.mem_of_getElem? (i := 847) (by decide +kernel)) rfl
theorem im_X5_innerNesting : Cond.instanceMethod yX5_innerNesting ∈ o_WS := o_mem (List.mem_of_getElem? (i := 848) (by decide +kernel)) rfl
theorem se_X5_innerNesting : Cond.selects RX5 yX5_innerNesting yX5_innerNesting ∈ o_WS := o_mem (List.mem_of_getElem? (i := 849) (by decide +kernel)) rfl
theorem co_X5_innerNesting : Cond.code yX5_innerNesting cX5_innerNesting 6 (Option.some Jvm.ClassFile.FieldType.int) ∈ o_WS := o_mem (List.mem_of_getElem? (i := 850) (by decide +kernel)) rfl
theorem ml_X5_77 : Cond.methodLink RX5 77 yX5_nesting ∈ o_WS := o_mem (List.mem_of_getElem? (i := 851) (by decide +kernel)) rfl
theorem ml_X5_80 : Cond.methodLink RX5 80 yJ9_max_7cf53 ∈ o_WS := o_mem (List.mem_of_getElem? (i := 852) (by decide +kernel)) rfl
theorem sm_J9_max_7cf53 : Cond.static yJ9_max_7cf53 ∈ o_WS := o_mem (List.mem_of_getElem? (i := 853) (by decide +kernel)) rfl
theorem co_J9_max_7cf53 : Cond.code yJ9_max_7cf53 cJ9_max_7cf53 2 (Option.some Jvm.ClassFile.FieldType.int) ∈ o_WS := o_mem (List.mem_of_getElem? (i := 854) (by decide +kernel)) rfl
theorem ml_X6_173 : Cond.methodLink RX6 173 yX5_placeFor ∈ o_WS := o_mem (List.mem_of_getElem? (i := 856) (by decide +kernel)) rfl
theorem im_X5_placeFor : Cond.instanceMethod yX5_placeFor ∈ o_WS := o_mem (List.mem_of_getElem? (i := 857) (by decide +kernel)) rfl
theorem se_X5_placeFor : Cond.selects RX5 yX5_placeFor yX5_placeFor ∈ o_WS := o_mem (List.mem_of_getElem? (i := 858) (by decide +kernel)) rfl
theorem co_X5_placeFor : Cond.code yX5_placeFor cX5_placeFor 8 (Option.some Jvm.ClassFile.FieldType.int) ∈ o_WS := o_mem (List.mem_of_getElem? (i := 859) (by decide +kernel)) rfl
theorem ml_X6_179 : Cond.methodLink RX6 179 yX5_carry ∈ o_WS := o_mem (List.mem_of_getElem? (i := 861) (by decide +kernel)) rfl
theorem im_X5_carry : Cond.instanceMethod yX5_carry ∈ o_WS := o_mem (List.mem_of_getElem? (i := 862) (by decide +kernel)) rfl
theorem se_X5_carry : Cond.selects RX5 yX5_carry yX5_carry ∈ o_WS := o_mem (List.mem_of_getElem? (i := 863) (by decide +kernel)) rfl
theorem co_X5_carry : Cond.code yX5_carry cX5_carry 8 (Option.some Jvm.ClassFile.FieldType.int) ∈ o_WS := o_mem (List.mem_of_getElem? (i := 864) (by decide +kernel)) rfl
theorem ml_L_151 : Cond.methodLink RL 151 yL_rename ∈ o_WS := o_mem (List.mem_of_getElem? (i := 865) (by decide +kernel)) rfl
theorem sm_L_rename : Cond.static yL_rename ∈ o_WS := o_mem (List.mem_of_getElem? (i := 866) (by decide +kernel)) rfl
theorem co_L_rename : Cond.codeWith yL_rename cL_rename 6 (Option.some Jvm.ClassFile.FieldType.int) [((0 : Nat), (11 : Nat), (14 : Nat), (25 : Nat)), ((0 : Nat), (11 : Nat), (18 : Nat), (13 : Nat))] ∈ o_WS := o_mem (List.mem_of_getElem? (i := 867) (by decide +kernel)) rfl
theorem ml_L_61 : Cond.methodLink RL 61 yX6_rename ∈ o_WS := o_mem (List.mem_of_getElem? (i := 868) (by decide +kernel)) rfl
theorem im_X6_rename : Cond.instanceMethod yX6_rename ∈ o_WS := o_mem (List.mem_of_getElem? (i := 869) (by decide +kernel)) rfl
theorem se_X6_rename : Cond.selects RX6 yX6_rename yX6_rename ∈ o_WS := o_mem (List.mem_of_getElem? (i := 870) (by decide +kernel)) rfl
theorem co_X6_rename : Cond.code yX6_rename cX6_rename 4 (Option.some Jvm.ClassFile.FieldType.int) ∈ o_WS := o_mem (List.mem_of_getElem? (i := 871) (by decide +kernel)) rfl
theorem ml_X6_182 : Cond.methodLink RX6 182 yX6_isWord ∈ o_WS := o_mem (List.mem_of_getElem? (i := 872) (by decide +kernel)) rfl
theorem sm_X6_isWord : Cond.static yX6_isWord ∈ o_WS := o_mem (List.mem_of_getElem? (i := 873) (by decide +kernel)) rfl
theorem co_X6_isWord : Cond.code yX6_isWord cX6_isWord 3 (Option.some Jvm.ClassFile.FieldType.boolean) ∈ o_WS := o_mem (List.mem_of_getElem? (i := 874) (by decide +kernel)) rfl
theorem ml_X6_215 : Cond.methodLink RX6 215 yX6_isLetter ∈ o_WS := o_mem (List.mem_of_getElem? (i := 875) (by decide +kernel)) rfl
theorem ml_X6_218 : Cond.methodLink RX6 218 yX6_isDigit ∈ o_WS := o_mem (List.mem_of_getElem? (i := 876) (by decide +kernel)) rfl
theorem ml_X6_188 : Cond.methodLink RX6 188 yX5_respell ∈ o_WS := o_mem (List.mem_of_getElem? (i := 878) (by decide +kernel)) rfl
theorem im_X5_respell : Cond.instanceMethod yX5_respell ∈ o_WS := o_mem (List.mem_of_getElem? (i := 879) (by decide +kernel)) rfl
theorem se_X5_respell : Cond.selects RX5 yX5_respell yX5_respell ∈ o_WS := o_mem (List.mem_of_getElem? (i := 880) (by decide +kernel)) rfl
theorem co_X5_respell : Cond.code yX5_respell cX5_respell 5 (Option.none : Option Jvm.ClassFile.FieldType) ∈ o_WS := o_mem (List.mem_of_getElem? (i := 881) (by decide +kernel)) rfl
theorem ml_L_160 : Cond.methodLink RL 160 yL_written ∈ o_WS := o_mem (List.mem_of_getElem? (i := 882) (by decide +kernel)) rfl
theorem sm_L_written : Cond.static yL_written ∈ o_WS := o_mem (List.mem_of_getElem? (i := 883) (by decide +kernel)) rfl
theorem co_L_written : Cond.codeWith yL_written cL_written 4 (Option.some Jvm.ClassFile.FieldType.int) [((0 : Nat), (9 : Nat), (12 : Nat), (25 : Nat))] ∈ o_WS := o_mem (List.mem_of_getElem? (i := 884) (by decide +kernel)) rfl
theorem ml_L_65 : Cond.methodLink RL 65 yX6_written ∈ o_WS := o_mem (List.mem_of_getElem? (i := 885) (by decide +kernel)) rfl
theorem im_X6_written : Cond.instanceMethod yX6_written ∈ o_WS := o_mem (List.mem_of_getElem? (i := 886) (by decide +kernel)) rfl
theorem se_X6_written : Cond.selects RX6 yX6_written yX6_written ∈ o_WS := o_mem (List.mem_of_getElem? (i := 887) (by decide +kernel)) rfl
theorem co_X6_written : Cond.code yX6_written cX6_written 2 (Option.some Jvm.ClassFile.FieldType.int) ∈ o_WS := o_mem (List.mem_of_getElem? (i := 888) (by decide +kernel)) rfl
theorem ml_X6_203 : Cond.methodLink RX6 203 yX2_get ∈ o_WS := o_mem (List.mem_of_getElem? (i := 890) (by decide +kernel)) rfl
theorem im_X2_get : Cond.instanceMethod yX2_get ∈ o_WS := o_mem (List.mem_of_getElem? (i := 891) (by decide +kernel)) rfl
theorem se_X2_get : Cond.selects RX2 yX2_get yX2_get ∈ o_WS := o_mem (List.mem_of_getElem? (i := 892) (by decide +kernel)) rfl
theorem co_X2_get : Cond.code yX2_get cX2_get 2 (Option.some Jvm.ClassFile.FieldType.int) ∈ o_WS := o_mem (List.mem_of_getElem? (i := 893) (by decide +kernel)) rfl
theorem ml_X2_26 : Cond.methodLink RX2 26 yX4_at ∈ o_WS := o_mem (List.mem_of_getElem? (i := 894) (by decide +kernel)) rfl
theorem kl_L_69 : Cond.classLink RL 69 "OffsideParserModel" ∈ o_WS := o_mem (List.mem_of_getElem? (i := 895) (by decide +kernel)) rfl
theorem ib_X7 : Cond.instantiable RX7 32 ∈ o_WS := o_mem (List.mem_of_getElem? (i := 896) (by decide +kernel)) rfl
theorem ml_L_71 : Cond.methodLink RL 71 yX7_init ∈ o_WS := o_mem (List.mem_of_getElem? (i := 897) (by decide +kernel)) rfl
theorem im_X7_init : Cond.instanceMethod yX7_init ∈ o_WS := o_mem (List.mem_of_getElem? (i := 898) (by decide +kernel)) rfl
theorem co_X7_init : Cond.code yX7_init cX7_init 1 (Option.none : Option Jvm.ClassFile.FieldType) ∈ o_WS := o_mem (List.mem_of_getElem? (i := 899) (by decide +kernel)) rfl
theorem ml_X7_1 : Cond.methodLink RX7 1 ⟨"java/lang/Object", "<init>", "()V"⟩ ∈ o_WS := o_mem (List.mem_of_getElem? (i := 900) (by decide +kernel)) rfl
theorem cn_X7_49 : Cond.constant RX7 49 (60000 : Int32) ∈ o_WS := o_mem (List.mem_of_getElem? (i := 901) (by decide +kernel)) rfl
theorem ml_X7_65 : Cond.methodLink RX7 65 yX7_begin ∈ o_WS := o_mem (List.mem_of_getElem? (i := 902) (by decide +kernel)) rfl
theorem im_X7_begin : Cond.instanceMethod yX7_begin ∈ o_WS := o_mem (List.mem_of_getElem? (i := 904) (by decide +kernel)) rfl
theorem co_X7_begin : Cond.code yX7_begin cX7_begin 1 (Option.none : Option Jvm.ClassFile.FieldType) ∈ o_WS := o_mem (List.mem_of_getElem? (i := 905) (by decide +kernel)) rfl
theorem ml_X7_98 : Cond.methodLink RX7 98 yX7_add ∈ o_WS := o_mem (List.mem_of_getElem? (i := 906) (by decide +kernel)) rfl
theorem im_X7_add : Cond.instanceMethod yX7_add ∈ o_WS := o_mem (List.mem_of_getElem? (i := 908) (by decide +kernel)) rfl
theorem co_X7_add : Cond.code yX7_add cX7_add 7 (Option.some Jvm.ClassFile.FieldType.int) ∈ o_WS := o_mem (List.mem_of_getElem? (i := 909) (by decide +kernel)) rfl
theorem ml_X7_102 : Cond.methodLink RX7 102 yX7_countOf ∈ o_WS := o_mem (List.mem_of_getElem? (i := 910) (by decide +kernel)) rfl
theorem im_X7_countOf : Cond.instanceMethod yX7_countOf ∈ o_WS := o_mem (List.mem_of_getElem? (i := 912) (by decide +kernel)) rfl
theorem co_X7_countOf : Cond.code yX7_countOf cX7_countOf 4 (Option.some Jvm.ClassFile.FieldType.int) ∈ o_WS := o_mem (List.mem_of_getElem? (i := 913) (by decide +kernel)) rfl
theorem ml_X7_105 : Cond.methodLink RX7 105 yX7_insert ∈ o_WS := o_mem (List.mem_of_getElem? (i := 914) (by decide +kernel)) rfl
theorem im_X7_insert : Cond.instanceMethod yX7_insert ∈ o_WS := o_mem (List.mem_of_getElem? (i := 916) (by decide +kernel)) rfl
theorem co_X7_insert : Cond.code yX7_insert cX7_insert 5 (Option.none : Option Jvm.ClassFile.FieldType) ∈ o_WS := o_mem (List.mem_of_getElem? (i := 917) (by decide +kernel)) rfl
theorem ml_X7_109 : Cond.methodLink RX7 109 yX7_childOf ∈ o_WS := o_mem (List.mem_of_getElem? (i := 918) (by decide +kernel)) rfl
theorem im_X7_childOf : Cond.instanceMethod yX7_childOf ∈ o_WS := o_mem (List.mem_of_getElem? (i := 920) (by decide +kernel)) rfl
theorem co_X7_childOf : Cond.code yX7_childOf cX7_childOf 5 (Option.some Jvm.ClassFile.FieldType.int) ∈ o_WS := o_mem (List.mem_of_getElem? (i := 921) (by decide +kernel)) rfl
theorem ml_X7_68 : Cond.methodLink RX7 68 yX7_number ∈ o_WS := o_mem (List.mem_of_getElem? (i := 922) (by decide +kernel)) rfl
theorem im_X7_number : Cond.instanceMethod yX7_number ∈ o_WS := o_mem (List.mem_of_getElem? (i := 924) (by decide +kernel)) rfl
theorem co_X7_number : Cond.code yX7_number cX7_number 2 (Option.none : Option Jvm.ClassFile.FieldType) ∈ o_WS := o_mem (List.mem_of_getElem? (i := 925) (by decide +kernel)) rfl
theorem ml_X7_116 : Cond.methodLink RX7 116 yX7_following ∈ o_WS := o_mem (List.mem_of_getElem? (i := 926) (by decide +kernel)) rfl
theorem im_X7_following : Cond.instanceMethod yX7_following ∈ o_WS := o_mem (List.mem_of_getElem? (i := 928) (by decide +kernel)) rfl
theorem co_X7_following : Cond.code yX7_following cX7_following 4 (Option.some Jvm.ClassFile.FieldType.int) ∈ o_WS := o_mem (List.mem_of_getElem? (i := 929) (by decide +kernel)) rfl
theorem fl_X7_71 : Cond.fieldLink RX7 71 "OffsideParserModel" "thrown" "I" ∈ o_WS := o_mem (List.mem_of_getElem? (i := 930) (by decide +kernel)) rfl
theorem fl_X7_9 : Cond.fieldLink RX7 9 "OffsideParserModel" "text" "[I" ∈ o_WS := o_mem (List.mem_of_getElem? (i := 931) (by decide +kernel)) rfl
theorem fl_X7_89 : Cond.fieldLink RX7 89 "OffsideParserModel" "size" "I" ∈ o_WS := o_mem (List.mem_of_getElem? (i := 932) (by decide +kernel)) rfl
theorem fl_X7_92 : Cond.fieldLink RX7 92 "OffsideParserModel" "made" "I" ∈ o_WS := o_mem (List.mem_of_getElem? (i := 933) (by decide +kernel)) rfl
theorem fl_X7_13 : Cond.fieldLink RX7 13 "OffsideParserModel" "kinds" "[I" ∈ o_WS := o_mem (List.mem_of_getElem? (i := 934) (by decide +kernel)) rfl
theorem fl_X7_16 : Cond.fieldLink RX7 16 "OffsideParserModel" "parents" "[I" ∈ o_WS := o_mem (List.mem_of_getElem? (i := 935) (by decide +kernel)) rfl
theorem fl_X7_19 : Cond.fieldLink RX7 19 "OffsideParserModel" "firsts" "[I" ∈ o_WS := o_mem (List.mem_of_getElem? (i := 936) (by decide +kernel)) rfl
theorem fl_X7_22 : Cond.fieldLink RX7 22 "OffsideParserModel" "nexts" "[I" ∈ o_WS := o_mem (List.mem_of_getElem? (i := 937) (by decide +kernel)) rfl
theorem fl_X7_25 : Cond.fieldLink RX7 25 "OffsideParserModel" "lines" "[I" ∈ o_WS := o_mem (List.mem_of_getElem? (i := 938) (by decide +kernel)) rfl
theorem fl_X7_28 : Cond.fieldLink RX7 28 "OffsideParserModel" "columns" "[I" ∈ o_WS := o_mem (List.mem_of_getElem? (i := 939) (by decide +kernel)) rfl
theorem fl_X7_31 : Cond.fieldLink RX7 31 "OffsideParserModel" "values" "[I" ∈ o_WS := o_mem (List.mem_of_getElem? (i := 940) (by decide +kernel)) rfl
theorem fl_X7_34 : Cond.fieldLink RX7 34 "OffsideParserModel" "starts" "[I" ∈ o_WS := o_mem (List.mem_of_getElem? (i := 941) (by decide +kernel)) rfl
theorem fl_X7_37 : Cond.fieldLink RX7 37 "OffsideParserModel" "letters" "[I" ∈ o_WS := o_mem (List.mem_of_getElem? (i := 942) (by decide +kernel)) rfl
theorem fl_X7_113 : Cond.fieldLink RX7 113 "OffsideParserModel" "nodes" "I" ∈ o_WS := o_mem (List.mem_of_getElem? (i := 943) (by decide +kernel)) rfl
theorem fl_X7_40 : Cond.fieldLink RX7 40 "OffsideParserModel" "idOf" "[I" ∈ o_WS := o_mem (List.mem_of_getElem? (i := 944) (by decide +kernel)) rfl
theorem fl_X7_43 : Cond.fieldLink RX7 43 "OffsideParserModel" "numberOf" "[I" ∈ o_WS := o_mem (List.mem_of_getElem? (i := 945) (by decide +kernel)) rfl
theorem fl_X7_95 : Cond.fieldLink RX7 95 "OffsideParserModel" "repairs" "I" ∈ o_WS := o_mem (List.mem_of_getElem? (i := 946) (by decide +kernel)) rfl
theorem fl_X7_46 : Cond.fieldLink RX7 46 "OffsideParserModel" "repairParts" "[I" ∈ o_WS := o_mem (List.mem_of_getElem? (i := 947) (by decide +kernel)) rfl
theorem fl_X7_50 : Cond.fieldLink RX7 50 "OffsideParserModel" "output" "[I" ∈ o_WS := o_mem (List.mem_of_getElem? (i := 948) (by decide +kernel)) rfl
theorem fl_X7_231 : Cond.fieldLink RX7 231 "OffsideParserModel" "written" "I" ∈ o_WS := o_mem (List.mem_of_getElem? (i := 949) (by decide +kernel)) rfl
theorem fl_X7_53 : Cond.fieldLink RX7 53 "OffsideParserModel" "fed" "[I" ∈ o_WS := o_mem (List.mem_of_getElem? (i := 950) (by decide +kernel)) rfl
theorem fl_X7_125 : Cond.fieldLink RX7 125 "OffsideParserModel" "open" "I" ∈ o_WS := o_mem (List.mem_of_getElem? (i := 951) (by decide +kernel)) rfl
theorem fl_X7_56 : Cond.fieldLink RX7 56 "OffsideParserModel" "openIds" "[I" ∈ o_WS := o_mem (List.mem_of_getElem? (i := 952) (by decide +kernel)) rfl
theorem fl_X7_59 : Cond.fieldLink RX7 59 "OffsideParserModel" "openColumns" "[I" ∈ o_WS := o_mem (List.mem_of_getElem? (i := 953) (by decide +kernel)) rfl
theorem fl_X7_62 : Cond.fieldLink RX7 62 "OffsideParserModel" "items" "[I" ∈ o_WS := o_mem (List.mem_of_getElem? (i := 954) (by decide +kernel)) rfl
theorem fl_X7_136 : Cond.fieldLink RX7 136 "OffsideParserModel" "hasColon" "Z" ∈ o_WS := o_mem (List.mem_of_getElem? (i := 955) (by decide +kernel)) rfl
theorem fl_X7_150 : Cond.fieldLink RX7 150 "OffsideParserModel" "token" "I" ∈ o_WS := o_mem (List.mem_of_getElem? (i := 956) (by decide +kernel)) rfl
theorem fl_X7_153 : Cond.fieldLink RX7 153 "OffsideParserModel" "start" "I" ∈ o_WS := o_mem (List.mem_of_getElem? (i := 957) (by decide +kernel)) rfl
theorem fl_X7_156 : Cond.fieldLink RX7 156 "OffsideParserModel" "end" "I" ∈ o_WS := o_mem (List.mem_of_getElem? (i := 958) (by decide +kernel)) rfl
theorem fl_X7_119 : Cond.fieldLink RX7 119 "OffsideParserModel" "line" "I" ∈ o_WS := o_mem (List.mem_of_getElem? (i := 959) (by decide +kernel)) rfl
theorem fl_X7_122 : Cond.fieldLink RX7 122 "OffsideParserModel" "column" "I" ∈ o_WS := o_mem (List.mem_of_getElem? (i := 960) (by decide +kernel)) rfl
theorem fl_X7_159 : Cond.fieldLink RX7 159 "OffsideParserModel" "isFirst" "Z" ∈ o_WS := o_mem (List.mem_of_getElem? (i := 961) (by decide +kernel)) rfl
theorem ml_L_80 : Cond.methodLink RL 80 yX7_thrown ∈ o_WS := o_mem (List.mem_of_getElem? (i := 1027) (by decide +kernel)) rfl
theorem im_X7_thrown : Cond.instanceMethod yX7_thrown ∈ o_WS := o_mem (List.mem_of_getElem? (i := 1028) (by decide +kernel)) rfl
theorem se_X7_thrown : Cond.selects RX7 yX7_thrown yX7_thrown ∈ o_WS := o_mem (List.mem_of_getElem? (i := 1029) (by decide +kernel)) rfl
theorem co_X7_thrown : Cond.code yX7_thrown cX7_thrown 1 (Option.some Jvm.ClassFile.FieldType.int) ∈ o_WS := o_mem (List.mem_of_getElem? (i := 1030) (by decide +kernel)) rfl
theorem ml_L_79 : Cond.methodLink RL 79 yX7_feed ∈ o_WS := o_mem (List.mem_of_getElem? (i := 1031) (by decide +kernel)) rfl
theorem im_X7_feed : Cond.instanceMethod yX7_feed ∈ o_WS := o_mem (List.mem_of_getElem? (i := 1032) (by decide +kernel)) rfl
theorem se_X7_feed : Cond.selects RX7 yX7_feed yX7_feed ∈ o_WS := o_mem (List.mem_of_getElem? (i := 1033) (by decide +kernel)) rfl
theorem co_X7_feed : Cond.code yX7_feed cX7_feed 5 (Option.some Jvm.ClassFile.FieldType.int) ∈ o_WS := o_mem (List.mem_of_getElem? (i := 1034) (by decide +kernel)) rfl
theorem ml_X7_81 : Cond.methodLink RX7 81 yX7_take ∈ o_WS := o_mem (List.mem_of_getElem? (i := 1035) (by decide +kernel)) rfl
theorem im_X7_take : Cond.instanceMethod yX7_take ∈ o_WS := o_mem (List.mem_of_getElem? (i := 1037) (by decide +kernel)) rfl
theorem co_X7_take : Cond.code yX7_take cX7_take 5 (Option.some Jvm.ClassFile.FieldType.int) ∈ o_WS := o_mem (List.mem_of_getElem? (i := 1038) (by decide +kernel)) rfl
theorem ml_X7_77 : Cond.methodLink RX7 77 yX7_byteOf ∈ o_WS := o_mem (List.mem_of_getElem? (i := 1039) (by decide +kernel)) rfl
theorem sm_X7_byteOf : Cond.static yX7_byteOf ∈ o_WS := o_mem (List.mem_of_getElem? (i := 1040) (by decide +kernel)) rfl
theorem co_X7_byteOf : Cond.code yX7_byteOf cX7_byteOf 3 (Option.some Jvm.ClassFile.FieldType.int) ∈ o_WS := o_mem (List.mem_of_getElem? (i := 1041) (by decide +kernel)) rfl
theorem cl_X7_75 : Cond.constantLong RX7 75 (255 : Int64) ∈ o_WS := o_mem (List.mem_of_getElem? (i := 1042) (by decide +kernel)) rfl
theorem ml_X7_85 : Cond.methodLink RX7 85 yX7_fail ∈ o_WS := o_mem (List.mem_of_getElem? (i := 1043) (by decide +kernel)) rfl
theorem im_X7_fail : Cond.instanceMethod yX7_fail ∈ o_WS := o_mem (List.mem_of_getElem? (i := 1045) (by decide +kernel)) rfl
theorem co_X7_fail : Cond.code yX7_fail cX7_fail 2 (Option.some Jvm.ClassFile.FieldType.int) ∈ o_WS := o_mem (List.mem_of_getElem? (i := 1046) (by decide +kernel)) rfl
theorem ml_L_87 : Cond.methodLink RL 87 yX7_trim ∈ o_WS := o_mem (List.mem_of_getElem? (i := 1047) (by decide +kernel)) rfl
theorem im_X7_trim : Cond.instanceMethod yX7_trim ∈ o_WS := o_mem (List.mem_of_getElem? (i := 1048) (by decide +kernel)) rfl
theorem se_X7_trim : Cond.selects RX7 yX7_trim yX7_trim ∈ o_WS := o_mem (List.mem_of_getElem? (i := 1049) (by decide +kernel)) rfl
theorem co_X7_trim : Cond.code yX7_trim cX7_trim 3 (Option.some Jvm.ClassFile.FieldType.int) ∈ o_WS := o_mem (List.mem_of_getElem? (i := 1050) (by decide +kernel)) rfl
theorem ml_L_91 : Cond.methodLink RL 91 yX7_length ∈ o_WS := o_mem (List.mem_of_getElem? (i := 1051) (by decide +kernel)) rfl
theorem im_X7_length : Cond.instanceMethod yX7_length ∈ o_WS := o_mem (List.mem_of_getElem? (i := 1052) (by decide +kernel)) rfl
theorem se_X7_length : Cond.selects RX7 yX7_length yX7_length ∈ o_WS := o_mem (List.mem_of_getElem? (i := 1053) (by decide +kernel)) rfl
theorem co_X7_length : Cond.code yX7_length cX7_length 1 (Option.some Jvm.ClassFile.FieldType.int) ∈ o_WS := o_mem (List.mem_of_getElem? (i := 1054) (by decide +kernel)) rfl
theorem ml_L_95 : Cond.methodLink RL 95 yX7_parse ∈ o_WS := o_mem (List.mem_of_getElem? (i := 1055) (by decide +kernel)) rfl
theorem im_X7_parse : Cond.instanceMethod yX7_parse ∈ o_WS := o_mem (List.mem_of_getElem? (i := 1056) (by decide +kernel)) rfl
theorem se_X7_parse : Cond.selects RX7 yX7_parse yX7_parse ∈ o_WS := o_mem (List.mem_of_getElem? (i := 1057) (by decide +kernel)) rfl
theorem co_X7_parse : Cond.code yX7_parse cX7_parse 8 (Option.some Jvm.ClassFile.FieldType.int) ∈ o_WS := o_mem (List.mem_of_getElem? (i := 1058) (by decide +kernel)) rfl
theorem ml_X7_132 : Cond.methodLink RX7 132 yX7_push ∈ o_WS := o_mem (List.mem_of_getElem? (i := 1059) (by decide +kernel)) rfl
theorem im_X7_push : Cond.instanceMethod yX7_push ∈ o_WS := o_mem (List.mem_of_getElem? (i := 1061) (by decide +kernel)) rfl
theorem co_X7_push : Cond.code yX7_push cX7_push 3 (Option.none : Option Jvm.ClassFile.FieldType) ∈ o_WS := o_mem (List.mem_of_getElem? (i := 1062) (by decide +kernel)) rfl
theorem ml_X7_140 : Cond.methodLink RX7 140 yX7_isLetter ∈ o_WS := o_mem (List.mem_of_getElem? (i := 1063) (by decide +kernel)) rfl
theorem sm_X7_isLetter : Cond.static yX7_isLetter ∈ o_WS := o_mem (List.mem_of_getElem? (i := 1064) (by decide +kernel)) rfl
theorem co_X7_isLetter : Cond.code yX7_isLetter cX7_isLetter 1 (Option.some Jvm.ClassFile.FieldType.boolean) ∈ o_WS := o_mem (List.mem_of_getElem? (i := 1065) (by decide +kernel)) rfl
theorem ml_X7_144 : Cond.methodLink RX7 144 yX7_isDigit ∈ o_WS := o_mem (List.mem_of_getElem? (i := 1066) (by decide +kernel)) rfl
theorem sm_X7_isDigit : Cond.static yX7_isDigit ∈ o_WS := o_mem (List.mem_of_getElem? (i := 1067) (by decide +kernel)) rfl
theorem co_X7_isDigit : Cond.code yX7_isDigit cX7_isDigit 1 (Option.some Jvm.ClassFile.FieldType.boolean) ∈ o_WS := o_mem (List.mem_of_getElem? (i := 1068) (by decide +kernel)) rfl
theorem ml_X7_147 : Cond.methodLink RX7 147 yX7_isSign ∈ o_WS := o_mem (List.mem_of_getElem? (i := 1069) (by decide +kernel)) rfl
theorem sm_X7_isSign : Cond.static yX7_isSign ∈ o_WS := o_mem (List.mem_of_getElem? (i := 1070) (by decide +kernel)) rfl
theorem co_X7_isSign : Cond.code yX7_isSign cX7_isSign 1 (Option.some Jvm.ClassFile.FieldType.boolean) ∈ o_WS := o_mem (List.mem_of_getElem? (i := 1071) (by decide +kernel)) rfl
theorem ml_X7_162 : Cond.methodLink RX7 162 yX7_accept ∈ o_WS := o_mem (List.mem_of_getElem? (i := 1072) (by decide +kernel)) rfl
theorem im_X7_accept : Cond.instanceMethod yX7_accept ∈ o_WS := o_mem (List.mem_of_getElem? (i := 1074) (by decide +kernel)) rfl
theorem co_X7_accept : Cond.code yX7_accept cX7_accept 3 (Option.none : Option Jvm.ClassFile.FieldType) ∈ o_WS := o_mem (List.mem_of_getElem? (i := 1075) (by decide +kernel)) rfl
theorem ml_X7_169 : Cond.methodLink RX7 169 yX7_isGroupOpen ∈ o_WS := o_mem (List.mem_of_getElem? (i := 1076) (by decide +kernel)) rfl
theorem im_X7_isGroupOpen : Cond.instanceMethod yX7_isGroupOpen ∈ o_WS := o_mem (List.mem_of_getElem? (i := 1078) (by decide +kernel)) rfl
theorem co_X7_isGroupOpen : Cond.code yX7_isGroupOpen cX7_isGroupOpen 1 (Option.some Jvm.ClassFile.FieldType.boolean) ∈ o_WS := o_mem (List.mem_of_getElem? (i := 1079) (by decide +kernel)) rfl
theorem ml_X7_128 : Cond.methodLink RX7 128 yX7_top ∈ o_WS := o_mem (List.mem_of_getElem? (i := 1080) (by decide +kernel)) rfl
theorem im_X7_top : Cond.instanceMethod yX7_top ∈ o_WS := o_mem (List.mem_of_getElem? (i := 1082) (by decide +kernel)) rfl
theorem co_X7_top : Cond.code yX7_top cX7_top 1 (Option.some Jvm.ClassFile.FieldType.int) ∈ o_WS := o_mem (List.mem_of_getElem? (i := 1083) (by decide +kernel)) rfl
theorem ml_X7_173 : Cond.methodLink RX7 173 yX7_isPart ∈ o_WS := o_mem (List.mem_of_getElem? (i := 1084) (by decide +kernel)) rfl
theorem im_X7_isPart : Cond.instanceMethod yX7_isPart ∈ o_WS := o_mem (List.mem_of_getElem? (i := 1086) (by decide +kernel)) rfl
theorem co_X7_isPart : Cond.code yX7_isPart cX7_isPart 1 (Option.some Jvm.ClassFile.FieldType.boolean) ∈ o_WS := o_mem (List.mem_of_getElem? (i := 1087) (by decide +kernel)) rfl
theorem ml_X7_176 : Cond.methodLink RX7 176 yX7_addPart ∈ o_WS := o_mem (List.mem_of_getElem? (i := 1088) (by decide +kernel)) rfl
theorem im_X7_addPart : Cond.instanceMethod yX7_addPart ∈ o_WS := o_mem (List.mem_of_getElem? (i := 1090) (by decide +kernel)) rfl
theorem co_X7_addPart : Cond.code yX7_addPart cX7_addPart 5 (Option.none : Option Jvm.ClassFile.FieldType) ∈ o_WS := o_mem (List.mem_of_getElem? (i := 1091) (by decide +kernel)) rfl
theorem ml_X7_165 : Cond.methodLink RX7 165 yX7_repair ∈ o_WS := o_mem (List.mem_of_getElem? (i := 1092) (by decide +kernel)) rfl
theorem im_X7_repair : Cond.instanceMethod yX7_repair ∈ o_WS := o_mem (List.mem_of_getElem? (i := 1094) (by decide +kernel)) rfl
theorem co_X7_repair : Cond.code yX7_repair cX7_repair 2 (Option.none : Option Jvm.ClassFile.FieldType) ∈ o_WS := o_mem (List.mem_of_getElem? (i := 1095) (by decide +kernel)) rfl
theorem cl_X7_191 : Cond.constantLong RX7 191 (10 : Int64) ∈ o_WS := o_mem (List.mem_of_getElem? (i := 1096) (by decide +kernel)) rfl
theorem cl_X7_193 : Cond.constantLong RX7 193 (48 : Int64) ∈ o_WS := o_mem (List.mem_of_getElem? (i := 1097) (by decide +kernel)) rfl
theorem cl_X7_195 : Cond.constantLong RX7 195 (1000000000 : Int64) ∈ o_WS := o_mem (List.mem_of_getElem? (i := 1098) (by decide +kernel)) rfl
theorem ml_X7_179 : Cond.methodLink RX7 179 yX7_align ∈ o_WS := o_mem (List.mem_of_getElem? (i := 1099) (by decide +kernel)) rfl
theorem im_X7_align : Cond.instanceMethod yX7_align ∈ o_WS := o_mem (List.mem_of_getElem? (i := 1101) (by decide +kernel)) rfl
theorem co_X7_align : Cond.code yX7_align cX7_align 3 (Option.none : Option Jvm.ClassFile.FieldType) ∈ o_WS := o_mem (List.mem_of_getElem? (i := 1102) (by decide +kernel)) rfl
theorem ml_X7_182 : Cond.methodLink RX7 182 yX7_act ∈ o_WS := o_mem (List.mem_of_getElem? (i := 1103) (by decide +kernel)) rfl
theorem im_X7_act : Cond.instanceMethod yX7_act ∈ o_WS := o_mem (List.mem_of_getElem? (i := 1105) (by decide +kernel)) rfl
theorem co_X7_act : Cond.code yX7_act cX7_act 1 (Option.none : Option Jvm.ClassFile.FieldType) ∈ o_WS := o_mem (List.mem_of_getElem? (i := 1106) (by decide +kernel)) rfl
theorem ml_X7_185 : Cond.methodLink RX7 185 yX7_addToItem ∈ o_WS := o_mem (List.mem_of_getElem? (i := 1107) (by decide +kernel)) rfl
theorem im_X7_addToItem : Cond.instanceMethod yX7_addToItem ∈ o_WS := o_mem (List.mem_of_getElem? (i := 1109) (by decide +kernel)) rfl
theorem co_X7_addToItem : Cond.code yX7_addToItem cX7_addToItem 1 (Option.none : Option Jvm.ClassFile.FieldType) ∈ o_WS := o_mem (List.mem_of_getElem? (i := 1110) (by decide +kernel)) rfl
theorem ml_X7_188 : Cond.methodLink RX7 188 yX7_close ∈ o_WS := o_mem (List.mem_of_getElem? (i := 1111) (by decide +kernel)) rfl
theorem im_X7_close : Cond.instanceMethod yX7_close ∈ o_WS := o_mem (List.mem_of_getElem? (i := 1113) (by decide +kernel)) rfl
theorem co_X7_close : Cond.code yX7_close cX7_close 2 (Option.none : Option Jvm.ClassFile.FieldType) ∈ o_WS := o_mem (List.mem_of_getElem? (i := 1114) (by decide +kernel)) rfl
theorem ml_L_99 : Cond.methodLink RL 99 yX7_repairCount ∈ o_WS := o_mem (List.mem_of_getElem? (i := 1115) (by decide +kernel)) rfl
theorem im_X7_repairCount : Cond.instanceMethod yX7_repairCount ∈ o_WS := o_mem (List.mem_of_getElem? (i := 1116) (by decide +kernel)) rfl
theorem se_X7_repairCount : Cond.selects RX7 yX7_repairCount yX7_repairCount ∈ o_WS := o_mem (List.mem_of_getElem? (i := 1117) (by decide +kernel)) rfl
theorem co_X7_repairCount : Cond.code yX7_repairCount cX7_repairCount 1 (Option.some Jvm.ClassFile.FieldType.int) ∈ o_WS := o_mem (List.mem_of_getElem? (i := 1118) (by decide +kernel)) rfl
theorem ml_L_103 : Cond.methodLink RL 103 yX7_repair_ ∈ o_WS := o_mem (List.mem_of_getElem? (i := 1119) (by decide +kernel)) rfl
theorem im_X7_repair_ : Cond.instanceMethod yX7_repair_ ∈ o_WS := o_mem (List.mem_of_getElem? (i := 1120) (by decide +kernel)) rfl
theorem se_X7_repair_ : Cond.selects RX7 yX7_repair_ yX7_repair_ ∈ o_WS := o_mem (List.mem_of_getElem? (i := 1121) (by decide +kernel)) rfl
theorem co_X7_repair_ : Cond.code yX7_repair_ cX7_repair_ 3 (Option.some Jvm.ClassFile.FieldType.int) ∈ o_WS := o_mem (List.mem_of_getElem? (i := 1122) (by decide +kernel)) rfl
theorem ml_L_107 : Cond.methodLink RL 107 yX7_nodeCount ∈ o_WS := o_mem (List.mem_of_getElem? (i := 1123) (by decide +kernel)) rfl
theorem im_X7_nodeCount : Cond.instanceMethod yX7_nodeCount ∈ o_WS := o_mem (List.mem_of_getElem? (i := 1124) (by decide +kernel)) rfl
theorem se_X7_nodeCount : Cond.selects RX7 yX7_nodeCount yX7_nodeCount ∈ o_WS := o_mem (List.mem_of_getElem? (i := 1125) (by decide +kernel)) rfl
theorem co_X7_nodeCount : Cond.code yX7_nodeCount cX7_nodeCount 1 (Option.some Jvm.ClassFile.FieldType.int) ∈ o_WS := o_mem (List.mem_of_getElem? (i := 1126) (by decide +kernel)) rfl
theorem ml_L_110 : Cond.methodLink RL 110 yX7_kind ∈ o_WS := o_mem (List.mem_of_getElem? (i := 1127) (by decide +kernel)) rfl
theorem im_X7_kind : Cond.instanceMethod yX7_kind ∈ o_WS := o_mem (List.mem_of_getElem? (i := 1128) (by decide +kernel)) rfl
theorem se_X7_kind : Cond.selects RX7 yX7_kind yX7_kind ∈ o_WS := o_mem (List.mem_of_getElem? (i := 1129) (by decide +kernel)) rfl
theorem co_X7_kind : Cond.code yX7_kind cX7_kind 2 (Option.some Jvm.ClassFile.FieldType.int) ∈ o_WS := o_mem (List.mem_of_getElem? (i := 1130) (by decide +kernel)) rfl
theorem ml_X7_197 : Cond.methodLink RX7 197 yX7_isNode ∈ o_WS := o_mem (List.mem_of_getElem? (i := 1131) (by decide +kernel)) rfl
theorem im_X7_isNode : Cond.instanceMethod yX7_isNode ∈ o_WS := o_mem (List.mem_of_getElem? (i := 1133) (by decide +kernel)) rfl
theorem co_X7_isNode : Cond.code yX7_isNode cX7_isNode 2 (Option.some Jvm.ClassFile.FieldType.boolean) ∈ o_WS := o_mem (List.mem_of_getElem? (i := 1134) (by decide +kernel)) rfl
theorem ml_L_113 : Cond.methodLink RL 113 yX7_parent ∈ o_WS := o_mem (List.mem_of_getElem? (i := 1135) (by decide +kernel)) rfl
theorem im_X7_parent : Cond.instanceMethod yX7_parent ∈ o_WS := o_mem (List.mem_of_getElem? (i := 1136) (by decide +kernel)) rfl
theorem se_X7_parent : Cond.selects RX7 yX7_parent yX7_parent ∈ o_WS := o_mem (List.mem_of_getElem? (i := 1137) (by decide +kernel)) rfl
theorem co_X7_parent : Cond.code yX7_parent cX7_parent 2 (Option.some Jvm.ClassFile.FieldType.int) ∈ o_WS := o_mem (List.mem_of_getElem? (i := 1138) (by decide +kernel)) rfl
theorem ml_L_116 : Cond.methodLink RL 116 yX7_childCount ∈ o_WS := o_mem (List.mem_of_getElem? (i := 1139) (by decide +kernel)) rfl
theorem im_X7_childCount : Cond.instanceMethod yX7_childCount ∈ o_WS := o_mem (List.mem_of_getElem? (i := 1140) (by decide +kernel)) rfl
theorem se_X7_childCount : Cond.selects RX7 yX7_childCount yX7_childCount ∈ o_WS := o_mem (List.mem_of_getElem? (i := 1141) (by decide +kernel)) rfl
theorem co_X7_childCount : Cond.code yX7_childCount cX7_childCount 2 (Option.some Jvm.ClassFile.FieldType.int) ∈ o_WS := o_mem (List.mem_of_getElem? (i := 1142) (by decide +kernel)) rfl
theorem ml_L_119 : Cond.methodLink RL 119 yX7_child ∈ o_WS := o_mem (List.mem_of_getElem? (i := 1143) (by decide +kernel)) rfl
theorem im_X7_child : Cond.instanceMethod yX7_child ∈ o_WS := o_mem (List.mem_of_getElem? (i := 1144) (by decide +kernel)) rfl
theorem se_X7_child : Cond.selects RX7 yX7_child yX7_child ∈ o_WS := o_mem (List.mem_of_getElem? (i := 1145) (by decide +kernel)) rfl
theorem co_X7_child : Cond.code yX7_child cX7_child 3 (Option.some Jvm.ClassFile.FieldType.int) ∈ o_WS := o_mem (List.mem_of_getElem? (i := 1146) (by decide +kernel)) rfl
theorem ml_L_122 : Cond.methodLink RL 122 yX7_line ∈ o_WS := o_mem (List.mem_of_getElem? (i := 1147) (by decide +kernel)) rfl
theorem im_X7_line : Cond.instanceMethod yX7_line ∈ o_WS := o_mem (List.mem_of_getElem? (i := 1148) (by decide +kernel)) rfl
theorem se_X7_line : Cond.selects RX7 yX7_line yX7_line ∈ o_WS := o_mem (List.mem_of_getElem? (i := 1149) (by decide +kernel)) rfl
theorem co_X7_line : Cond.code yX7_line cX7_line 2 (Option.some Jvm.ClassFile.FieldType.int) ∈ o_WS := o_mem (List.mem_of_getElem? (i := 1150) (by decide +kernel)) rfl
theorem ml_L_125 : Cond.methodLink RL 125 yX7_column ∈ o_WS := o_mem (List.mem_of_getElem? (i := 1151) (by decide +kernel)) rfl
theorem im_X7_column : Cond.instanceMethod yX7_column ∈ o_WS := o_mem (List.mem_of_getElem? (i := 1152) (by decide +kernel)) rfl
theorem se_X7_column : Cond.selects RX7 yX7_column yX7_column ∈ o_WS := o_mem (List.mem_of_getElem? (i := 1153) (by decide +kernel)) rfl
theorem co_X7_column : Cond.code yX7_column cX7_column 2 (Option.some Jvm.ClassFile.FieldType.int) ∈ o_WS := o_mem (List.mem_of_getElem? (i := 1154) (by decide +kernel)) rfl
theorem ml_L_128 : Cond.methodLink RL 128 yX7_value ∈ o_WS := o_mem (List.mem_of_getElem? (i := 1155) (by decide +kernel)) rfl
theorem im_X7_value : Cond.instanceMethod yX7_value ∈ o_WS := o_mem (List.mem_of_getElem? (i := 1156) (by decide +kernel)) rfl
theorem se_X7_value : Cond.selects RX7 yX7_value yX7_value ∈ o_WS := o_mem (List.mem_of_getElem? (i := 1157) (by decide +kernel)) rfl
theorem co_X7_value : Cond.code yX7_value cX7_value 2 (Option.some Jvm.ClassFile.FieldType.int) ∈ o_WS := o_mem (List.mem_of_getElem? (i := 1158) (by decide +kernel)) rfl
theorem ml_L_131 : Cond.methodLink RL 131 yX7_letter ∈ o_WS := o_mem (List.mem_of_getElem? (i := 1159) (by decide +kernel)) rfl
theorem im_X7_letter : Cond.instanceMethod yX7_letter ∈ o_WS := o_mem (List.mem_of_getElem? (i := 1160) (by decide +kernel)) rfl
theorem se_X7_letter : Cond.selects RX7 yX7_letter yX7_letter ∈ o_WS := o_mem (List.mem_of_getElem? (i := 1161) (by decide +kernel)) rfl
theorem co_X7_letter : Cond.code yX7_letter cX7_letter 4 (Option.some Jvm.ClassFile.FieldType.int) ∈ o_WS := o_mem (List.mem_of_getElem? (i := 1162) (by decide +kernel)) rfl
theorem ml_L_134 : Cond.methodLink RL 134 yX7_depth ∈ o_WS := o_mem (List.mem_of_getElem? (i := 1163) (by decide +kernel)) rfl
theorem im_X7_depth : Cond.instanceMethod yX7_depth ∈ o_WS := o_mem (List.mem_of_getElem? (i := 1164) (by decide +kernel)) rfl
theorem se_X7_depth : Cond.selects RX7 yX7_depth yX7_depth ∈ o_WS := o_mem (List.mem_of_getElem? (i := 1165) (by decide +kernel)) rfl
theorem co_X7_depth : Cond.code yX7_depth cX7_depth 2 (Option.some Jvm.ClassFile.FieldType.int) ∈ o_WS := o_mem (List.mem_of_getElem? (i := 1166) (by decide +kernel)) rfl
theorem ml_X7_200 : Cond.methodLink RX7 200 yX7_depthOf ∈ o_WS := o_mem (List.mem_of_getElem? (i := 1167) (by decide +kernel)) rfl
theorem im_X7_depthOf : Cond.instanceMethod yX7_depthOf ∈ o_WS := o_mem (List.mem_of_getElem? (i := 1169) (by decide +kernel)) rfl
theorem co_X7_depthOf : Cond.code yX7_depthOf cX7_depthOf 5 (Option.some Jvm.ClassFile.FieldType.int) ∈ o_WS := o_mem (List.mem_of_getElem? (i := 1170) (by decide +kernel)) rfl
theorem ml_L_139 : Cond.methodLink RL 139 yX7_find ∈ o_WS := o_mem (List.mem_of_getElem? (i := 1171) (by decide +kernel)) rfl
theorem im_X7_find : Cond.instanceMethod yX7_find ∈ o_WS := o_mem (List.mem_of_getElem? (i := 1172) (by decide +kernel)) rfl
theorem se_X7_find : Cond.selects RX7 yX7_find yX7_find ∈ o_WS := o_mem (List.mem_of_getElem? (i := 1173) (by decide +kernel)) rfl
theorem co_X7_find : Cond.code yX7_find cX7_find 7 (Option.some Jvm.ClassFile.FieldType.int) ∈ o_WS := o_mem (List.mem_of_getElem? (i := 1174) (by decide +kernel)) rfl
theorem ml_X7_204 : Cond.methodLink RX7 204 yX7_isFed ∈ o_WS := o_mem (List.mem_of_getElem? (i := 1175) (by decide +kernel)) rfl
theorem im_X7_isFed : Cond.instanceMethod yX7_isFed ∈ o_WS := o_mem (List.mem_of_getElem? (i := 1177) (by decide +kernel)) rfl
theorem co_X7_isFed : Cond.code yX7_isFed cX7_isFed 4 (Option.some Jvm.ClassFile.FieldType.boolean) ∈ o_WS := o_mem (List.mem_of_getElem? (i := 1178) (by decide +kernel)) rfl
theorem ml_L_143 : Cond.methodLink RL 143 yX7_wordCount ∈ o_WS := o_mem (List.mem_of_getElem? (i := 1179) (by decide +kernel)) rfl
theorem im_X7_wordCount : Cond.instanceMethod yX7_wordCount ∈ o_WS := o_mem (List.mem_of_getElem? (i := 1180) (by decide +kernel)) rfl
theorem se_X7_wordCount : Cond.selects RX7 yX7_wordCount yX7_wordCount ∈ o_WS := o_mem (List.mem_of_getElem? (i := 1181) (by decide +kernel)) rfl
theorem co_X7_wordCount : Cond.code yX7_wordCount cX7_wordCount 1 (Option.some Jvm.ClassFile.FieldType.int) ∈ o_WS := o_mem (List.mem_of_getElem? (i := 1182) (by decide +kernel)) rfl
theorem ml_X7_211 : Cond.methodLink RX7 211 yX7_words ∈ o_WS := o_mem (List.mem_of_getElem? (i := 1183) (by decide +kernel)) rfl
theorem im_X7_words : Cond.instanceMethod yX7_words ∈ o_WS := o_mem (List.mem_of_getElem? (i := 1185) (by decide +kernel)) rfl
theorem co_X7_words : Cond.code yX7_words cX7_words 5 (Option.some Jvm.ClassFile.FieldType.int) ∈ o_WS := o_mem (List.mem_of_getElem? (i := 1186) (by decide +kernel)) rfl
theorem ml_X7_208 : Cond.methodLink RX7 208 yX7_areSame ∈ o_WS := o_mem (List.mem_of_getElem? (i := 1187) (by decide +kernel)) rfl
theorem im_X7_areSame : Cond.instanceMethod yX7_areSame ∈ o_WS := o_mem (List.mem_of_getElem? (i := 1189) (by decide +kernel)) rfl
theorem co_X7_areSame : Cond.code yX7_areSame cX7_areSame 4 (Option.some Jvm.ClassFile.FieldType.boolean) ∈ o_WS := o_mem (List.mem_of_getElem? (i := 1190) (by decide +kernel)) rfl
theorem ml_L_146 : Cond.methodLink RL 146 yX7_remove ∈ o_WS := o_mem (List.mem_of_getElem? (i := 1191) (by decide +kernel)) rfl
theorem im_X7_remove : Cond.instanceMethod yX7_remove ∈ o_WS := o_mem (List.mem_of_getElem? (i := 1192) (by decide +kernel)) rfl
theorem se_X7_remove : Cond.selects RX7 yX7_remove yX7_remove ∈ o_WS := o_mem (List.mem_of_getElem? (i := 1193) (by decide +kernel)) rfl
theorem co_X7_remove : Cond.code yX7_remove cX7_remove 2 (Option.some Jvm.ClassFile.FieldType.int) ∈ o_WS := o_mem (List.mem_of_getElem? (i := 1194) (by decide +kernel)) rfl
theorem ml_X7_214 : Cond.methodLink RX7 214 yX7_isItem ∈ o_WS := o_mem (List.mem_of_getElem? (i := 1195) (by decide +kernel)) rfl
theorem im_X7_isItem : Cond.instanceMethod yX7_isItem ∈ o_WS := o_mem (List.mem_of_getElem? (i := 1197) (by decide +kernel)) rfl
theorem co_X7_isItem : Cond.code yX7_isItem cX7_isItem 2 (Option.some Jvm.ClassFile.FieldType.boolean) ∈ o_WS := o_mem (List.mem_of_getElem? (i := 1198) (by decide +kernel)) rfl
theorem ml_X7_217 : Cond.methodLink RX7 217 yX7_takeOut ∈ o_WS := o_mem (List.mem_of_getElem? (i := 1199) (by decide +kernel)) rfl
theorem im_X7_takeOut : Cond.instanceMethod yX7_takeOut ∈ o_WS := o_mem (List.mem_of_getElem? (i := 1201) (by decide +kernel)) rfl
theorem co_X7_takeOut : Cond.code yX7_takeOut cX7_takeOut 4 (Option.none : Option Jvm.ClassFile.FieldType) ∈ o_WS := o_mem (List.mem_of_getElem? (i := 1202) (by decide +kernel)) rfl
theorem ml_L_150 : Cond.methodLink RL 150 yX7_move ∈ o_WS := o_mem (List.mem_of_getElem? (i := 1203) (by decide +kernel)) rfl
theorem im_X7_move : Cond.instanceMethod yX7_move ∈ o_WS := o_mem (List.mem_of_getElem? (i := 1204) (by decide +kernel)) rfl
theorem se_X7_move : Cond.selects RX7 yX7_move yX7_move ∈ o_WS := o_mem (List.mem_of_getElem? (i := 1205) (by decide +kernel)) rfl
theorem co_X7_move : Cond.code yX7_move cX7_move 7 (Option.some Jvm.ClassFile.FieldType.int) ∈ o_WS := o_mem (List.mem_of_getElem? (i := 1206) (by decide +kernel)) rfl
theorem ml_X7_225 : Cond.methodLink RX7 225 yX7_isWithin ∈ o_WS := o_mem (List.mem_of_getElem? (i := 1207) (by decide +kernel)) rfl
theorem im_X7_isWithin : Cond.instanceMethod yX7_isWithin ∈ o_WS := o_mem (List.mem_of_getElem? (i := 1209) (by decide +kernel)) rfl
theorem co_X7_isWithin : Cond.code yX7_isWithin cX7_isWithin 4 (Option.some Jvm.ClassFile.FieldType.boolean) ∈ o_WS := o_mem (List.mem_of_getElem? (i := 1210) (by decide +kernel)) rfl
theorem ml_X7_228 : Cond.methodLink RX7 228 yX7_heightOf ∈ o_WS := o_mem (List.mem_of_getElem? (i := 1211) (by decide +kernel)) rfl
theorem im_X7_heightOf : Cond.instanceMethod yX7_heightOf ∈ o_WS := o_mem (List.mem_of_getElem? (i := 1213) (by decide +kernel)) rfl
theorem co_X7_heightOf : Cond.code yX7_heightOf cX7_heightOf 4 (Option.some Jvm.ClassFile.FieldType.int) ∈ o_WS := o_mem (List.mem_of_getElem? (i := 1214) (by decide +kernel)) rfl
theorem ml_X7_220 : Cond.methodLink RX7 220 yJ9_max_7cf53 ∈ o_WS := o_mem (List.mem_of_getElem? (i := 1215) (by decide +kernel)) rfl
theorem ml_L_154 : Cond.methodLink RL 154 yX7_rename ∈ o_WS := o_mem (List.mem_of_getElem? (i := 1216) (by decide +kernel)) rfl
theorem im_X7_rename : Cond.instanceMethod yX7_rename ∈ o_WS := o_mem (List.mem_of_getElem? (i := 1217) (by decide +kernel)) rfl
theorem se_X7_rename : Cond.selects RX7 yX7_rename yX7_rename ∈ o_WS := o_mem (List.mem_of_getElem? (i := 1218) (by decide +kernel)) rfl
theorem co_X7_rename : Cond.code yX7_rename cX7_rename 8 (Option.some Jvm.ClassFile.FieldType.int) ∈ o_WS := o_mem (List.mem_of_getElem? (i := 1219) (by decide +kernel)) rfl
theorem ml_L_159 : Cond.methodLink RL 159 yX7_write ∈ o_WS := o_mem (List.mem_of_getElem? (i := 1220) (by decide +kernel)) rfl
theorem im_X7_write : Cond.instanceMethod yX7_write ∈ o_WS := o_mem (List.mem_of_getElem? (i := 1221) (by decide +kernel)) rfl
theorem se_X7_write : Cond.selects RX7 yX7_write yX7_write ∈ o_WS := o_mem (List.mem_of_getElem? (i := 1222) (by decide +kernel)) rfl
theorem co_X7_write : Cond.code yX7_write cX7_write 3 (Option.some Jvm.ClassFile.FieldType.int) ∈ o_WS := o_mem (List.mem_of_getElem? (i := 1223) (by decide +kernel)) rfl
theorem ml_X7_250 : Cond.methodLink RX7 250 yX7_putLine ∈ o_WS := o_mem (List.mem_of_getElem? (i := 1224) (by decide +kernel)) rfl
theorem im_X7_putLine : Cond.instanceMethod yX7_putLine ∈ o_WS := o_mem (List.mem_of_getElem? (i := 1226) (by decide +kernel)) rfl
theorem co_X7_putLine : Cond.code yX7_putLine cX7_putLine 7 (Option.none : Option Jvm.ClassFile.FieldType) ∈ o_WS := o_mem (List.mem_of_getElem? (i := 1227) (by decide +kernel)) rfl
theorem ml_X7_237 : Cond.methodLink RX7 237 yX7_put ∈ o_WS := o_mem (List.mem_of_getElem? (i := 1228) (by decide +kernel)) rfl
theorem im_X7_put : Cond.instanceMethod yX7_put ∈ o_WS := o_mem (List.mem_of_getElem? (i := 1230) (by decide +kernel)) rfl
theorem co_X7_put : Cond.code yX7_put cX7_put 2 (Option.none : Option Jvm.ClassFile.FieldType) ∈ o_WS := o_mem (List.mem_of_getElem? (i := 1231) (by decide +kernel)) rfl
theorem ml_X7_247 : Cond.methodLink RX7 247 yX7_lastOf ∈ o_WS := o_mem (List.mem_of_getElem? (i := 1232) (by decide +kernel)) rfl
theorem im_X7_lastOf : Cond.instanceMethod yX7_lastOf ∈ o_WS := o_mem (List.mem_of_getElem? (i := 1234) (by decide +kernel)) rfl
theorem co_X7_lastOf : Cond.code yX7_lastOf cX7_lastOf 2 (Option.some Jvm.ClassFile.FieldType.int) ∈ o_WS := o_mem (List.mem_of_getElem? (i := 1235) (by decide +kernel)) rfl
theorem ml_X7_243 : Cond.methodLink RX7 243 yX7_putAll ∈ o_WS := o_mem (List.mem_of_getElem? (i := 1236) (by decide +kernel)) rfl
theorem im_X7_putAll : Cond.instanceMethod yX7_putAll ∈ o_WS := o_mem (List.mem_of_getElem? (i := 1238) (by decide +kernel)) rfl
theorem co_X7_putAll : Cond.code yX7_putAll cX7_putAll 5 (Option.none : Option Jvm.ClassFile.FieldType) ∈ o_WS := o_mem (List.mem_of_getElem? (i := 1239) (by decide +kernel)) rfl
theorem ml_X7_240 : Cond.methodLink RX7 240 yX7_putNode ∈ o_WS := o_mem (List.mem_of_getElem? (i := 1240) (by decide +kernel)) rfl
theorem im_X7_putNode : Cond.instanceMethod yX7_putNode ∈ o_WS := o_mem (List.mem_of_getElem? (i := 1242) (by decide +kernel)) rfl
theorem co_X7_putNode : Cond.code yX7_putNode cX7_putNode 3 (Option.none : Option Jvm.ClassFile.FieldType) ∈ o_WS := o_mem (List.mem_of_getElem? (i := 1243) (by decide +kernel)) rfl
theorem ml_X7_234 : Cond.methodLink RX7 234 yX7_putNumber ∈ o_WS := o_mem (List.mem_of_getElem? (i := 1244) (by decide +kernel)) rfl
theorem im_X7_putNumber : Cond.instanceMethod yX7_putNumber ∈ o_WS := o_mem (List.mem_of_getElem? (i := 1246) (by decide +kernel)) rfl
theorem co_X7_putNumber : Cond.code yX7_putNumber cX7_putNumber 2 (Option.none : Option Jvm.ClassFile.FieldType) ∈ o_WS := o_mem (List.mem_of_getElem? (i := 1247) (by decide +kernel)) rfl
theorem ml_L_162 : Cond.methodLink RL 162 yX7_written ∈ o_WS := o_mem (List.mem_of_getElem? (i := 1248) (by decide +kernel)) rfl
theorem im_X7_written : Cond.instanceMethod yX7_written ∈ o_WS := o_mem (List.mem_of_getElem? (i := 1249) (by decide +kernel)) rfl
theorem se_X7_written : Cond.selects RX7 yX7_written yX7_written ∈ o_WS := o_mem (List.mem_of_getElem? (i := 1250) (by decide +kernel)) rfl
theorem co_X7_written : Cond.code yX7_written cX7_written 2 (Option.some Jvm.ClassFile.FieldType.int) ∈ o_WS := o_mem (List.mem_of_getElem? (i := 1251) (by decide +kernel)) rfl
theorem ml_L_167 : Cond.methodLink RL 167 yX7_digest ∈ o_WS := o_mem (List.mem_of_getElem? (i := 1252) (by decide +kernel)) rfl
theorem im_X7_digest : Cond.instanceMethod yX7_digest ∈ o_WS := o_mem (List.mem_of_getElem? (i := 1253) (by decide +kernel)) rfl
theorem se_X7_digest : Cond.selects RX7 yX7_digest yX7_digest ∈ o_WS := o_mem (List.mem_of_getElem? (i := 1254) (by decide +kernel)) rfl
theorem co_X7_digest : Cond.code yX7_digest cX7_digest 6 (Option.some Jvm.ClassFile.FieldType.long) ∈ o_WS := o_mem (List.mem_of_getElem? (i := 1255) (by decide +kernel)) rfl
theorem cl_X7_254 : Cond.constantLong RX7 254 (2263 : Int64) ∈ o_WS := o_mem (List.mem_of_getElem? (i := 1256) (by decide +kernel)) rfl
theorem cl_X7_256 : Cond.constantLong RX7 256 (31 : Int64) ∈ o_WS := o_mem (List.mem_of_getElem? (i := 1257) (by decide +kernel)) rfl
theorem cl_L_72 : Cond.constantLong RL 72 (4294967295 : Int64) ∈ o_WS := o_mem (List.mem_of_getElem? (i := 1258) (by decide +kernel)) rfl
end
section
/-! THE SYSTEM'S STATE: int fields (by number), the reference's arrays, the nine rows (room, contents), the law's long, a count of what was made -/
abbrev o_S : Type := (Nat → Int32) × (Nat → Nat → Int32) × (Nat → Nat × List Int32) × (Nat → Int64) × Nat
def o_F (σ : o_S) (k : Nat) : Int32 := σ.1 k
def o_A (σ : o_S) (a i : Nat) : Int32 := σ.2.1 a i
def o_R (σ : o_S) (r : Nat) : List Int32 := (σ.2.2.1 r).2
def o_cap (σ : o_S) (r : Nat) : Nat := (σ.2.2.1 r).1
def o_O (σ : o_S) (i : Nat) : Int64 := σ.2.2.2.1 i
def o_k (σ : o_S) : Nat := σ.2.2.2.2
def o_setF (σ : o_S) (k : Nat) (v : Int32) : o_S := (upd σ.1 k v, σ.2)
def o_setA (σ : o_S) (a i : Nat) (v : Int32) : o_S := (σ.1, (fun b => if b = a then upd (σ.2.1 b) i v else σ.2.1 b), σ.2.2)
def o_setR (σ : o_S) (r cap : Nat) (xs : List Int32) : o_S := (σ.1, σ.2.1, (fun q => if q = r then (cap, xs) else σ.2.2.1 q), σ.2.2.2)
def o_setO (σ : o_S) (i : Nat) (v : Int64) : o_S := (σ.1, σ.2.1, σ.2.2.1, vp_updL σ.2.2.2.1 i v, σ.2.2.2.2)
def o_addK (σ : o_S) (n : Nat) : o_S := (σ.1, σ.2.1, σ.2.2.1, σ.2.2.2.1, σ.2.2.2.2 + n)
/-! WHAT IS FIXED IN A RUN: the launch, the classes' numbers, the two array classes, the objects' addresses, the heap's size at the start -/
abbrev o_G : Type := Launch × (Nat → ClassId) × (Nat → Nat → Nat) × ClassId × ClassId × (Nat → Nat) × Nat
abbrev g_l (G : o_G) : Launch := G.1
abbrev g_D (G : o_G) : va_G := (G.2.1, G.2.2.1)
abbrev g_I (G : o_G) : ClassId := G.2.2.2.1
abbrev g_J (G : o_G) : ClassId := G.2.2.2.2.1
def g_ad (G : o_G) (k : Nat) : Nat := G.2.2.2.2.2.1 k
def g_n0 (G : o_G) : Nat := G.2.2.2.2.2.2
def g_A (G : o_G) : Nat → Prop := fun q => g_n0 G ≤ q
abbrev o_cl : List vw_C := [(RX0, TX0, 9), (RX1, TX1, 13), (RX2, TX2, 2), (RX3, TX3, 2), (RX4, TX4, 2), (RX5, TX5, 3), (RX6, TX6, 7), (RX7, TX7, 32)]
abbrev o_ty (G : o_G) : List (ClassId × FieldType) := [(g_I G, .int), (g_J G, .long)]
/-- the cells: objects, rows, their arrays, the reference's arrays, the law's array -/
def o_W (G : o_G) (ra : Nat → Nat) (gf : Nat → Nat → Int32) (σ : o_S) : va_W :=
  [(g_ad G 0, .inr (6, [.ref (g_ad G 7), .ref (g_ad G 8), .ref (g_ad G 1), .ref (g_ad G 2), .ref (g_ad G 3), .ref (g_ad G 4), .ref (g_ad G 5)])),
   (g_ad G 1, .inr (3, [.ref (g_ad G 9), .int (o_F σ 0)])),
   (g_ad G 2, .inr (5, [.ref (g_ad G 10), .ref (g_ad G 11), .int (o_F σ 1)])),
   (g_ad G 3, .inr (1, [.ref (g_ad G 7), .ref (g_ad G 1), .int (o_F σ 2), .int (o_F σ 3), .int (o_F σ 4), .int (o_F σ 5), .int (o_F σ 6), .int (o_F σ 7), .int (o_F σ 8), .int (o_F σ 9), .int (o_F σ 10), .int (o_F σ 11), .int (o_F σ 12)])),
   (g_ad G 4, .inr (0, [.ref (g_ad G 7), .ref (g_ad G 3), .ref (g_ad G 2), .ref (g_ad G 1), .ref (g_ad G 12), .ref (g_ad G 13), .ref (g_ad G 14), .int (o_F σ 13), .int (o_F σ 14)])),
   (g_ad G 5, .inr (2, [.ref (g_ad G 2), .ref (g_ad G 15)])),
   (g_ad G 6, .inr (7, [.int (o_F σ 15), .ref (g_ad G 25), .int (o_F σ 16), .int (o_F σ 17), .ref (g_ad G 26), .ref (g_ad G 27), .ref (g_ad G 28), .ref (g_ad G 29), .ref (g_ad G 30), .ref (g_ad G 31), .ref (g_ad G 32), .ref (g_ad G 33), .ref (g_ad G 34), .int (o_F σ 18), .ref (g_ad G 35), .ref (g_ad G 36), .int (o_F σ 19), .ref (g_ad G 37), .ref (g_ad G 38), .int (o_F σ 20), .ref (g_ad G 39), .int (o_F σ 21), .ref (g_ad G 40), .ref (g_ad G 41), .ref (g_ad G 42), .int (o_F σ 22), .int (o_F σ 23), .int (o_F σ 24), .int (o_F σ 25), .int (o_F σ 26), .int (o_F σ 27), .int (o_F σ 28)])),
   (g_ad G 7, .inr (4, [.ref (ra 0), .int (nI (o_R σ 0).length)])),
   (g_ad G 8, .inr (4, [.ref (ra 1), .int (nI (o_R σ 1).length)])),
   (g_ad G 9, .inr (4, [.ref (ra 2), .int (nI (o_R σ 2).length)])),
   (g_ad G 10, .inr (4, [.ref (ra 3), .int (nI (o_R σ 3).length)])),
   (g_ad G 11, .inr (4, [.ref (ra 4), .int (nI (o_R σ 4).length)])),
   (g_ad G 12, .inr (4, [.ref (ra 5), .int (nI (o_R σ 5).length)])),
   (g_ad G 13, .inr (4, [.ref (ra 6), .int (nI (o_R σ 6).length)])),
   (g_ad G 14, .inr (4, [.ref (ra 7), .int (nI (o_R σ 7).length)])),
   (g_ad G 15, .inr (4, [.ref (ra 8), .int (nI (o_R σ 8).length)])),
   (ra 0, .inl (g_I G, o_cap σ 0, .inl (gf 0))),
   (ra 1, .inl (g_I G, o_cap σ 1, .inl (gf 1))),
   (ra 2, .inl (g_I G, o_cap σ 2, .inl (gf 2))),
   (ra 3, .inl (g_I G, o_cap σ 3, .inl (gf 3))),
   (ra 4, .inl (g_I G, o_cap σ 4, .inl (gf 4))),
   (ra 5, .inl (g_I G, o_cap σ 5, .inl (gf 5))),
   (ra 6, .inl (g_I G, o_cap σ 6, .inl (gf 6))),
   (ra 7, .inl (g_I G, o_cap σ 7, .inl (gf 7))),
   (ra 8, .inl (g_I G, o_cap σ 8, .inl (gf 8))),
   (g_ad G 25, .inl (g_I G, 600, .inl (o_A σ 0))),
   (g_ad G 26, .inl (g_I G, 1500, .inl (o_A σ 1))),
   (g_ad G 27, .inl (g_I G, 1500, .inl (o_A σ 2))),
   (g_ad G 28, .inl (g_I G, 1500, .inl (o_A σ 3))),
   (g_ad G 29, .inl (g_I G, 1500, .inl (o_A σ 4))),
   (g_ad G 30, .inl (g_I G, 1500, .inl (o_A σ 5))),
   (g_ad G 31, .inl (g_I G, 1500, .inl (o_A σ 6))),
   (g_ad G 32, .inl (g_I G, 1500, .inl (o_A σ 7))),
   (g_ad G 33, .inl (g_I G, 1500, .inl (o_A σ 8))),
   (g_ad G 34, .inl (g_I G, 12600, .inl (o_A σ 9))),
   (g_ad G 35, .inl (g_I G, 1500, .inl (o_A σ 10))),
   (g_ad G 36, .inl (g_I G, 1500, .inl (o_A σ 11))),
   (g_ad G 37, .inl (g_I G, 3900, .inl (o_A σ 12))),
   (g_ad G 38, .inl (g_I G, 60000, .inl (o_A σ 13))),
   (g_ad G 39, .inl (g_I G, 8, .inl (o_A σ 14))),
   (g_ad G 40, .inl (g_I G, 32, .inl (o_A σ 15))),
   (g_ad G 41, .inl (g_I G, 32, .inl (o_A σ 16))),
   (g_ad G 42, .inl (g_I G, 32, .inl (o_A σ 17))),
   (g_ad G 43, .inl (g_J G, 1, .inr (.inl (o_O σ))))]
/-- the rows' arrays hold the rows -/
def o_RW (gf : Nat → Nat → Int32) (σ : o_S) : Prop := ∀ r, r < 9 → (o_R σ r).length ≤ o_cap σ r ∧ 64 ≤ o_cap σ r ∧ o_cap σ r ≤ 131072 ∧ ∀ i v, (o_R σ r)[i]? = some v → gf r i = v
def o_H (G : o_G) (σ : o_S) (H : Heap) : Prop := ∃ (ra : Nat → Nat) (gf : Nat → Nat → Int32), o_RW gf σ ∧ va_P (g_D G) o_cl (o_W G ra gf σ) H ∧ va_D (g_A G) (o_W G ra gf σ)
def o_nestF : List (String × Nat × String × String × String × String) := [("OffsideParser$Builder", 142, "OffsideParser$Lexer", "position", "I", "OffsideParser"), ("OffsideParser$Builder", 80, "OffsideParser$Lexer", "token", "I", "OffsideParser"), ("OffsideParser$Builder", 139, "OffsideParser$Lexer", "start", "I", "OffsideParser"), ("OffsideParser$Builder", 106, "OffsideParser$Lexer", "atLine", "I", "OffsideParser"), ("OffsideParser$Builder", 54, "OffsideParser$Lexer", "atColumn", "I", "OffsideParser"), ("OffsideParser$Builder", 115, "OffsideParser$Lexer", "isFirst", "Z", "OffsideParser")]
def o_nestM : List (String × Nat × MethodName × String) := [("OffsideParser", 9, yX4_init, "OffsideParser"), ("OffsideParser", 21, yX3_init, "OffsideParser"), ("OffsideParser$Repairs", 9, yX4_init, "OffsideParser"), ("OffsideParser", 28, yX5_init, "OffsideParser"), ("OffsideParser$Tree", 11, yX4_init, "OffsideParser"), ("OffsideParser$Builder", 11, yX4_init, "OffsideParser"), ("OffsideParser$Printer", 11, yX4_init, "OffsideParser"), ("OffsideParser$Lexer", 85, yX6_isLetter, "OffsideParser"), ("OffsideParser$Lexer", 88, yX6_isDigit, "OffsideParser"), ("OffsideParser", 193, yX2_printLines, "OffsideParser")]
def o_strs : List (String × Nat × String) := [("OffsideParser", 81, "a byte that no text may have"), ("OffsideParser", 88, "the text would be too long"), ("OffsideParser", 95, "not a length within the text"), ("OffsideParser", 117, "no such repair"), ("OffsideParser", 213, "no such node"), ("OffsideParser", 137, "no such child"), ("OffsideParser", 153, "only an item can be removed"), ("OffsideParser", 158, "only an item can be moved, and only to a block"), ("OffsideParser", 163, "the block is in the item"), ("OffsideParser", 171, "too many blocks and groups in one another"), ("OffsideParser", 177, "no such index in the block"), ("OffsideParser", 186, "only a word can be renamed, and only to a word"), ("OffsideParser", 201, "nothing is written there")]
def o_ncs : List (String × String) := [("java/lang/IllegalStateException", "java/lang/IllegalArgumentException"), ("java/lang/IllegalArgumentException", "java/lang/IndexOutOfBoundsException")]
theorem o_GoodIn {w : Cond} (h : w ∈ o_WS) : GoodIn o_WS (w :: o_WS) := fun v hv => by
  have h1 : v ∈ o_WS := (List.mem_cons.mp hv).elim (fun e => e ▸ h) id
  exact ⟨h1, good_of_word (List.mem_filter.mp h1).2⟩
/-- what holds of a machine's state at every call -/
def o_SF (G : o_G) (U : State) : Prop := va_K (g_D G) o_cl (o_ty G) U ∧ vx_Zq Bundle.tN "UNASSIGNED_STACK" Bundle.steD (g_A G) U U.heap ∧ vx_Zq Bundle.tN "SUPPRESSED_SENTINEL" Bundle.listD (g_A G) U U.heap ∧ (∀ q ∈ o_nestF, va_Nw (.fieldLinkNest q.1 q.2.1 q.2.2.1 q.2.2.2.1 q.2.2.2.2.1 q.2.2.2.2.2) U) ∧ (∀ q ∈ o_nestM, va_Nw (.methodLinkNest q.1 q.2.1 q.2.2.1 q.2.2.2) U) ∧ (∀ q ∈ o_strs, ∃ sa, vk_R q.1 q.2.1 q.2.2 sa U) ∧ (∀ q ∈ o_ncs, va_Nc q.1 q.2 U) ∧ g_n0 G ≤ U.heap.size ∧ (g_l G).stackTraces = false
theorem o_SF.moved {G : o_G} {s U : State} {H : Heap} {locs : List Loc} (h : o_SF G s) (hW : s.WarmedH U.vm) (hU : U.heap = H) (hS : va_S (g_A G) s.heap H locs) : o_SF G U := by
  obtain ⟨h1, h2, h3, h4, h5, h6, h7, h8, h9⟩ := h
  have hk : ∀ a : Nat, a < s.heap.size → ¬ g_A G a → U.heap[a]? = s.heap[a]? := fun a ha hn => by rw [hU]; exact hS.2.1 a ha hn
  exact ⟨va_K.moved hW.alike h1, (vx_Zq.moved hW.alike h2).kept hk, (vx_Zq.moved hW.alike h3).kept hk, fun q hq => va_Nw.warmF hW (h4 q hq), fun q hq => va_Nw.warmM hW (h5 q hq), fun q hq => by obtain ⟨sa, hs⟩ := h6 q hq; exact ⟨sa, hs.warm hW⟩, fun q hq => (h7 q hq).moved hW.alike, by rw [hU]; exact Nat.le_trans h8 hS.1, h9⟩
theorem o_SF.calling {G : o_G} {U : State} (g : JFrame) (mk : MethodId) (a : Array Value) (h : o_SF G U) : o_SF G (U.calling g mk a) := by
  obtain ⟨h1, h2, h3, h4, h5, h6, h7, h8, h9⟩ := h
  exact ⟨va_K.moved (u := U) (U := U.calling g mk a) (Vm.Alike.refl U.vm) h1, vx_Zq.moved (u := U) (U := U.calling g mk a) (Vm.Alike.refl U.vm) h2, vx_Zq.moved (u := U) (U := U.calling g mk a) (Vm.Alike.refl U.vm) h3, fun q hq => va_Nw.same rfl (u := U) (U := U.calling g mk a) rfl (h4 q hq), fun q hq => va_Nw.same rfl (u := U) (U := U.calling g mk a) rfl (h5 q hq), fun q hq => by obtain ⟨sa, hs⟩ := h6 q hq; exact ⟨sa, vk_R.same (u := U) (U := U.calling g mk a) rfl hs⟩, fun q hq => va_Nc.moved (u := U) (U := U.calling g mk a) (Vm.Alike.refl U.vm) (h7 q hq), h8, h9⟩
/-- a contract's start -/
def o_P (G : o_G) (σ : o_S) (U : State) : Prop := o_SF G U ∧ o_H G σ U.heap
theorem o_blind (G : o_G) (σ : o_S) (av : List Value) : FrameBlind (va_Pc av (o_P G σ)) := fun a U g mk q => ⟨q.1, q.2.1.calling g mk a, q.2.2⟩
/-- a contract's end: it returns v, the state is σ' -/
def o_QR (G : o_G) (v : Option Value) (σ' : o_S) : Array Value → State → Outcome → State → Prop := fun _ st oc t => oc = .returned v ∧ o_H G σ' t.heap ∧ va_F (g_A G) st t
def o_RM (d n : Nat) : Room := { frames := d, cells := n, slots := 2 * n, locals := 40 * d }
/-- a method's contract, with k frames below it -/
def o_Ev (G : o_G) (y : MethodName) (cc : ByteArray) (nL : Nat) (ret : Option FieldType) (k : Nat) (av : List Value) (σ : o_S) (v : Option Value) (σ' : o_S) : Prop :=
  o_k σ ≤ o_k σ' ∧ ∀ d, k ≤ d → Met (g_l G) y (Cond.code y cc nL ret :: o_WS) (o_RM d (o_k σ' - o_k σ)) (va_Pc av (o_P G σ)) (o_QR G v σ') (o_k σ' - o_k σ) (2 * (o_k σ' - o_k σ)) (g_A G)
/-! INSIDE A METHOD: what is fixed there, and 'the machine goes well from here' -/
abbrev o_X : Type := Program × Env × Room × State × MethodId × Array Value × List Frame × Method × Code × (State → Prop)
abbrev x_p (X : o_X) : Program := X.1
abbrev x_e (X : o_X) : Env := X.2.1
abbrev x_R (X : o_X) : Room := X.2.2.1
abbrev x_s (X : o_X) : State := X.2.2.2.1
abbrev x_m (X : o_X) : MethodId := X.2.2.2.2.1
abbrev x_a (X : o_X) : Array Value := X.2.2.2.2.2.1
abbrev x_b (X : o_X) : List Frame := X.2.2.2.2.2.2.1
abbrev x_me (X : o_X) : Method := X.2.2.2.2.2.2.2.1
abbrev x_c (X : o_X) : Code := X.2.2.2.2.2.2.2.2.1
abbrev x_Q (X : o_X) : State → Prop := X.2.2.2.2.2.2.2.2.2
def o_C (G : o_G) (X : o_X) (own : String) (cc : ByteArray) (ret : Option FieldType) (nL kd : Nat) : Prop :=
  (x_p X).tables.exec = Jvm.exec ∧ (x_c X).code = cc ∧ (x_me X).sig.returnType = ret ∧ (x_c X).maxLocals = nL ∧ (x_s X).vm.findClass own = some (x_m X).cls ∧ (∀ w ∈ o_WS, w.before (x_a X) (x_s X) = true) ∧ (x_me X).locks = false ∧ o_SF G (x_s X) ∧ kd ≤ (x_R X).frames ∧ 40 * (x_R X).frames ≤ (x_R X).locals
abbrev o_Wf (G : o_G) (X : o_X) (H : Heap) (locs : List Loc) (cells slots pc : Nat) (ls : Array Slot) (st : List Value) : Prop :=
  W (x_p X) (g_l G) (x_e X) (x_R X) (x_s X) (x_m X) (x_a X) (x_b X) (x_me X) (x_c X) H locs cells slots (x_Q X) (F0 (x_m X) pc ls st)
/-- from this place of the method, with this state, the machine comes to the end En; k' is what will have been made by then -/
def o_Z (G : o_G) (own : String) (cc : ByteArray) (ret : Option FieldType) (nL kd : Nat) (En : o_X → Prop) (k' : Nat) (σ : o_S) (pc : Nat) (L : List (Nat × Value)) (st : List Value) : Prop :=
  o_k σ ≤ k' ∧ ∀ X : o_X, o_C G X own cc ret nL kd → En X → ∀ (H : Heap) (locs : List Loc) (ls : Array Slot) (cells slots : Nat), o_H G σ H → va_S (g_A G) (x_s X).heap H locs → lv_has ls nL L → cells + (k' - o_k σ) ≤ (x_R X).cells → slots + 2 * (k' - o_k σ) ≤ (x_R X).slots → o_Wf G X H locs cells slots pc ls st
/-- what the method's end must be -/
def o_E (G : o_G) (v : Option Value) (σ' : o_S) (X : o_X) : Prop := x_Q X = MQ (x_b X) (o_QR G v σ') (x_a X) (x_s X) (x_R X).cells (x_R X).slots (g_A G)
section
variable {G : o_G} {own : String} {cc : ByteArray} {ret : Option FieldType} {nL kd : Nat} {En : o_X → Prop} {k' : Nat} {σ : o_S} {pc : Nat} {L : List (Nat × Value)} {st : List Value}
theorem o_Z.step {pc' : Nat} {st' : List Value} (k : o_Z G own cc ret nL kd En k' σ pc' L st') (h : ∀ X : o_X, o_C G X own cc ret nL kd → ∀ (H : Heap) (locs : List Loc) (ls : Array Slot) (cells slots : Nat), lv_has ls nL L → o_Wf G X H locs cells slots pc' ls st' → o_Wf G X H locs cells slots pc ls st) : o_Z G own cc ret nL kd En k' σ pc L st :=
  ⟨k.1, fun X C E H locs ls cells slots hP hS hl h1 h2 => h X C H locs ls cells slots hl (k.2 X C E H locs ls cells slots hP hS hl h1 h2)⟩
theorem o_Z.sub {L' : List (Nat × Value)} (ks : List Nat) (hL : lv_pick L ks = L') (k : o_Z G own cc ret nL kd En k' σ pc L' st) : o_Z G own cc ret nL kd En k' σ pc L st :=
  ⟨k.1, fun X C E H locs ls cells slots hP hS hl h1 h2 => k.2 X C E H locs ls cells slots hP hS (lv_sub hl ks hL) h1 h2⟩
theorem z_iconst {n : Int} {v : Int32} (hd : decode cc pc = .ok (.iconst n, 1)) (hv : Int32.ofInt n = v) (k : o_Z G own cc ret nL kd En k' σ (pc + 1) L (.int v :: st)) : o_Z G own cc ret nL kd En k' σ pc L st := k.step fun _ C _ _ _ _ _ _ => lv_iconst C.1 C.2.1 hd hv
theorem z_bipush {n : Int} {v : Int32} (hd : decode cc pc = .ok (.bipush n, 2)) (hv : (Int8.ofInt n).toInt32 = v) (k : o_Z G own cc ret nL kd En k' σ (pc + 2) L (.int v :: st)) : o_Z G own cc ret nL kd En k' σ pc L st := k.step fun _ C _ _ _ _ _ _ => lv_bipush C.1 C.2.1 hd hv
theorem z_sipush {n : Int} {v : Int32} (hd : decode cc pc = .ok (.sipush n, 3)) (hv : (Int16.ofInt n).toInt32 = v) (k : o_Z G own cc ret nL kd En k' σ (pc + 3) L (.int v :: st)) : o_Z G own cc ret nL kd En k' σ pc L st := k.step fun _ C _ _ _ _ _ _ => lv_sipush C.1 C.2.1 hd hv
theorem z_ldc {i : Nat} {v : Int32} (hw : Cond.constant own i v ∈ o_WS) (hd : decode cc pc = .ok (.ldc i, 2)) (k : o_Z G own cc ret nL kd En k' σ (pc + 2) L (.int v :: st)) : o_Z G own cc ret nL kd En k' σ pc L st := k.step fun _ C _ _ _ _ _ _ => lv_ldc C.1 C.2.1 C.2.2.2.2.1 (C.2.2.2.2.2.1 _ hw) hd
theorem z_ldc2 {i : Nat} {v : Int64} (hw : Cond.constantLong own i v ∈ o_WS) (hd : decode cc pc = .ok (.ldc2_w i, 3)) (k : o_Z G own cc ret nL kd En k' σ (pc + 3) L (.long v :: st)) : o_Z G own cc ret nL kd En k' σ pc L st := k.step fun _ C _ _ _ _ _ _ => lv_ldc2 C.1 C.2.1 C.2.2.2.2.1 (C.2.2.2.2.2.1 _ hw) hd
theorem z_iload_n {n : Fin 4} {x : Int32} (hd : decode cc pc = .ok (.iload_n n, 1)) (q : Nat) (hq : L[q]? = some ((n : Nat), .int x)) (k : o_Z G own cc ret nL kd En k' σ (pc + 1) L (.int x :: st)) : o_Z G own cc ret nL kd En k' σ pc L st := k.step fun _ C _ _ _ _ _ hl => lv_iload_n C.1 C.2.1 hd rfl (lv_at hl q hq)
theorem z_iload {n : Nat} {x : Int32} (hd : decode cc pc = .ok (.iload n, 2)) (q : Nat) (hq : L[q]? = some (n, .int x)) (k : o_Z G own cc ret nL kd En k' σ (pc + 2) L (.int x :: st)) : o_Z G own cc ret nL kd En k' σ pc L st := k.step fun _ C _ _ _ _ _ hl => lv_iload C.1 C.2.1 hd (lv_at hl q hq)
theorem z_lload_n {n : Fin 4} {x : Int64} (hd : decode cc pc = .ok (.lload_n n, 1)) (q : Nat) (hq : L[q]? = some ((n : Nat), .long x)) (k : o_Z G own cc ret nL kd En k' σ (pc + 1) L (.long x :: st)) : o_Z G own cc ret nL kd En k' σ pc L st := k.step fun _ C _ _ _ _ _ hl => lv_lload_n C.1 C.2.1 hd rfl (lv_at hl q hq)
theorem z_lload {n : Nat} {x : Int64} (hd : decode cc pc = .ok (.lload n, 2)) (q : Nat) (hq : L[q]? = some (n, .long x)) (k : o_Z G own cc ret nL kd En k' σ (pc + 2) L (.long x :: st)) : o_Z G own cc ret nL kd En k' σ pc L st := k.step fun _ C _ _ _ _ _ hl => lv_lload C.1 C.2.1 hd (lv_at hl q hq)
theorem z_aload_n {n : Fin 4} {x : Nat} (hd : decode cc pc = .ok (.aload_n n, 1)) (q : Nat) (hq : L[q]? = some ((n : Nat), .ref x)) (k : o_Z G own cc ret nL kd En k' σ (pc + 1) L (.ref x :: st)) : o_Z G own cc ret nL kd En k' σ pc L st := k.step fun _ C _ _ _ _ _ hl => lv_aload_n C.1 C.2.1 hd rfl (lv_at hl q hq)
theorem z_aload {n : Nat} {x : Nat} (hd : decode cc pc = .ok (.aload n, 2)) (q : Nat) (hq : L[q]? = some (n, .ref x)) (k : o_Z G own cc ret nL kd En k' σ (pc + 2) L (.ref x :: st)) : o_Z G own cc ret nL kd En k' σ pc L st := k.step fun _ C _ _ _ _ _ hl => lv_aload C.1 C.2.1 hd (lv_at hl q hq)
theorem z_istore_n {n : Fin 4} {x : Int32} {L' : List (Nat × Value)} (hd : decode cc pc = .ok (.istore_n n, 1)) (hn : (n : Nat) < nL) (hL : ((n : Nat), Value.int x) :: L.filter (fun q => !(q.1 == (n : Nat)) && !(q.1 + 1 == (n : Nat) && q.2.category == 2)) = L') (k : o_Z G own cc ret nL kd En k' σ (pc + 1) L' st) : o_Z G own cc ret nL kd En k' σ pc L (.int x :: st) :=
  ⟨k.1, fun X C E H locs ls cells slots hP hS hl h1 h2 => lv_istore_n C.1 C.2.1 hd rfl hl hn hL fun ls' hl' => k.2 X C E H locs ls' cells slots hP hS hl' h1 h2⟩
theorem z_istore {n : Nat} {x : Int32} {L' : List (Nat × Value)} (hd : decode cc pc = .ok (.istore n, 2)) (hn : n < nL) (hL : (n, Value.int x) :: L.filter (fun q => !(q.1 == n) && !(q.1 + 1 == n && q.2.category == 2)) = L') (k : o_Z G own cc ret nL kd En k' σ (pc + 2) L' st) : o_Z G own cc ret nL kd En k' σ pc L (.int x :: st) :=
  ⟨k.1, fun X C E H locs ls cells slots hP hS hl h1 h2 => lv_istore C.1 C.2.1 hd hl hn hL fun ls' hl' => k.2 X C E H locs ls' cells slots hP hS hl' h1 h2⟩
theorem z_lstore_n {n : Fin 4} {x : Int64} {L' : List (Nat × Value)} (hd : decode cc pc = .ok (.lstore_n n, 1)) (hn : (n : Nat) + 1 < nL) (hL : ((n : Nat), Value.long x) :: L.filter (fun q => !(q.1 == (n : Nat)) && (!(q.1 == (n : Nat) + 1) && !(q.1 + 1 == (n : Nat) && q.2.category == 2))) = L') (k : o_Z G own cc ret nL kd En k' σ (pc + 1) L' st) : o_Z G own cc ret nL kd En k' σ pc L (.long x :: st) :=
  ⟨k.1, fun X C E H locs ls cells slots hP hS hl h1 h2 => lv_lstore_n C.1 C.2.1 hd rfl hl hn hL fun ls' hl' => k.2 X C E H locs ls' cells slots hP hS hl' h1 h2⟩
theorem z_astore_n {n : Fin 4} {x : Nat} {L' : List (Nat × Value)} (hd : decode cc pc = .ok (.astore_n n, 1)) (hn : (n : Nat) < nL) (hL : ((n : Nat), Value.ref x) :: L.filter (fun q => !(q.1 == (n : Nat)) && !(q.1 + 1 == (n : Nat) && q.2.category == 2)) = L') (k : o_Z G own cc ret nL kd En k' σ (pc + 1) L' st) : o_Z G own cc ret nL kd En k' σ pc L (.ref x :: st) :=
  ⟨k.1, fun X C E H locs ls cells slots hP hS hl h1 h2 => lv_astore_n C.1 C.2.1 hd rfl hl hn hL fun ls' hl' => k.2 X C E H locs ls' cells slots hP hS hl' h1 h2⟩
theorem z_astore {n : Nat} {x : Nat} {L' : List (Nat × Value)} (hd : decode cc pc = .ok (.astore n, 2)) (hn : n < nL) (hL : (n, Value.ref x) :: L.filter (fun q => !(q.1 == n) && !(q.1 + 1 == n && q.2.category == 2)) = L') (k : o_Z G own cc ret nL kd En k' σ (pc + 2) L' st) : o_Z G own cc ret nL kd En k' σ pc L (.ref x :: st) :=
  ⟨k.1, fun X C E H locs ls cells slots hP hS hl h1 h2 => lv_astore C.1 C.2.1 hd hl hn hL fun ls' hl' => k.2 X C E H locs ls' cells slots hP hS hl' h1 h2⟩
theorem z_iinc {i : Nat} {n : Int} {x v : Int32} {L' : List (Nat × Value)} (hd : decode cc pc = .ok (.iinc i n, 3)) (q : Nat) (hq : L[q]? = some (i, .int x)) (hv : x + Int32.ofInt n = v) (hn : i < nL) (hL : (i, Value.int v) :: L.filter (fun q => !(q.1 == i) && !(q.1 + 1 == i && q.2.category == 2)) = L') (k : o_Z G own cc ret nL kd En k' σ (pc + 3) L' st) : o_Z G own cc ret nL kd En k' σ pc L st :=
  ⟨k.1, fun X C E H locs ls cells slots hP hS hl h1 h2 => lv_iinc C.1 C.2.1 hd hl hq hv hn hL fun ls' hl' => k.2 X C E H locs ls' cells slots hP hS hl' h1 h2⟩
theorem z_iadd {x y : Int32} (hd : decode cc pc = .ok (.iadd, 1)) (k : o_Z G own cc ret nL kd En k' σ (pc + 1) L (.int (x + y) :: st)) : o_Z G own cc ret nL kd En k' σ pc L (.int y :: .int x :: st) := k.step fun _ C _ _ _ _ _ _ => lv_iadd C.1 C.2.1 hd
theorem z_isub {x y : Int32} (hd : decode cc pc = .ok (.isub, 1)) (k : o_Z G own cc ret nL kd En k' σ (pc + 1) L (.int (x - y) :: st)) : o_Z G own cc ret nL kd En k' σ pc L (.int y :: .int x :: st) := k.step fun _ C _ _ _ _ _ _ => lv_isub C.1 C.2.1 hd
theorem z_imul {x y : Int32} (hd : decode cc pc = .ok (.imul, 1)) (k : o_Z G own cc ret nL kd En k' σ (pc + 1) L (.int (x * y) :: st)) : o_Z G own cc ret nL kd En k' σ pc L (.int y :: .int x :: st) := k.step fun _ C _ _ _ _ _ _ => lv_imul C.1 C.2.1 hd
theorem z_iand {x y : Int32} (hd : decode cc pc = .ok (.iand, 1)) (k : o_Z G own cc ret nL kd En k' σ (pc + 1) L (.int (x &&& y) :: st)) : o_Z G own cc ret nL kd En k' σ pc L (.int y :: .int x :: st) := k.step fun _ C _ _ _ _ _ _ => lv_iand C.1 C.2.1 hd
theorem z_idiv {x y : Int32} (hne : ¬ y = 0) (hd : decode cc pc = .ok (.idiv, 1)) (k : o_Z G own cc ret nL kd En k' σ (pc + 1) L (.int (x / y) :: st)) : o_Z G own cc ret nL kd En k' σ pc L (.int y :: .int x :: st) := k.step fun _ C _ _ _ _ _ _ => lv_idiv C.1 C.2.1 hd hne
theorem z_irem {x y : Int32} (hne : ¬ y = 0) (hd : decode cc pc = .ok (.irem, 1)) (k : o_Z G own cc ret nL kd En k' σ (pc + 1) L (.int (x - x / y * y) :: st)) : o_Z G own cc ret nL kd En k' σ pc L (.int y :: .int x :: st) := k.step fun _ C _ _ _ _ _ _ => lv_irem C.1 C.2.1 hd hne
theorem z_ladd {x y : Int64} (hd : decode cc pc = .ok (.ladd, 1)) (k : o_Z G own cc ret nL kd En k' σ (pc + 1) L (.long (x + y) :: st)) : o_Z G own cc ret nL kd En k' σ pc L (.long y :: .long x :: st) := k.step fun _ C _ _ _ _ _ _ => lv_ladd C.1 C.2.1 hd
theorem z_lsub {x y : Int64} (hd : decode cc pc = .ok (.lsub, 1)) (k : o_Z G own cc ret nL kd En k' σ (pc + 1) L (.long (x - y) :: st)) : o_Z G own cc ret nL kd En k' σ pc L (.long y :: .long x :: st) := k.step fun _ C _ _ _ _ _ _ => lv_lsub C.1 C.2.1 hd
theorem z_lmul {x y : Int64} (hd : decode cc pc = .ok (.lmul, 1)) (k : o_Z G own cc ret nL kd En k' σ (pc + 1) L (.long (x * y) :: st)) : o_Z G own cc ret nL kd En k' σ pc L (.long y :: .long x :: st) := k.step fun _ C _ _ _ _ _ _ => lv_lmul C.1 C.2.1 hd
theorem z_land {x y : Int64} (hd : decode cc pc = .ok (.land, 1)) (k : o_Z G own cc ret nL kd En k' σ (pc + 1) L (.long (x &&& y) :: st)) : o_Z G own cc ret nL kd En k' σ pc L (.long y :: .long x :: st) := k.step fun _ C _ _ _ _ _ _ => lv_land C.1 C.2.1 hd
theorem z_lor {x y : Int64} (hd : decode cc pc = .ok (.lor, 1)) (k : o_Z G own cc ret nL kd En k' σ (pc + 1) L (.long (x ||| y) :: st)) : o_Z G own cc ret nL kd En k' σ pc L (.long y :: .long x :: st) := k.step fun _ C _ _ _ _ _ _ => lv_lor C.1 C.2.1 hd
theorem z_lrem {x y : Int64} (hne : ¬ y = 0) (hd : decode cc pc = .ok (.lrem, 1)) (k : o_Z G own cc ret nL kd En k' σ (pc + 1) L (.long (x - x / y * y) :: st)) : o_Z G own cc ret nL kd En k' σ pc L (.long y :: .long x :: st) := k.step fun _ C _ _ _ _ _ _ => lv_lrem C.1 C.2.1 hd hne
theorem z_i2l {x : Int32} (hd : decode cc pc = .ok (.i2l, 1)) (k : o_Z G own cc ret nL kd En k' σ (pc + 1) L (.long x.toInt64 :: st)) : o_Z G own cc ret nL kd En k' σ pc L (.int x :: st) := k.step fun _ C _ _ _ _ _ _ => lv_i2l C.1 C.2.1 hd rfl
theorem z_l2i {x : Int64} (hd : decode cc pc = .ok (.l2i, 1)) (k : o_Z G own cc ret nL kd En k' σ (pc + 1) L (.int x.toInt32 :: st)) : o_Z G own cc ret nL kd En k' σ pc L (.long x :: st) := k.step fun _ C _ _ _ _ _ _ => lv_l2i C.1 C.2.1 hd rfl
theorem z_lushr {x : Int64} {y : Int32} (hd : decode cc pc = .ok (.lushr, 1)) (k : o_Z G own cc ret nL kd En k' σ (pc + 1) L (.long (x.toUInt64 >>> (y.toInt64.toUInt64 &&& Int64.toUInt64 63)).toInt64 :: st)) : o_Z G own cc ret nL kd En k' σ pc L (.int y :: .long x :: st) := k.step fun _ C _ _ _ _ _ _ => lv_lushr C.1 C.2.1 hd rfl
theorem z_lshl {x : Int64} {y : Int32} (hd : decode cc pc = .ok (.lshl, 1)) (k : o_Z G own cc ret nL kd En k' σ (pc + 1) L (.long (x <<< (y.toInt64 &&& 63)) :: st)) : o_Z G own cc ret nL kd En k' σ pc L (.int y :: .long x :: st) := k.step fun _ C _ _ _ _ _ _ => lv_lshl C.1 C.2.1 hd rfl
theorem z_lshr {x : Int64} {y : Int32} (hd : decode cc pc = .ok (.lshr, 1)) (k : o_Z G own cc ret nL kd En k' σ (pc + 1) L (.long (x >>> (y.toInt64 &&& 63)) :: st)) : o_Z G own cc ret nL kd En k' σ pc L (.int y :: .long x :: st) := k.step fun _ C _ _ _ _ _ _ => lv_lshr C.1 C.2.1 hd rfl
theorem z_lcmp {x y : Int64} (hd : decode cc pc = .ok (.lcmp, 1)) (k : o_Z G own cc ret nL kd En k' σ (pc + 1) L (.int (lg_cmp x y) :: st)) : o_Z G own cc ret nL kd En k' σ pc L (.long y :: .long x :: st) := k.step fun _ C _ _ _ _ _ _ => W.lcmp C.1 C.2.1 hd
theorem z_lconst {n : Fin 2} {v : Int64} (hd : decode cc pc = .ok (.lconst n, 1)) (hv : Int64.ofNat (n : Nat) = v) (k : o_Z G own cc ret nL kd En k' σ (pc + 1) L (.long v :: st)) : o_Z G own cc ret nL kd En k' σ pc L st := k.step fun _ C _ _ _ _ _ _ => lv_lconst C.1 C.2.1 hd hv
theorem z_dup {v : Value} (hd : decode cc pc = .ok (.dup, 1)) (hv : v.category = 1) (k : o_Z G own cc ret nL kd En k' σ (pc + 1) L (v :: v :: st)) : o_Z G own cc ret nL kd En k' σ pc L (v :: st) := k.step fun _ C _ _ _ _ _ _ => lv_dup C.1 C.2.1 hd hv
theorem z_pop {v : Value} (hd : decode cc pc = .ok (.pop, 1)) (hv : v.category = 1) (k : o_Z G own cc ret nL kd En k' σ (pc + 1) L st) : o_Z G own cc ret nL kd En k' σ pc L (v :: st) := k.step fun _ C _ _ _ _ _ _ => lv_pop C.1 C.2.1 hd hv
theorem z_goto {off : Int} {tgt : Nat} (hd : decode cc pc = .ok (.goto off, 3)) (ht : (pc : Int) + off = (tgt : Int)) (k : o_Z G own cc ret nL kd En k' σ tgt L st) : o_Z G own cc ret nL kd En k' σ pc L st := k.step fun _ C _ _ _ _ _ _ => lv_goto C.1 C.2.1 hd ht
theorem z_if_eq {x : Int32} {off : Int} {tgt : Nat} (hd : decode cc pc = .ok (.ifCond .eq off, 3)) (ht : (pc : Int) + off = (tgt : Int)) (kt : x = 0 → o_Z G own cc ret nL kd En k' σ tgt L st) (kf : ¬ x = 0 → o_Z G own cc ret nL kd En k' σ (pc + 3) L st) : o_Z G own cc ret nL kd En k' σ pc L (.int x :: st) :=
  ⟨by by_cases h : x = 0; exact (kt h).1; exact (kf h).1, fun X C E H locs ls cells slots hP hS hl h1 h2 => lv_if_eq C.1 C.2.1 hd ht (fun h => (kt h).2 X C E H locs ls cells slots hP hS hl h1 h2) (fun h => (kf h).2 X C E H locs ls cells slots hP hS hl h1 h2)⟩
theorem z_if_ne {x : Int32} {off : Int} {tgt : Nat} (hd : decode cc pc = .ok (.ifCond .ne off, 3)) (ht : (pc : Int) + off = (tgt : Int)) (kt : ¬ x = 0 → o_Z G own cc ret nL kd En k' σ tgt L st) (kf : x = 0 → o_Z G own cc ret nL kd En k' σ (pc + 3) L st) : o_Z G own cc ret nL kd En k' σ pc L (.int x :: st) :=
  ⟨by by_cases h : x = 0; exact (kf h).1; exact (kt h).1, fun X C E H locs ls cells slots hP hS hl h1 h2 => lv_if_ne C.1 C.2.1 hd ht (fun h => (kt h).2 X C E H locs ls cells slots hP hS hl h1 h2) (fun h => (kf h).2 X C E H locs ls cells slots hP hS hl h1 h2)⟩
theorem z_if_lt {x : Int32} {off : Int} {tgt : Nat} (hd : decode cc pc = .ok (.ifCond .lt off, 3)) (ht : (pc : Int) + off = (tgt : Int)) (kt : x < 0 → o_Z G own cc ret nL kd En k' σ tgt L st) (kf : ¬ x < 0 → o_Z G own cc ret nL kd En k' σ (pc + 3) L st) : o_Z G own cc ret nL kd En k' σ pc L (.int x :: st) :=
  ⟨by by_cases h : x < 0; exact (kt h).1; exact (kf h).1, fun X C E H locs ls cells slots hP hS hl h1 h2 => lv_if_lt C.1 C.2.1 hd ht (fun h => (kt h).2 X C E H locs ls cells slots hP hS hl h1 h2) (fun h => (kf h).2 X C E H locs ls cells slots hP hS hl h1 h2)⟩
theorem z_if_ge {x : Int32} {off : Int} {tgt : Nat} (hd : decode cc pc = .ok (.ifCond .ge off, 3)) (ht : (pc : Int) + off = (tgt : Int)) (kt : 0 ≤ x → o_Z G own cc ret nL kd En k' σ tgt L st) (kf : ¬ 0 ≤ x → o_Z G own cc ret nL kd En k' σ (pc + 3) L st) : o_Z G own cc ret nL kd En k' σ pc L (.int x :: st) :=
  ⟨by by_cases h : 0 ≤ x; exact (kt h).1; exact (kf h).1, fun X C E H locs ls cells slots hP hS hl h1 h2 => lv_if_ge C.1 C.2.1 hd ht (fun h => (kt h).2 X C E H locs ls cells slots hP hS hl h1 h2) (fun h => (kf h).2 X C E H locs ls cells slots hP hS hl h1 h2)⟩
theorem z_if_gt {x : Int32} {off : Int} {tgt : Nat} (hd : decode cc pc = .ok (.ifCond .gt off, 3)) (ht : (pc : Int) + off = (tgt : Int)) (kt : 0 < x → o_Z G own cc ret nL kd En k' σ tgt L st) (kf : ¬ 0 < x → o_Z G own cc ret nL kd En k' σ (pc + 3) L st) : o_Z G own cc ret nL kd En k' σ pc L (.int x :: st) :=
  ⟨by by_cases h : 0 < x; exact (kt h).1; exact (kf h).1, fun X C E H locs ls cells slots hP hS hl h1 h2 => lv_if_gt C.1 C.2.1 hd ht (fun h => (kt h).2 X C E H locs ls cells slots hP hS hl h1 h2) (fun h => (kf h).2 X C E H locs ls cells slots hP hS hl h1 h2)⟩
theorem z_if_le {x : Int32} {off : Int} {tgt : Nat} (hd : decode cc pc = .ok (.ifCond .le off, 3)) (ht : (pc : Int) + off = (tgt : Int)) (kt : x ≤ 0 → o_Z G own cc ret nL kd En k' σ tgt L st) (kf : ¬ x ≤ 0 → o_Z G own cc ret nL kd En k' σ (pc + 3) L st) : o_Z G own cc ret nL kd En k' σ pc L (.int x :: st) :=
  ⟨by by_cases h : x ≤ 0; exact (kt h).1; exact (kf h).1, fun X C E H locs ls cells slots hP hS hl h1 h2 => lv_if_le C.1 C.2.1 hd ht (fun h => (kt h).2 X C E H locs ls cells slots hP hS hl h1 h2) (fun h => (kf h).2 X C E H locs ls cells slots hP hS hl h1 h2)⟩
theorem z_icmp_eq {x y : Int32} {off : Int} {tgt : Nat} (hd : decode cc pc = .ok (.if_icmp .eq off, 3)) (ht : (pc : Int) + off = (tgt : Int)) (kt : x = y → o_Z G own cc ret nL kd En k' σ tgt L st) (kf : ¬ x = y → o_Z G own cc ret nL kd En k' σ (pc + 3) L st) : o_Z G own cc ret nL kd En k' σ pc L (.int y :: .int x :: st) :=
  ⟨by by_cases h : x = y; exact (kt h).1; exact (kf h).1, fun X C E H locs ls cells slots hP hS hl h1 h2 => lv_icmp_eq C.1 C.2.1 hd ht (fun h => (kt h).2 X C E H locs ls cells slots hP hS hl h1 h2) (fun h => (kf h).2 X C E H locs ls cells slots hP hS hl h1 h2)⟩
theorem z_icmp_ne {x y : Int32} {off : Int} {tgt : Nat} (hd : decode cc pc = .ok (.if_icmp .ne off, 3)) (ht : (pc : Int) + off = (tgt : Int)) (kt : ¬ x = y → o_Z G own cc ret nL kd En k' σ tgt L st) (kf : x = y → o_Z G own cc ret nL kd En k' σ (pc + 3) L st) : o_Z G own cc ret nL kd En k' σ pc L (.int y :: .int x :: st) :=
  ⟨by by_cases h : x = y; exact (kf h).1; exact (kt h).1, fun X C E H locs ls cells slots hP hS hl h1 h2 => lv_icmp_ne C.1 C.2.1 hd ht (fun h => (kt h).2 X C E H locs ls cells slots hP hS hl h1 h2) (fun h => (kf h).2 X C E H locs ls cells slots hP hS hl h1 h2)⟩
theorem z_icmp_lt {x y : Int32} {off : Int} {tgt : Nat} (hd : decode cc pc = .ok (.if_icmp .lt off, 3)) (ht : (pc : Int) + off = (tgt : Int)) (kt : x < y → o_Z G own cc ret nL kd En k' σ tgt L st) (kf : ¬ x < y → o_Z G own cc ret nL kd En k' σ (pc + 3) L st) : o_Z G own cc ret nL kd En k' σ pc L (.int y :: .int x :: st) :=
  ⟨by by_cases h : x < y; exact (kt h).1; exact (kf h).1, fun X C E H locs ls cells slots hP hS hl h1 h2 => lv_icmp_lt C.1 C.2.1 hd ht (fun h => (kt h).2 X C E H locs ls cells slots hP hS hl h1 h2) (fun h => (kf h).2 X C E H locs ls cells slots hP hS hl h1 h2)⟩
theorem z_icmp_ge {x y : Int32} {off : Int} {tgt : Nat} (hd : decode cc pc = .ok (.if_icmp .ge off, 3)) (ht : (pc : Int) + off = (tgt : Int)) (kt : y ≤ x → o_Z G own cc ret nL kd En k' σ tgt L st) (kf : ¬ y ≤ x → o_Z G own cc ret nL kd En k' σ (pc + 3) L st) : o_Z G own cc ret nL kd En k' σ pc L (.int y :: .int x :: st) :=
  ⟨by by_cases h : y ≤ x; exact (kt h).1; exact (kf h).1, fun X C E H locs ls cells slots hP hS hl h1 h2 => lv_icmp_ge C.1 C.2.1 hd ht (fun h => (kt h).2 X C E H locs ls cells slots hP hS hl h1 h2) (fun h => (kf h).2 X C E H locs ls cells slots hP hS hl h1 h2)⟩
theorem z_icmp_gt {x y : Int32} {off : Int} {tgt : Nat} (hd : decode cc pc = .ok (.if_icmp .gt off, 3)) (ht : (pc : Int) + off = (tgt : Int)) (kt : y < x → o_Z G own cc ret nL kd En k' σ tgt L st) (kf : ¬ y < x → o_Z G own cc ret nL kd En k' σ (pc + 3) L st) : o_Z G own cc ret nL kd En k' σ pc L (.int y :: .int x :: st) :=
  ⟨by by_cases h : y < x; exact (kt h).1; exact (kf h).1, fun X C E H locs ls cells slots hP hS hl h1 h2 => lv_icmp_gt C.1 C.2.1 hd ht (fun h => (kt h).2 X C E H locs ls cells slots hP hS hl h1 h2) (fun h => (kf h).2 X C E H locs ls cells slots hP hS hl h1 h2)⟩
theorem z_icmp_le {x y : Int32} {off : Int} {tgt : Nat} (hd : decode cc pc = .ok (.if_icmp .le off, 3)) (ht : (pc : Int) + off = (tgt : Int)) (kt : x ≤ y → o_Z G own cc ret nL kd En k' σ tgt L st) (kf : ¬ x ≤ y → o_Z G own cc ret nL kd En k' σ (pc + 3) L st) : o_Z G own cc ret nL kd En k' σ pc L (.int y :: .int x :: st) :=
  ⟨by by_cases h : x ≤ y; exact (kt h).1; exact (kf h).1, fun X C E H locs ls cells slots hP hS hl h1 h2 => lv_icmp_le C.1 C.2.1 hd ht (fun h => (kt h).2 X C E H locs ls cells slots hP hS hl h1 h2) (fun h => (kf h).2 X C E H locs ls cells slots hP hS hl h1 h2)⟩

end
end
section
section
variable {G : o_G} {own : String} {cc : ByteArray} {ret : Option FieldType} {nL kd : Nat} {En : o_X → Prop} {k' : Nat} {σ : o_S} {pc : Nat} {L : List (Nat × Value)} {st : List Value}
set_option maxRecDepth 20000 in
theorem oi_X0 : ∀ w ∈ u_ws RX0 TX0 9, w ∈ o_WS := by decide +kernel
set_option maxRecDepth 20000 in
theorem oi_X1 : ∀ w ∈ u_ws RX1 TX1 13, w ∈ o_WS := by decide +kernel
set_option maxRecDepth 20000 in
theorem oi_X2 : ∀ w ∈ u_ws RX2 TX2 2, w ∈ o_WS := by decide +kernel
set_option maxRecDepth 20000 in
theorem oi_X3 : ∀ w ∈ u_ws RX3 TX3 2, w ∈ o_WS := by decide +kernel
set_option maxRecDepth 20000 in
theorem oi_X4 : ∀ w ∈ u_ws RX4 TX4 2, w ∈ o_WS := by decide +kernel
set_option maxRecDepth 20000 in
theorem oi_X5 : ∀ w ∈ u_ws RX5 TX5 3, w ∈ o_WS := by decide +kernel
set_option maxRecDepth 20000 in
theorem oi_X6 : ∀ w ∈ u_ws RX6 TX6 7, w ∈ o_WS := by decide +kernel
set_option maxRecDepth 20000 in
theorem oi_X7 : ∀ w ∈ u_ws RX7 TX7 32, w ∈ o_WS := by decide +kernel
theorem zg_X6_text {i : Nat} (hw : Cond.fieldLink own i "OffsideParser" "text" "LOffsideParser$Row;" ∈ o_WS) (hd : decode cc pc = .ok (.getfield i, 3)) (k : o_Z G own cc ret nL kd En k' σ (pc + 3) L (.ref (g_ad G 7) :: st)) : o_Z G own cc ret nL kd En k' σ pc L (.ref (g_ad G 0) :: st) :=
  ⟨k.1, fun X C E H locs ls cells slots hP hS hl h1 h2 => by
    obtain ⟨ra, gf, hr, hp, hq⟩ := id hP
    exact va_get (D := g_D G) (ci := 6) (C := RX6) (T := TX6) (N := 7) C.1 C.2.1 C.2.2.2.2.2.1 oi_X6 C.2.2.2.2.1 C.2.2.2.2.2.2.2.1.1 hp 0 rfl rfl 0 (by decide) (C.2.2.2.2.2.1 _ hw) (fun _ h => h) rfl hd (k.2 X C E H locs ls cells slots hP hS hl h1 h2)⟩
theorem zg_X6_unpacked {i : Nat} (hw : Cond.fieldLink own i "OffsideParser" "unpacked" "LOffsideParser$Row;" ∈ o_WS) (hd : decode cc pc = .ok (.getfield i, 3)) (k : o_Z G own cc ret nL kd En k' σ (pc + 3) L (.ref (g_ad G 8) :: st)) : o_Z G own cc ret nL kd En k' σ pc L (.ref (g_ad G 0) :: st) :=
  ⟨k.1, fun X C E H locs ls cells slots hP hS hl h1 h2 => by
    obtain ⟨ra, gf, hr, hp, hq⟩ := id hP
    exact va_get (D := g_D G) (ci := 6) (C := RX6) (T := TX6) (N := 7) C.1 C.2.1 C.2.2.2.2.2.1 oi_X6 C.2.2.2.2.1 C.2.2.2.2.2.2.2.1.1 hp 0 rfl rfl 1 (by decide) (C.2.2.2.2.2.1 _ hw) (fun _ h => h) rfl hd (k.2 X C E H locs ls cells slots hP hS hl h1 h2)⟩
theorem zg_X6_repairs {i : Nat} (hw : Cond.fieldLink own i "OffsideParser" "repairs" "LOffsideParser$Repairs;" ∈ o_WS) (hd : decode cc pc = .ok (.getfield i, 3)) (k : o_Z G own cc ret nL kd En k' σ (pc + 3) L (.ref (g_ad G 1) :: st)) : o_Z G own cc ret nL kd En k' σ pc L (.ref (g_ad G 0) :: st) :=
  ⟨k.1, fun X C E H locs ls cells slots hP hS hl h1 h2 => by
    obtain ⟨ra, gf, hr, hp, hq⟩ := id hP
    exact va_get (D := g_D G) (ci := 6) (C := RX6) (T := TX6) (N := 7) C.1 C.2.1 C.2.2.2.2.2.1 oi_X6 C.2.2.2.2.1 C.2.2.2.2.2.2.2.1.1 hp 0 rfl rfl 2 (by decide) (C.2.2.2.2.2.1 _ hw) (fun _ h => h) rfl hd (k.2 X C E H locs ls cells slots hP hS hl h1 h2)⟩
theorem zg_X6_tree {i : Nat} (hw : Cond.fieldLink own i "OffsideParser" "tree" "LOffsideParser$Tree;" ∈ o_WS) (hd : decode cc pc = .ok (.getfield i, 3)) (k : o_Z G own cc ret nL kd En k' σ (pc + 3) L (.ref (g_ad G 2) :: st)) : o_Z G own cc ret nL kd En k' σ pc L (.ref (g_ad G 0) :: st) :=
  ⟨k.1, fun X C E H locs ls cells slots hP hS hl h1 h2 => by
    obtain ⟨ra, gf, hr, hp, hq⟩ := id hP
    exact va_get (D := g_D G) (ci := 6) (C := RX6) (T := TX6) (N := 7) C.1 C.2.1 C.2.2.2.2.2.1 oi_X6 C.2.2.2.2.1 C.2.2.2.2.2.2.2.1.1 hp 0 rfl rfl 3 (by decide) (C.2.2.2.2.2.1 _ hw) (fun _ h => h) rfl hd (k.2 X C E H locs ls cells slots hP hS hl h1 h2)⟩
theorem zg_X6_lexer {i : Nat} (hw : Cond.fieldLink own i "OffsideParser" "lexer" "LOffsideParser$Lexer;" ∈ o_WS) (hd : decode cc pc = .ok (.getfield i, 3)) (k : o_Z G own cc ret nL kd En k' σ (pc + 3) L (.ref (g_ad G 3) :: st)) : o_Z G own cc ret nL kd En k' σ pc L (.ref (g_ad G 0) :: st) :=
  ⟨k.1, fun X C E H locs ls cells slots hP hS hl h1 h2 => by
    obtain ⟨ra, gf, hr, hp, hq⟩ := id hP
    exact va_get (D := g_D G) (ci := 6) (C := RX6) (T := TX6) (N := 7) C.1 C.2.1 C.2.2.2.2.2.1 oi_X6 C.2.2.2.2.1 C.2.2.2.2.2.2.2.1.1 hp 0 rfl rfl 4 (by decide) (C.2.2.2.2.2.1 _ hw) (fun _ h => h) rfl hd (k.2 X C E H locs ls cells slots hP hS hl h1 h2)⟩
theorem zg_X6_builder {i : Nat} (hw : Cond.fieldLink own i "OffsideParser" "builder" "LOffsideParser$Builder;" ∈ o_WS) (hd : decode cc pc = .ok (.getfield i, 3)) (k : o_Z G own cc ret nL kd En k' σ (pc + 3) L (.ref (g_ad G 4) :: st)) : o_Z G own cc ret nL kd En k' σ pc L (.ref (g_ad G 0) :: st) :=
  ⟨k.1, fun X C E H locs ls cells slots hP hS hl h1 h2 => by
    obtain ⟨ra, gf, hr, hp, hq⟩ := id hP
    exact va_get (D := g_D G) (ci := 6) (C := RX6) (T := TX6) (N := 7) C.1 C.2.1 C.2.2.2.2.2.1 oi_X6 C.2.2.2.2.1 C.2.2.2.2.2.2.2.1.1 hp 0 rfl rfl 5 (by decide) (C.2.2.2.2.2.1 _ hw) (fun _ h => h) rfl hd (k.2 X C E H locs ls cells slots hP hS hl h1 h2)⟩
theorem zg_X6_printer {i : Nat} (hw : Cond.fieldLink own i "OffsideParser" "printer" "LOffsideParser$Printer;" ∈ o_WS) (hd : decode cc pc = .ok (.getfield i, 3)) (k : o_Z G own cc ret nL kd En k' σ (pc + 3) L (.ref (g_ad G 5) :: st)) : o_Z G own cc ret nL kd En k' σ pc L (.ref (g_ad G 0) :: st) :=
  ⟨k.1, fun X C E H locs ls cells slots hP hS hl h1 h2 => by
    obtain ⟨ra, gf, hr, hp, hq⟩ := id hP
    exact va_get (D := g_D G) (ci := 6) (C := RX6) (T := TX6) (N := 7) C.1 C.2.1 C.2.2.2.2.2.1 oi_X6 C.2.2.2.2.1 C.2.2.2.2.2.2.2.1.1 hp 0 rfl rfl 6 (by decide) (C.2.2.2.2.2.1 _ hw) (fun _ h => h) rfl hd (k.2 X C E H locs ls cells slots hP hS hl h1 h2)⟩
theorem zg_X3_cells {i : Nat} (hw : Cond.fieldLink own i "OffsideParser$Repairs" "cells" "LOffsideParser$Row;" ∈ o_WS) (hd : decode cc pc = .ok (.getfield i, 3)) (k : o_Z G own cc ret nL kd En k' σ (pc + 3) L (.ref (g_ad G 9) :: st)) : o_Z G own cc ret nL kd En k' σ pc L (.ref (g_ad G 1) :: st) :=
  ⟨k.1, fun X C E H locs ls cells slots hP hS hl h1 h2 => by
    obtain ⟨ra, gf, hr, hp, hq⟩ := id hP
    exact va_get (D := g_D G) (ci := 3) (C := RX3) (T := TX3) (N := 2) C.1 C.2.1 C.2.2.2.2.2.1 oi_X3 C.2.2.2.2.1 C.2.2.2.2.2.2.2.1.1 hp 1 rfl rfl 0 (by decide) (C.2.2.2.2.2.1 _ hw) (fun _ h => h) rfl hd (k.2 X C E H locs ls cells slots hP hS hl h1 h2)⟩
theorem zg_X3_count {i : Nat} (hw : Cond.fieldLink own i "OffsideParser$Repairs" "count" "I" ∈ o_WS) (hd : decode cc pc = .ok (.getfield i, 3)) (k : o_Z G own cc ret nL kd En k' σ (pc + 3) L (.int (o_F σ 0) :: st)) : o_Z G own cc ret nL kd En k' σ pc L (.ref (g_ad G 1) :: st) :=
  ⟨k.1, fun X C E H locs ls cells slots hP hS hl h1 h2 => by
    obtain ⟨ra, gf, hr, hp, hq⟩ := id hP
    exact va_get (D := g_D G) (ci := 3) (C := RX3) (T := TX3) (N := 2) C.1 C.2.1 C.2.2.2.2.2.1 oi_X3 C.2.2.2.2.1 C.2.2.2.2.2.2.2.1.1 hp 1 rfl rfl 1 (by decide) (C.2.2.2.2.2.1 _ hw) (fun _ h => h) rfl hd (k.2 X C E H locs ls cells slots hP hS hl h1 h2)⟩
theorem zp_X3_count {i : Nat} {v : Int32} (hw : Cond.fieldLink own i "OffsideParser$Repairs" "count" "I" ∈ o_WS) (hd : decode cc pc = .ok (.putfield i, 3)) (k : o_Z G own cc ret nL kd En k' (o_setF σ 0 v) (pc + 3) L st) : o_Z G own cc ret nL kd En k' σ pc L (.int v :: .ref (g_ad G 1) :: st) :=
  ⟨k.1, fun X C E H locs ls cells slots hP hS hl h1 h2 => by
    obtain ⟨ra, gf, hr, hp, hq⟩ := hP
    exact va_put (D := g_D G) (ci := 3) (v := .int v) (ty := .int) (C := RX3) (T := TX3) (N := 2) C.1 C.2.1 C.2.2.2.2.2.1 oi_X3 tyX3 tyX3_ok nmX3 C.2.2.2.2.1 C.2.2.2.2.2.2.2.1.1 hp hq hS 1 rfl rfl 1 (by decide) (C.2.2.2.2.2.1 _ hw) (fun _ h => h) rfl (by decide +kernel) rfl rfl (Nat.le_of_ble_eq_true rfl) hd (fun H1 locs1 a b c => k.2 X C E H1 locs1 ls cells slots ⟨ra, gf, hr, a, b⟩ c hl h1 h2)⟩
theorem zg_X5_cells {i : Nat} (hw : Cond.fieldLink own i "OffsideParser$Tree" "cells" "LOffsideParser$Row;" ∈ o_WS) (hd : decode cc pc = .ok (.getfield i, 3)) (k : o_Z G own cc ret nL kd En k' σ (pc + 3) L (.ref (g_ad G 10) :: st)) : o_Z G own cc ret nL kd En k' σ pc L (.ref (g_ad G 2) :: st) :=
  ⟨k.1, fun X C E H locs ls cells slots hP hS hl h1 h2 => by
    obtain ⟨ra, gf, hr, hp, hq⟩ := id hP
    exact va_get (D := g_D G) (ci := 5) (C := RX5) (T := TX5) (N := 3) C.1 C.2.1 C.2.2.2.2.2.1 oi_X5 C.2.2.2.2.1 C.2.2.2.2.2.2.2.1.1 hp 2 rfl rfl 0 (by decide) (C.2.2.2.2.2.1 _ hw) (fun _ h => h) rfl hd (k.2 X C E H locs ls cells slots hP hS hl h1 h2)⟩
theorem zg_X5_letters {i : Nat} (hw : Cond.fieldLink own i "OffsideParser$Tree" "letters" "LOffsideParser$Row;" ∈ o_WS) (hd : decode cc pc = .ok (.getfield i, 3)) (k : o_Z G own cc ret nL kd En k' σ (pc + 3) L (.ref (g_ad G 11) :: st)) : o_Z G own cc ret nL kd En k' σ pc L (.ref (g_ad G 2) :: st) :=
  ⟨k.1, fun X C E H locs ls cells slots hP hS hl h1 h2 => by
    obtain ⟨ra, gf, hr, hp, hq⟩ := id hP
    exact va_get (D := g_D G) (ci := 5) (C := RX5) (T := TX5) (N := 3) C.1 C.2.1 C.2.2.2.2.2.1 oi_X5 C.2.2.2.2.1 C.2.2.2.2.2.2.2.1.1 hp 2 rfl rfl 1 (by decide) (C.2.2.2.2.2.1 _ hw) (fun _ h => h) rfl hd (k.2 X C E H locs ls cells slots hP hS hl h1 h2)⟩
theorem zg_X5_count {i : Nat} (hw : Cond.fieldLink own i "OffsideParser$Tree" "count" "I" ∈ o_WS) (hd : decode cc pc = .ok (.getfield i, 3)) (k : o_Z G own cc ret nL kd En k' σ (pc + 3) L (.int (o_F σ 1) :: st)) : o_Z G own cc ret nL kd En k' σ pc L (.ref (g_ad G 2) :: st) :=
  ⟨k.1, fun X C E H locs ls cells slots hP hS hl h1 h2 => by
    obtain ⟨ra, gf, hr, hp, hq⟩ := id hP
    exact va_get (D := g_D G) (ci := 5) (C := RX5) (T := TX5) (N := 3) C.1 C.2.1 C.2.2.2.2.2.1 oi_X5 C.2.2.2.2.1 C.2.2.2.2.2.2.2.1.1 hp 2 rfl rfl 2 (by decide) (C.2.2.2.2.2.1 _ hw) (fun _ h => h) rfl hd (k.2 X C E H locs ls cells slots hP hS hl h1 h2)⟩
theorem zp_X5_count {i : Nat} {v : Int32} (hw : Cond.fieldLink own i "OffsideParser$Tree" "count" "I" ∈ o_WS) (hd : decode cc pc = .ok (.putfield i, 3)) (k : o_Z G own cc ret nL kd En k' (o_setF σ 1 v) (pc + 3) L st) : o_Z G own cc ret nL kd En k' σ pc L (.int v :: .ref (g_ad G 2) :: st) :=
  ⟨k.1, fun X C E H locs ls cells slots hP hS hl h1 h2 => by
    obtain ⟨ra, gf, hr, hp, hq⟩ := hP
    exact va_put (D := g_D G) (ci := 5) (v := .int v) (ty := .int) (C := RX5) (T := TX5) (N := 3) C.1 C.2.1 C.2.2.2.2.2.1 oi_X5 tyX5 tyX5_ok nmX5 C.2.2.2.2.1 C.2.2.2.2.2.2.2.1.1 hp hq hS 2 rfl rfl 2 (by decide) (C.2.2.2.2.2.1 _ hw) (fun _ h => h) rfl (by decide +kernel) rfl rfl (Nat.le_of_ble_eq_true rfl) hd (fun H1 locs1 a b c => k.2 X C E H1 locs1 ls cells slots ⟨ra, gf, hr, a, b⟩ c hl h1 h2)⟩
theorem zg_X1_text {i : Nat} (hw : Cond.fieldLink own i "OffsideParser$Lexer" "text" "LOffsideParser$Row;" ∈ o_WS) (hd : decode cc pc = .ok (.getfield i, 3)) (k : o_Z G own cc ret nL kd En k' σ (pc + 3) L (.ref (g_ad G 7) :: st)) : o_Z G own cc ret nL kd En k' σ pc L (.ref (g_ad G 3) :: st) :=
  ⟨k.1, fun X C E H locs ls cells slots hP hS hl h1 h2 => by
    obtain ⟨ra, gf, hr, hp, hq⟩ := id hP
    exact va_get (D := g_D G) (ci := 1) (C := RX1) (T := TX1) (N := 13) C.1 C.2.1 C.2.2.2.2.2.1 oi_X1 C.2.2.2.2.1 C.2.2.2.2.2.2.2.1.1 hp 3 rfl rfl 0 (by decide) (C.2.2.2.2.2.1 _ hw) (fun _ h => h) rfl hd (k.2 X C E H locs ls cells slots hP hS hl h1 h2)⟩
theorem zg_X1_repairs {i : Nat} (hw : Cond.fieldLink own i "OffsideParser$Lexer" "repairs" "LOffsideParser$Repairs;" ∈ o_WS) (hd : decode cc pc = .ok (.getfield i, 3)) (k : o_Z G own cc ret nL kd En k' σ (pc + 3) L (.ref (g_ad G 1) :: st)) : o_Z G own cc ret nL kd En k' σ pc L (.ref (g_ad G 3) :: st) :=
  ⟨k.1, fun X C E H locs ls cells slots hP hS hl h1 h2 => by
    obtain ⟨ra, gf, hr, hp, hq⟩ := id hP
    exact va_get (D := g_D G) (ci := 1) (C := RX1) (T := TX1) (N := 13) C.1 C.2.1 C.2.2.2.2.2.1 oi_X1 C.2.2.2.2.1 C.2.2.2.2.2.2.2.1.1 hp 3 rfl rfl 1 (by decide) (C.2.2.2.2.2.1 _ hw) (fun _ h => h) rfl hd (k.2 X C E H locs ls cells slots hP hS hl h1 h2)⟩
theorem zg_X1_position {i : Nat} (hw : Cond.fieldLink own i "OffsideParser$Lexer" "position" "I" ∈ o_WS) (hd : decode cc pc = .ok (.getfield i, 3)) (k : o_Z G own cc ret nL kd En k' σ (pc + 3) L (.int (o_F σ 2) :: st)) : o_Z G own cc ret nL kd En k' σ pc L (.ref (g_ad G 3) :: st) :=
  ⟨k.1, fun X C E H locs ls cells slots hP hS hl h1 h2 => by
    obtain ⟨ra, gf, hr, hp, hq⟩ := id hP
    exact va_get (D := g_D G) (ci := 1) (C := RX1) (T := TX1) (N := 13) C.1 C.2.1 C.2.2.2.2.2.1 oi_X1 C.2.2.2.2.1 C.2.2.2.2.2.2.2.1.1 hp 3 rfl rfl 2 (by decide) (C.2.2.2.2.2.1 _ hw) (fun _ h => h) rfl hd (k.2 X C E H locs ls cells slots hP hS hl h1 h2)⟩
theorem zn_X1_position {i : Nat} {host : String} (hw : (own, i, "OffsideParser$Lexer", "position", "I", host) ∈ o_nestF) (hd : decode cc pc = .ok (.getfield i, 3)) (k : o_Z G own cc ret nL kd En k' σ (pc + 3) L (.int (o_F σ 2) :: st)) : o_Z G own cc ret nL kd En k' σ pc L (.ref (g_ad G 3) :: st) :=
  ⟨k.1, fun X C E H locs ls cells slots hP hS hl h1 h2 => by
    obtain ⟨ra, gf, hr, hp, hq⟩ := id hP
    exact va_getN (D := g_D G) (ci := 1) (C := RX1) (T := TX1) (N := 13) C.1 C.2.1 C.2.2.2.2.2.1 oi_X1 C.2.2.2.2.1 C.2.2.2.2.2.2.2.1.1 hp 3 rfl rfl 2 (by decide) (va_Nw.use rfl (C.2.2.2.2.2.2.2.1.2.2.2.1 _ hw)) (fun _ h => h) rfl hd (k.2 X C E H locs ls cells slots hP hS hl h1 h2)⟩
theorem zp_X1_position {i : Nat} {v : Int32} (hw : Cond.fieldLink own i "OffsideParser$Lexer" "position" "I" ∈ o_WS) (hd : decode cc pc = .ok (.putfield i, 3)) (k : o_Z G own cc ret nL kd En k' (o_setF σ 2 v) (pc + 3) L st) : o_Z G own cc ret nL kd En k' σ pc L (.int v :: .ref (g_ad G 3) :: st) :=
  ⟨k.1, fun X C E H locs ls cells slots hP hS hl h1 h2 => by
    obtain ⟨ra, gf, hr, hp, hq⟩ := hP
    exact va_put (D := g_D G) (ci := 1) (v := .int v) (ty := .int) (C := RX1) (T := TX1) (N := 13) C.1 C.2.1 C.2.2.2.2.2.1 oi_X1 tyX1 tyX1_ok nmX1 C.2.2.2.2.1 C.2.2.2.2.2.2.2.1.1 hp hq hS 3 rfl rfl 2 (by decide) (C.2.2.2.2.2.1 _ hw) (fun _ h => h) rfl (by decide +kernel) rfl rfl (Nat.le_of_ble_eq_true rfl) hd (fun H1 locs1 a b c => k.2 X C E H1 locs1 ls cells slots ⟨ra, gf, hr, a, b⟩ c hl h1 h2)⟩
theorem zg_X1_lineNumber {i : Nat} (hw : Cond.fieldLink own i "OffsideParser$Lexer" "lineNumber" "I" ∈ o_WS) (hd : decode cc pc = .ok (.getfield i, 3)) (k : o_Z G own cc ret nL kd En k' σ (pc + 3) L (.int (o_F σ 3) :: st)) : o_Z G own cc ret nL kd En k' σ pc L (.ref (g_ad G 3) :: st) :=
  ⟨k.1, fun X C E H locs ls cells slots hP hS hl h1 h2 => by
    obtain ⟨ra, gf, hr, hp, hq⟩ := id hP
    exact va_get (D := g_D G) (ci := 1) (C := RX1) (T := TX1) (N := 13) C.1 C.2.1 C.2.2.2.2.2.1 oi_X1 C.2.2.2.2.1 C.2.2.2.2.2.2.2.1.1 hp 3 rfl rfl 3 (by decide) (C.2.2.2.2.2.1 _ hw) (fun _ h => h) rfl hd (k.2 X C E H locs ls cells slots hP hS hl h1 h2)⟩
theorem zp_X1_lineNumber {i : Nat} {v : Int32} (hw : Cond.fieldLink own i "OffsideParser$Lexer" "lineNumber" "I" ∈ o_WS) (hd : decode cc pc = .ok (.putfield i, 3)) (k : o_Z G own cc ret nL kd En k' (o_setF σ 3 v) (pc + 3) L st) : o_Z G own cc ret nL kd En k' σ pc L (.int v :: .ref (g_ad G 3) :: st) :=
  ⟨k.1, fun X C E H locs ls cells slots hP hS hl h1 h2 => by
    obtain ⟨ra, gf, hr, hp, hq⟩ := hP
    exact va_put (D := g_D G) (ci := 1) (v := .int v) (ty := .int) (C := RX1) (T := TX1) (N := 13) C.1 C.2.1 C.2.2.2.2.2.1 oi_X1 tyX1 tyX1_ok nmX1 C.2.2.2.2.1 C.2.2.2.2.2.2.2.1.1 hp hq hS 3 rfl rfl 3 (by decide) (C.2.2.2.2.2.1 _ hw) (fun _ h => h) rfl (by decide +kernel) rfl rfl (Nat.le_of_ble_eq_true rfl) hd (fun H1 locs1 a b c => k.2 X C E H1 locs1 ls cells slots ⟨ra, gf, hr, a, b⟩ c hl h1 h2)⟩
theorem zg_X1_lineStart {i : Nat} (hw : Cond.fieldLink own i "OffsideParser$Lexer" "lineStart" "I" ∈ o_WS) (hd : decode cc pc = .ok (.getfield i, 3)) (k : o_Z G own cc ret nL kd En k' σ (pc + 3) L (.int (o_F σ 4) :: st)) : o_Z G own cc ret nL kd En k' σ pc L (.ref (g_ad G 3) :: st) :=
  ⟨k.1, fun X C E H locs ls cells slots hP hS hl h1 h2 => by
    obtain ⟨ra, gf, hr, hp, hq⟩ := id hP
    exact va_get (D := g_D G) (ci := 1) (C := RX1) (T := TX1) (N := 13) C.1 C.2.1 C.2.2.2.2.2.1 oi_X1 C.2.2.2.2.1 C.2.2.2.2.2.2.2.1.1 hp 3 rfl rfl 4 (by decide) (C.2.2.2.2.2.1 _ hw) (fun _ h => h) rfl hd (k.2 X C E H locs ls cells slots hP hS hl h1 h2)⟩
theorem zp_X1_lineStart {i : Nat} {v : Int32} (hw : Cond.fieldLink own i "OffsideParser$Lexer" "lineStart" "I" ∈ o_WS) (hd : decode cc pc = .ok (.putfield i, 3)) (k : o_Z G own cc ret nL kd En k' (o_setF σ 4 v) (pc + 3) L st) : o_Z G own cc ret nL kd En k' σ pc L (.int v :: .ref (g_ad G 3) :: st) :=
  ⟨k.1, fun X C E H locs ls cells slots hP hS hl h1 h2 => by
    obtain ⟨ra, gf, hr, hp, hq⟩ := hP
    exact va_put (D := g_D G) (ci := 1) (v := .int v) (ty := .int) (C := RX1) (T := TX1) (N := 13) C.1 C.2.1 C.2.2.2.2.2.1 oi_X1 tyX1 tyX1_ok nmX1 C.2.2.2.2.1 C.2.2.2.2.2.2.2.1.1 hp hq hS 3 rfl rfl 4 (by decide) (C.2.2.2.2.2.1 _ hw) (fun _ h => h) rfl (by decide +kernel) rfl rfl (Nat.le_of_ble_eq_true rfl) hd (fun H1 locs1 a b c => k.2 X C E H1 locs1 ls cells slots ⟨ra, gf, hr, a, b⟩ c hl h1 h2)⟩
theorem zg_X1_inComment {i : Nat} (hw : Cond.fieldLink own i "OffsideParser$Lexer" "inComment" "Z" ∈ o_WS) (hd : decode cc pc = .ok (.getfield i, 3)) (k : o_Z G own cc ret nL kd En k' σ (pc + 3) L (.int (o_F σ 5) :: st)) : o_Z G own cc ret nL kd En k' σ pc L (.ref (g_ad G 3) :: st) :=
  ⟨k.1, fun X C E H locs ls cells slots hP hS hl h1 h2 => by
    obtain ⟨ra, gf, hr, hp, hq⟩ := id hP
    exact va_get (D := g_D G) (ci := 1) (C := RX1) (T := TX1) (N := 13) C.1 C.2.1 C.2.2.2.2.2.1 oi_X1 C.2.2.2.2.1 C.2.2.2.2.2.2.2.1.1 hp 3 rfl rfl 5 (by decide) (C.2.2.2.2.2.1 _ hw) (fun _ h => h) rfl hd (k.2 X C E H locs ls cells slots hP hS hl h1 h2)⟩
theorem zp_X1_inComment {i : Nat} {v : Int32} (hb : v = 0 ∨ v = 1) (hw : Cond.fieldLink own i "OffsideParser$Lexer" "inComment" "Z" ∈ o_WS) (hd : decode cc pc = .ok (.putfield i, 3)) (k : o_Z G own cc ret nL kd En k' (o_setF σ 5 v) (pc + 3) L st) : o_Z G own cc ret nL kd En k' σ pc L (.int v :: .ref (g_ad G 3) :: st) :=
  ⟨k.1, fun X C E H locs ls cells slots hP hS hl h1 h2 => by
    obtain ⟨ra, gf, hr, hp, hq⟩ := hP
    exact va_put (D := g_D G) (ci := 1) (v := .int v) (ty := .boolean) (C := RX1) (T := TX1) (N := 13) C.1 C.2.1 C.2.2.2.2.2.1 oi_X1 tyX1 tyX1_ok nmX1 C.2.2.2.2.1 C.2.2.2.2.2.2.2.1.1 hp hq hS 3 rfl rfl 5 (by decide) (C.2.2.2.2.2.1 _ hw) (fun _ h => h) rfl (by decide +kernel) (by rcases hb with rfl | rfl <;> rfl) (by rcases hb with rfl | rfl <;> rfl) (Nat.le_of_ble_eq_true rfl) hd (fun H1 locs1 a b c => k.2 X C E H1 locs1 ls cells slots ⟨ra, gf, hr, a, b⟩ c hl h1 h2)⟩
theorem zg_X1_joinsNextLine {i : Nat} (hw : Cond.fieldLink own i "OffsideParser$Lexer" "joinsNextLine" "Z" ∈ o_WS) (hd : decode cc pc = .ok (.getfield i, 3)) (k : o_Z G own cc ret nL kd En k' σ (pc + 3) L (.int (o_F σ 6) :: st)) : o_Z G own cc ret nL kd En k' σ pc L (.ref (g_ad G 3) :: st) :=
  ⟨k.1, fun X C E H locs ls cells slots hP hS hl h1 h2 => by
    obtain ⟨ra, gf, hr, hp, hq⟩ := id hP
    exact va_get (D := g_D G) (ci := 1) (C := RX1) (T := TX1) (N := 13) C.1 C.2.1 C.2.2.2.2.2.1 oi_X1 C.2.2.2.2.1 C.2.2.2.2.2.2.2.1.1 hp 3 rfl rfl 6 (by decide) (C.2.2.2.2.2.1 _ hw) (fun _ h => h) rfl hd (k.2 X C E H locs ls cells slots hP hS hl h1 h2)⟩
theorem zp_X1_joinsNextLine {i : Nat} {v : Int32} (hb : v = 0 ∨ v = 1) (hw : Cond.fieldLink own i "OffsideParser$Lexer" "joinsNextLine" "Z" ∈ o_WS) (hd : decode cc pc = .ok (.putfield i, 3)) (k : o_Z G own cc ret nL kd En k' (o_setF σ 6 v) (pc + 3) L st) : o_Z G own cc ret nL kd En k' σ pc L (.int v :: .ref (g_ad G 3) :: st) :=
  ⟨k.1, fun X C E H locs ls cells slots hP hS hl h1 h2 => by
    obtain ⟨ra, gf, hr, hp, hq⟩ := hP
    exact va_put (D := g_D G) (ci := 1) (v := .int v) (ty := .boolean) (C := RX1) (T := TX1) (N := 13) C.1 C.2.1 C.2.2.2.2.2.1 oi_X1 tyX1 tyX1_ok nmX1 C.2.2.2.2.1 C.2.2.2.2.2.2.2.1.1 hp hq hS 3 rfl rfl 6 (by decide) (C.2.2.2.2.2.1 _ hw) (fun _ h => h) rfl (by decide +kernel) (by rcases hb with rfl | rfl <;> rfl) (by rcases hb with rfl | rfl <;> rfl) (Nat.le_of_ble_eq_true rfl) hd (fun H1 locs1 a b c => k.2 X C E H1 locs1 ls cells slots ⟨ra, gf, hr, a, b⟩ c hl h1 h2)⟩
theorem zg_X1_firstIsGone {i : Nat} (hw : Cond.fieldLink own i "OffsideParser$Lexer" "firstIsGone" "Z" ∈ o_WS) (hd : decode cc pc = .ok (.getfield i, 3)) (k : o_Z G own cc ret nL kd En k' σ (pc + 3) L (.int (o_F σ 7) :: st)) : o_Z G own cc ret nL kd En k' σ pc L (.ref (g_ad G 3) :: st) :=
  ⟨k.1, fun X C E H locs ls cells slots hP hS hl h1 h2 => by
    obtain ⟨ra, gf, hr, hp, hq⟩ := id hP
    exact va_get (D := g_D G) (ci := 1) (C := RX1) (T := TX1) (N := 13) C.1 C.2.1 C.2.2.2.2.2.1 oi_X1 C.2.2.2.2.1 C.2.2.2.2.2.2.2.1.1 hp 3 rfl rfl 7 (by decide) (C.2.2.2.2.2.1 _ hw) (fun _ h => h) rfl hd (k.2 X C E H locs ls cells slots hP hS hl h1 h2)⟩
theorem zp_X1_firstIsGone {i : Nat} {v : Int32} (hb : v = 0 ∨ v = 1) (hw : Cond.fieldLink own i "OffsideParser$Lexer" "firstIsGone" "Z" ∈ o_WS) (hd : decode cc pc = .ok (.putfield i, 3)) (k : o_Z G own cc ret nL kd En k' (o_setF σ 7 v) (pc + 3) L st) : o_Z G own cc ret nL kd En k' σ pc L (.int v :: .ref (g_ad G 3) :: st) :=
  ⟨k.1, fun X C E H locs ls cells slots hP hS hl h1 h2 => by
    obtain ⟨ra, gf, hr, hp, hq⟩ := hP
    exact va_put (D := g_D G) (ci := 1) (v := .int v) (ty := .boolean) (C := RX1) (T := TX1) (N := 13) C.1 C.2.1 C.2.2.2.2.2.1 oi_X1 tyX1 tyX1_ok nmX1 C.2.2.2.2.1 C.2.2.2.2.2.2.2.1.1 hp hq hS 3 rfl rfl 7 (by decide) (C.2.2.2.2.2.1 _ hw) (fun _ h => h) rfl (by decide +kernel) (by rcases hb with rfl | rfl <;> rfl) (by rcases hb with rfl | rfl <;> rfl) (Nat.le_of_ble_eq_true rfl) hd (fun H1 locs1 a b c => k.2 X C E H1 locs1 ls cells slots ⟨ra, gf, hr, a, b⟩ c hl h1 h2)⟩
theorem zg_X1_token {i : Nat} (hw : Cond.fieldLink own i "OffsideParser$Lexer" "token" "I" ∈ o_WS) (hd : decode cc pc = .ok (.getfield i, 3)) (k : o_Z G own cc ret nL kd En k' σ (pc + 3) L (.int (o_F σ 8) :: st)) : o_Z G own cc ret nL kd En k' σ pc L (.ref (g_ad G 3) :: st) :=
  ⟨k.1, fun X C E H locs ls cells slots hP hS hl h1 h2 => by
    obtain ⟨ra, gf, hr, hp, hq⟩ := id hP
    exact va_get (D := g_D G) (ci := 1) (C := RX1) (T := TX1) (N := 13) C.1 C.2.1 C.2.2.2.2.2.1 oi_X1 C.2.2.2.2.1 C.2.2.2.2.2.2.2.1.1 hp 3 rfl rfl 8 (by decide) (C.2.2.2.2.2.1 _ hw) (fun _ h => h) rfl hd (k.2 X C E H locs ls cells slots hP hS hl h1 h2)⟩
theorem zn_X1_token {i : Nat} {host : String} (hw : (own, i, "OffsideParser$Lexer", "token", "I", host) ∈ o_nestF) (hd : decode cc pc = .ok (.getfield i, 3)) (k : o_Z G own cc ret nL kd En k' σ (pc + 3) L (.int (o_F σ 8) :: st)) : o_Z G own cc ret nL kd En k' σ pc L (.ref (g_ad G 3) :: st) :=
  ⟨k.1, fun X C E H locs ls cells slots hP hS hl h1 h2 => by
    obtain ⟨ra, gf, hr, hp, hq⟩ := id hP
    exact va_getN (D := g_D G) (ci := 1) (C := RX1) (T := TX1) (N := 13) C.1 C.2.1 C.2.2.2.2.2.1 oi_X1 C.2.2.2.2.1 C.2.2.2.2.2.2.2.1.1 hp 3 rfl rfl 8 (by decide) (va_Nw.use rfl (C.2.2.2.2.2.2.2.1.2.2.2.1 _ hw)) (fun _ h => h) rfl hd (k.2 X C E H locs ls cells slots hP hS hl h1 h2)⟩
theorem zp_X1_token {i : Nat} {v : Int32} (hw : Cond.fieldLink own i "OffsideParser$Lexer" "token" "I" ∈ o_WS) (hd : decode cc pc = .ok (.putfield i, 3)) (k : o_Z G own cc ret nL kd En k' (o_setF σ 8 v) (pc + 3) L st) : o_Z G own cc ret nL kd En k' σ pc L (.int v :: .ref (g_ad G 3) :: st) :=
  ⟨k.1, fun X C E H locs ls cells slots hP hS hl h1 h2 => by
    obtain ⟨ra, gf, hr, hp, hq⟩ := hP
    exact va_put (D := g_D G) (ci := 1) (v := .int v) (ty := .int) (C := RX1) (T := TX1) (N := 13) C.1 C.2.1 C.2.2.2.2.2.1 oi_X1 tyX1 tyX1_ok nmX1 C.2.2.2.2.1 C.2.2.2.2.2.2.2.1.1 hp hq hS 3 rfl rfl 8 (by decide) (C.2.2.2.2.2.1 _ hw) (fun _ h => h) rfl (by decide +kernel) rfl rfl (Nat.le_of_ble_eq_true rfl) hd (fun H1 locs1 a b c => k.2 X C E H1 locs1 ls cells slots ⟨ra, gf, hr, a, b⟩ c hl h1 h2)⟩
theorem zg_X1_start {i : Nat} (hw : Cond.fieldLink own i "OffsideParser$Lexer" "start" "I" ∈ o_WS) (hd : decode cc pc = .ok (.getfield i, 3)) (k : o_Z G own cc ret nL kd En k' σ (pc + 3) L (.int (o_F σ 9) :: st)) : o_Z G own cc ret nL kd En k' σ pc L (.ref (g_ad G 3) :: st) :=
  ⟨k.1, fun X C E H locs ls cells slots hP hS hl h1 h2 => by
    obtain ⟨ra, gf, hr, hp, hq⟩ := id hP
    exact va_get (D := g_D G) (ci := 1) (C := RX1) (T := TX1) (N := 13) C.1 C.2.1 C.2.2.2.2.2.1 oi_X1 C.2.2.2.2.1 C.2.2.2.2.2.2.2.1.1 hp 3 rfl rfl 9 (by decide) (C.2.2.2.2.2.1 _ hw) (fun _ h => h) rfl hd (k.2 X C E H locs ls cells slots hP hS hl h1 h2)⟩
theorem zn_X1_start {i : Nat} {host : String} (hw : (own, i, "OffsideParser$Lexer", "start", "I", host) ∈ o_nestF) (hd : decode cc pc = .ok (.getfield i, 3)) (k : o_Z G own cc ret nL kd En k' σ (pc + 3) L (.int (o_F σ 9) :: st)) : o_Z G own cc ret nL kd En k' σ pc L (.ref (g_ad G 3) :: st) :=
  ⟨k.1, fun X C E H locs ls cells slots hP hS hl h1 h2 => by
    obtain ⟨ra, gf, hr, hp, hq⟩ := id hP
    exact va_getN (D := g_D G) (ci := 1) (C := RX1) (T := TX1) (N := 13) C.1 C.2.1 C.2.2.2.2.2.1 oi_X1 C.2.2.2.2.1 C.2.2.2.2.2.2.2.1.1 hp 3 rfl rfl 9 (by decide) (va_Nw.use rfl (C.2.2.2.2.2.2.2.1.2.2.2.1 _ hw)) (fun _ h => h) rfl hd (k.2 X C E H locs ls cells slots hP hS hl h1 h2)⟩
theorem zp_X1_start {i : Nat} {v : Int32} (hw : Cond.fieldLink own i "OffsideParser$Lexer" "start" "I" ∈ o_WS) (hd : decode cc pc = .ok (.putfield i, 3)) (k : o_Z G own cc ret nL kd En k' (o_setF σ 9 v) (pc + 3) L st) : o_Z G own cc ret nL kd En k' σ pc L (.int v :: .ref (g_ad G 3) :: st) :=
  ⟨k.1, fun X C E H locs ls cells slots hP hS hl h1 h2 => by
    obtain ⟨ra, gf, hr, hp, hq⟩ := hP
    exact va_put (D := g_D G) (ci := 1) (v := .int v) (ty := .int) (C := RX1) (T := TX1) (N := 13) C.1 C.2.1 C.2.2.2.2.2.1 oi_X1 tyX1 tyX1_ok nmX1 C.2.2.2.2.1 C.2.2.2.2.2.2.2.1.1 hp hq hS 3 rfl rfl 9 (by decide) (C.2.2.2.2.2.1 _ hw) (fun _ h => h) rfl (by decide +kernel) rfl rfl (Nat.le_of_ble_eq_true rfl) hd (fun H1 locs1 a b c => k.2 X C E H1 locs1 ls cells slots ⟨ra, gf, hr, a, b⟩ c hl h1 h2)⟩
theorem zg_X1_atLine {i : Nat} (hw : Cond.fieldLink own i "OffsideParser$Lexer" "atLine" "I" ∈ o_WS) (hd : decode cc pc = .ok (.getfield i, 3)) (k : o_Z G own cc ret nL kd En k' σ (pc + 3) L (.int (o_F σ 10) :: st)) : o_Z G own cc ret nL kd En k' σ pc L (.ref (g_ad G 3) :: st) :=
  ⟨k.1, fun X C E H locs ls cells slots hP hS hl h1 h2 => by
    obtain ⟨ra, gf, hr, hp, hq⟩ := id hP
    exact va_get (D := g_D G) (ci := 1) (C := RX1) (T := TX1) (N := 13) C.1 C.2.1 C.2.2.2.2.2.1 oi_X1 C.2.2.2.2.1 C.2.2.2.2.2.2.2.1.1 hp 3 rfl rfl 10 (by decide) (C.2.2.2.2.2.1 _ hw) (fun _ h => h) rfl hd (k.2 X C E H locs ls cells slots hP hS hl h1 h2)⟩
theorem zn_X1_atLine {i : Nat} {host : String} (hw : (own, i, "OffsideParser$Lexer", "atLine", "I", host) ∈ o_nestF) (hd : decode cc pc = .ok (.getfield i, 3)) (k : o_Z G own cc ret nL kd En k' σ (pc + 3) L (.int (o_F σ 10) :: st)) : o_Z G own cc ret nL kd En k' σ pc L (.ref (g_ad G 3) :: st) :=
  ⟨k.1, fun X C E H locs ls cells slots hP hS hl h1 h2 => by
    obtain ⟨ra, gf, hr, hp, hq⟩ := id hP
    exact va_getN (D := g_D G) (ci := 1) (C := RX1) (T := TX1) (N := 13) C.1 C.2.1 C.2.2.2.2.2.1 oi_X1 C.2.2.2.2.1 C.2.2.2.2.2.2.2.1.1 hp 3 rfl rfl 10 (by decide) (va_Nw.use rfl (C.2.2.2.2.2.2.2.1.2.2.2.1 _ hw)) (fun _ h => h) rfl hd (k.2 X C E H locs ls cells slots hP hS hl h1 h2)⟩
theorem zp_X1_atLine {i : Nat} {v : Int32} (hw : Cond.fieldLink own i "OffsideParser$Lexer" "atLine" "I" ∈ o_WS) (hd : decode cc pc = .ok (.putfield i, 3)) (k : o_Z G own cc ret nL kd En k' (o_setF σ 10 v) (pc + 3) L st) : o_Z G own cc ret nL kd En k' σ pc L (.int v :: .ref (g_ad G 3) :: st) :=
  ⟨k.1, fun X C E H locs ls cells slots hP hS hl h1 h2 => by
    obtain ⟨ra, gf, hr, hp, hq⟩ := hP
    exact va_put (D := g_D G) (ci := 1) (v := .int v) (ty := .int) (C := RX1) (T := TX1) (N := 13) C.1 C.2.1 C.2.2.2.2.2.1 oi_X1 tyX1 tyX1_ok nmX1 C.2.2.2.2.1 C.2.2.2.2.2.2.2.1.1 hp hq hS 3 rfl rfl 10 (by decide) (C.2.2.2.2.2.1 _ hw) (fun _ h => h) rfl (by decide +kernel) rfl rfl (Nat.le_of_ble_eq_true rfl) hd (fun H1 locs1 a b c => k.2 X C E H1 locs1 ls cells slots ⟨ra, gf, hr, a, b⟩ c hl h1 h2)⟩
theorem zg_X1_atColumn {i : Nat} (hw : Cond.fieldLink own i "OffsideParser$Lexer" "atColumn" "I" ∈ o_WS) (hd : decode cc pc = .ok (.getfield i, 3)) (k : o_Z G own cc ret nL kd En k' σ (pc + 3) L (.int (o_F σ 11) :: st)) : o_Z G own cc ret nL kd En k' σ pc L (.ref (g_ad G 3) :: st) :=
  ⟨k.1, fun X C E H locs ls cells slots hP hS hl h1 h2 => by
    obtain ⟨ra, gf, hr, hp, hq⟩ := id hP
    exact va_get (D := g_D G) (ci := 1) (C := RX1) (T := TX1) (N := 13) C.1 C.2.1 C.2.2.2.2.2.1 oi_X1 C.2.2.2.2.1 C.2.2.2.2.2.2.2.1.1 hp 3 rfl rfl 11 (by decide) (C.2.2.2.2.2.1 _ hw) (fun _ h => h) rfl hd (k.2 X C E H locs ls cells slots hP hS hl h1 h2)⟩
theorem zn_X1_atColumn {i : Nat} {host : String} (hw : (own, i, "OffsideParser$Lexer", "atColumn", "I", host) ∈ o_nestF) (hd : decode cc pc = .ok (.getfield i, 3)) (k : o_Z G own cc ret nL kd En k' σ (pc + 3) L (.int (o_F σ 11) :: st)) : o_Z G own cc ret nL kd En k' σ pc L (.ref (g_ad G 3) :: st) :=
  ⟨k.1, fun X C E H locs ls cells slots hP hS hl h1 h2 => by
    obtain ⟨ra, gf, hr, hp, hq⟩ := id hP
    exact va_getN (D := g_D G) (ci := 1) (C := RX1) (T := TX1) (N := 13) C.1 C.2.1 C.2.2.2.2.2.1 oi_X1 C.2.2.2.2.1 C.2.2.2.2.2.2.2.1.1 hp 3 rfl rfl 11 (by decide) (va_Nw.use rfl (C.2.2.2.2.2.2.2.1.2.2.2.1 _ hw)) (fun _ h => h) rfl hd (k.2 X C E H locs ls cells slots hP hS hl h1 h2)⟩
theorem zp_X1_atColumn {i : Nat} {v : Int32} (hw : Cond.fieldLink own i "OffsideParser$Lexer" "atColumn" "I" ∈ o_WS) (hd : decode cc pc = .ok (.putfield i, 3)) (k : o_Z G own cc ret nL kd En k' (o_setF σ 11 v) (pc + 3) L st) : o_Z G own cc ret nL kd En k' σ pc L (.int v :: .ref (g_ad G 3) :: st) :=
  ⟨k.1, fun X C E H locs ls cells slots hP hS hl h1 h2 => by
    obtain ⟨ra, gf, hr, hp, hq⟩ := hP
    exact va_put (D := g_D G) (ci := 1) (v := .int v) (ty := .int) (C := RX1) (T := TX1) (N := 13) C.1 C.2.1 C.2.2.2.2.2.1 oi_X1 tyX1 tyX1_ok nmX1 C.2.2.2.2.1 C.2.2.2.2.2.2.2.1.1 hp hq hS 3 rfl rfl 11 (by decide) (C.2.2.2.2.2.1 _ hw) (fun _ h => h) rfl (by decide +kernel) rfl rfl (Nat.le_of_ble_eq_true rfl) hd (fun H1 locs1 a b c => k.2 X C E H1 locs1 ls cells slots ⟨ra, gf, hr, a, b⟩ c hl h1 h2)⟩
theorem zg_X1_isFirst {i : Nat} (hw : Cond.fieldLink own i "OffsideParser$Lexer" "isFirst" "Z" ∈ o_WS) (hd : decode cc pc = .ok (.getfield i, 3)) (k : o_Z G own cc ret nL kd En k' σ (pc + 3) L (.int (o_F σ 12) :: st)) : o_Z G own cc ret nL kd En k' σ pc L (.ref (g_ad G 3) :: st) :=
  ⟨k.1, fun X C E H locs ls cells slots hP hS hl h1 h2 => by
    obtain ⟨ra, gf, hr, hp, hq⟩ := id hP
    exact va_get (D := g_D G) (ci := 1) (C := RX1) (T := TX1) (N := 13) C.1 C.2.1 C.2.2.2.2.2.1 oi_X1 C.2.2.2.2.1 C.2.2.2.2.2.2.2.1.1 hp 3 rfl rfl 12 (by decide) (C.2.2.2.2.2.1 _ hw) (fun _ h => h) rfl hd (k.2 X C E H locs ls cells slots hP hS hl h1 h2)⟩
theorem zn_X1_isFirst {i : Nat} {host : String} (hw : (own, i, "OffsideParser$Lexer", "isFirst", "Z", host) ∈ o_nestF) (hd : decode cc pc = .ok (.getfield i, 3)) (k : o_Z G own cc ret nL kd En k' σ (pc + 3) L (.int (o_F σ 12) :: st)) : o_Z G own cc ret nL kd En k' σ pc L (.ref (g_ad G 3) :: st) :=
  ⟨k.1, fun X C E H locs ls cells slots hP hS hl h1 h2 => by
    obtain ⟨ra, gf, hr, hp, hq⟩ := id hP
    exact va_getN (D := g_D G) (ci := 1) (C := RX1) (T := TX1) (N := 13) C.1 C.2.1 C.2.2.2.2.2.1 oi_X1 C.2.2.2.2.1 C.2.2.2.2.2.2.2.1.1 hp 3 rfl rfl 12 (by decide) (va_Nw.use rfl (C.2.2.2.2.2.2.2.1.2.2.2.1 _ hw)) (fun _ h => h) rfl hd (k.2 X C E H locs ls cells slots hP hS hl h1 h2)⟩
theorem zp_X1_isFirst {i : Nat} {v : Int32} (hb : v = 0 ∨ v = 1) (hw : Cond.fieldLink own i "OffsideParser$Lexer" "isFirst" "Z" ∈ o_WS) (hd : decode cc pc = .ok (.putfield i, 3)) (k : o_Z G own cc ret nL kd En k' (o_setF σ 12 v) (pc + 3) L st) : o_Z G own cc ret nL kd En k' σ pc L (.int v :: .ref (g_ad G 3) :: st) :=
  ⟨k.1, fun X C E H locs ls cells slots hP hS hl h1 h2 => by
    obtain ⟨ra, gf, hr, hp, hq⟩ := hP
    exact va_put (D := g_D G) (ci := 1) (v := .int v) (ty := .boolean) (C := RX1) (T := TX1) (N := 13) C.1 C.2.1 C.2.2.2.2.2.1 oi_X1 tyX1 tyX1_ok nmX1 C.2.2.2.2.1 C.2.2.2.2.2.2.2.1.1 hp hq hS 3 rfl rfl 12 (by decide) (C.2.2.2.2.2.1 _ hw) (fun _ h => h) rfl (by decide +kernel) (by rcases hb with rfl | rfl <;> rfl) (by rcases hb with rfl | rfl <;> rfl) (Nat.le_of_ble_eq_true rfl) hd (fun H1 locs1 a b c => k.2 X C E H1 locs1 ls cells slots ⟨ra, gf, hr, a, b⟩ c hl h1 h2)⟩
theorem zg_X0_text {i : Nat} (hw : Cond.fieldLink own i "OffsideParser$Builder" "text" "LOffsideParser$Row;" ∈ o_WS) (hd : decode cc pc = .ok (.getfield i, 3)) (k : o_Z G own cc ret nL kd En k' σ (pc + 3) L (.ref (g_ad G 7) :: st)) : o_Z G own cc ret nL kd En k' σ pc L (.ref (g_ad G 4) :: st) :=
  ⟨k.1, fun X C E H locs ls cells slots hP hS hl h1 h2 => by
    obtain ⟨ra, gf, hr, hp, hq⟩ := id hP
    exact va_get (D := g_D G) (ci := 0) (C := RX0) (T := TX0) (N := 9) C.1 C.2.1 C.2.2.2.2.2.1 oi_X0 C.2.2.2.2.1 C.2.2.2.2.2.2.2.1.1 hp 4 rfl rfl 0 (by decide) (C.2.2.2.2.2.1 _ hw) (fun _ h => h) rfl hd (k.2 X C E H locs ls cells slots hP hS hl h1 h2)⟩
theorem zg_X0_lexer {i : Nat} (hw : Cond.fieldLink own i "OffsideParser$Builder" "lexer" "LOffsideParser$Lexer;" ∈ o_WS) (hd : decode cc pc = .ok (.getfield i, 3)) (k : o_Z G own cc ret nL kd En k' σ (pc + 3) L (.ref (g_ad G 3) :: st)) : o_Z G own cc ret nL kd En k' σ pc L (.ref (g_ad G 4) :: st) :=
  ⟨k.1, fun X C E H locs ls cells slots hP hS hl h1 h2 => by
    obtain ⟨ra, gf, hr, hp, hq⟩ := id hP
    exact va_get (D := g_D G) (ci := 0) (C := RX0) (T := TX0) (N := 9) C.1 C.2.1 C.2.2.2.2.2.1 oi_X0 C.2.2.2.2.1 C.2.2.2.2.2.2.2.1.1 hp 4 rfl rfl 1 (by decide) (C.2.2.2.2.2.1 _ hw) (fun _ h => h) rfl hd (k.2 X C E H locs ls cells slots hP hS hl h1 h2)⟩
theorem zg_X0_tree {i : Nat} (hw : Cond.fieldLink own i "OffsideParser$Builder" "tree" "LOffsideParser$Tree;" ∈ o_WS) (hd : decode cc pc = .ok (.getfield i, 3)) (k : o_Z G own cc ret nL kd En k' σ (pc + 3) L (.ref (g_ad G 2) :: st)) : o_Z G own cc ret nL kd En k' σ pc L (.ref (g_ad G 4) :: st) :=
  ⟨k.1, fun X C E H locs ls cells slots hP hS hl h1 h2 => by
    obtain ⟨ra, gf, hr, hp, hq⟩ := id hP
    exact va_get (D := g_D G) (ci := 0) (C := RX0) (T := TX0) (N := 9) C.1 C.2.1 C.2.2.2.2.2.1 oi_X0 C.2.2.2.2.1 C.2.2.2.2.2.2.2.1.1 hp 4 rfl rfl 2 (by decide) (C.2.2.2.2.2.1 _ hw) (fun _ h => h) rfl hd (k.2 X C E H locs ls cells slots hP hS hl h1 h2)⟩
theorem zg_X0_repairs {i : Nat} (hw : Cond.fieldLink own i "OffsideParser$Builder" "repairs" "LOffsideParser$Repairs;" ∈ o_WS) (hd : decode cc pc = .ok (.getfield i, 3)) (k : o_Z G own cc ret nL kd En k' σ (pc + 3) L (.ref (g_ad G 1) :: st)) : o_Z G own cc ret nL kd En k' σ pc L (.ref (g_ad G 4) :: st) :=
  ⟨k.1, fun X C E H locs ls cells slots hP hS hl h1 h2 => by
    obtain ⟨ra, gf, hr, hp, hq⟩ := id hP
    exact va_get (D := g_D G) (ci := 0) (C := RX0) (T := TX0) (N := 9) C.1 C.2.1 C.2.2.2.2.2.1 oi_X0 C.2.2.2.2.1 C.2.2.2.2.2.2.2.1.1 hp 4 rfl rfl 3 (by decide) (C.2.2.2.2.2.1 _ hw) (fun _ h => h) rfl hd (k.2 X C E H locs ls cells slots hP hS hl h1 h2)⟩
theorem zg_X0_openNodes {i : Nat} (hw : Cond.fieldLink own i "OffsideParser$Builder" "openNodes" "LOffsideParser$Row;" ∈ o_WS) (hd : decode cc pc = .ok (.getfield i, 3)) (k : o_Z G own cc ret nL kd En k' σ (pc + 3) L (.ref (g_ad G 12) :: st)) : o_Z G own cc ret nL kd En k' σ pc L (.ref (g_ad G 4) :: st) :=
  ⟨k.1, fun X C E H locs ls cells slots hP hS hl h1 h2 => by
    obtain ⟨ra, gf, hr, hp, hq⟩ := id hP
    exact va_get (D := g_D G) (ci := 0) (C := RX0) (T := TX0) (N := 9) C.1 C.2.1 C.2.2.2.2.2.1 oi_X0 C.2.2.2.2.1 C.2.2.2.2.2.2.2.1.1 hp 4 rfl rfl 4 (by decide) (C.2.2.2.2.2.1 _ hw) (fun _ h => h) rfl hd (k.2 X C E H locs ls cells slots hP hS hl h1 h2)⟩
theorem zg_X0_openColumns {i : Nat} (hw : Cond.fieldLink own i "OffsideParser$Builder" "openColumns" "LOffsideParser$Row;" ∈ o_WS) (hd : decode cc pc = .ok (.getfield i, 3)) (k : o_Z G own cc ret nL kd En k' σ (pc + 3) L (.ref (g_ad G 13) :: st)) : o_Z G own cc ret nL kd En k' σ pc L (.ref (g_ad G 4) :: st) :=
  ⟨k.1, fun X C E H locs ls cells slots hP hS hl h1 h2 => by
    obtain ⟨ra, gf, hr, hp, hq⟩ := id hP
    exact va_get (D := g_D G) (ci := 0) (C := RX0) (T := TX0) (N := 9) C.1 C.2.1 C.2.2.2.2.2.1 oi_X0 C.2.2.2.2.1 C.2.2.2.2.2.2.2.1.1 hp 4 rfl rfl 5 (by decide) (C.2.2.2.2.2.1 _ hw) (fun _ h => h) rfl hd (k.2 X C E H locs ls cells slots hP hS hl h1 h2)⟩
theorem zg_X0_currentItems {i : Nat} (hw : Cond.fieldLink own i "OffsideParser$Builder" "currentItems" "LOffsideParser$Row;" ∈ o_WS) (hd : decode cc pc = .ok (.getfield i, 3)) (k : o_Z G own cc ret nL kd En k' σ (pc + 3) L (.ref (g_ad G 14) :: st)) : o_Z G own cc ret nL kd En k' σ pc L (.ref (g_ad G 4) :: st) :=
  ⟨k.1, fun X C E H locs ls cells slots hP hS hl h1 h2 => by
    obtain ⟨ra, gf, hr, hp, hq⟩ := id hP
    exact va_get (D := g_D G) (ci := 0) (C := RX0) (T := TX0) (N := 9) C.1 C.2.1 C.2.2.2.2.2.1 oi_X0 C.2.2.2.2.1 C.2.2.2.2.2.2.2.1.1 hp 4 rfl rfl 6 (by decide) (C.2.2.2.2.2.1 _ hw) (fun _ h => h) rfl hd (k.2 X C E H locs ls cells slots hP hS hl h1 h2)⟩
theorem zg_X0_hasBegun {i : Nat} (hw : Cond.fieldLink own i "OffsideParser$Builder" "hasBegun" "Z" ∈ o_WS) (hd : decode cc pc = .ok (.getfield i, 3)) (k : o_Z G own cc ret nL kd En k' σ (pc + 3) L (.int (o_F σ 13) :: st)) : o_Z G own cc ret nL kd En k' σ pc L (.ref (g_ad G 4) :: st) :=
  ⟨k.1, fun X C E H locs ls cells slots hP hS hl h1 h2 => by
    obtain ⟨ra, gf, hr, hp, hq⟩ := id hP
    exact va_get (D := g_D G) (ci := 0) (C := RX0) (T := TX0) (N := 9) C.1 C.2.1 C.2.2.2.2.2.1 oi_X0 C.2.2.2.2.1 C.2.2.2.2.2.2.2.1.1 hp 4 rfl rfl 7 (by decide) (C.2.2.2.2.2.1 _ hw) (fun _ h => h) rfl hd (k.2 X C E H locs ls cells slots hP hS hl h1 h2)⟩
theorem zp_X0_hasBegun {i : Nat} {v : Int32} (hb : v = 0 ∨ v = 1) (hw : Cond.fieldLink own i "OffsideParser$Builder" "hasBegun" "Z" ∈ o_WS) (hd : decode cc pc = .ok (.putfield i, 3)) (k : o_Z G own cc ret nL kd En k' (o_setF σ 13 v) (pc + 3) L st) : o_Z G own cc ret nL kd En k' σ pc L (.int v :: .ref (g_ad G 4) :: st) :=
  ⟨k.1, fun X C E H locs ls cells slots hP hS hl h1 h2 => by
    obtain ⟨ra, gf, hr, hp, hq⟩ := hP
    exact va_put (D := g_D G) (ci := 0) (v := .int v) (ty := .boolean) (C := RX0) (T := TX0) (N := 9) C.1 C.2.1 C.2.2.2.2.2.1 oi_X0 tyX0 tyX0_ok nmX0 C.2.2.2.2.1 C.2.2.2.2.2.2.2.1.1 hp hq hS 4 rfl rfl 7 (by decide) (C.2.2.2.2.2.1 _ hw) (fun _ h => h) rfl (by decide +kernel) (by rcases hb with rfl | rfl <;> rfl) (by rcases hb with rfl | rfl <;> rfl) (Nat.le_of_ble_eq_true rfl) hd (fun H1 locs1 a b c => k.2 X C E H1 locs1 ls cells slots ⟨ra, gf, hr, a, b⟩ c hl h1 h2)⟩
theorem zg_X0_colonBefore {i : Nat} (hw : Cond.fieldLink own i "OffsideParser$Builder" "colonBefore" "Z" ∈ o_WS) (hd : decode cc pc = .ok (.getfield i, 3)) (k : o_Z G own cc ret nL kd En k' σ (pc + 3) L (.int (o_F σ 14) :: st)) : o_Z G own cc ret nL kd En k' σ pc L (.ref (g_ad G 4) :: st) :=
  ⟨k.1, fun X C E H locs ls cells slots hP hS hl h1 h2 => by
    obtain ⟨ra, gf, hr, hp, hq⟩ := id hP
    exact va_get (D := g_D G) (ci := 0) (C := RX0) (T := TX0) (N := 9) C.1 C.2.1 C.2.2.2.2.2.1 oi_X0 C.2.2.2.2.1 C.2.2.2.2.2.2.2.1.1 hp 4 rfl rfl 8 (by decide) (C.2.2.2.2.2.1 _ hw) (fun _ h => h) rfl hd (k.2 X C E H locs ls cells slots hP hS hl h1 h2)⟩
theorem zp_X0_colonBefore {i : Nat} {v : Int32} (hb : v = 0 ∨ v = 1) (hw : Cond.fieldLink own i "OffsideParser$Builder" "colonBefore" "Z" ∈ o_WS) (hd : decode cc pc = .ok (.putfield i, 3)) (k : o_Z G own cc ret nL kd En k' (o_setF σ 14 v) (pc + 3) L st) : o_Z G own cc ret nL kd En k' σ pc L (.int v :: .ref (g_ad G 4) :: st) :=
  ⟨k.1, fun X C E H locs ls cells slots hP hS hl h1 h2 => by
    obtain ⟨ra, gf, hr, hp, hq⟩ := hP
    exact va_put (D := g_D G) (ci := 0) (v := .int v) (ty := .boolean) (C := RX0) (T := TX0) (N := 9) C.1 C.2.1 C.2.2.2.2.2.1 oi_X0 tyX0 tyX0_ok nmX0 C.2.2.2.2.1 C.2.2.2.2.2.2.2.1.1 hp hq hS 4 rfl rfl 8 (by decide) (C.2.2.2.2.2.1 _ hw) (fun _ h => h) rfl (by decide +kernel) (by rcases hb with rfl | rfl <;> rfl) (by rcases hb with rfl | rfl <;> rfl) (Nat.le_of_ble_eq_true rfl) hd (fun H1 locs1 a b c => k.2 X C E H1 locs1 ls cells slots ⟨ra, gf, hr, a, b⟩ c hl h1 h2)⟩
theorem zg_X2_tree {i : Nat} (hw : Cond.fieldLink own i "OffsideParser$Printer" "tree" "LOffsideParser$Tree;" ∈ o_WS) (hd : decode cc pc = .ok (.getfield i, 3)) (k : o_Z G own cc ret nL kd En k' σ (pc + 3) L (.ref (g_ad G 2) :: st)) : o_Z G own cc ret nL kd En k' σ pc L (.ref (g_ad G 5) :: st) :=
  ⟨k.1, fun X C E H locs ls cells slots hP hS hl h1 h2 => by
    obtain ⟨ra, gf, hr, hp, hq⟩ := id hP
    exact va_get (D := g_D G) (ci := 2) (C := RX2) (T := TX2) (N := 2) C.1 C.2.1 C.2.2.2.2.2.1 oi_X2 C.2.2.2.2.1 C.2.2.2.2.2.2.2.1.1 hp 5 rfl rfl 0 (by decide) (C.2.2.2.2.2.1 _ hw) (fun _ h => h) rfl hd (k.2 X C E H locs ls cells slots hP hS hl h1 h2)⟩
theorem zg_X2_out {i : Nat} (hw : Cond.fieldLink own i "OffsideParser$Printer" "out" "LOffsideParser$Row;" ∈ o_WS) (hd : decode cc pc = .ok (.getfield i, 3)) (k : o_Z G own cc ret nL kd En k' σ (pc + 3) L (.ref (g_ad G 15) :: st)) : o_Z G own cc ret nL kd En k' σ pc L (.ref (g_ad G 5) :: st) :=
  ⟨k.1, fun X C E H locs ls cells slots hP hS hl h1 h2 => by
    obtain ⟨ra, gf, hr, hp, hq⟩ := id hP
    exact va_get (D := g_D G) (ci := 2) (C := RX2) (T := TX2) (N := 2) C.1 C.2.1 C.2.2.2.2.2.1 oi_X2 C.2.2.2.2.1 C.2.2.2.2.2.2.2.1.1 hp 5 rfl rfl 1 (by decide) (C.2.2.2.2.2.1 _ hw) (fun _ h => h) rfl hd (k.2 X C E H locs ls cells slots hP hS hl h1 h2)⟩
theorem zg_X7_thrown {i : Nat} (hw : Cond.fieldLink own i "OffsideParserModel" "thrown" "I" ∈ o_WS) (hd : decode cc pc = .ok (.getfield i, 3)) (k : o_Z G own cc ret nL kd En k' σ (pc + 3) L (.int (o_F σ 15) :: st)) : o_Z G own cc ret nL kd En k' σ pc L (.ref (g_ad G 6) :: st) :=
  ⟨k.1, fun X C E H locs ls cells slots hP hS hl h1 h2 => by
    obtain ⟨ra, gf, hr, hp, hq⟩ := id hP
    exact va_get (D := g_D G) (ci := 7) (C := RX7) (T := TX7) (N := 32) C.1 C.2.1 C.2.2.2.2.2.1 oi_X7 C.2.2.2.2.1 C.2.2.2.2.2.2.2.1.1 hp 6 rfl rfl 0 (by decide) (C.2.2.2.2.2.1 _ hw) (fun _ h => h) rfl hd (k.2 X C E H locs ls cells slots hP hS hl h1 h2)⟩
theorem zp_X7_thrown {i : Nat} {v : Int32} (hw : Cond.fieldLink own i "OffsideParserModel" "thrown" "I" ∈ o_WS) (hd : decode cc pc = .ok (.putfield i, 3)) (k : o_Z G own cc ret nL kd En k' (o_setF σ 15 v) (pc + 3) L st) : o_Z G own cc ret nL kd En k' σ pc L (.int v :: .ref (g_ad G 6) :: st) :=
  ⟨k.1, fun X C E H locs ls cells slots hP hS hl h1 h2 => by
    obtain ⟨ra, gf, hr, hp, hq⟩ := hP
    exact va_put (D := g_D G) (ci := 7) (v := .int v) (ty := .int) (C := RX7) (T := TX7) (N := 32) C.1 C.2.1 C.2.2.2.2.2.1 oi_X7 tyX7 tyX7_ok nmX7 C.2.2.2.2.1 C.2.2.2.2.2.2.2.1.1 hp hq hS 6 rfl rfl 0 (by decide) (C.2.2.2.2.2.1 _ hw) (fun _ h => h) rfl (by decide +kernel) rfl rfl (Nat.le_of_ble_eq_true rfl) hd (fun H1 locs1 a b c => k.2 X C E H1 locs1 ls cells slots ⟨ra, gf, hr, a, b⟩ c hl h1 h2)⟩
theorem zg_X7_text {i : Nat} (hw : Cond.fieldLink own i "OffsideParserModel" "text" "[I" ∈ o_WS) (hd : decode cc pc = .ok (.getfield i, 3)) (k : o_Z G own cc ret nL kd En k' σ (pc + 3) L (.ref (g_ad G 25) :: st)) : o_Z G own cc ret nL kd En k' σ pc L (.ref (g_ad G 6) :: st) :=
  ⟨k.1, fun X C E H locs ls cells slots hP hS hl h1 h2 => by
    obtain ⟨ra, gf, hr, hp, hq⟩ := id hP
    exact va_get (D := g_D G) (ci := 7) (C := RX7) (T := TX7) (N := 32) C.1 C.2.1 C.2.2.2.2.2.1 oi_X7 C.2.2.2.2.1 C.2.2.2.2.2.2.2.1.1 hp 6 rfl rfl 1 (by decide) (C.2.2.2.2.2.1 _ hw) (fun _ h => h) rfl hd (k.2 X C E H locs ls cells slots hP hS hl h1 h2)⟩
theorem zg_X7_size {i : Nat} (hw : Cond.fieldLink own i "OffsideParserModel" "size" "I" ∈ o_WS) (hd : decode cc pc = .ok (.getfield i, 3)) (k : o_Z G own cc ret nL kd En k' σ (pc + 3) L (.int (o_F σ 16) :: st)) : o_Z G own cc ret nL kd En k' σ pc L (.ref (g_ad G 6) :: st) :=
  ⟨k.1, fun X C E H locs ls cells slots hP hS hl h1 h2 => by
    obtain ⟨ra, gf, hr, hp, hq⟩ := id hP
    exact va_get (D := g_D G) (ci := 7) (C := RX7) (T := TX7) (N := 32) C.1 C.2.1 C.2.2.2.2.2.1 oi_X7 C.2.2.2.2.1 C.2.2.2.2.2.2.2.1.1 hp 6 rfl rfl 2 (by decide) (C.2.2.2.2.2.1 _ hw) (fun _ h => h) rfl hd (k.2 X C E H locs ls cells slots hP hS hl h1 h2)⟩
theorem zp_X7_size {i : Nat} {v : Int32} (hw : Cond.fieldLink own i "OffsideParserModel" "size" "I" ∈ o_WS) (hd : decode cc pc = .ok (.putfield i, 3)) (k : o_Z G own cc ret nL kd En k' (o_setF σ 16 v) (pc + 3) L st) : o_Z G own cc ret nL kd En k' σ pc L (.int v :: .ref (g_ad G 6) :: st) :=
  ⟨k.1, fun X C E H locs ls cells slots hP hS hl h1 h2 => by
    obtain ⟨ra, gf, hr, hp, hq⟩ := hP
    exact va_put (D := g_D G) (ci := 7) (v := .int v) (ty := .int) (C := RX7) (T := TX7) (N := 32) C.1 C.2.1 C.2.2.2.2.2.1 oi_X7 tyX7 tyX7_ok nmX7 C.2.2.2.2.1 C.2.2.2.2.2.2.2.1.1 hp hq hS 6 rfl rfl 2 (by decide) (C.2.2.2.2.2.1 _ hw) (fun _ h => h) rfl (by decide +kernel) rfl rfl (Nat.le_of_ble_eq_true rfl) hd (fun H1 locs1 a b c => k.2 X C E H1 locs1 ls cells slots ⟨ra, gf, hr, a, b⟩ c hl h1 h2)⟩
theorem zg_X7_made {i : Nat} (hw : Cond.fieldLink own i "OffsideParserModel" "made" "I" ∈ o_WS) (hd : decode cc pc = .ok (.getfield i, 3)) (k : o_Z G own cc ret nL kd En k' σ (pc + 3) L (.int (o_F σ 17) :: st)) : o_Z G own cc ret nL kd En k' σ pc L (.ref (g_ad G 6) :: st) :=
  ⟨k.1, fun X C E H locs ls cells slots hP hS hl h1 h2 => by
    obtain ⟨ra, gf, hr, hp, hq⟩ := id hP
    exact va_get (D := g_D G) (ci := 7) (C := RX7) (T := TX7) (N := 32) C.1 C.2.1 C.2.2.2.2.2.1 oi_X7 C.2.2.2.2.1 C.2.2.2.2.2.2.2.1.1 hp 6 rfl rfl 3 (by decide) (C.2.2.2.2.2.1 _ hw) (fun _ h => h) rfl hd (k.2 X C E H locs ls cells slots hP hS hl h1 h2)⟩
theorem zp_X7_made {i : Nat} {v : Int32} (hw : Cond.fieldLink own i "OffsideParserModel" "made" "I" ∈ o_WS) (hd : decode cc pc = .ok (.putfield i, 3)) (k : o_Z G own cc ret nL kd En k' (o_setF σ 17 v) (pc + 3) L st) : o_Z G own cc ret nL kd En k' σ pc L (.int v :: .ref (g_ad G 6) :: st) :=
  ⟨k.1, fun X C E H locs ls cells slots hP hS hl h1 h2 => by
    obtain ⟨ra, gf, hr, hp, hq⟩ := hP
    exact va_put (D := g_D G) (ci := 7) (v := .int v) (ty := .int) (C := RX7) (T := TX7) (N := 32) C.1 C.2.1 C.2.2.2.2.2.1 oi_X7 tyX7 tyX7_ok nmX7 C.2.2.2.2.1 C.2.2.2.2.2.2.2.1.1 hp hq hS 6 rfl rfl 3 (by decide) (C.2.2.2.2.2.1 _ hw) (fun _ h => h) rfl (by decide +kernel) rfl rfl (Nat.le_of_ble_eq_true rfl) hd (fun H1 locs1 a b c => k.2 X C E H1 locs1 ls cells slots ⟨ra, gf, hr, a, b⟩ c hl h1 h2)⟩
theorem zg_X7_kinds {i : Nat} (hw : Cond.fieldLink own i "OffsideParserModel" "kinds" "[I" ∈ o_WS) (hd : decode cc pc = .ok (.getfield i, 3)) (k : o_Z G own cc ret nL kd En k' σ (pc + 3) L (.ref (g_ad G 26) :: st)) : o_Z G own cc ret nL kd En k' σ pc L (.ref (g_ad G 6) :: st) :=
  ⟨k.1, fun X C E H locs ls cells slots hP hS hl h1 h2 => by
    obtain ⟨ra, gf, hr, hp, hq⟩ := id hP
    exact va_get (D := g_D G) (ci := 7) (C := RX7) (T := TX7) (N := 32) C.1 C.2.1 C.2.2.2.2.2.1 oi_X7 C.2.2.2.2.1 C.2.2.2.2.2.2.2.1.1 hp 6 rfl rfl 4 (by decide) (C.2.2.2.2.2.1 _ hw) (fun _ h => h) rfl hd (k.2 X C E H locs ls cells slots hP hS hl h1 h2)⟩
theorem zg_X7_parents {i : Nat} (hw : Cond.fieldLink own i "OffsideParserModel" "parents" "[I" ∈ o_WS) (hd : decode cc pc = .ok (.getfield i, 3)) (k : o_Z G own cc ret nL kd En k' σ (pc + 3) L (.ref (g_ad G 27) :: st)) : o_Z G own cc ret nL kd En k' σ pc L (.ref (g_ad G 6) :: st) :=
  ⟨k.1, fun X C E H locs ls cells slots hP hS hl h1 h2 => by
    obtain ⟨ra, gf, hr, hp, hq⟩ := id hP
    exact va_get (D := g_D G) (ci := 7) (C := RX7) (T := TX7) (N := 32) C.1 C.2.1 C.2.2.2.2.2.1 oi_X7 C.2.2.2.2.1 C.2.2.2.2.2.2.2.1.1 hp 6 rfl rfl 5 (by decide) (C.2.2.2.2.2.1 _ hw) (fun _ h => h) rfl hd (k.2 X C E H locs ls cells slots hP hS hl h1 h2)⟩
theorem zg_X7_firsts {i : Nat} (hw : Cond.fieldLink own i "OffsideParserModel" "firsts" "[I" ∈ o_WS) (hd : decode cc pc = .ok (.getfield i, 3)) (k : o_Z G own cc ret nL kd En k' σ (pc + 3) L (.ref (g_ad G 28) :: st)) : o_Z G own cc ret nL kd En k' σ pc L (.ref (g_ad G 6) :: st) :=
  ⟨k.1, fun X C E H locs ls cells slots hP hS hl h1 h2 => by
    obtain ⟨ra, gf, hr, hp, hq⟩ := id hP
    exact va_get (D := g_D G) (ci := 7) (C := RX7) (T := TX7) (N := 32) C.1 C.2.1 C.2.2.2.2.2.1 oi_X7 C.2.2.2.2.1 C.2.2.2.2.2.2.2.1.1 hp 6 rfl rfl 6 (by decide) (C.2.2.2.2.2.1 _ hw) (fun _ h => h) rfl hd (k.2 X C E H locs ls cells slots hP hS hl h1 h2)⟩
theorem zg_X7_nexts {i : Nat} (hw : Cond.fieldLink own i "OffsideParserModel" "nexts" "[I" ∈ o_WS) (hd : decode cc pc = .ok (.getfield i, 3)) (k : o_Z G own cc ret nL kd En k' σ (pc + 3) L (.ref (g_ad G 29) :: st)) : o_Z G own cc ret nL kd En k' σ pc L (.ref (g_ad G 6) :: st) :=
  ⟨k.1, fun X C E H locs ls cells slots hP hS hl h1 h2 => by
    obtain ⟨ra, gf, hr, hp, hq⟩ := id hP
    exact va_get (D := g_D G) (ci := 7) (C := RX7) (T := TX7) (N := 32) C.1 C.2.1 C.2.2.2.2.2.1 oi_X7 C.2.2.2.2.1 C.2.2.2.2.2.2.2.1.1 hp 6 rfl rfl 7 (by decide) (C.2.2.2.2.2.1 _ hw) (fun _ h => h) rfl hd (k.2 X C E H locs ls cells slots hP hS hl h1 h2)⟩
theorem zg_X7_lines {i : Nat} (hw : Cond.fieldLink own i "OffsideParserModel" "lines" "[I" ∈ o_WS) (hd : decode cc pc = .ok (.getfield i, 3)) (k : o_Z G own cc ret nL kd En k' σ (pc + 3) L (.ref (g_ad G 30) :: st)) : o_Z G own cc ret nL kd En k' σ pc L (.ref (g_ad G 6) :: st) :=
  ⟨k.1, fun X C E H locs ls cells slots hP hS hl h1 h2 => by
    obtain ⟨ra, gf, hr, hp, hq⟩ := id hP
    exact va_get (D := g_D G) (ci := 7) (C := RX7) (T := TX7) (N := 32) C.1 C.2.1 C.2.2.2.2.2.1 oi_X7 C.2.2.2.2.1 C.2.2.2.2.2.2.2.1.1 hp 6 rfl rfl 8 (by decide) (C.2.2.2.2.2.1 _ hw) (fun _ h => h) rfl hd (k.2 X C E H locs ls cells slots hP hS hl h1 h2)⟩
theorem zg_X7_columns {i : Nat} (hw : Cond.fieldLink own i "OffsideParserModel" "columns" "[I" ∈ o_WS) (hd : decode cc pc = .ok (.getfield i, 3)) (k : o_Z G own cc ret nL kd En k' σ (pc + 3) L (.ref (g_ad G 31) :: st)) : o_Z G own cc ret nL kd En k' σ pc L (.ref (g_ad G 6) :: st) :=
  ⟨k.1, fun X C E H locs ls cells slots hP hS hl h1 h2 => by
    obtain ⟨ra, gf, hr, hp, hq⟩ := id hP
    exact va_get (D := g_D G) (ci := 7) (C := RX7) (T := TX7) (N := 32) C.1 C.2.1 C.2.2.2.2.2.1 oi_X7 C.2.2.2.2.1 C.2.2.2.2.2.2.2.1.1 hp 6 rfl rfl 9 (by decide) (C.2.2.2.2.2.1 _ hw) (fun _ h => h) rfl hd (k.2 X C E H locs ls cells slots hP hS hl h1 h2)⟩
theorem zg_X7_values {i : Nat} (hw : Cond.fieldLink own i "OffsideParserModel" "values" "[I" ∈ o_WS) (hd : decode cc pc = .ok (.getfield i, 3)) (k : o_Z G own cc ret nL kd En k' σ (pc + 3) L (.ref (g_ad G 32) :: st)) : o_Z G own cc ret nL kd En k' σ pc L (.ref (g_ad G 6) :: st) :=
  ⟨k.1, fun X C E H locs ls cells slots hP hS hl h1 h2 => by
    obtain ⟨ra, gf, hr, hp, hq⟩ := id hP
    exact va_get (D := g_D G) (ci := 7) (C := RX7) (T := TX7) (N := 32) C.1 C.2.1 C.2.2.2.2.2.1 oi_X7 C.2.2.2.2.1 C.2.2.2.2.2.2.2.1.1 hp 6 rfl rfl 10 (by decide) (C.2.2.2.2.2.1 _ hw) (fun _ h => h) rfl hd (k.2 X C E H locs ls cells slots hP hS hl h1 h2)⟩
theorem zg_X7_starts {i : Nat} (hw : Cond.fieldLink own i "OffsideParserModel" "starts" "[I" ∈ o_WS) (hd : decode cc pc = .ok (.getfield i, 3)) (k : o_Z G own cc ret nL kd En k' σ (pc + 3) L (.ref (g_ad G 33) :: st)) : o_Z G own cc ret nL kd En k' σ pc L (.ref (g_ad G 6) :: st) :=
  ⟨k.1, fun X C E H locs ls cells slots hP hS hl h1 h2 => by
    obtain ⟨ra, gf, hr, hp, hq⟩ := id hP
    exact va_get (D := g_D G) (ci := 7) (C := RX7) (T := TX7) (N := 32) C.1 C.2.1 C.2.2.2.2.2.1 oi_X7 C.2.2.2.2.1 C.2.2.2.2.2.2.2.1.1 hp 6 rfl rfl 11 (by decide) (C.2.2.2.2.2.1 _ hw) (fun _ h => h) rfl hd (k.2 X C E H locs ls cells slots hP hS hl h1 h2)⟩
theorem zg_X7_letters {i : Nat} (hw : Cond.fieldLink own i "OffsideParserModel" "letters" "[I" ∈ o_WS) (hd : decode cc pc = .ok (.getfield i, 3)) (k : o_Z G own cc ret nL kd En k' σ (pc + 3) L (.ref (g_ad G 34) :: st)) : o_Z G own cc ret nL kd En k' σ pc L (.ref (g_ad G 6) :: st) :=
  ⟨k.1, fun X C E H locs ls cells slots hP hS hl h1 h2 => by
    obtain ⟨ra, gf, hr, hp, hq⟩ := id hP
    exact va_get (D := g_D G) (ci := 7) (C := RX7) (T := TX7) (N := 32) C.1 C.2.1 C.2.2.2.2.2.1 oi_X7 C.2.2.2.2.1 C.2.2.2.2.2.2.2.1.1 hp 6 rfl rfl 12 (by decide) (C.2.2.2.2.2.1 _ hw) (fun _ h => h) rfl hd (k.2 X C E H locs ls cells slots hP hS hl h1 h2)⟩
theorem zg_X7_nodes {i : Nat} (hw : Cond.fieldLink own i "OffsideParserModel" "nodes" "I" ∈ o_WS) (hd : decode cc pc = .ok (.getfield i, 3)) (k : o_Z G own cc ret nL kd En k' σ (pc + 3) L (.int (o_F σ 18) :: st)) : o_Z G own cc ret nL kd En k' σ pc L (.ref (g_ad G 6) :: st) :=
  ⟨k.1, fun X C E H locs ls cells slots hP hS hl h1 h2 => by
    obtain ⟨ra, gf, hr, hp, hq⟩ := id hP
    exact va_get (D := g_D G) (ci := 7) (C := RX7) (T := TX7) (N := 32) C.1 C.2.1 C.2.2.2.2.2.1 oi_X7 C.2.2.2.2.1 C.2.2.2.2.2.2.2.1.1 hp 6 rfl rfl 13 (by decide) (C.2.2.2.2.2.1 _ hw) (fun _ h => h) rfl hd (k.2 X C E H locs ls cells slots hP hS hl h1 h2)⟩
theorem zp_X7_nodes {i : Nat} {v : Int32} (hw : Cond.fieldLink own i "OffsideParserModel" "nodes" "I" ∈ o_WS) (hd : decode cc pc = .ok (.putfield i, 3)) (k : o_Z G own cc ret nL kd En k' (o_setF σ 18 v) (pc + 3) L st) : o_Z G own cc ret nL kd En k' σ pc L (.int v :: .ref (g_ad G 6) :: st) :=
  ⟨k.1, fun X C E H locs ls cells slots hP hS hl h1 h2 => by
    obtain ⟨ra, gf, hr, hp, hq⟩ := hP
    exact va_put (D := g_D G) (ci := 7) (v := .int v) (ty := .int) (C := RX7) (T := TX7) (N := 32) C.1 C.2.1 C.2.2.2.2.2.1 oi_X7 tyX7 tyX7_ok nmX7 C.2.2.2.2.1 C.2.2.2.2.2.2.2.1.1 hp hq hS 6 rfl rfl 13 (by decide) (C.2.2.2.2.2.1 _ hw) (fun _ h => h) rfl (by decide +kernel) rfl rfl (Nat.le_of_ble_eq_true rfl) hd (fun H1 locs1 a b c => k.2 X C E H1 locs1 ls cells slots ⟨ra, gf, hr, a, b⟩ c hl h1 h2)⟩
theorem zg_X7_idOf {i : Nat} (hw : Cond.fieldLink own i "OffsideParserModel" "idOf" "[I" ∈ o_WS) (hd : decode cc pc = .ok (.getfield i, 3)) (k : o_Z G own cc ret nL kd En k' σ (pc + 3) L (.ref (g_ad G 35) :: st)) : o_Z G own cc ret nL kd En k' σ pc L (.ref (g_ad G 6) :: st) :=
  ⟨k.1, fun X C E H locs ls cells slots hP hS hl h1 h2 => by
    obtain ⟨ra, gf, hr, hp, hq⟩ := id hP
    exact va_get (D := g_D G) (ci := 7) (C := RX7) (T := TX7) (N := 32) C.1 C.2.1 C.2.2.2.2.2.1 oi_X7 C.2.2.2.2.1 C.2.2.2.2.2.2.2.1.1 hp 6 rfl rfl 14 (by decide) (C.2.2.2.2.2.1 _ hw) (fun _ h => h) rfl hd (k.2 X C E H locs ls cells slots hP hS hl h1 h2)⟩
theorem zg_X7_numberOf {i : Nat} (hw : Cond.fieldLink own i "OffsideParserModel" "numberOf" "[I" ∈ o_WS) (hd : decode cc pc = .ok (.getfield i, 3)) (k : o_Z G own cc ret nL kd En k' σ (pc + 3) L (.ref (g_ad G 36) :: st)) : o_Z G own cc ret nL kd En k' σ pc L (.ref (g_ad G 6) :: st) :=
  ⟨k.1, fun X C E H locs ls cells slots hP hS hl h1 h2 => by
    obtain ⟨ra, gf, hr, hp, hq⟩ := id hP
    exact va_get (D := g_D G) (ci := 7) (C := RX7) (T := TX7) (N := 32) C.1 C.2.1 C.2.2.2.2.2.1 oi_X7 C.2.2.2.2.1 C.2.2.2.2.2.2.2.1.1 hp 6 rfl rfl 15 (by decide) (C.2.2.2.2.2.1 _ hw) (fun _ h => h) rfl hd (k.2 X C E H locs ls cells slots hP hS hl h1 h2)⟩
theorem zg_X7_repairs {i : Nat} (hw : Cond.fieldLink own i "OffsideParserModel" "repairs" "I" ∈ o_WS) (hd : decode cc pc = .ok (.getfield i, 3)) (k : o_Z G own cc ret nL kd En k' σ (pc + 3) L (.int (o_F σ 19) :: st)) : o_Z G own cc ret nL kd En k' σ pc L (.ref (g_ad G 6) :: st) :=
  ⟨k.1, fun X C E H locs ls cells slots hP hS hl h1 h2 => by
    obtain ⟨ra, gf, hr, hp, hq⟩ := id hP
    exact va_get (D := g_D G) (ci := 7) (C := RX7) (T := TX7) (N := 32) C.1 C.2.1 C.2.2.2.2.2.1 oi_X7 C.2.2.2.2.1 C.2.2.2.2.2.2.2.1.1 hp 6 rfl rfl 16 (by decide) (C.2.2.2.2.2.1 _ hw) (fun _ h => h) rfl hd (k.2 X C E H locs ls cells slots hP hS hl h1 h2)⟩
theorem zp_X7_repairs {i : Nat} {v : Int32} (hw : Cond.fieldLink own i "OffsideParserModel" "repairs" "I" ∈ o_WS) (hd : decode cc pc = .ok (.putfield i, 3)) (k : o_Z G own cc ret nL kd En k' (o_setF σ 19 v) (pc + 3) L st) : o_Z G own cc ret nL kd En k' σ pc L (.int v :: .ref (g_ad G 6) :: st) :=
  ⟨k.1, fun X C E H locs ls cells slots hP hS hl h1 h2 => by
    obtain ⟨ra, gf, hr, hp, hq⟩ := hP
    exact va_put (D := g_D G) (ci := 7) (v := .int v) (ty := .int) (C := RX7) (T := TX7) (N := 32) C.1 C.2.1 C.2.2.2.2.2.1 oi_X7 tyX7 tyX7_ok nmX7 C.2.2.2.2.1 C.2.2.2.2.2.2.2.1.1 hp hq hS 6 rfl rfl 16 (by decide) (C.2.2.2.2.2.1 _ hw) (fun _ h => h) rfl (by decide +kernel) rfl rfl (Nat.le_of_ble_eq_true rfl) hd (fun H1 locs1 a b c => k.2 X C E H1 locs1 ls cells slots ⟨ra, gf, hr, a, b⟩ c hl h1 h2)⟩
theorem zg_X7_repairParts {i : Nat} (hw : Cond.fieldLink own i "OffsideParserModel" "repairParts" "[I" ∈ o_WS) (hd : decode cc pc = .ok (.getfield i, 3)) (k : o_Z G own cc ret nL kd En k' σ (pc + 3) L (.ref (g_ad G 37) :: st)) : o_Z G own cc ret nL kd En k' σ pc L (.ref (g_ad G 6) :: st) :=
  ⟨k.1, fun X C E H locs ls cells slots hP hS hl h1 h2 => by
    obtain ⟨ra, gf, hr, hp, hq⟩ := id hP
    exact va_get (D := g_D G) (ci := 7) (C := RX7) (T := TX7) (N := 32) C.1 C.2.1 C.2.2.2.2.2.1 oi_X7 C.2.2.2.2.1 C.2.2.2.2.2.2.2.1.1 hp 6 rfl rfl 17 (by decide) (C.2.2.2.2.2.1 _ hw) (fun _ h => h) rfl hd (k.2 X C E H locs ls cells slots hP hS hl h1 h2)⟩
theorem zg_X7_output {i : Nat} (hw : Cond.fieldLink own i "OffsideParserModel" "output" "[I" ∈ o_WS) (hd : decode cc pc = .ok (.getfield i, 3)) (k : o_Z G own cc ret nL kd En k' σ (pc + 3) L (.ref (g_ad G 38) :: st)) : o_Z G own cc ret nL kd En k' σ pc L (.ref (g_ad G 6) :: st) :=
  ⟨k.1, fun X C E H locs ls cells slots hP hS hl h1 h2 => by
    obtain ⟨ra, gf, hr, hp, hq⟩ := id hP
    exact va_get (D := g_D G) (ci := 7) (C := RX7) (T := TX7) (N := 32) C.1 C.2.1 C.2.2.2.2.2.1 oi_X7 C.2.2.2.2.1 C.2.2.2.2.2.2.2.1.1 hp 6 rfl rfl 18 (by decide) (C.2.2.2.2.2.1 _ hw) (fun _ h => h) rfl hd (k.2 X C E H locs ls cells slots hP hS hl h1 h2)⟩
theorem zg_X7_written {i : Nat} (hw : Cond.fieldLink own i "OffsideParserModel" "written" "I" ∈ o_WS) (hd : decode cc pc = .ok (.getfield i, 3)) (k : o_Z G own cc ret nL kd En k' σ (pc + 3) L (.int (o_F σ 20) :: st)) : o_Z G own cc ret nL kd En k' σ pc L (.ref (g_ad G 6) :: st) :=
  ⟨k.1, fun X C E H locs ls cells slots hP hS hl h1 h2 => by
    obtain ⟨ra, gf, hr, hp, hq⟩ := id hP
    exact va_get (D := g_D G) (ci := 7) (C := RX7) (T := TX7) (N := 32) C.1 C.2.1 C.2.2.2.2.2.1 oi_X7 C.2.2.2.2.1 C.2.2.2.2.2.2.2.1.1 hp 6 rfl rfl 19 (by decide) (C.2.2.2.2.2.1 _ hw) (fun _ h => h) rfl hd (k.2 X C E H locs ls cells slots hP hS hl h1 h2)⟩
theorem zp_X7_written {i : Nat} {v : Int32} (hw : Cond.fieldLink own i "OffsideParserModel" "written" "I" ∈ o_WS) (hd : decode cc pc = .ok (.putfield i, 3)) (k : o_Z G own cc ret nL kd En k' (o_setF σ 20 v) (pc + 3) L st) : o_Z G own cc ret nL kd En k' σ pc L (.int v :: .ref (g_ad G 6) :: st) :=
  ⟨k.1, fun X C E H locs ls cells slots hP hS hl h1 h2 => by
    obtain ⟨ra, gf, hr, hp, hq⟩ := hP
    exact va_put (D := g_D G) (ci := 7) (v := .int v) (ty := .int) (C := RX7) (T := TX7) (N := 32) C.1 C.2.1 C.2.2.2.2.2.1 oi_X7 tyX7 tyX7_ok nmX7 C.2.2.2.2.1 C.2.2.2.2.2.2.2.1.1 hp hq hS 6 rfl rfl 19 (by decide) (C.2.2.2.2.2.1 _ hw) (fun _ h => h) rfl (by decide +kernel) rfl rfl (Nat.le_of_ble_eq_true rfl) hd (fun H1 locs1 a b c => k.2 X C E H1 locs1 ls cells slots ⟨ra, gf, hr, a, b⟩ c hl h1 h2)⟩
theorem zg_X7_fed {i : Nat} (hw : Cond.fieldLink own i "OffsideParserModel" "fed" "[I" ∈ o_WS) (hd : decode cc pc = .ok (.getfield i, 3)) (k : o_Z G own cc ret nL kd En k' σ (pc + 3) L (.ref (g_ad G 39) :: st)) : o_Z G own cc ret nL kd En k' σ pc L (.ref (g_ad G 6) :: st) :=
  ⟨k.1, fun X C E H locs ls cells slots hP hS hl h1 h2 => by
    obtain ⟨ra, gf, hr, hp, hq⟩ := id hP
    exact va_get (D := g_D G) (ci := 7) (C := RX7) (T := TX7) (N := 32) C.1 C.2.1 C.2.2.2.2.2.1 oi_X7 C.2.2.2.2.1 C.2.2.2.2.2.2.2.1.1 hp 6 rfl rfl 20 (by decide) (C.2.2.2.2.2.1 _ hw) (fun _ h => h) rfl hd (k.2 X C E H locs ls cells slots hP hS hl h1 h2)⟩
theorem zg_X7_open {i : Nat} (hw : Cond.fieldLink own i "OffsideParserModel" "open" "I" ∈ o_WS) (hd : decode cc pc = .ok (.getfield i, 3)) (k : o_Z G own cc ret nL kd En k' σ (pc + 3) L (.int (o_F σ 21) :: st)) : o_Z G own cc ret nL kd En k' σ pc L (.ref (g_ad G 6) :: st) :=
  ⟨k.1, fun X C E H locs ls cells slots hP hS hl h1 h2 => by
    obtain ⟨ra, gf, hr, hp, hq⟩ := id hP
    exact va_get (D := g_D G) (ci := 7) (C := RX7) (T := TX7) (N := 32) C.1 C.2.1 C.2.2.2.2.2.1 oi_X7 C.2.2.2.2.1 C.2.2.2.2.2.2.2.1.1 hp 6 rfl rfl 21 (by decide) (C.2.2.2.2.2.1 _ hw) (fun _ h => h) rfl hd (k.2 X C E H locs ls cells slots hP hS hl h1 h2)⟩
theorem zp_X7_open {i : Nat} {v : Int32} (hw : Cond.fieldLink own i "OffsideParserModel" "open" "I" ∈ o_WS) (hd : decode cc pc = .ok (.putfield i, 3)) (k : o_Z G own cc ret nL kd En k' (o_setF σ 21 v) (pc + 3) L st) : o_Z G own cc ret nL kd En k' σ pc L (.int v :: .ref (g_ad G 6) :: st) :=
  ⟨k.1, fun X C E H locs ls cells slots hP hS hl h1 h2 => by
    obtain ⟨ra, gf, hr, hp, hq⟩ := hP
    exact va_put (D := g_D G) (ci := 7) (v := .int v) (ty := .int) (C := RX7) (T := TX7) (N := 32) C.1 C.2.1 C.2.2.2.2.2.1 oi_X7 tyX7 tyX7_ok nmX7 C.2.2.2.2.1 C.2.2.2.2.2.2.2.1.1 hp hq hS 6 rfl rfl 21 (by decide) (C.2.2.2.2.2.1 _ hw) (fun _ h => h) rfl (by decide +kernel) rfl rfl (Nat.le_of_ble_eq_true rfl) hd (fun H1 locs1 a b c => k.2 X C E H1 locs1 ls cells slots ⟨ra, gf, hr, a, b⟩ c hl h1 h2)⟩
theorem zg_X7_openIds {i : Nat} (hw : Cond.fieldLink own i "OffsideParserModel" "openIds" "[I" ∈ o_WS) (hd : decode cc pc = .ok (.getfield i, 3)) (k : o_Z G own cc ret nL kd En k' σ (pc + 3) L (.ref (g_ad G 40) :: st)) : o_Z G own cc ret nL kd En k' σ pc L (.ref (g_ad G 6) :: st) :=
  ⟨k.1, fun X C E H locs ls cells slots hP hS hl h1 h2 => by
    obtain ⟨ra, gf, hr, hp, hq⟩ := id hP
    exact va_get (D := g_D G) (ci := 7) (C := RX7) (T := TX7) (N := 32) C.1 C.2.1 C.2.2.2.2.2.1 oi_X7 C.2.2.2.2.1 C.2.2.2.2.2.2.2.1.1 hp 6 rfl rfl 22 (by decide) (C.2.2.2.2.2.1 _ hw) (fun _ h => h) rfl hd (k.2 X C E H locs ls cells slots hP hS hl h1 h2)⟩
theorem zg_X7_openColumns {i : Nat} (hw : Cond.fieldLink own i "OffsideParserModel" "openColumns" "[I" ∈ o_WS) (hd : decode cc pc = .ok (.getfield i, 3)) (k : o_Z G own cc ret nL kd En k' σ (pc + 3) L (.ref (g_ad G 41) :: st)) : o_Z G own cc ret nL kd En k' σ pc L (.ref (g_ad G 6) :: st) :=
  ⟨k.1, fun X C E H locs ls cells slots hP hS hl h1 h2 => by
    obtain ⟨ra, gf, hr, hp, hq⟩ := id hP
    exact va_get (D := g_D G) (ci := 7) (C := RX7) (T := TX7) (N := 32) C.1 C.2.1 C.2.2.2.2.2.1 oi_X7 C.2.2.2.2.1 C.2.2.2.2.2.2.2.1.1 hp 6 rfl rfl 23 (by decide) (C.2.2.2.2.2.1 _ hw) (fun _ h => h) rfl hd (k.2 X C E H locs ls cells slots hP hS hl h1 h2)⟩
theorem zg_X7_items {i : Nat} (hw : Cond.fieldLink own i "OffsideParserModel" "items" "[I" ∈ o_WS) (hd : decode cc pc = .ok (.getfield i, 3)) (k : o_Z G own cc ret nL kd En k' σ (pc + 3) L (.ref (g_ad G 42) :: st)) : o_Z G own cc ret nL kd En k' σ pc L (.ref (g_ad G 6) :: st) :=
  ⟨k.1, fun X C E H locs ls cells slots hP hS hl h1 h2 => by
    obtain ⟨ra, gf, hr, hp, hq⟩ := id hP
    exact va_get (D := g_D G) (ci := 7) (C := RX7) (T := TX7) (N := 32) C.1 C.2.1 C.2.2.2.2.2.1 oi_X7 C.2.2.2.2.1 C.2.2.2.2.2.2.2.1.1 hp 6 rfl rfl 24 (by decide) (C.2.2.2.2.2.1 _ hw) (fun _ h => h) rfl hd (k.2 X C E H locs ls cells slots hP hS hl h1 h2)⟩
theorem zg_X7_hasColon {i : Nat} (hw : Cond.fieldLink own i "OffsideParserModel" "hasColon" "Z" ∈ o_WS) (hd : decode cc pc = .ok (.getfield i, 3)) (k : o_Z G own cc ret nL kd En k' σ (pc + 3) L (.int (o_F σ 22) :: st)) : o_Z G own cc ret nL kd En k' σ pc L (.ref (g_ad G 6) :: st) :=
  ⟨k.1, fun X C E H locs ls cells slots hP hS hl h1 h2 => by
    obtain ⟨ra, gf, hr, hp, hq⟩ := id hP
    exact va_get (D := g_D G) (ci := 7) (C := RX7) (T := TX7) (N := 32) C.1 C.2.1 C.2.2.2.2.2.1 oi_X7 C.2.2.2.2.1 C.2.2.2.2.2.2.2.1.1 hp 6 rfl rfl 25 (by decide) (C.2.2.2.2.2.1 _ hw) (fun _ h => h) rfl hd (k.2 X C E H locs ls cells slots hP hS hl h1 h2)⟩
theorem zp_X7_hasColon {i : Nat} {v : Int32} (hb : v = 0 ∨ v = 1) (hw : Cond.fieldLink own i "OffsideParserModel" "hasColon" "Z" ∈ o_WS) (hd : decode cc pc = .ok (.putfield i, 3)) (k : o_Z G own cc ret nL kd En k' (o_setF σ 22 v) (pc + 3) L st) : o_Z G own cc ret nL kd En k' σ pc L (.int v :: .ref (g_ad G 6) :: st) :=
  ⟨k.1, fun X C E H locs ls cells slots hP hS hl h1 h2 => by
    obtain ⟨ra, gf, hr, hp, hq⟩ := hP
    exact va_put (D := g_D G) (ci := 7) (v := .int v) (ty := .boolean) (C := RX7) (T := TX7) (N := 32) C.1 C.2.1 C.2.2.2.2.2.1 oi_X7 tyX7 tyX7_ok nmX7 C.2.2.2.2.1 C.2.2.2.2.2.2.2.1.1 hp hq hS 6 rfl rfl 25 (by decide) (C.2.2.2.2.2.1 _ hw) (fun _ h => h) rfl (by decide +kernel) (by rcases hb with rfl | rfl <;> rfl) (by rcases hb with rfl | rfl <;> rfl) (Nat.le_of_ble_eq_true rfl) hd (fun H1 locs1 a b c => k.2 X C E H1 locs1 ls cells slots ⟨ra, gf, hr, a, b⟩ c hl h1 h2)⟩
theorem zg_X7_token {i : Nat} (hw : Cond.fieldLink own i "OffsideParserModel" "token" "I" ∈ o_WS) (hd : decode cc pc = .ok (.getfield i, 3)) (k : o_Z G own cc ret nL kd En k' σ (pc + 3) L (.int (o_F σ 23) :: st)) : o_Z G own cc ret nL kd En k' σ pc L (.ref (g_ad G 6) :: st) :=
  ⟨k.1, fun X C E H locs ls cells slots hP hS hl h1 h2 => by
    obtain ⟨ra, gf, hr, hp, hq⟩ := id hP
    exact va_get (D := g_D G) (ci := 7) (C := RX7) (T := TX7) (N := 32) C.1 C.2.1 C.2.2.2.2.2.1 oi_X7 C.2.2.2.2.1 C.2.2.2.2.2.2.2.1.1 hp 6 rfl rfl 26 (by decide) (C.2.2.2.2.2.1 _ hw) (fun _ h => h) rfl hd (k.2 X C E H locs ls cells slots hP hS hl h1 h2)⟩
theorem zp_X7_token {i : Nat} {v : Int32} (hw : Cond.fieldLink own i "OffsideParserModel" "token" "I" ∈ o_WS) (hd : decode cc pc = .ok (.putfield i, 3)) (k : o_Z G own cc ret nL kd En k' (o_setF σ 23 v) (pc + 3) L st) : o_Z G own cc ret nL kd En k' σ pc L (.int v :: .ref (g_ad G 6) :: st) :=
  ⟨k.1, fun X C E H locs ls cells slots hP hS hl h1 h2 => by
    obtain ⟨ra, gf, hr, hp, hq⟩ := hP
    exact va_put (D := g_D G) (ci := 7) (v := .int v) (ty := .int) (C := RX7) (T := TX7) (N := 32) C.1 C.2.1 C.2.2.2.2.2.1 oi_X7 tyX7 tyX7_ok nmX7 C.2.2.2.2.1 C.2.2.2.2.2.2.2.1.1 hp hq hS 6 rfl rfl 26 (by decide) (C.2.2.2.2.2.1 _ hw) (fun _ h => h) rfl (by decide +kernel) rfl rfl (Nat.le_of_ble_eq_true rfl) hd (fun H1 locs1 a b c => k.2 X C E H1 locs1 ls cells slots ⟨ra, gf, hr, a, b⟩ c hl h1 h2)⟩
theorem zg_X7_start {i : Nat} (hw : Cond.fieldLink own i "OffsideParserModel" "start" "I" ∈ o_WS) (hd : decode cc pc = .ok (.getfield i, 3)) (k : o_Z G own cc ret nL kd En k' σ (pc + 3) L (.int (o_F σ 24) :: st)) : o_Z G own cc ret nL kd En k' σ pc L (.ref (g_ad G 6) :: st) :=
  ⟨k.1, fun X C E H locs ls cells slots hP hS hl h1 h2 => by
    obtain ⟨ra, gf, hr, hp, hq⟩ := id hP
    exact va_get (D := g_D G) (ci := 7) (C := RX7) (T := TX7) (N := 32) C.1 C.2.1 C.2.2.2.2.2.1 oi_X7 C.2.2.2.2.1 C.2.2.2.2.2.2.2.1.1 hp 6 rfl rfl 27 (by decide) (C.2.2.2.2.2.1 _ hw) (fun _ h => h) rfl hd (k.2 X C E H locs ls cells slots hP hS hl h1 h2)⟩
theorem zp_X7_start {i : Nat} {v : Int32} (hw : Cond.fieldLink own i "OffsideParserModel" "start" "I" ∈ o_WS) (hd : decode cc pc = .ok (.putfield i, 3)) (k : o_Z G own cc ret nL kd En k' (o_setF σ 24 v) (pc + 3) L st) : o_Z G own cc ret nL kd En k' σ pc L (.int v :: .ref (g_ad G 6) :: st) :=
  ⟨k.1, fun X C E H locs ls cells slots hP hS hl h1 h2 => by
    obtain ⟨ra, gf, hr, hp, hq⟩ := hP
    exact va_put (D := g_D G) (ci := 7) (v := .int v) (ty := .int) (C := RX7) (T := TX7) (N := 32) C.1 C.2.1 C.2.2.2.2.2.1 oi_X7 tyX7 tyX7_ok nmX7 C.2.2.2.2.1 C.2.2.2.2.2.2.2.1.1 hp hq hS 6 rfl rfl 27 (by decide) (C.2.2.2.2.2.1 _ hw) (fun _ h => h) rfl (by decide +kernel) rfl rfl (Nat.le_of_ble_eq_true rfl) hd (fun H1 locs1 a b c => k.2 X C E H1 locs1 ls cells slots ⟨ra, gf, hr, a, b⟩ c hl h1 h2)⟩
theorem zg_X7_end {i : Nat} (hw : Cond.fieldLink own i "OffsideParserModel" "end" "I" ∈ o_WS) (hd : decode cc pc = .ok (.getfield i, 3)) (k : o_Z G own cc ret nL kd En k' σ (pc + 3) L (.int (o_F σ 25) :: st)) : o_Z G own cc ret nL kd En k' σ pc L (.ref (g_ad G 6) :: st) :=
  ⟨k.1, fun X C E H locs ls cells slots hP hS hl h1 h2 => by
    obtain ⟨ra, gf, hr, hp, hq⟩ := id hP
    exact va_get (D := g_D G) (ci := 7) (C := RX7) (T := TX7) (N := 32) C.1 C.2.1 C.2.2.2.2.2.1 oi_X7 C.2.2.2.2.1 C.2.2.2.2.2.2.2.1.1 hp 6 rfl rfl 28 (by decide) (C.2.2.2.2.2.1 _ hw) (fun _ h => h) rfl hd (k.2 X C E H locs ls cells slots hP hS hl h1 h2)⟩
theorem zp_X7_end {i : Nat} {v : Int32} (hw : Cond.fieldLink own i "OffsideParserModel" "end" "I" ∈ o_WS) (hd : decode cc pc = .ok (.putfield i, 3)) (k : o_Z G own cc ret nL kd En k' (o_setF σ 25 v) (pc + 3) L st) : o_Z G own cc ret nL kd En k' σ pc L (.int v :: .ref (g_ad G 6) :: st) :=
  ⟨k.1, fun X C E H locs ls cells slots hP hS hl h1 h2 => by
    obtain ⟨ra, gf, hr, hp, hq⟩ := hP
    exact va_put (D := g_D G) (ci := 7) (v := .int v) (ty := .int) (C := RX7) (T := TX7) (N := 32) C.1 C.2.1 C.2.2.2.2.2.1 oi_X7 tyX7 tyX7_ok nmX7 C.2.2.2.2.1 C.2.2.2.2.2.2.2.1.1 hp hq hS 6 rfl rfl 28 (by decide) (C.2.2.2.2.2.1 _ hw) (fun _ h => h) rfl (by decide +kernel) rfl rfl (Nat.le_of_ble_eq_true rfl) hd (fun H1 locs1 a b c => k.2 X C E H1 locs1 ls cells slots ⟨ra, gf, hr, a, b⟩ c hl h1 h2)⟩
theorem zg_X7_line {i : Nat} (hw : Cond.fieldLink own i "OffsideParserModel" "line" "I" ∈ o_WS) (hd : decode cc pc = .ok (.getfield i, 3)) (k : o_Z G own cc ret nL kd En k' σ (pc + 3) L (.int (o_F σ 26) :: st)) : o_Z G own cc ret nL kd En k' σ pc L (.ref (g_ad G 6) :: st) :=
  ⟨k.1, fun X C E H locs ls cells slots hP hS hl h1 h2 => by
    obtain ⟨ra, gf, hr, hp, hq⟩ := id hP
    exact va_get (D := g_D G) (ci := 7) (C := RX7) (T := TX7) (N := 32) C.1 C.2.1 C.2.2.2.2.2.1 oi_X7 C.2.2.2.2.1 C.2.2.2.2.2.2.2.1.1 hp 6 rfl rfl 29 (by decide) (C.2.2.2.2.2.1 _ hw) (fun _ h => h) rfl hd (k.2 X C E H locs ls cells slots hP hS hl h1 h2)⟩
theorem zp_X7_line {i : Nat} {v : Int32} (hw : Cond.fieldLink own i "OffsideParserModel" "line" "I" ∈ o_WS) (hd : decode cc pc = .ok (.putfield i, 3)) (k : o_Z G own cc ret nL kd En k' (o_setF σ 26 v) (pc + 3) L st) : o_Z G own cc ret nL kd En k' σ pc L (.int v :: .ref (g_ad G 6) :: st) :=
  ⟨k.1, fun X C E H locs ls cells slots hP hS hl h1 h2 => by
    obtain ⟨ra, gf, hr, hp, hq⟩ := hP
    exact va_put (D := g_D G) (ci := 7) (v := .int v) (ty := .int) (C := RX7) (T := TX7) (N := 32) C.1 C.2.1 C.2.2.2.2.2.1 oi_X7 tyX7 tyX7_ok nmX7 C.2.2.2.2.1 C.2.2.2.2.2.2.2.1.1 hp hq hS 6 rfl rfl 29 (by decide) (C.2.2.2.2.2.1 _ hw) (fun _ h => h) rfl (by decide +kernel) rfl rfl (Nat.le_of_ble_eq_true rfl) hd (fun H1 locs1 a b c => k.2 X C E H1 locs1 ls cells slots ⟨ra, gf, hr, a, b⟩ c hl h1 h2)⟩
theorem zg_X7_column {i : Nat} (hw : Cond.fieldLink own i "OffsideParserModel" "column" "I" ∈ o_WS) (hd : decode cc pc = .ok (.getfield i, 3)) (k : o_Z G own cc ret nL kd En k' σ (pc + 3) L (.int (o_F σ 27) :: st)) : o_Z G own cc ret nL kd En k' σ pc L (.ref (g_ad G 6) :: st) :=
  ⟨k.1, fun X C E H locs ls cells slots hP hS hl h1 h2 => by
    obtain ⟨ra, gf, hr, hp, hq⟩ := id hP
    exact va_get (D := g_D G) (ci := 7) (C := RX7) (T := TX7) (N := 32) C.1 C.2.1 C.2.2.2.2.2.1 oi_X7 C.2.2.2.2.1 C.2.2.2.2.2.2.2.1.1 hp 6 rfl rfl 30 (by decide) (C.2.2.2.2.2.1 _ hw) (fun _ h => h) rfl hd (k.2 X C E H locs ls cells slots hP hS hl h1 h2)⟩
theorem zp_X7_column {i : Nat} {v : Int32} (hw : Cond.fieldLink own i "OffsideParserModel" "column" "I" ∈ o_WS) (hd : decode cc pc = .ok (.putfield i, 3)) (k : o_Z G own cc ret nL kd En k' (o_setF σ 27 v) (pc + 3) L st) : o_Z G own cc ret nL kd En k' σ pc L (.int v :: .ref (g_ad G 6) :: st) :=
  ⟨k.1, fun X C E H locs ls cells slots hP hS hl h1 h2 => by
    obtain ⟨ra, gf, hr, hp, hq⟩ := hP
    exact va_put (D := g_D G) (ci := 7) (v := .int v) (ty := .int) (C := RX7) (T := TX7) (N := 32) C.1 C.2.1 C.2.2.2.2.2.1 oi_X7 tyX7 tyX7_ok nmX7 C.2.2.2.2.1 C.2.2.2.2.2.2.2.1.1 hp hq hS 6 rfl rfl 30 (by decide) (C.2.2.2.2.2.1 _ hw) (fun _ h => h) rfl (by decide +kernel) rfl rfl (Nat.le_of_ble_eq_true rfl) hd (fun H1 locs1 a b c => k.2 X C E H1 locs1 ls cells slots ⟨ra, gf, hr, a, b⟩ c hl h1 h2)⟩
theorem zg_X7_isFirst {i : Nat} (hw : Cond.fieldLink own i "OffsideParserModel" "isFirst" "Z" ∈ o_WS) (hd : decode cc pc = .ok (.getfield i, 3)) (k : o_Z G own cc ret nL kd En k' σ (pc + 3) L (.int (o_F σ 28) :: st)) : o_Z G own cc ret nL kd En k' σ pc L (.ref (g_ad G 6) :: st) :=
  ⟨k.1, fun X C E H locs ls cells slots hP hS hl h1 h2 => by
    obtain ⟨ra, gf, hr, hp, hq⟩ := id hP
    exact va_get (D := g_D G) (ci := 7) (C := RX7) (T := TX7) (N := 32) C.1 C.2.1 C.2.2.2.2.2.1 oi_X7 C.2.2.2.2.1 C.2.2.2.2.2.2.2.1.1 hp 6 rfl rfl 31 (by decide) (C.2.2.2.2.2.1 _ hw) (fun _ h => h) rfl hd (k.2 X C E H locs ls cells slots hP hS hl h1 h2)⟩
theorem zp_X7_isFirst {i : Nat} {v : Int32} (hb : v = 0 ∨ v = 1) (hw : Cond.fieldLink own i "OffsideParserModel" "isFirst" "Z" ∈ o_WS) (hd : decode cc pc = .ok (.putfield i, 3)) (k : o_Z G own cc ret nL kd En k' (o_setF σ 28 v) (pc + 3) L st) : o_Z G own cc ret nL kd En k' σ pc L (.int v :: .ref (g_ad G 6) :: st) :=
  ⟨k.1, fun X C E H locs ls cells slots hP hS hl h1 h2 => by
    obtain ⟨ra, gf, hr, hp, hq⟩ := hP
    exact va_put (D := g_D G) (ci := 7) (v := .int v) (ty := .boolean) (C := RX7) (T := TX7) (N := 32) C.1 C.2.1 C.2.2.2.2.2.1 oi_X7 tyX7 tyX7_ok nmX7 C.2.2.2.2.1 C.2.2.2.2.2.2.2.1.1 hp hq hS 6 rfl rfl 31 (by decide) (C.2.2.2.2.2.1 _ hw) (fun _ h => h) rfl (by decide +kernel) (by rcases hb with rfl | rfl <;> rfl) (by rcases hb with rfl | rfl <;> rfl) (Nat.le_of_ble_eq_true rfl) hd (fun H1 locs1 a b c => k.2 X C E H1 locs1 ls cells slots ⟨ra, gf, hr, a, b⟩ c hl h1 h2)⟩
theorem za_text {i : Int32} (hin : ¬ (i < 0 ∨ 600 ≤ i.toNatClampNeg)) (hd : decode cc pc = .ok (.iaload, 1)) (k : o_Z G own cc ret nL kd En k' σ (pc + 1) L (.int (o_A σ 0 i.toNatClampNeg) :: st)) : o_Z G own cc ret nL kd En k' σ pc L (.int i :: .ref (g_ad G 25) :: st) :=
  ⟨k.1, fun X C E H locs ls cells slots hP hS hl h1 h2 => by
    obtain ⟨ra, gf, hr, hp, hq⟩ := id hP
    exact va_iald C.1 C.2.1 C.2.2.2.2.2.2.2.1.1 hp 25 0 rfl rfl hin hd (k.2 X C E H locs ls cells slots hP hS hl h1 h2)⟩
theorem zs_text {i v : Int32} (hin : ¬ (i < 0 ∨ 600 ≤ i.toNatClampNeg)) (hd : decode cc pc = .ok (.iastore, 1)) (k : o_Z G own cc ret nL kd En k' (o_setA σ 0 i.toNatClampNeg v) (pc + 1) L st) : o_Z G own cc ret nL kd En k' σ pc L (.int v :: .int i :: .ref (g_ad G 25) :: st) :=
  ⟨k.1, fun X C E H locs ls cells slots hP hS hl h1 h2 => by
    obtain ⟨ra, gf, hr, hp, hq⟩ := hP
    exact va_iast C.1 C.2.1 C.2.2.2.2.2.2.2.1.1 hp hq hS 25 0 rfl rfl hin hd (fun H1 locs1 a b c => k.2 X C E H1 locs1 ls cells slots ⟨ra, gf, hr, a, b⟩ c hl h1 h2)⟩
theorem za_kinds {i : Int32} (hin : ¬ (i < 0 ∨ 1500 ≤ i.toNatClampNeg)) (hd : decode cc pc = .ok (.iaload, 1)) (k : o_Z G own cc ret nL kd En k' σ (pc + 1) L (.int (o_A σ 1 i.toNatClampNeg) :: st)) : o_Z G own cc ret nL kd En k' σ pc L (.int i :: .ref (g_ad G 26) :: st) :=
  ⟨k.1, fun X C E H locs ls cells slots hP hS hl h1 h2 => by
    obtain ⟨ra, gf, hr, hp, hq⟩ := id hP
    exact va_iald C.1 C.2.1 C.2.2.2.2.2.2.2.1.1 hp 26 0 rfl rfl hin hd (k.2 X C E H locs ls cells slots hP hS hl h1 h2)⟩
theorem zs_kinds {i v : Int32} (hin : ¬ (i < 0 ∨ 1500 ≤ i.toNatClampNeg)) (hd : decode cc pc = .ok (.iastore, 1)) (k : o_Z G own cc ret nL kd En k' (o_setA σ 1 i.toNatClampNeg v) (pc + 1) L st) : o_Z G own cc ret nL kd En k' σ pc L (.int v :: .int i :: .ref (g_ad G 26) :: st) :=
  ⟨k.1, fun X C E H locs ls cells slots hP hS hl h1 h2 => by
    obtain ⟨ra, gf, hr, hp, hq⟩ := hP
    exact va_iast C.1 C.2.1 C.2.2.2.2.2.2.2.1.1 hp hq hS 26 0 rfl rfl hin hd (fun H1 locs1 a b c => k.2 X C E H1 locs1 ls cells slots ⟨ra, gf, hr, a, b⟩ c hl h1 h2)⟩
theorem za_parents {i : Int32} (hin : ¬ (i < 0 ∨ 1500 ≤ i.toNatClampNeg)) (hd : decode cc pc = .ok (.iaload, 1)) (k : o_Z G own cc ret nL kd En k' σ (pc + 1) L (.int (o_A σ 2 i.toNatClampNeg) :: st)) : o_Z G own cc ret nL kd En k' σ pc L (.int i :: .ref (g_ad G 27) :: st) :=
  ⟨k.1, fun X C E H locs ls cells slots hP hS hl h1 h2 => by
    obtain ⟨ra, gf, hr, hp, hq⟩ := id hP
    exact va_iald C.1 C.2.1 C.2.2.2.2.2.2.2.1.1 hp 27 0 rfl rfl hin hd (k.2 X C E H locs ls cells slots hP hS hl h1 h2)⟩
theorem zs_parents {i v : Int32} (hin : ¬ (i < 0 ∨ 1500 ≤ i.toNatClampNeg)) (hd : decode cc pc = .ok (.iastore, 1)) (k : o_Z G own cc ret nL kd En k' (o_setA σ 2 i.toNatClampNeg v) (pc + 1) L st) : o_Z G own cc ret nL kd En k' σ pc L (.int v :: .int i :: .ref (g_ad G 27) :: st) :=
  ⟨k.1, fun X C E H locs ls cells slots hP hS hl h1 h2 => by
    obtain ⟨ra, gf, hr, hp, hq⟩ := hP
    exact va_iast C.1 C.2.1 C.2.2.2.2.2.2.2.1.1 hp hq hS 27 0 rfl rfl hin hd (fun H1 locs1 a b c => k.2 X C E H1 locs1 ls cells slots ⟨ra, gf, hr, a, b⟩ c hl h1 h2)⟩
theorem za_firsts {i : Int32} (hin : ¬ (i < 0 ∨ 1500 ≤ i.toNatClampNeg)) (hd : decode cc pc = .ok (.iaload, 1)) (k : o_Z G own cc ret nL kd En k' σ (pc + 1) L (.int (o_A σ 3 i.toNatClampNeg) :: st)) : o_Z G own cc ret nL kd En k' σ pc L (.int i :: .ref (g_ad G 28) :: st) :=
  ⟨k.1, fun X C E H locs ls cells slots hP hS hl h1 h2 => by
    obtain ⟨ra, gf, hr, hp, hq⟩ := id hP
    exact va_iald C.1 C.2.1 C.2.2.2.2.2.2.2.1.1 hp 28 0 rfl rfl hin hd (k.2 X C E H locs ls cells slots hP hS hl h1 h2)⟩
theorem zs_firsts {i v : Int32} (hin : ¬ (i < 0 ∨ 1500 ≤ i.toNatClampNeg)) (hd : decode cc pc = .ok (.iastore, 1)) (k : o_Z G own cc ret nL kd En k' (o_setA σ 3 i.toNatClampNeg v) (pc + 1) L st) : o_Z G own cc ret nL kd En k' σ pc L (.int v :: .int i :: .ref (g_ad G 28) :: st) :=
  ⟨k.1, fun X C E H locs ls cells slots hP hS hl h1 h2 => by
    obtain ⟨ra, gf, hr, hp, hq⟩ := hP
    exact va_iast C.1 C.2.1 C.2.2.2.2.2.2.2.1.1 hp hq hS 28 0 rfl rfl hin hd (fun H1 locs1 a b c => k.2 X C E H1 locs1 ls cells slots ⟨ra, gf, hr, a, b⟩ c hl h1 h2)⟩
theorem za_nexts {i : Int32} (hin : ¬ (i < 0 ∨ 1500 ≤ i.toNatClampNeg)) (hd : decode cc pc = .ok (.iaload, 1)) (k : o_Z G own cc ret nL kd En k' σ (pc + 1) L (.int (o_A σ 4 i.toNatClampNeg) :: st)) : o_Z G own cc ret nL kd En k' σ pc L (.int i :: .ref (g_ad G 29) :: st) :=
  ⟨k.1, fun X C E H locs ls cells slots hP hS hl h1 h2 => by
    obtain ⟨ra, gf, hr, hp, hq⟩ := id hP
    exact va_iald C.1 C.2.1 C.2.2.2.2.2.2.2.1.1 hp 29 0 rfl rfl hin hd (k.2 X C E H locs ls cells slots hP hS hl h1 h2)⟩
theorem zs_nexts {i v : Int32} (hin : ¬ (i < 0 ∨ 1500 ≤ i.toNatClampNeg)) (hd : decode cc pc = .ok (.iastore, 1)) (k : o_Z G own cc ret nL kd En k' (o_setA σ 4 i.toNatClampNeg v) (pc + 1) L st) : o_Z G own cc ret nL kd En k' σ pc L (.int v :: .int i :: .ref (g_ad G 29) :: st) :=
  ⟨k.1, fun X C E H locs ls cells slots hP hS hl h1 h2 => by
    obtain ⟨ra, gf, hr, hp, hq⟩ := hP
    exact va_iast C.1 C.2.1 C.2.2.2.2.2.2.2.1.1 hp hq hS 29 0 rfl rfl hin hd (fun H1 locs1 a b c => k.2 X C E H1 locs1 ls cells slots ⟨ra, gf, hr, a, b⟩ c hl h1 h2)⟩
theorem za_lines {i : Int32} (hin : ¬ (i < 0 ∨ 1500 ≤ i.toNatClampNeg)) (hd : decode cc pc = .ok (.iaload, 1)) (k : o_Z G own cc ret nL kd En k' σ (pc + 1) L (.int (o_A σ 5 i.toNatClampNeg) :: st)) : o_Z G own cc ret nL kd En k' σ pc L (.int i :: .ref (g_ad G 30) :: st) :=
  ⟨k.1, fun X C E H locs ls cells slots hP hS hl h1 h2 => by
    obtain ⟨ra, gf, hr, hp, hq⟩ := id hP
    exact va_iald C.1 C.2.1 C.2.2.2.2.2.2.2.1.1 hp 30 0 rfl rfl hin hd (k.2 X C E H locs ls cells slots hP hS hl h1 h2)⟩
theorem zs_lines {i v : Int32} (hin : ¬ (i < 0 ∨ 1500 ≤ i.toNatClampNeg)) (hd : decode cc pc = .ok (.iastore, 1)) (k : o_Z G own cc ret nL kd En k' (o_setA σ 5 i.toNatClampNeg v) (pc + 1) L st) : o_Z G own cc ret nL kd En k' σ pc L (.int v :: .int i :: .ref (g_ad G 30) :: st) :=
  ⟨k.1, fun X C E H locs ls cells slots hP hS hl h1 h2 => by
    obtain ⟨ra, gf, hr, hp, hq⟩ := hP
    exact va_iast C.1 C.2.1 C.2.2.2.2.2.2.2.1.1 hp hq hS 30 0 rfl rfl hin hd (fun H1 locs1 a b c => k.2 X C E H1 locs1 ls cells slots ⟨ra, gf, hr, a, b⟩ c hl h1 h2)⟩
theorem za_columns {i : Int32} (hin : ¬ (i < 0 ∨ 1500 ≤ i.toNatClampNeg)) (hd : decode cc pc = .ok (.iaload, 1)) (k : o_Z G own cc ret nL kd En k' σ (pc + 1) L (.int (o_A σ 6 i.toNatClampNeg) :: st)) : o_Z G own cc ret nL kd En k' σ pc L (.int i :: .ref (g_ad G 31) :: st) :=
  ⟨k.1, fun X C E H locs ls cells slots hP hS hl h1 h2 => by
    obtain ⟨ra, gf, hr, hp, hq⟩ := id hP
    exact va_iald C.1 C.2.1 C.2.2.2.2.2.2.2.1.1 hp 31 0 rfl rfl hin hd (k.2 X C E H locs ls cells slots hP hS hl h1 h2)⟩
theorem zs_columns {i v : Int32} (hin : ¬ (i < 0 ∨ 1500 ≤ i.toNatClampNeg)) (hd : decode cc pc = .ok (.iastore, 1)) (k : o_Z G own cc ret nL kd En k' (o_setA σ 6 i.toNatClampNeg v) (pc + 1) L st) : o_Z G own cc ret nL kd En k' σ pc L (.int v :: .int i :: .ref (g_ad G 31) :: st) :=
  ⟨k.1, fun X C E H locs ls cells slots hP hS hl h1 h2 => by
    obtain ⟨ra, gf, hr, hp, hq⟩ := hP
    exact va_iast C.1 C.2.1 C.2.2.2.2.2.2.2.1.1 hp hq hS 31 0 rfl rfl hin hd (fun H1 locs1 a b c => k.2 X C E H1 locs1 ls cells slots ⟨ra, gf, hr, a, b⟩ c hl h1 h2)⟩
theorem za_values {i : Int32} (hin : ¬ (i < 0 ∨ 1500 ≤ i.toNatClampNeg)) (hd : decode cc pc = .ok (.iaload, 1)) (k : o_Z G own cc ret nL kd En k' σ (pc + 1) L (.int (o_A σ 7 i.toNatClampNeg) :: st)) : o_Z G own cc ret nL kd En k' σ pc L (.int i :: .ref (g_ad G 32) :: st) :=
  ⟨k.1, fun X C E H locs ls cells slots hP hS hl h1 h2 => by
    obtain ⟨ra, gf, hr, hp, hq⟩ := id hP
    exact va_iald C.1 C.2.1 C.2.2.2.2.2.2.2.1.1 hp 32 0 rfl rfl hin hd (k.2 X C E H locs ls cells slots hP hS hl h1 h2)⟩
theorem zs_values {i v : Int32} (hin : ¬ (i < 0 ∨ 1500 ≤ i.toNatClampNeg)) (hd : decode cc pc = .ok (.iastore, 1)) (k : o_Z G own cc ret nL kd En k' (o_setA σ 7 i.toNatClampNeg v) (pc + 1) L st) : o_Z G own cc ret nL kd En k' σ pc L (.int v :: .int i :: .ref (g_ad G 32) :: st) :=
  ⟨k.1, fun X C E H locs ls cells slots hP hS hl h1 h2 => by
    obtain ⟨ra, gf, hr, hp, hq⟩ := hP
    exact va_iast C.1 C.2.1 C.2.2.2.2.2.2.2.1.1 hp hq hS 32 0 rfl rfl hin hd (fun H1 locs1 a b c => k.2 X C E H1 locs1 ls cells slots ⟨ra, gf, hr, a, b⟩ c hl h1 h2)⟩
theorem za_starts {i : Int32} (hin : ¬ (i < 0 ∨ 1500 ≤ i.toNatClampNeg)) (hd : decode cc pc = .ok (.iaload, 1)) (k : o_Z G own cc ret nL kd En k' σ (pc + 1) L (.int (o_A σ 8 i.toNatClampNeg) :: st)) : o_Z G own cc ret nL kd En k' σ pc L (.int i :: .ref (g_ad G 33) :: st) :=
  ⟨k.1, fun X C E H locs ls cells slots hP hS hl h1 h2 => by
    obtain ⟨ra, gf, hr, hp, hq⟩ := id hP
    exact va_iald C.1 C.2.1 C.2.2.2.2.2.2.2.1.1 hp 33 0 rfl rfl hin hd (k.2 X C E H locs ls cells slots hP hS hl h1 h2)⟩
theorem zs_starts {i v : Int32} (hin : ¬ (i < 0 ∨ 1500 ≤ i.toNatClampNeg)) (hd : decode cc pc = .ok (.iastore, 1)) (k : o_Z G own cc ret nL kd En k' (o_setA σ 8 i.toNatClampNeg v) (pc + 1) L st) : o_Z G own cc ret nL kd En k' σ pc L (.int v :: .int i :: .ref (g_ad G 33) :: st) :=
  ⟨k.1, fun X C E H locs ls cells slots hP hS hl h1 h2 => by
    obtain ⟨ra, gf, hr, hp, hq⟩ := hP
    exact va_iast C.1 C.2.1 C.2.2.2.2.2.2.2.1.1 hp hq hS 33 0 rfl rfl hin hd (fun H1 locs1 a b c => k.2 X C E H1 locs1 ls cells slots ⟨ra, gf, hr, a, b⟩ c hl h1 h2)⟩
theorem za_letters {i : Int32} (hin : ¬ (i < 0 ∨ 12600 ≤ i.toNatClampNeg)) (hd : decode cc pc = .ok (.iaload, 1)) (k : o_Z G own cc ret nL kd En k' σ (pc + 1) L (.int (o_A σ 9 i.toNatClampNeg) :: st)) : o_Z G own cc ret nL kd En k' σ pc L (.int i :: .ref (g_ad G 34) :: st) :=
  ⟨k.1, fun X C E H locs ls cells slots hP hS hl h1 h2 => by
    obtain ⟨ra, gf, hr, hp, hq⟩ := id hP
    exact va_iald C.1 C.2.1 C.2.2.2.2.2.2.2.1.1 hp 34 0 rfl rfl hin hd (k.2 X C E H locs ls cells slots hP hS hl h1 h2)⟩
theorem zs_letters {i v : Int32} (hin : ¬ (i < 0 ∨ 12600 ≤ i.toNatClampNeg)) (hd : decode cc pc = .ok (.iastore, 1)) (k : o_Z G own cc ret nL kd En k' (o_setA σ 9 i.toNatClampNeg v) (pc + 1) L st) : o_Z G own cc ret nL kd En k' σ pc L (.int v :: .int i :: .ref (g_ad G 34) :: st) :=
  ⟨k.1, fun X C E H locs ls cells slots hP hS hl h1 h2 => by
    obtain ⟨ra, gf, hr, hp, hq⟩ := hP
    exact va_iast C.1 C.2.1 C.2.2.2.2.2.2.2.1.1 hp hq hS 34 0 rfl rfl hin hd (fun H1 locs1 a b c => k.2 X C E H1 locs1 ls cells slots ⟨ra, gf, hr, a, b⟩ c hl h1 h2)⟩
theorem za_idOf {i : Int32} (hin : ¬ (i < 0 ∨ 1500 ≤ i.toNatClampNeg)) (hd : decode cc pc = .ok (.iaload, 1)) (k : o_Z G own cc ret nL kd En k' σ (pc + 1) L (.int (o_A σ 10 i.toNatClampNeg) :: st)) : o_Z G own cc ret nL kd En k' σ pc L (.int i :: .ref (g_ad G 35) :: st) :=
  ⟨k.1, fun X C E H locs ls cells slots hP hS hl h1 h2 => by
    obtain ⟨ra, gf, hr, hp, hq⟩ := id hP
    exact va_iald C.1 C.2.1 C.2.2.2.2.2.2.2.1.1 hp 35 0 rfl rfl hin hd (k.2 X C E H locs ls cells slots hP hS hl h1 h2)⟩
theorem zs_idOf {i v : Int32} (hin : ¬ (i < 0 ∨ 1500 ≤ i.toNatClampNeg)) (hd : decode cc pc = .ok (.iastore, 1)) (k : o_Z G own cc ret nL kd En k' (o_setA σ 10 i.toNatClampNeg v) (pc + 1) L st) : o_Z G own cc ret nL kd En k' σ pc L (.int v :: .int i :: .ref (g_ad G 35) :: st) :=
  ⟨k.1, fun X C E H locs ls cells slots hP hS hl h1 h2 => by
    obtain ⟨ra, gf, hr, hp, hq⟩ := hP
    exact va_iast C.1 C.2.1 C.2.2.2.2.2.2.2.1.1 hp hq hS 35 0 rfl rfl hin hd (fun H1 locs1 a b c => k.2 X C E H1 locs1 ls cells slots ⟨ra, gf, hr, a, b⟩ c hl h1 h2)⟩
theorem za_numberOf {i : Int32} (hin : ¬ (i < 0 ∨ 1500 ≤ i.toNatClampNeg)) (hd : decode cc pc = .ok (.iaload, 1)) (k : o_Z G own cc ret nL kd En k' σ (pc + 1) L (.int (o_A σ 11 i.toNatClampNeg) :: st)) : o_Z G own cc ret nL kd En k' σ pc L (.int i :: .ref (g_ad G 36) :: st) :=
  ⟨k.1, fun X C E H locs ls cells slots hP hS hl h1 h2 => by
    obtain ⟨ra, gf, hr, hp, hq⟩ := id hP
    exact va_iald C.1 C.2.1 C.2.2.2.2.2.2.2.1.1 hp 36 0 rfl rfl hin hd (k.2 X C E H locs ls cells slots hP hS hl h1 h2)⟩
theorem zs_numberOf {i v : Int32} (hin : ¬ (i < 0 ∨ 1500 ≤ i.toNatClampNeg)) (hd : decode cc pc = .ok (.iastore, 1)) (k : o_Z G own cc ret nL kd En k' (o_setA σ 11 i.toNatClampNeg v) (pc + 1) L st) : o_Z G own cc ret nL kd En k' σ pc L (.int v :: .int i :: .ref (g_ad G 36) :: st) :=
  ⟨k.1, fun X C E H locs ls cells slots hP hS hl h1 h2 => by
    obtain ⟨ra, gf, hr, hp, hq⟩ := hP
    exact va_iast C.1 C.2.1 C.2.2.2.2.2.2.2.1.1 hp hq hS 36 0 rfl rfl hin hd (fun H1 locs1 a b c => k.2 X C E H1 locs1 ls cells slots ⟨ra, gf, hr, a, b⟩ c hl h1 h2)⟩
theorem za_repairParts {i : Int32} (hin : ¬ (i < 0 ∨ 3900 ≤ i.toNatClampNeg)) (hd : decode cc pc = .ok (.iaload, 1)) (k : o_Z G own cc ret nL kd En k' σ (pc + 1) L (.int (o_A σ 12 i.toNatClampNeg) :: st)) : o_Z G own cc ret nL kd En k' σ pc L (.int i :: .ref (g_ad G 37) :: st) :=
  ⟨k.1, fun X C E H locs ls cells slots hP hS hl h1 h2 => by
    obtain ⟨ra, gf, hr, hp, hq⟩ := id hP
    exact va_iald C.1 C.2.1 C.2.2.2.2.2.2.2.1.1 hp 37 0 rfl rfl hin hd (k.2 X C E H locs ls cells slots hP hS hl h1 h2)⟩
theorem zs_repairParts {i v : Int32} (hin : ¬ (i < 0 ∨ 3900 ≤ i.toNatClampNeg)) (hd : decode cc pc = .ok (.iastore, 1)) (k : o_Z G own cc ret nL kd En k' (o_setA σ 12 i.toNatClampNeg v) (pc + 1) L st) : o_Z G own cc ret nL kd En k' σ pc L (.int v :: .int i :: .ref (g_ad G 37) :: st) :=
  ⟨k.1, fun X C E H locs ls cells slots hP hS hl h1 h2 => by
    obtain ⟨ra, gf, hr, hp, hq⟩ := hP
    exact va_iast C.1 C.2.1 C.2.2.2.2.2.2.2.1.1 hp hq hS 37 0 rfl rfl hin hd (fun H1 locs1 a b c => k.2 X C E H1 locs1 ls cells slots ⟨ra, gf, hr, a, b⟩ c hl h1 h2)⟩
theorem za_output {i : Int32} (hin : ¬ (i < 0 ∨ 60000 ≤ i.toNatClampNeg)) (hd : decode cc pc = .ok (.iaload, 1)) (k : o_Z G own cc ret nL kd En k' σ (pc + 1) L (.int (o_A σ 13 i.toNatClampNeg) :: st)) : o_Z G own cc ret nL kd En k' σ pc L (.int i :: .ref (g_ad G 38) :: st) :=
  ⟨k.1, fun X C E H locs ls cells slots hP hS hl h1 h2 => by
    obtain ⟨ra, gf, hr, hp, hq⟩ := id hP
    exact va_iald C.1 C.2.1 C.2.2.2.2.2.2.2.1.1 hp 38 0 rfl rfl hin hd (k.2 X C E H locs ls cells slots hP hS hl h1 h2)⟩
theorem zs_output {i v : Int32} (hin : ¬ (i < 0 ∨ 60000 ≤ i.toNatClampNeg)) (hd : decode cc pc = .ok (.iastore, 1)) (k : o_Z G own cc ret nL kd En k' (o_setA σ 13 i.toNatClampNeg v) (pc + 1) L st) : o_Z G own cc ret nL kd En k' σ pc L (.int v :: .int i :: .ref (g_ad G 38) :: st) :=
  ⟨k.1, fun X C E H locs ls cells slots hP hS hl h1 h2 => by
    obtain ⟨ra, gf, hr, hp, hq⟩ := hP
    exact va_iast C.1 C.2.1 C.2.2.2.2.2.2.2.1.1 hp hq hS 38 0 rfl rfl hin hd (fun H1 locs1 a b c => k.2 X C E H1 locs1 ls cells slots ⟨ra, gf, hr, a, b⟩ c hl h1 h2)⟩
theorem za_fed {i : Int32} (hin : ¬ (i < 0 ∨ 8 ≤ i.toNatClampNeg)) (hd : decode cc pc = .ok (.iaload, 1)) (k : o_Z G own cc ret nL kd En k' σ (pc + 1) L (.int (o_A σ 14 i.toNatClampNeg) :: st)) : o_Z G own cc ret nL kd En k' σ pc L (.int i :: .ref (g_ad G 39) :: st) :=
  ⟨k.1, fun X C E H locs ls cells slots hP hS hl h1 h2 => by
    obtain ⟨ra, gf, hr, hp, hq⟩ := id hP
    exact va_iald C.1 C.2.1 C.2.2.2.2.2.2.2.1.1 hp 39 0 rfl rfl hin hd (k.2 X C E H locs ls cells slots hP hS hl h1 h2)⟩
theorem zs_fed {i v : Int32} (hin : ¬ (i < 0 ∨ 8 ≤ i.toNatClampNeg)) (hd : decode cc pc = .ok (.iastore, 1)) (k : o_Z G own cc ret nL kd En k' (o_setA σ 14 i.toNatClampNeg v) (pc + 1) L st) : o_Z G own cc ret nL kd En k' σ pc L (.int v :: .int i :: .ref (g_ad G 39) :: st) :=
  ⟨k.1, fun X C E H locs ls cells slots hP hS hl h1 h2 => by
    obtain ⟨ra, gf, hr, hp, hq⟩ := hP
    exact va_iast C.1 C.2.1 C.2.2.2.2.2.2.2.1.1 hp hq hS 39 0 rfl rfl hin hd (fun H1 locs1 a b c => k.2 X C E H1 locs1 ls cells slots ⟨ra, gf, hr, a, b⟩ c hl h1 h2)⟩
theorem za_openIds {i : Int32} (hin : ¬ (i < 0 ∨ 32 ≤ i.toNatClampNeg)) (hd : decode cc pc = .ok (.iaload, 1)) (k : o_Z G own cc ret nL kd En k' σ (pc + 1) L (.int (o_A σ 15 i.toNatClampNeg) :: st)) : o_Z G own cc ret nL kd En k' σ pc L (.int i :: .ref (g_ad G 40) :: st) :=
  ⟨k.1, fun X C E H locs ls cells slots hP hS hl h1 h2 => by
    obtain ⟨ra, gf, hr, hp, hq⟩ := id hP
    exact va_iald C.1 C.2.1 C.2.2.2.2.2.2.2.1.1 hp 40 0 rfl rfl hin hd (k.2 X C E H locs ls cells slots hP hS hl h1 h2)⟩
theorem zs_openIds {i v : Int32} (hin : ¬ (i < 0 ∨ 32 ≤ i.toNatClampNeg)) (hd : decode cc pc = .ok (.iastore, 1)) (k : o_Z G own cc ret nL kd En k' (o_setA σ 15 i.toNatClampNeg v) (pc + 1) L st) : o_Z G own cc ret nL kd En k' σ pc L (.int v :: .int i :: .ref (g_ad G 40) :: st) :=
  ⟨k.1, fun X C E H locs ls cells slots hP hS hl h1 h2 => by
    obtain ⟨ra, gf, hr, hp, hq⟩ := hP
    exact va_iast C.1 C.2.1 C.2.2.2.2.2.2.2.1.1 hp hq hS 40 0 rfl rfl hin hd (fun H1 locs1 a b c => k.2 X C E H1 locs1 ls cells slots ⟨ra, gf, hr, a, b⟩ c hl h1 h2)⟩
theorem za_openColumns {i : Int32} (hin : ¬ (i < 0 ∨ 32 ≤ i.toNatClampNeg)) (hd : decode cc pc = .ok (.iaload, 1)) (k : o_Z G own cc ret nL kd En k' σ (pc + 1) L (.int (o_A σ 16 i.toNatClampNeg) :: st)) : o_Z G own cc ret nL kd En k' σ pc L (.int i :: .ref (g_ad G 41) :: st) :=
  ⟨k.1, fun X C E H locs ls cells slots hP hS hl h1 h2 => by
    obtain ⟨ra, gf, hr, hp, hq⟩ := id hP
    exact va_iald C.1 C.2.1 C.2.2.2.2.2.2.2.1.1 hp 41 0 rfl rfl hin hd (k.2 X C E H locs ls cells slots hP hS hl h1 h2)⟩
theorem zs_openColumns {i v : Int32} (hin : ¬ (i < 0 ∨ 32 ≤ i.toNatClampNeg)) (hd : decode cc pc = .ok (.iastore, 1)) (k : o_Z G own cc ret nL kd En k' (o_setA σ 16 i.toNatClampNeg v) (pc + 1) L st) : o_Z G own cc ret nL kd En k' σ pc L (.int v :: .int i :: .ref (g_ad G 41) :: st) :=
  ⟨k.1, fun X C E H locs ls cells slots hP hS hl h1 h2 => by
    obtain ⟨ra, gf, hr, hp, hq⟩ := hP
    exact va_iast C.1 C.2.1 C.2.2.2.2.2.2.2.1.1 hp hq hS 41 0 rfl rfl hin hd (fun H1 locs1 a b c => k.2 X C E H1 locs1 ls cells slots ⟨ra, gf, hr, a, b⟩ c hl h1 h2)⟩
theorem za_items {i : Int32} (hin : ¬ (i < 0 ∨ 32 ≤ i.toNatClampNeg)) (hd : decode cc pc = .ok (.iaload, 1)) (k : o_Z G own cc ret nL kd En k' σ (pc + 1) L (.int (o_A σ 17 i.toNatClampNeg) :: st)) : o_Z G own cc ret nL kd En k' σ pc L (.int i :: .ref (g_ad G 42) :: st) :=
  ⟨k.1, fun X C E H locs ls cells slots hP hS hl h1 h2 => by
    obtain ⟨ra, gf, hr, hp, hq⟩ := id hP
    exact va_iald C.1 C.2.1 C.2.2.2.2.2.2.2.1.1 hp 42 0 rfl rfl hin hd (k.2 X C E H locs ls cells slots hP hS hl h1 h2)⟩
theorem zs_items {i v : Int32} (hin : ¬ (i < 0 ∨ 32 ≤ i.toNatClampNeg)) (hd : decode cc pc = .ok (.iastore, 1)) (k : o_Z G own cc ret nL kd En k' (o_setA σ 17 i.toNatClampNeg v) (pc + 1) L st) : o_Z G own cc ret nL kd En k' σ pc L (.int v :: .int i :: .ref (g_ad G 42) :: st) :=
  ⟨k.1, fun X C E H locs ls cells slots hP hS hl h1 h2 => by
    obtain ⟨ra, gf, hr, hp, hq⟩ := hP
    exact va_iast C.1 C.2.1 C.2.2.2.2.2.2.2.1.1 hp hq hS 42 0 rfl rfl hin hd (fun H1 locs1 a b c => k.2 X C E H1 locs1 ls cells slots ⟨ra, gf, hr, a, b⟩ c hl h1 h2)⟩
theorem za_outL {i : Int32} (hin : ¬ (i < 0 ∨ 1 ≤ i.toNatClampNeg)) (hd : decode cc pc = .ok (.laload, 1)) (k : o_Z G own cc ret nL kd En k' σ (pc + 1) L (.long (o_O σ i.toNatClampNeg) :: st)) : o_Z G own cc ret nL kd En k' σ pc L (.int i :: .ref (g_ad G 43) :: st) :=
  ⟨k.1, fun X C E H locs ls cells slots hP hS hl h1 h2 => by
    obtain ⟨ra, gf, hr, hp, hq⟩ := id hP
    exact va_lald C.1 C.2.1 C.2.2.2.2.2.2.2.1.1 hp 43 1 rfl rfl hin hd (k.2 X C E H locs ls cells slots hP hS hl h1 h2)⟩
theorem zs_outL {i : Int32} {v : Int64} (hin : ¬ (i < 0 ∨ 1 ≤ i.toNatClampNeg)) (hd : decode cc pc = .ok (.lastore, 1)) (k : o_Z G own cc ret nL kd En k' (o_setO σ i.toNatClampNeg v) (pc + 1) L st) : o_Z G own cc ret nL kd En k' σ pc L (.long v :: .int i :: .ref (g_ad G 43) :: st) :=
  ⟨k.1, fun X C E H locs ls cells slots hP hS hl h1 h2 => by
    obtain ⟨ra, gf, hr, hp, hq⟩ := hP
    exact va_last C.1 C.2.1 C.2.2.2.2.2.2.2.1.1 hp hq hS 43 1 rfl rfl hin hd (fun H1 locs1 a b c => k.2 X C E H1 locs1 ls cells slots ⟨ra, gf, hr, a, b⟩ c hl h1 h2)⟩
end
end
section
section
variable {G : o_G} {own : String} {cc : ByteArray} {ret : Option FieldType} {nL kd : Nat} {En : o_X → Prop} {k' : Nat} {σ : o_S} {pc : Nat} {L : List (Nat × Value)} {st : List Value}
/-- a method's contract out of its walk -/
theorem o_Ev.mk {y : MethodName} {av : List Value} {v : Option Value} {σ' : o_S} (hy : plainName y.cls = true) (hlen : (lg_sl av).length ≤ nL) (hZ : o_Z G y.cls cc ret nL kd (o_E G v σ') (o_k σ') σ 0 (lv_args 0 av) []) : o_Ev G y cc nL ret kd av σ v σ' := by
  refine ⟨hZ.1, fun d hd => ?_⟩
  refine Met.ofW (cc := cc) (maxL := nL) (ret := ret) hy rfl ?_
  intro p e s m args below meth c s₁ B hml hv
  obtain ⟨rfl, hSF, hH⟩ := hv
  have hts := atoms_spec (ws := Cond.code y cc nL ret :: o_WS) B.pre
  rw [lg_entry_eq]
  exact hZ.2 (p, e, o_RM d (o_k σ' - o_k σ), s, m, av.toArray, below, meth, c, MQ below (o_QR G v σ') av.toArray s (o_k σ' - o_k σ) (2 * (o_k σ' - o_k σ)) (g_A G)) ⟨B.exec, B.bytes, B.returns, hml, findClass_of_methodNamed B.named, fun w h => hts w (List.mem_cons_of_mem _ h), B.notSynchronized, hSF, hd, Nat.le_refl _⟩ rfl s.heap [] _ 0 0 hH va_S.rf (lv_entry av hlen) (Nat.le_of_eq (Nat.zero_add _)) (Nat.le_of_eq (Nat.zero_add _))
theorem z_iret {v : Int32} (hr : ret = some .int) (hE : En = o_E G (some (.int v)) σ) (hk : k' = o_k σ) (hd : decode cc pc = .ok (.ireturn, 1)) : o_Z G own cc ret nL kd En k' σ pc L [.int v] := by
  subst hr hE hk
  refine ⟨Nat.le_refl _, fun X C E H locs ls cells slots hP hS hl h1 h2 => ?_⟩
  have e : x_Q X = _ := E
  show W _ _ _ _ _ _ _ _ _ _ _ _ _ _ (x_Q X) _
  rw [e]
  exact W.widen (Nat.le_trans (Nat.le_add_right _ _) h1) (Nat.le_trans (Nat.le_add_right _ _) h2) (W.iret C.1 C.2.1 C.2.2.1 (fun t ht hW => ⟨rfl, by rw [ht]; exact hP, hS.F ht⟩) hS.2.2 hd C.2.2.2.2.2.2.1)
theorem z_zret {v : Int32} (hv : v &&& 1 = v) (hr : ret = some .boolean) (hE : En = o_E G (some (.int v)) σ) (hk : k' = o_k σ) (hd : decode cc pc = .ok (.ireturn, 1)) : o_Z G own cc ret nL kd En k' σ pc L [.int v] := by
  subst hr hE hk
  refine ⟨Nat.le_refl _, fun X C E H locs ls cells slots hP hS hl h1 h2 => ?_⟩
  have e : x_Q X = _ := E
  show W _ _ _ _ _ _ _ _ _ _ _ _ _ _ (x_Q X) _
  rw [e]
  exact W.widen (Nat.le_trans (Nat.le_add_right _ _) h1) (Nat.le_trans (Nat.le_add_right _ _) h2) (W.zret C.1 C.2.1 C.2.2.1 (congrArg Value.int hv) (fun t ht hW => ⟨rfl, by rw [ht]; exact hP, hS.F ht⟩) hS.2.2 hd C.2.2.2.2.2.2.1)
theorem z_lret {v : Int64} (hr : ret = some .long) (hE : En = o_E G (some (.long v)) σ) (hk : k' = o_k σ) (hd : decode cc pc = .ok (.lreturn, 1)) : o_Z G own cc ret nL kd En k' σ pc L [.long v] := by
  subst hr hE hk
  refine ⟨Nat.le_refl _, fun X C E H locs ls cells slots hP hS hl h1 h2 => ?_⟩
  have e : x_Q X = _ := E
  show W _ _ _ _ _ _ _ _ _ _ _ _ _ _ (x_Q X) _
  rw [e]
  exact W.widen (Nat.le_trans (Nat.le_add_right _ _) h1) (Nat.le_trans (Nat.le_add_right _ _) h2) (W.lret C.1 C.2.1 C.2.2.1 (fun t ht hW => ⟨rfl, by rw [ht]; exact hP, hS.F ht⟩) hS.2.2 hd C.2.2.2.2.2.2.1)
theorem z_vret (hr : ret = none) (hE : En = o_E G none σ) (hk : k' = o_k σ) (hd : decode cc pc = .ok (.return_, 1)) : o_Z G own cc ret nL kd En k' σ pc L [] := by
  subst hr hE hk
  refine ⟨Nat.le_refl _, fun X C E H locs ls cells slots hP hS hl h1 h2 => ?_⟩
  have e : x_Q X = _ := E
  show W _ _ _ _ _ _ _ _ _ _ _ _ _ _ (x_Q X) _
  rw [e]
  exact W.widen (Nat.le_trans (Nat.le_add_right _ _) h1) (Nat.le_trans (Nat.le_add_right _ _) h2) (W.vret C.1 C.2.1 C.2.2.1 (fun t ht hW => ⟨rfl, by rw [ht]; exact hP, hS.F ht⟩) hS.2.2 hd C.2.2.2.2.2.2.1)
/-- a method that can be called on an object; n arguments -/
def o_MI (y : MethodName) (cy : ByteArray) (nY : Nat) (rY : Option FieldType) (n : Nat) : Prop :=
  Cond.instanceMethod y ∈ o_WS ∧ Cond.selects y.cls y y ∈ o_WS ∧ Cond.initialized y.cls ∈ o_WS ∧ Cond.code y cy nY rY ∈ o_WS ∧ nY ≤ 21 ∧ (y.cls ≠ "java/lang/invoke/MethodHandle" ∧ y.cls ≠ "java/lang/invoke/VarHandle" ∧ (parseMethodDescriptor y.desc).map (fun d => d.parameters.length) = some n)
def o_MS (y : MethodName) (cy : ByteArray) (nY : Nat) (rY : Option FieldType) (n : Nat) : Prop :=
  Cond.static y ∈ o_WS ∧ Cond.initialized y.cls ∈ o_WS ∧ Cond.code y cy nY rY ∈ o_WS ∧ nY ≤ 21 ∧ (y.cls ≠ "java/lang/invoke/MethodHandle" ∧ y.cls ≠ "java/lang/invoke/VarHandle" ∧ (parseMethodDescriptor y.desc).map (fun d => d.parameters.length) = some n)
/-- an object of the world, of the class Cn -/
def o_RV (G : o_G) (b : Nat) (Cn : String) : Prop := ∀ (ra : Nat → Nat) (gf : Nat → Nat → Int32) (σ : o_S), ∃ (q0 ci : Nat) (fs : List Value) (q : vw_C), (o_W G ra gf σ)[q0]? = some (b, .inr (ci, fs)) ∧ o_cl[ci]? = some q ∧ q.1 = Cn
theorem o_RV.cell {b : Nat} {Cn : String} (h : o_RV G b Cn) {s : State} {H : Heap} (hS : o_SF G s) (hP : o_H G σ H) : ∃ cell : Cell, H[b]? = some cell ∧ cell.vm.isStatics = false ∧ s.vm.findClass Cn = some cell.cls := by
  obtain ⟨ra, gf, hr, hp, hq⟩ := hP
  obtain ⟨q0, ci, fs, q, h1, h2, rfl⟩ := h ra gf σ
  exact va_recv hS.1 hp h2 h1
/-- what a call leaves behind it -/
theorem o_after {X : o_X} {H : Heap} {locs : List Loc} {ls : Array Slot} {cells slots mc ms : Nat} {rest : List Value} {a : Array Value} {v : Option Value} {σ1 : o_S} (C : o_C G X own cc ret nL kd) (E : En X) (hl : lv_has ls nL L) (hS : va_S (g_A G) (x_s X).heap H locs)
    (hr : va_Run (x_p X) (g_l G) (x_e X) (x_R X) (x_s X) (x_m X) (x_a X) (x_b X) (x_me X) (x_c X) H locs cells slots mc ms (F0 (x_m X) pc ls st) rest (o_QR G v σ1 a) (g_A G))
    (k : o_Z G own cc ret nL kd En k' σ1 (pc + 3) L (v.toList ++ rest)) (h1 : (cells + mc) + (k' - o_k σ1) ≤ (x_R X).cells) (h2 : (slots + ms) + 2 * (k' - o_k σ1) ≤ (x_R X).slots) : o_Wf G X H locs cells slots pc ls st := by
  intro T hT Xs
  obtain ⟨v', st₀, t, T', Lc, h0, X', hL, e1, e2, ⟨hv, hH1, hF⟩, go⟩ := hr T hT Xs
  cases hv
  have hS' := (vx_keep h0 e1 hS (fun _ _ h => h) (fun _ h => h) hL hF).2.2
  obtain ⟨t2, a1, b1⟩ := k.2 X C E T'.heap (locs ++ Lc) ls (cells + mc) (slots + ms) (by rw [e1]; exact hH1) hS' hl h1 h2 T' rfl X'
  exact ⟨t2, go t2 a1, b1⟩
theorem z_callV {y : MethodName} {cy : ByteArray} {nY kY n i b : Nat} {rY : Option FieldType} {As rest : List Value} {σ1 : o_S} {v : Option Value}
    (hE : o_Ev G y cy nY rY kY (.ref b :: As) σ v σ1) (hk : kY + 1 ≤ kd) (hM : o_MI y cy nY rY n) (hml : Cond.methodLink own i y ∈ o_WS) (hn : As.length = n) (hst : st = As.reverse ++ .ref b :: rest) (hro : (rest.map fun v => v.category).sum ≤ 8) (hrv : o_RV G b y.cls) (hd : decode cc pc = .ok (.invokevirtual i, 3))
    (k : o_Z G own cc ret nL kd En k' σ1 (pc + 3) L (v.toList ++ rest)) : o_Z G own cc ret nL kd En k' σ pc L st := by
  refine ⟨Nat.le_trans hE.1 k.1, fun X C E H locs ls cells slots hP hS hl h1 h2 => ?_⟩
  obtain ⟨hx, hb, hr, hmx, hown, hts, hlk, hSF, hfr, hlo⟩ := id C
  obtain ⟨m1, m2, m3, m4, m5, m6⟩ := hM
  have q1 := hE.1
  have q2 := k.1
  refine o_after C E hl hS (va_runV (As := As) (rest := rest) (b := b) (C := y.cls) (n := n) ⟨hx, hb, hmx, hown, hts⟩ (hE.2 ((x_R X).frames - 1) (by omega)) ⟨callB_of n hts (o_GoodIn m4) rfl rfl rfl (hts _ m3) (hts _ hml) m6 ⟨?_, ?_⟩, hts _ m1, hts _ m2⟩ ⟨o_blind G σ _, hrv.cell hSF hP, fun U hU hW => ⟨rfl, hSF.moved hW hU hS, by rw [hU]; exact hP⟩⟩ rfl hn hl.1 hst (lv_room hro) hd ⟨?_, ?_⟩) k ?_ ?_
  · show (x_R X).frames - 1 + 1 ≤ _; omega
  · show 8 + (nY + 11) + 40 * ((x_R X).frames - 1) ≤ _; omega
  · omega
  · omega
  · omega
  · omega
theorem z_callS {y : MethodName} {cy : ByteArray} {nY kY n i : Nat} {rY : Option FieldType} {As rest : List Value} {σ1 : o_S} {v : Option Value}
    (hE : o_Ev G y cy nY rY kY As σ v σ1) (hk : kY + 1 ≤ kd) (hM : o_MS y cy nY rY n) (hml : Cond.methodLink own i y ∈ o_WS) (hn : As.length = n) (hst : st = As.reverse ++ rest) (hro : (rest.map fun v => v.category).sum ≤ 8) (hd : decode cc pc = .ok (.invokestatic i, 3))
    (k : o_Z G own cc ret nL kd En k' σ1 (pc + 3) L (v.toList ++ rest)) : o_Z G own cc ret nL kd En k' σ pc L st := by
  refine ⟨Nat.le_trans hE.1 k.1, fun X C E H locs ls cells slots hP hS hl h1 h2 => ?_⟩
  obtain ⟨hx, hb, hr, hmx, hown, hts, hlk, hSF, hfr, hlo⟩ := id C
  obtain ⟨m1, m3, m4, m5, m6⟩ := hM
  have q1 := hE.1
  have q2 := k.1
  refine o_after C E hl hS (va_runS (As := As) (rest := rest) (n := n) ⟨hx, hb, hmx, hown, hts⟩ (hE.2 ((x_R X).frames - 1) (by omega)) ⟨callB_of n hts (o_GoodIn m4) rfl rfl rfl (hts _ m3) (hts _ hml) m6 ⟨?_, ?_⟩, hts _ m1⟩ ⟨o_blind G σ _, fun U hU hW => ⟨rfl, hSF.moved hW hU hS, by rw [hU]; exact hP⟩⟩ rfl hn hl.1 hst (lv_room hro) hd ⟨?_, ?_⟩) k ?_ ?_
  · show (x_R X).frames - 1 + 1 ≤ _; omega
  · show 8 + (nY + 11) + 40 * ((x_R X).frames - 1) ≤ _; omega
  · omega
  · omega
  · omega
  · omega
theorem z_callSN {y : MethodName} {cy : ByteArray} {nY kY n i : Nat} {host : String} {rY : Option FieldType} {As rest : List Value} {σ1 : o_S} {v : Option Value}
    (hE : o_Ev G y cy nY rY kY As σ v σ1) (hk : kY + 1 ≤ kd) (hM : o_MS y cy nY rY n) (hml : (own, i, y, host) ∈ o_nestM) (hn : As.length = n) (hst : st = As.reverse ++ rest) (hro : (rest.map fun v => v.category).sum ≤ 8) (hd : decode cc pc = .ok (.invokestatic i, 3))
    (k : o_Z G own cc ret nL kd En k' σ1 (pc + 3) L (v.toList ++ rest)) : o_Z G own cc ret nL kd En k' σ pc L st := by
  refine ⟨Nat.le_trans hE.1 k.1, fun X C E H locs ls cells slots hP hS hl h1 h2 => ?_⟩
  obtain ⟨hx, hb, hr, hmx, hown, hts, hlk, hSF, hfr, hlo⟩ := id C
  obtain ⟨m1, m3, m4, m5, m6⟩ := hM
  have q1 := hE.1
  have q2 := k.1
  refine o_after C E hl hS (va_runSN (As := As) (rest := rest) (n := n) ⟨hx, hb, hmx, hown, hts⟩ (hE.2 ((x_R X).frames - 1) (by omega)) ⟨va_cnB n hts (o_GoodIn m4) rfl rfl rfl (hSF.2.2.2.2.1 _ hml) (hts _ m3) m6 ⟨?_, ?_⟩, hts _ m1, trivial⟩ ⟨o_blind G σ _, fun U hU hW => ⟨rfl, hSF.moved hW hU hS, by rw [hU]; exact hP⟩⟩ rfl hn hl.1 hst (lv_room hro) hd ⟨?_, ?_⟩) k ?_ ?_
  · show (x_R X).frames - 1 + 1 ≤ _; omega
  · show 8 + (nY + 11) + 40 * ((x_R X).frames - 1) ≤ _; omega
  · omega
  · omega
  · omega
  · omega
theorem o_bd {α β : Type} {a : Option α} {f : α → Option β} {r : β} (h : a.bind f = some r) : ∃ x, a = some x ∧ f x = some r := Option.bind_eq_some_iff.mp h
theorem o_ip {α : Type} {c : Prop} [Decidable c] {a b : Option α} {r : α} (hc : c) (h : (if c then a else b) = some r) : a = some r := by rwa [if_pos hc] at h
theorem o_in {α : Type} {c : Prop} [Decidable c] {a b : Option α} {r : α} (hc : ¬ c) (h : (if c then a else b) = some r) : b = some r := by rwa [if_neg hc] at h
/-- a guarded step: c holds, else there is no answer -/
theorem o_gd {α : Type} {c : Prop} [Decidable c] {a : Option α} {r : α} (h : (if c then none else a) = some r) : ¬ c ∧ a = some r := by
  by_cases hc : c
  · rw [if_pos hc] at h; cases h
  · rw [if_neg hc] at h; exact ⟨hc, h⟩
end
end
