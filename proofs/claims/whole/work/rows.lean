section
-- ===== PART A: goes FIRST, ahead of the names: the tables' words, and 'selects' of the private methods out of them =====
/-- a private method of a class that the tables say can be made, by its rows of tables_1 -/
def lw_okq (q : MethodName × Nat) : Prop := (q.1.cls ≠ "java/lang/invoke/MethodHandle" ∧ q.1.cls ≠ "java/lang/invoke/VarHandle") ∧ Cond.instantiable q.1.cls q.2 ∈ tables_1 ∧ Cond.privateMethod q.1 ∈ tables_1 ∧ Cond.instanceMethod q.1 ∈ tables_1
theorem lw_p0 : lw_okq (⟨"DialectForms$Sounds", "become", "(III)Z"⟩, 2) := ⟨⟨by decide +kernel, by decide +kernel⟩, List.mem_of_getElem? (i := 26) (by decide +kernel), List.mem_of_getElem? (i := 318) (by decide +kernel), List.mem_of_getElem? (i := 319) (by decide +kernel)⟩
theorem lw_p1 : lw_okq (⟨"DialectForms$Sounds", "difference", "(II)I"⟩, 2) := ⟨⟨by decide +kernel, by decide +kernel⟩, List.mem_of_getElem? (i := 26) (by decide +kernel), List.mem_of_getElem? (i := 333) (by decide +kernel), List.mem_of_getElem? (i := 334) (by decide +kernel)⟩
theorem lw_p2 : lw_okq (⟨"DialectForms", "takeCells", "(IIII)I"⟩, 20) := ⟨⟨by decide +kernel, by decide +kernel⟩, List.mem_of_getElem? (i := 18) (by decide +kernel), List.mem_of_getElem? (i := 347) (by decide +kernel), List.mem_of_getElem? (i := 348) (by decide +kernel)⟩
theorem lw_p3 : lw_okq (⟨"DialectForms$Sheet", "faultOfCells", "(III)I"⟩, 4) := ⟨⟨by decide +kernel, by decide +kernel⟩, List.mem_of_getElem? (i := 222) (by decide +kernel), List.mem_of_getElem? (i := 351) (by decide +kernel), List.mem_of_getElem? (i := 352) (by decide +kernel)⟩
theorem lw_p4 : lw_okq (⟨"DialectForms$Sheet", "faultOfRow", "(I)I"⟩, 4) := ⟨⟨by decide +kernel, by decide +kernel⟩, List.mem_of_getElem? (i := 222) (by decide +kernel), List.mem_of_getElem? (i := 355) (by decide +kernel), List.mem_of_getElem? (i := 356) (by decide +kernel)⟩
theorem lw_p5 : lw_okq (⟨"DialectForms", "failBy", "(I)I"⟩, 20) := ⟨⟨by decide +kernel, by decide +kernel⟩, List.mem_of_getElem? (i := 18) (by decide +kernel), List.mem_of_getElem? (i := 362) (by decide +kernel), List.mem_of_getElem? (i := 363) (by decide +kernel)⟩
theorem lw_p6 : lw_okq (⟨"DialectForms", "areTakenBelow", "(II)Z"⟩, 20) := ⟨⟨by decide +kernel, by decide +kernel⟩, List.mem_of_getElem? (i := 18) (by decide +kernel), List.mem_of_getElem? (i := 370) (by decide +kernel), List.mem_of_getElem? (i := 371) (by decide +kernel)⟩
theorem lw_p7 : lw_okq (⟨"DialectForms$Collector", "addEntry", "(I[II)I"⟩, 4) := ⟨⟨by decide +kernel, by decide +kernel⟩, List.mem_of_getElem? (i := 180) (by decide +kernel), List.mem_of_getElem? (i := 374) (by decide +kernel), List.mem_of_getElem? (i := 375) (by decide +kernel)⟩
theorem lw_p8 : lw_okq (⟨"DialectForms", "isPlace", "(I)Z"⟩, 20) := ⟨⟨by decide +kernel, by decide +kernel⟩, List.mem_of_getElem? (i := 18) (by decide +kernel), List.mem_of_getElem? (i := 387) (by decide +kernel), List.mem_of_getElem? (i := 388) (by decide +kernel)⟩
theorem lw_p9 : lw_okq (⟨"DialectForms", "takeSounds", "(IIII)I"⟩, 20) := ⟨⟨by decide +kernel, by decide +kernel⟩, List.mem_of_getElem? (i := 18) (by decide +kernel), List.mem_of_getElem? (i := 398) (by decide +kernel), List.mem_of_getElem? (i := 399) (by decide +kernel)⟩
theorem lw_p10 : lw_okq (⟨"DialectForms$Row", "becomeCells", "([II)V"⟩, 2) := ⟨⟨by decide +kernel, by decide +kernel⟩, List.mem_of_getElem? (i := 72) (by decide +kernel), List.mem_of_getElem? (i := 402) (by decide +kernel), List.mem_of_getElem? (i := 403) (by decide +kernel)⟩
theorem lw_p11 : lw_okq (⟨"DialectForms$Row", "clear", "()V"⟩, 2) := ⟨⟨by decide +kernel, by decide +kernel⟩, List.mem_of_getElem? (i := 72) (by decide +kernel), List.mem_of_getElem? (i := 406) (by decide +kernel), List.mem_of_getElem? (i := 407) (by decide +kernel)⟩
theorem lw_p12 : lw_okq (⟨"DialectForms$Row", "add", "(I)V"⟩, 2) := ⟨⟨by decide +kernel, by decide +kernel⟩, List.mem_of_getElem? (i := 72) (by decide +kernel), List.mem_of_getElem? (i := 410) (by decide +kernel), List.mem_of_getElem? (i := 411) (by decide +kernel)⟩
theorem lw_p13 : lw_okq (⟨"DialectForms", "addForm", "(III)I"⟩, 20) := ⟨⟨by decide +kernel, by decide +kernel⟩, List.mem_of_getElem? (i := 18) (by decide +kernel), List.mem_of_getElem? (i := 414) (by decide +kernel), List.mem_of_getElem? (i := 415) (by decide +kernel)⟩
theorem lw_p14 : lw_okq (⟨"DialectForms$Form", "become", "(IIILDialectForms$Row;)V"⟩, 4) := ⟨⟨by decide +kernel, by decide +kernel⟩, List.mem_of_getElem? (i := 198) (by decide +kernel), List.mem_of_getElem? (i := 418) (by decide +kernel), List.mem_of_getElem? (i := 419) (by decide +kernel)⟩
theorem lw_p15 : lw_okq (⟨"DialectForms$Row", "become", "(LDialectForms$Row;)V"⟩, 2) := ⟨⟨by decide +kernel, by decide +kernel⟩, List.mem_of_getElem? (i := 72) (by decide +kernel), List.mem_of_getElem? (i := 422) (by decide +kernel), List.mem_of_getElem? (i := 423) (by decide +kernel)⟩
def lw_privs_1 : List (MethodName × Nat) := [(⟨"DialectForms$Sounds", "become", "(III)Z"⟩, 2), (⟨"DialectForms$Sounds", "difference", "(II)I"⟩, 2), (⟨"DialectForms", "takeCells", "(IIII)I"⟩, 20), (⟨"DialectForms$Sheet", "faultOfCells", "(III)I"⟩, 4), (⟨"DialectForms$Sheet", "faultOfRow", "(I)I"⟩, 4), (⟨"DialectForms", "failBy", "(I)I"⟩, 20), (⟨"DialectForms", "areTakenBelow", "(II)Z"⟩, 20), (⟨"DialectForms$Collector", "addEntry", "(I[II)I"⟩, 4), (⟨"DialectForms", "isPlace", "(I)Z"⟩, 20), (⟨"DialectForms", "takeSounds", "(IIII)I"⟩, 20), (⟨"DialectForms$Row", "becomeCells", "([II)V"⟩, 2), (⟨"DialectForms$Row", "clear", "()V"⟩, 2), (⟨"DialectForms$Row", "add", "(I)V"⟩, 2), (⟨"DialectForms", "addForm", "(III)I"⟩, 20), (⟨"DialectForms$Form", "become", "(IIILDialectForms$Row;)V"⟩, 4), (⟨"DialectForms$Row", "become", "(LDialectForms$Row;)V"⟩, 2)]
theorem lw_r1 : ∀ q ∈ lw_privs_1, lw_okq q := List.forall_mem_cons.mpr ⟨lw_p0, List.forall_mem_cons.mpr ⟨lw_p1, List.forall_mem_cons.mpr ⟨lw_p2, List.forall_mem_cons.mpr ⟨lw_p3, List.forall_mem_cons.mpr ⟨lw_p4, List.forall_mem_cons.mpr ⟨lw_p5, List.forall_mem_cons.mpr ⟨lw_p6, List.forall_mem_cons.mpr ⟨lw_p7, List.forall_mem_cons.mpr ⟨lw_p8, List.forall_mem_cons.mpr ⟨lw_p9, List.forall_mem_cons.mpr ⟨lw_p10, List.forall_mem_cons.mpr ⟨lw_p11, List.forall_mem_cons.mpr ⟨lw_p12, List.forall_mem_cons.mpr ⟨lw_p13, List.forall_mem_cons.mpr ⟨lw_p14, List.forall_mem_cons.mpr ⟨lw_p15, fun _ h => absurd h List.not_mem_nil⟩⟩⟩⟩⟩⟩⟩⟩⟩⟩⟩⟩⟩⟩⟩⟩
theorem lw_p16 : lw_okq (⟨"DialectForms$Collector", "readInto", "(LDialectForms$Row;[II)I"⟩, 4) := ⟨⟨by decide +kernel, by decide +kernel⟩, List.mem_of_getElem? (i := 180) (by decide +kernel), List.mem_of_getElem? (i := 431) (by decide +kernel), List.mem_of_getElem? (i := 432) (by decide +kernel)⟩
theorem lw_p17 : lw_okq (⟨"DialectForms$Collector", "longestAt", "([III)I"⟩, 4) := ⟨⟨by decide +kernel, by decide +kernel⟩, List.mem_of_getElem? (i := 180) (by decide +kernel), List.mem_of_getElem? (i := 436) (by decide +kernel), List.mem_of_getElem? (i := 437) (by decide +kernel)⟩
theorem lw_p18 : lw_okq (⟨"DialectForms$Collector", "stands", "(I[III)Z"⟩, 4) := ⟨⟨by decide +kernel, by decide +kernel⟩, List.mem_of_getElem? (i := 180) (by decide +kernel), List.mem_of_getElem? (i := 440) (by decide +kernel), List.mem_of_getElem? (i := 441) (by decide +kernel)⟩
theorem lw_p19 : lw_okq (⟨"DialectForms", "isForm", "(I)Z"⟩, 20) := ⟨⟨by decide +kernel, by decide +kernel⟩, List.mem_of_getElem? (i := 18) (by decide +kernel), List.mem_of_getElem? (i := 449) (by decide +kernel), List.mem_of_getElem? (i := 450) (by decide +kernel)⟩
theorem lw_p20 : lw_okq (⟨"DialectForms$Row", "at", "(I)I"⟩, 2) := ⟨⟨by decide +kernel, by decide +kernel⟩, List.mem_of_getElem? (i := 72) (by decide +kernel), List.mem_of_getElem? (i := 453) (by decide +kernel), List.mem_of_getElem? (i := 454) (by decide +kernel)⟩
theorem lw_p21 : lw_okq (⟨"DialectForms$Row", "sizeOrAt", "(I)I"⟩, 2) := ⟨⟨by decide +kernel, by decide +kernel⟩, List.mem_of_getElem? (i := 72) (by decide +kernel), List.mem_of_getElem? (i := 470) (by decide +kernel), List.mem_of_getElem? (i := 471) (by decide +kernel)⟩
theorem lw_p22 : lw_okq (⟨"DialectForms$LawBook", "readLaw", "([II)I"⟩, 5) := ⟨⟨by decide +kernel, by decide +kernel⟩, List.mem_of_getElem? (i := 48) (by decide +kernel), List.mem_of_getElem? (i := 479) (by decide +kernel), List.mem_of_getElem? (i := 480) (by decide +kernel)⟩
theorem lw_p23 : lw_okq (⟨"DialectForms$LawText", "firstFault", "([IILDialectForms$Law;)I"⟩, 3) := ⟨⟨by decide +kernel, by decide +kernel⟩, List.mem_of_getElem? (i := 56) (by decide +kernel), List.mem_of_getElem? (i := 483) (by decide +kernel), List.mem_of_getElem? (i := 484) (by decide +kernel)⟩
theorem lw_p24 : lw_okq (⟨"DialectForms$LawText", "readTarget", "(LDialectForms$Law;)Z"⟩, 3) := ⟨⟨by decide +kernel, by decide +kernel⟩, List.mem_of_getElem? (i := 56) (by decide +kernel), List.mem_of_getElem? (i := 488) (by decide +kernel), List.mem_of_getElem? (i := 489) (by decide +kernel)⟩
theorem lw_p25 : lw_okq (⟨"DialectForms$LawText", "takePattern", "()I"⟩, 3) := ⟨⟨by decide +kernel, by decide +kernel⟩, List.mem_of_getElem? (i := 56) (by decide +kernel), List.mem_of_getElem? (i := 492) (by decide +kernel), List.mem_of_getElem? (i := 493) (by decide +kernel)⟩
theorem lw_p26 : lw_okq (⟨"DialectForms$LawText", "takes", "(C)Z"⟩, 3) := ⟨⟨by decide +kernel, by decide +kernel⟩, List.mem_of_getElem? (i := 56) (by decide +kernel), List.mem_of_getElem? (i := 496) (by decide +kernel), List.mem_of_getElem? (i := 497) (by decide +kernel)⟩
theorem lw_p27 : lw_okq (⟨"DialectForms$LawText", "takeBetween", "(CCI)I"⟩, 3) := ⟨⟨by decide +kernel, by decide +kernel⟩, List.mem_of_getElem? (i := 56) (by decide +kernel), List.mem_of_getElem? (i := 500) (by decide +kernel), List.mem_of_getElem? (i := 501) (by decide +kernel)⟩
theorem lw_p28 : lw_okq (⟨"DialectForms$LawText", "readResult", "(LDialectForms$Law;)Z"⟩, 3) := ⟨⟨by decide +kernel, by decide +kernel⟩, List.mem_of_getElem? (i := 56) (by decide +kernel), List.mem_of_getElem? (i := 504) (by decide +kernel), List.mem_of_getElem? (i := 505) (by decide +kernel)⟩
theorem lw_p29 : lw_okq (⟨"DialectForms$LawText", "isAtEnd", "()Z"⟩, 3) := ⟨⟨by decide +kernel, by decide +kernel⟩, List.mem_of_getElem? (i := 56) (by decide +kernel), List.mem_of_getElem? (i := 508) (by decide +kernel), List.mem_of_getElem? (i := 509) (by decide +kernel)⟩
theorem lw_p30 : lw_okq (⟨"DialectForms$LawText", "readSides", "(LDialectForms$Law;)Z"⟩, 3) := ⟨⟨by decide +kernel, by decide +kernel⟩, List.mem_of_getElem? (i := 56) (by decide +kernel), List.mem_of_getElem? (i := 512) (by decide +kernel), List.mem_of_getElem? (i := 513) (by decide +kernel)⟩
theorem lw_p31 : lw_okq (⟨"DialectForms$LawText", "isAt", "(C)Z"⟩, 3) := ⟨⟨by decide +kernel, by decide +kernel⟩, List.mem_of_getElem? (i := 56) (by decide +kernel), List.mem_of_getElem? (i := 516) (by decide +kernel), List.mem_of_getElem? (i := 517) (by decide +kernel)⟩
def lw_privs_2 : List (MethodName × Nat) := [(⟨"DialectForms$Collector", "readInto", "(LDialectForms$Row;[II)I"⟩, 4), (⟨"DialectForms$Collector", "longestAt", "([III)I"⟩, 4), (⟨"DialectForms$Collector", "stands", "(I[III)Z"⟩, 4), (⟨"DialectForms", "isForm", "(I)Z"⟩, 20), (⟨"DialectForms$Row", "at", "(I)I"⟩, 2), (⟨"DialectForms$Row", "sizeOrAt", "(I)I"⟩, 2), (⟨"DialectForms$LawBook", "readLaw", "([II)I"⟩, 5), (⟨"DialectForms$LawText", "firstFault", "([IILDialectForms$Law;)I"⟩, 3), (⟨"DialectForms$LawText", "readTarget", "(LDialectForms$Law;)Z"⟩, 3), (⟨"DialectForms$LawText", "takePattern", "()I"⟩, 3), (⟨"DialectForms$LawText", "takes", "(C)Z"⟩, 3), (⟨"DialectForms$LawText", "takeBetween", "(CCI)I"⟩, 3), (⟨"DialectForms$LawText", "readResult", "(LDialectForms$Law;)Z"⟩, 3), (⟨"DialectForms$LawText", "isAtEnd", "()Z"⟩, 3), (⟨"DialectForms$LawText", "readSides", "(LDialectForms$Law;)Z"⟩, 3), (⟨"DialectForms$LawText", "isAt", "(C)Z"⟩, 3)]
theorem lw_r2 : ∀ q ∈ lw_privs_2, lw_okq q := List.forall_mem_cons.mpr ⟨lw_p16, List.forall_mem_cons.mpr ⟨lw_p17, List.forall_mem_cons.mpr ⟨lw_p18, List.forall_mem_cons.mpr ⟨lw_p19, List.forall_mem_cons.mpr ⟨lw_p20, List.forall_mem_cons.mpr ⟨lw_p21, List.forall_mem_cons.mpr ⟨lw_p22, List.forall_mem_cons.mpr ⟨lw_p23, List.forall_mem_cons.mpr ⟨lw_p24, List.forall_mem_cons.mpr ⟨lw_p25, List.forall_mem_cons.mpr ⟨lw_p26, List.forall_mem_cons.mpr ⟨lw_p27, List.forall_mem_cons.mpr ⟨lw_p28, List.forall_mem_cons.mpr ⟨lw_p29, List.forall_mem_cons.mpr ⟨lw_p30, List.forall_mem_cons.mpr ⟨lw_p31, fun _ h => absurd h List.not_mem_nil⟩⟩⟩⟩⟩⟩⟩⟩⟩⟩⟩⟩⟩⟩⟩⟩
theorem lw_p32 : lw_okq (⟨"DialectForms$LawText", "takeSide", "()I"⟩, 3) := ⟨⟨by decide +kernel, by decide +kernel⟩, List.mem_of_getElem? (i := 56) (by decide +kernel), List.mem_of_getElem? (i := 520) (by decide +kernel), List.mem_of_getElem? (i := 521) (by decide +kernel)⟩
theorem lw_p33 : lw_okq (⟨"DialectForms$LawBook", "addRead", "(I)I"⟩, 5) := ⟨⟨by decide +kernel, by decide +kernel⟩, List.mem_of_getElem? (i := 48) (by decide +kernel), List.mem_of_getElem? (i := 524) (by decide +kernel), List.mem_of_getElem? (i := 525) (by decide +kernel)⟩
theorem lw_p34 : lw_okq (⟨"DialectForms", "isLaw", "(I)Z"⟩, 20) := ⟨⟨by decide +kernel, by decide +kernel⟩, List.mem_of_getElem? (i := 18) (by decide +kernel), List.mem_of_getElem? (i := 532) (by decide +kernel), List.mem_of_getElem? (i := 533) (by decide +kernel)⟩
theorem lw_p35 : lw_okq (⟨"DialectForms$LawBook", "deriveAt", "(ILDialectForms$Row;I)I"⟩, 5) := ⟨⟨by decide +kernel, by decide +kernel⟩, List.mem_of_getElem? (i := 48) (by decide +kernel), List.mem_of_getElem? (i := 541) (by decide +kernel), List.mem_of_getElem? (i := 542) (by decide +kernel)⟩
theorem lw_p36 : lw_okq (⟨"DialectForms$LawBook", "doLaw", "(LDialectForms$Law;LDialectForms$Row;)Z"⟩, 5) := ⟨⟨by decide +kernel, by decide +kernel⟩, List.mem_of_getElem? (i := 48) (by decide +kernel), List.mem_of_getElem? (i := 546) (by decide +kernel), List.mem_of_getElem? (i := 547) (by decide +kernel)⟩
theorem lw_p37 : lw_okq (⟨"DialectForms$Sounds", "isOf", "(II)Z"⟩, 2) := ⟨⟨by decide +kernel, by decide +kernel⟩, List.mem_of_getElem? (i := 26) (by decide +kernel), List.mem_of_getElem? (i := 553) (by decide +kernel), List.mem_of_getElem? (i := 554) (by decide +kernel)⟩
theorem lw_p38 : lw_okq (⟨"DialectForms$Laying", "leastCost", "(LDialectForms$Row;LDialectForms$Row;)I"⟩, 4) := ⟨⟨by decide +kernel, by decide +kernel⟩, List.mem_of_getElem? (i := 140) (by decide +kernel), List.mem_of_getElem? (i := 572) (by decide +kernel), List.mem_of_getElem? (i := 573) (by decide +kernel)⟩
theorem lw_p39 : lw_okq (⟨"DialectForms$Laying", "costOfPair", "(LDialectForms$Row;LDialectForms$Row;II)I"⟩, 4) := ⟨⟨by decide +kernel, by decide +kernel⟩, List.mem_of_getElem? (i := 140) (by decide +kernel), List.mem_of_getElem? (i := 579) (by decide +kernel), List.mem_of_getElem? (i := 580) (by decide +kernel)⟩
theorem lw_p40 : lw_okq (⟨"DialectForms$Laying", "column", "(LDialectForms$Row;LDialectForms$Row;I)I"⟩, 4) := ⟨⟨by decide +kernel, by decide +kernel⟩, List.mem_of_getElem? (i := 140) (by decide +kernel), List.mem_of_getElem? (i := 588) (by decide +kernel), List.mem_of_getElem? (i := 589) (by decide +kernel)⟩
theorem lw_p41 : lw_okq (⟨"DialectForms$Laying", "isPair", "(LDialectForms$Row;LDialectForms$Row;II)Z"⟩, 4) := ⟨⟨by decide +kernel, by decide +kernel⟩, List.mem_of_getElem? (i := 140) (by decide +kernel), List.mem_of_getElem? (i := 593) (by decide +kernel), List.mem_of_getElem? (i := 594) (by decide +kernel)⟩
theorem lw_p42 : lw_okq (⟨"DialectForms$Laying", "isFirstAlone", "(LDialectForms$Row;II)Z"⟩, 4) := ⟨⟨by decide +kernel, by decide +kernel⟩, List.mem_of_getElem? (i := 140) (by decide +kernel), List.mem_of_getElem? (i := 597) (by decide +kernel), List.mem_of_getElem? (i := 598) (by decide +kernel)⟩
theorem lw_p43 : lw_okq (⟨"DialectForms", "saidPlaces", "(I)I"⟩, 20) := ⟨⟨by decide +kernel, by decide +kernel⟩, List.mem_of_getElem? (i := 18) (by decide +kernel), List.mem_of_getElem? (i := 610) (by decide +kernel), List.mem_of_getElem? (i := 611) (by decide +kernel)⟩
theorem lw_p44 : lw_okq (⟨"DialectForms", "seekBest", "(II)I"⟩, 20) := ⟨⟨by decide +kernel, by decide +kernel⟩, List.mem_of_getElem? (i := 18) (by decide +kernel), List.mem_of_getElem? (i := 614) (by decide +kernel), List.mem_of_getElem? (i := 615) (by decide +kernel)⟩
theorem lw_p45 : lw_okq (⟨"DialectForms$Candidates", "begin", "(I)V"⟩, 3) := ⟨⟨by decide +kernel, by decide +kernel⟩, List.mem_of_getElem? (i := 161) (by decide +kernel), List.mem_of_getElem? (i := 618) (by decide +kernel), List.mem_of_getElem? (i := 619) (by decide +kernel)⟩
theorem lw_p46 : lw_okq (⟨"DialectForms$Candidates", "writeTo", "(LDialectForms$Row;I)V"⟩, 3) := ⟨⟨by decide +kernel, by decide +kernel⟩, List.mem_of_getElem? (i := 161) (by decide +kernel), List.mem_of_getElem? (i := 624) (by decide +kernel), List.mem_of_getElem? (i := 625) (by decide +kernel)⟩
theorem lw_p47 : lw_okq (⟨"DialectForms", "costsOfTrial", "(II)I"⟩, 20) := ⟨⟨by decide +kernel, by decide +kernel⟩, List.mem_of_getElem? (i := 18) (by decide +kernel), List.mem_of_getElem? (i := 629) (by decide +kernel), List.mem_of_getElem? (i := 630) (by decide +kernel)⟩
def lw_privs_3 : List (MethodName × Nat) := [(⟨"DialectForms$LawText", "takeSide", "()I"⟩, 3), (⟨"DialectForms$LawBook", "addRead", "(I)I"⟩, 5), (⟨"DialectForms", "isLaw", "(I)Z"⟩, 20), (⟨"DialectForms$LawBook", "deriveAt", "(ILDialectForms$Row;I)I"⟩, 5), (⟨"DialectForms$LawBook", "doLaw", "(LDialectForms$Law;LDialectForms$Row;)Z"⟩, 5), (⟨"DialectForms$Sounds", "isOf", "(II)Z"⟩, 2), (⟨"DialectForms$Laying", "leastCost", "(LDialectForms$Row;LDialectForms$Row;)I"⟩, 4), (⟨"DialectForms$Laying", "costOfPair", "(LDialectForms$Row;LDialectForms$Row;II)I"⟩, 4), (⟨"DialectForms$Laying", "column", "(LDialectForms$Row;LDialectForms$Row;I)I"⟩, 4), (⟨"DialectForms$Laying", "isPair", "(LDialectForms$Row;LDialectForms$Row;II)Z"⟩, 4), (⟨"DialectForms$Laying", "isFirstAlone", "(LDialectForms$Row;II)Z"⟩, 4), (⟨"DialectForms", "saidPlaces", "(I)I"⟩, 20), (⟨"DialectForms", "seekBest", "(II)I"⟩, 20), (⟨"DialectForms$Candidates", "begin", "(I)V"⟩, 3), (⟨"DialectForms$Candidates", "writeTo", "(LDialectForms$Row;I)V"⟩, 3), (⟨"DialectForms", "costsOfTrial", "(II)I"⟩, 20)]
theorem lw_r3 : ∀ q ∈ lw_privs_3, lw_okq q := List.forall_mem_cons.mpr ⟨lw_p32, List.forall_mem_cons.mpr ⟨lw_p33, List.forall_mem_cons.mpr ⟨lw_p34, List.forall_mem_cons.mpr ⟨lw_p35, List.forall_mem_cons.mpr ⟨lw_p36, List.forall_mem_cons.mpr ⟨lw_p37, List.forall_mem_cons.mpr ⟨lw_p38, List.forall_mem_cons.mpr ⟨lw_p39, List.forall_mem_cons.mpr ⟨lw_p40, List.forall_mem_cons.mpr ⟨lw_p41, List.forall_mem_cons.mpr ⟨lw_p42, List.forall_mem_cons.mpr ⟨lw_p43, List.forall_mem_cons.mpr ⟨lw_p44, List.forall_mem_cons.mpr ⟨lw_p45, List.forall_mem_cons.mpr ⟨lw_p46, List.forall_mem_cons.mpr ⟨lw_p47, fun _ h => absurd h List.not_mem_nil⟩⟩⟩⟩⟩⟩⟩⟩⟩⟩⟩⟩⟩⟩⟩⟩
theorem lw_p48 : lw_okq (⟨"DialectForms$Row", "isSame", "(LDialectForms$Row;)Z"⟩, 2) := ⟨⟨by decide +kernel, by decide +kernel⟩, List.mem_of_getElem? (i := 72) (by decide +kernel), List.mem_of_getElem? (i := 637) (by decide +kernel), List.mem_of_getElem? (i := 638) (by decide +kernel)⟩
theorem lw_p49 : lw_okq (⟨"DialectForms$LawBook", "collectAt", "(ILDialectForms$Row;)V"⟩, 5) := ⟨⟨by decide +kernel, by decide +kernel⟩, List.mem_of_getElem? (i := 48) (by decide +kernel), List.mem_of_getElem? (i := 649) (by decide +kernel), List.mem_of_getElem? (i := 650) (by decide +kernel)⟩
theorem lw_p50 : lw_okq (⟨"DialectForms", "orderBest", "(I)I"⟩, 20) := ⟨⟨by decide +kernel, by decide +kernel⟩, List.mem_of_getElem? (i := 18) (by decide +kernel), List.mem_of_getElem? (i := 653) (by decide +kernel), List.mem_of_getElem? (i := 654) (by decide +kernel)⟩
theorem lw_p51 : lw_okq (⟨"DialectForms", "regularByTrial", "(I)I"⟩, 20) := ⟨⟨by decide +kernel, by decide +kernel⟩, List.mem_of_getElem? (i := 18) (by decide +kernel), List.mem_of_getElem? (i := 657) (by decide +kernel), List.mem_of_getElem? (i := 658) (by decide +kernel)⟩
theorem lw_p52 : lw_okq (⟨"DialectForms$LawBook", "deriveBy", "(LDialectForms$Row;LDialectForms$Row;)V"⟩, 5) := ⟨⟨by decide +kernel, by decide +kernel⟩, List.mem_of_getElem? (i := 48) (by decide +kernel), List.mem_of_getElem? (i := 661) (by decide +kernel), List.mem_of_getElem? (i := 662) (by decide +kernel)⟩
theorem lw_p53 : lw_okq (⟨"DialectForms$Row", "stepOrder", "()Z"⟩, 2) := ⟨⟨by decide +kernel, by decide +kernel⟩, List.mem_of_getElem? (i := 72) (by decide +kernel), List.mem_of_getElem? (i := 666) (by decide +kernel), List.mem_of_getElem? (i := 667) (by decide +kernel)⟩
theorem lw_p54 : lw_okq (⟨"DialectForms$Row", "swap", "(II)V"⟩, 2) := ⟨⟨by decide +kernel, by decide +kernel⟩, List.mem_of_getElem? (i := 72) (by decide +kernel), List.mem_of_getElem? (i := 670) (by decide +kernel), List.mem_of_getElem? (i := 671) (by decide +kernel)⟩
theorem lw_p55 : lw_okq (⟨"DialectForms", "likePlaces", "(II)I"⟩, 20) := ⟨⟨by decide +kernel, by decide +kernel⟩, List.mem_of_getElem? (i := 18) (by decide +kernel), List.mem_of_getElem? (i := 682) (by decide +kernel), List.mem_of_getElem? (i := 683) (by decide +kernel)⟩
theorem lw_p56 : lw_okq (⟨"DialectForms", "costBetween", "(III)I"⟩, 20) := ⟨⟨by decide +kernel, by decide +kernel⟩, List.mem_of_getElem? (i := 18) (by decide +kernel), List.mem_of_getElem? (i := 686) (by decide +kernel), List.mem_of_getElem? (i := 687) (by decide +kernel)⟩
theorem lw_p57 : lw_okq (⟨"DialectForms$Sheet", "renew", "(II)V"⟩, 4) := ⟨⟨by decide +kernel, by decide +kernel⟩, List.mem_of_getElem? (i := 222) (by decide +kernel), List.mem_of_getElem? (i := 716) (by decide +kernel), List.mem_of_getElem? (i := 717) (by decide +kernel)⟩
theorem lw_p58 : lw_okq (⟨"DialectForms$Sheet", "loseRow", "()Z"⟩, 4) := ⟨⟨by decide +kernel, by decide +kernel⟩, List.mem_of_getElem? (i := 222) (by decide +kernel), List.mem_of_getElem? (i := 725) (by decide +kernel), List.mem_of_getElem? (i := 726) (by decide +kernel)⟩
theorem lw_p59 : lw_okq (⟨"DialectForms$Sheet", "putCut", "(II)V"⟩, 4) := ⟨⟨by decide +kernel, by decide +kernel⟩, List.mem_of_getElem? (i := 222) (by decide +kernel), List.mem_of_getElem? (i := 733) (by decide +kernel), List.mem_of_getElem? (i := 734) (by decide +kernel)⟩
theorem lw_p60 : lw_okq (⟨"DialectForms", "tellGuess", "(LDialectForms$Form;)I"⟩, 20) := ⟨⟨by decide +kernel, by decide +kernel⟩, List.mem_of_getElem? (i := 18) (by decide +kernel), List.mem_of_getElem? (i := 747) (by decide +kernel), List.mem_of_getElem? (i := 748) (by decide +kernel)⟩
theorem lw_p61 : lw_okq (⟨"DialectForms", "leaveTrace", "(I)V"⟩, 20) := ⟨⟨by decide +kernel, by decide +kernel⟩, List.mem_of_getElem? (i := 18) (by decide +kernel), List.mem_of_getElem? (i := 751) (by decide +kernel), List.mem_of_getElem? (i := 752) (by decide +kernel)⟩
theorem lw_p62 : lw_okq (⟨"DialectForms", "tellLoan", "(LDialectForms$Form;)I"⟩, 20) := ⟨⟨by decide +kernel, by decide +kernel⟩, List.mem_of_getElem? (i := 18) (by decide +kernel), List.mem_of_getElem? (i := 755) (by decide +kernel), List.mem_of_getElem? (i := 756) (by decide +kernel)⟩
theorem lw_p63 : lw_okq (⟨"DialectForms", "tellForm", "(LDialectForms$Form;)I"⟩, 20) := ⟨⟨by decide +kernel, by decide +kernel⟩, List.mem_of_getElem? (i := 18) (by decide +kernel), List.mem_of_getElem? (i := 759) (by decide +kernel), List.mem_of_getElem? (i := 760) (by decide +kernel)⟩
def lw_privs_4 : List (MethodName × Nat) := [(⟨"DialectForms$Row", "isSame", "(LDialectForms$Row;)Z"⟩, 2), (⟨"DialectForms$LawBook", "collectAt", "(ILDialectForms$Row;)V"⟩, 5), (⟨"DialectForms", "orderBest", "(I)I"⟩, 20), (⟨"DialectForms", "regularByTrial", "(I)I"⟩, 20), (⟨"DialectForms$LawBook", "deriveBy", "(LDialectForms$Row;LDialectForms$Row;)V"⟩, 5), (⟨"DialectForms$Row", "stepOrder", "()Z"⟩, 2), (⟨"DialectForms$Row", "swap", "(II)V"⟩, 2), (⟨"DialectForms", "likePlaces", "(II)I"⟩, 20), (⟨"DialectForms", "costBetween", "(III)I"⟩, 20), (⟨"DialectForms$Sheet", "renew", "(II)V"⟩, 4), (⟨"DialectForms$Sheet", "loseRow", "()Z"⟩, 4), (⟨"DialectForms$Sheet", "putCut", "(II)V"⟩, 4), (⟨"DialectForms", "tellGuess", "(LDialectForms$Form;)I"⟩, 20), (⟨"DialectForms", "leaveTrace", "(I)V"⟩, 20), (⟨"DialectForms", "tellLoan", "(LDialectForms$Form;)I"⟩, 20), (⟨"DialectForms", "tellForm", "(LDialectForms$Form;)I"⟩, 20)]
theorem lw_r4 : ∀ q ∈ lw_privs_4, lw_okq q := List.forall_mem_cons.mpr ⟨lw_p48, List.forall_mem_cons.mpr ⟨lw_p49, List.forall_mem_cons.mpr ⟨lw_p50, List.forall_mem_cons.mpr ⟨lw_p51, List.forall_mem_cons.mpr ⟨lw_p52, List.forall_mem_cons.mpr ⟨lw_p53, List.forall_mem_cons.mpr ⟨lw_p54, List.forall_mem_cons.mpr ⟨lw_p55, List.forall_mem_cons.mpr ⟨lw_p56, List.forall_mem_cons.mpr ⟨lw_p57, List.forall_mem_cons.mpr ⟨lw_p58, List.forall_mem_cons.mpr ⟨lw_p59, List.forall_mem_cons.mpr ⟨lw_p60, List.forall_mem_cons.mpr ⟨lw_p61, List.forall_mem_cons.mpr ⟨lw_p62, List.forall_mem_cons.mpr ⟨lw_p63, fun _ h => absurd h List.not_mem_nil⟩⟩⟩⟩⟩⟩⟩⟩⟩⟩⟩⟩⟩⟩⟩⟩
theorem lw_p64 : lw_okq (⟨"DialectFormsModel", "differOf", "(II)I"⟩, 46) := ⟨⟨by decide +kernel, by decide +kernel⟩, List.mem_of_getElem? (i := 783) (by decide +kernel), List.mem_of_getElem? (i := 949) (by decide +kernel), List.mem_of_getElem? (i := 950) (by decide +kernel)⟩
theorem lw_p65 : lw_okq (⟨"DialectFormsModel", "against", "(IIII)I"⟩, 46) := ⟨⟨by decide +kernel, by decide +kernel⟩, List.mem_of_getElem? (i := 783) (by decide +kernel), List.mem_of_getElem? (i := 966) (by decide +kernel), List.mem_of_getElem? (i := 967) (by decide +kernel)⟩
theorem lw_p66 : lw_okq (⟨"DialectFormsModel", "fails", "(I)I"⟩, 46) := ⟨⟨by decide +kernel, by decide +kernel⟩, List.mem_of_getElem? (i := 783) (by decide +kernel), List.mem_of_getElem? (i := 970) (by decide +kernel), List.mem_of_getElem? (i := 971) (by decide +kernel)⟩
theorem lw_p67 : lw_okq (⟨"DialectFormsModel", "areCells", "(IIII)Z"⟩, 46) := ⟨⟨by decide +kernel, by decide +kernel⟩, List.mem_of_getElem? (i := 783) (by decide +kernel), List.mem_of_getElem? (i := 974) (by decide +kernel), List.mem_of_getElem? (i := 975) (by decide +kernel)⟩
theorem lw_p68 : lw_okq (⟨"DialectFormsModel", "isPlace", "(I)Z"⟩, 46) := ⟨⟨by decide +kernel, by decide +kernel⟩, List.mem_of_getElem? (i := 783) (by decide +kernel), List.mem_of_getElem? (i := 986) (by decide +kernel), List.mem_of_getElem? (i := 987) (by decide +kernel)⟩
theorem lw_p69 : lw_okq (⟨"DialectFormsModel", "formComes", "(IIII)I"⟩, 46) := ⟨⟨by decide +kernel, by decide +kernel⟩, List.mem_of_getElem? (i := 783) (by decide +kernel), List.mem_of_getElem? (i := 997) (by decide +kernel), List.mem_of_getElem? (i := 998) (by decide +kernel)⟩
theorem lw_p70 : lw_okq (⟨"DialectFormsModel", "entryAt", "(III)I"⟩, 46) := ⟨⟨by decide +kernel, by decide +kernel⟩, List.mem_of_getElem? (i := 783) (by decide +kernel), List.mem_of_getElem? (i := 1005) (by decide +kernel), List.mem_of_getElem? (i := 1006) (by decide +kernel)⟩
theorem lw_p71 : lw_okq (⟨"DialectFormsModel", "stands", "(III)Z"⟩, 46) := ⟨⟨by decide +kernel, by decide +kernel⟩, List.mem_of_getElem? (i := 783) (by decide +kernel), List.mem_of_getElem? (i := 1009) (by decide +kernel), List.mem_of_getElem? (i := 1010) (by decide +kernel)⟩
theorem lw_p72 : lw_okq (⟨"DialectFormsModel", "isForm", "(I)Z"⟩, 46) := ⟨⟨by decide +kernel, by decide +kernel⟩, List.mem_of_getElem? (i := 783) (by decide +kernel), List.mem_of_getElem? (i := 1017) (by decide +kernel), List.mem_of_getElem? (i := 1018) (by decide +kernel)⟩
theorem lw_p73 : lw_okq (⟨"DialectFormsModel", "saidAt", "(II)I"⟩, 46) := ⟨⟨by decide +kernel, by decide +kernel⟩, List.mem_of_getElem? (i := 783) (by decide +kernel), List.mem_of_getElem? (i := 1025) (by decide +kernel), List.mem_of_getElem? (i := 1026) (by decide +kernel)⟩
theorem lw_p74 : lw_okq (⟨"DialectFormsModel", "readsLaw", "([I)Z"⟩, 46) := ⟨⟨by decide +kernel, by decide +kernel⟩, List.mem_of_getElem? (i := 783) (by decide +kernel), List.mem_of_getElem? (i := 1041) (by decide +kernel), List.mem_of_getElem? (i := 1042) (by decide +kernel)⟩
theorem lw_p75 : lw_okq (⟨"DialectFormsModel", "readsTarget", "()I"⟩, 46) := ⟨⟨by decide +kernel, by decide +kernel⟩, List.mem_of_getElem? (i := 783) (by decide +kernel), List.mem_of_getElem? (i := 1045) (by decide +kernel), List.mem_of_getElem? (i := 1046) (by decide +kernel)⟩
theorem lw_p76 : lw_okq (⟨"DialectFormsModel", "codeAt", "()I"⟩, 46) := ⟨⟨by decide +kernel, by decide +kernel⟩, List.mem_of_getElem? (i := 783) (by decide +kernel), List.mem_of_getElem? (i := 1049) (by decide +kernel), List.mem_of_getElem? (i := 1050) (by decide +kernel)⟩
theorem lw_p77 : lw_okq (⟨"DialectFormsModel", "readsSide", "(I)I"⟩, 46) := ⟨⟨by decide +kernel, by decide +kernel⟩, List.mem_of_getElem? (i := 783) (by decide +kernel), List.mem_of_getElem? (i := 1053) (by decide +kernel), List.mem_of_getElem? (i := 1054) (by decide +kernel)⟩
theorem lw_p78 : lw_okq (⟨"DialectFormsModel", "isLaw", "(I)Z"⟩, 46) := ⟨⟨by decide +kernel, by decide +kernel⟩, List.mem_of_getElem? (i := 783) (by decide +kernel), List.mem_of_getElem? (i := 1061) (by decide +kernel), List.mem_of_getElem? (i := 1062) (by decide +kernel)⟩
theorem lw_p79 : lw_okq (⟨"DialectFormsModel", "takeRoot", "(I)V"⟩, 46) := ⟨⟨by decide +kernel, by decide +kernel⟩, List.mem_of_getElem? (i := 783) (by decide +kernel), List.mem_of_getElem? (i := 1069) (by decide +kernel), List.mem_of_getElem? (i := 1070) (by decide +kernel)⟩
def lw_privs_5 : List (MethodName × Nat) := [(⟨"DialectFormsModel", "differOf", "(II)I"⟩, 46), (⟨"DialectFormsModel", "against", "(IIII)I"⟩, 46), (⟨"DialectFormsModel", "fails", "(I)I"⟩, 46), (⟨"DialectFormsModel", "areCells", "(IIII)Z"⟩, 46), (⟨"DialectFormsModel", "isPlace", "(I)Z"⟩, 46), (⟨"DialectFormsModel", "formComes", "(IIII)I"⟩, 46), (⟨"DialectFormsModel", "entryAt", "(III)I"⟩, 46), (⟨"DialectFormsModel", "stands", "(III)Z"⟩, 46), (⟨"DialectFormsModel", "isForm", "(I)Z"⟩, 46), (⟨"DialectFormsModel", "saidAt", "(II)I"⟩, 46), (⟨"DialectFormsModel", "readsLaw", "([I)Z"⟩, 46), (⟨"DialectFormsModel", "readsTarget", "()I"⟩, 46), (⟨"DialectFormsModel", "codeAt", "()I"⟩, 46), (⟨"DialectFormsModel", "readsSide", "(I)I"⟩, 46), (⟨"DialectFormsModel", "isLaw", "(I)Z"⟩, 46), (⟨"DialectFormsModel", "takeRoot", "(I)V"⟩, 46)]
theorem lw_r5 : ∀ q ∈ lw_privs_5, lw_okq q := List.forall_mem_cons.mpr ⟨lw_p64, List.forall_mem_cons.mpr ⟨lw_p65, List.forall_mem_cons.mpr ⟨lw_p66, List.forall_mem_cons.mpr ⟨lw_p67, List.forall_mem_cons.mpr ⟨lw_p68, List.forall_mem_cons.mpr ⟨lw_p69, List.forall_mem_cons.mpr ⟨lw_p70, List.forall_mem_cons.mpr ⟨lw_p71, List.forall_mem_cons.mpr ⟨lw_p72, List.forall_mem_cons.mpr ⟨lw_p73, List.forall_mem_cons.mpr ⟨lw_p74, List.forall_mem_cons.mpr ⟨lw_p75, List.forall_mem_cons.mpr ⟨lw_p76, List.forall_mem_cons.mpr ⟨lw_p77, List.forall_mem_cons.mpr ⟨lw_p78, List.forall_mem_cons.mpr ⟨lw_p79, fun _ h => absurd h List.not_mem_nil⟩⟩⟩⟩⟩⟩⟩⟩⟩⟩⟩⟩⟩⟩⟩⟩
theorem lw_p80 : lw_okq (⟨"DialectFormsModel", "derive", "(II)I"⟩, 46) := ⟨⟨by decide +kernel, by decide +kernel⟩, List.mem_of_getElem? (i := 783) (by decide +kernel), List.mem_of_getElem? (i := 1073) (by decide +kernel), List.mem_of_getElem? (i := 1074) (by decide +kernel)⟩
theorem lw_p81 : lw_okq (⟨"DialectFormsModel", "doLaw", "(I)Z"⟩, 46) := ⟨⟨by decide +kernel, by decide +kernel⟩, List.mem_of_getElem? (i := 783) (by decide +kernel), List.mem_of_getElem? (i := 1077) (by decide +kernel), List.mem_of_getElem? (i := 1078) (by decide +kernel)⟩
theorem lw_p82 : lw_okq (⟨"DialectFormsModel", "isOf", "(II)Z"⟩, 46) := ⟨⟨by decide +kernel, by decide +kernel⟩, List.mem_of_getElem? (i := 783) (by decide +kernel), List.mem_of_getElem? (i := 1081) (by decide +kernel), List.mem_of_getElem? (i := 1082) (by decide +kernel)⟩
theorem lw_p83 : lw_okq (⟨"DialectFormsModel", "holds", "(II)Z"⟩, 46) := ⟨⟨by decide +kernel, by decide +kernel⟩, List.mem_of_getElem? (i := 783) (by decide +kernel), List.mem_of_getElem? (i := 1085) (by decide +kernel), List.mem_of_getElem? (i := 1086) (by decide +kernel)⟩
theorem lw_p84 : lw_okq (⟨"DialectFormsModel", "costOf", "(II)I"⟩, 46) := ⟨⟨by decide +kernel, by decide +kernel⟩, List.mem_of_getElem? (i := 783) (by decide +kernel), List.mem_of_getElem? (i := 1101) (by decide +kernel), List.mem_of_getElem? (i := 1102) (by decide +kernel)⟩
theorem lw_p85 : lw_okq (⟨"DialectFormsModel", "takeForms", "(II)V"⟩, 46) := ⟨⟨by decide +kernel, by decide +kernel⟩, List.mem_of_getElem? (i := 783) (by decide +kernel), List.mem_of_getElem? (i := 1105) (by decide +kernel), List.mem_of_getElem? (i := 1106) (by decide +kernel)⟩
theorem lw_p86 : lw_okq (⟨"DialectFormsModel", "layCosts", "(II)I"⟩, 46) := ⟨⟨by decide +kernel, by decide +kernel⟩, List.mem_of_getElem? (i := 783) (by decide +kernel), List.mem_of_getElem? (i := 1109) (by decide +kernel), List.mem_of_getElem? (i := 1110) (by decide +kernel)⟩
theorem lw_p87 : lw_okq (⟨"DialectFormsModel", "laySet", "(I)Z"⟩, 46) := ⟨⟨by decide +kernel, by decide +kernel⟩, List.mem_of_getElem? (i := 783) (by decide +kernel), List.mem_of_getElem? (i := 1121) (by decide +kernel), List.mem_of_getElem? (i := 1122) (by decide +kernel)⟩
theorem lw_p88 : lw_okq (⟨"DialectFormsModel", "isSaid", "(I)Z"⟩, 46) := ⟨⟨by decide +kernel, by decide +kernel⟩, List.mem_of_getElem? (i := 783) (by decide +kernel), List.mem_of_getElem? (i := 1126) (by decide +kernel), List.mem_of_getElem? (i := 1127) (by decide +kernel)⟩
theorem lw_p89 : lw_okq (⟨"DialectFormsModel", "manyCandidates", "()I"⟩, 46) := ⟨⟨by decide +kernel, by decide +kernel⟩, List.mem_of_getElem? (i := 783) (by decide +kernel), List.mem_of_getElem? (i := 1130) (by decide +kernel), List.mem_of_getElem? (i := 1131) (by decide +kernel)⟩
theorem lw_p90 : lw_okq (⟨"DialectFormsModel", "layCandidate", "(I)V"⟩, 46) := ⟨⟨by decide +kernel, by decide +kernel⟩, List.mem_of_getElem? (i := 783) (by decide +kernel), List.mem_of_getElem? (i := 1134) (by decide +kernel), List.mem_of_getElem? (i := 1135) (by decide +kernel)⟩
theorem lw_p91 : lw_okq (⟨"DialectFormsModel", "costsOf", "(I)I"⟩, 46) := ⟨⟨by decide +kernel, by decide +kernel⟩, List.mem_of_getElem? (i := 783) (by decide +kernel), List.mem_of_getElem? (i := 1138) (by decide +kernel), List.mem_of_getElem? (i := 1139) (by decide +kernel)⟩
theorem lw_p92 : lw_okq (⟨"DialectFormsModel", "deriveCandidate", "(I)V"⟩, 46) := ⟨⟨by decide +kernel, by decide +kernel⟩, List.mem_of_getElem? (i := 783) (by decide +kernel), List.mem_of_getElem? (i := 1142) (by decide +kernel), List.mem_of_getElem? (i := 1143) (by decide +kernel)⟩
theorem lw_p93 : lw_okq (⟨"DialectFormsModel", "costFrom", "(I)I"⟩, 46) := ⟨⟨by decide +kernel, by decide +kernel⟩, List.mem_of_getElem? (i := 783) (by decide +kernel), List.mem_of_getElem? (i := 1146) (by decide +kernel), List.mem_of_getElem? (i := 1147) (by decide +kernel)⟩
theorem lw_p94 : lw_okq (⟨"DialectFormsModel", "isForms", "(I)Z"⟩, 46) := ⟨⟨by decide +kernel, by decide +kernel⟩, List.mem_of_getElem? (i := 783) (by decide +kernel), List.mem_of_getElem? (i := 1154) (by decide +kernel), List.mem_of_getElem? (i := 1155) (by decide +kernel)⟩
theorem lw_p95 : lw_okq (⟨"DialectFormsModel", "regulars", "(II)I"⟩, 46) := ⟨⟨by decide +kernel, by decide +kernel⟩, List.mem_of_getElem? (i := 783) (by decide +kernel), List.mem_of_getElem? (i := 1166) (by decide +kernel), List.mem_of_getElem? (i := 1167) (by decide +kernel)⟩
def lw_privs_6 : List (MethodName × Nat) := [(⟨"DialectFormsModel", "derive", "(II)I"⟩, 46), (⟨"DialectFormsModel", "doLaw", "(I)Z"⟩, 46), (⟨"DialectFormsModel", "isOf", "(II)Z"⟩, 46), (⟨"DialectFormsModel", "holds", "(II)Z"⟩, 46), (⟨"DialectFormsModel", "costOf", "(II)I"⟩, 46), (⟨"DialectFormsModel", "takeForms", "(II)V"⟩, 46), (⟨"DialectFormsModel", "layCosts", "(II)I"⟩, 46), (⟨"DialectFormsModel", "laySet", "(I)Z"⟩, 46), (⟨"DialectFormsModel", "isSaid", "(I)Z"⟩, 46), (⟨"DialectFormsModel", "manyCandidates", "()I"⟩, 46), (⟨"DialectFormsModel", "layCandidate", "(I)V"⟩, 46), (⟨"DialectFormsModel", "costsOf", "(I)I"⟩, 46), (⟨"DialectFormsModel", "deriveCandidate", "(I)V"⟩, 46), (⟨"DialectFormsModel", "costFrom", "(I)I"⟩, 46), (⟨"DialectFormsModel", "isForms", "(I)Z"⟩, 46), (⟨"DialectFormsModel", "regulars", "(II)I"⟩, 46)]
theorem lw_r6 : ∀ q ∈ lw_privs_6, lw_okq q := List.forall_mem_cons.mpr ⟨lw_p80, List.forall_mem_cons.mpr ⟨lw_p81, List.forall_mem_cons.mpr ⟨lw_p82, List.forall_mem_cons.mpr ⟨lw_p83, List.forall_mem_cons.mpr ⟨lw_p84, List.forall_mem_cons.mpr ⟨lw_p85, List.forall_mem_cons.mpr ⟨lw_p86, List.forall_mem_cons.mpr ⟨lw_p87, List.forall_mem_cons.mpr ⟨lw_p88, List.forall_mem_cons.mpr ⟨lw_p89, List.forall_mem_cons.mpr ⟨lw_p90, List.forall_mem_cons.mpr ⟨lw_p91, List.forall_mem_cons.mpr ⟨lw_p92, List.forall_mem_cons.mpr ⟨lw_p93, List.forall_mem_cons.mpr ⟨lw_p94, List.forall_mem_cons.mpr ⟨lw_p95, fun _ h => absurd h List.not_mem_nil⟩⟩⟩⟩⟩⟩⟩⟩⟩⟩⟩⟩⟩⟩⟩⟩
theorem lw_p96 : lw_okq (⟨"DialectFormsModel", "nextTurn", "(I)Z"⟩, 46) := ⟨⟨by decide +kernel, by decide +kernel⟩, List.mem_of_getElem? (i := 783) (by decide +kernel), List.mem_of_getElem? (i := 1170) (by decide +kernel), List.mem_of_getElem? (i := 1171) (by decide +kernel)⟩
theorem lw_p97 : lw_okq (⟨"DialectFormsModel", "areLike", "(III)Z"⟩, 46) := ⟨⟨by decide +kernel, by decide +kernel⟩, List.mem_of_getElem? (i := 783) (by decide +kernel), List.mem_of_getElem? (i := 1182) (by decide +kernel), List.mem_of_getElem? (i := 1183) (by decide +kernel)⟩
theorem lw_p98 : lw_okq (⟨"DialectFormsModel", "areSaid", "(III)Z"⟩, 46) := ⟨⟨by decide +kernel, by decide +kernel⟩, List.mem_of_getElem? (i := 783) (by decide +kernel), List.mem_of_getElem? (i := 1186) (by decide +kernel), List.mem_of_getElem? (i := 1187) (by decide +kernel)⟩
theorem lw_p99 : lw_okq (⟨"DialectFormsModel", "join", "(II)V"⟩, 46) := ⟨⟨by decide +kernel, by decide +kernel⟩, List.mem_of_getElem? (i := 783) (by decide +kernel), List.mem_of_getElem? (i := 1190) (by decide +kernel), List.mem_of_getElem? (i := 1191) (by decide +kernel)⟩
theorem lw_p100 : lw_okq (⟨"DialectFormsModel", "joinedOf", "(I)I"⟩, 46) := ⟨⟨by decide +kernel, by decide +kernel⟩, List.mem_of_getElem? (i := 783) (by decide +kernel), List.mem_of_getElem? (i := 1194) (by decide +kernel), List.mem_of_getElem? (i := 1195) (by decide +kernel)⟩
theorem lw_p101 : lw_okq (⟨"DialectFormsModel", "lost", "(I)J"⟩, 46) := ⟨⟨by decide +kernel, by decide +kernel⟩, List.mem_of_getElem? (i := 783) (by decide +kernel), List.mem_of_getElem? (i := 1227) (by decide +kernel), List.mem_of_getElem? (i := 1228) (by decide +kernel)⟩
theorem lw_p102 : lw_okq (⟨"DialectFormsModel", "begins", "(I)V"⟩, 46) := ⟨⟨by decide +kernel, by decide +kernel⟩, List.mem_of_getElem? (i := 783) (by decide +kernel), List.mem_of_getElem? (i := 1235) (by decide +kernel), List.mem_of_getElem? (i := 1236) (by decide +kernel)⟩
def lw_privs_7 : List (MethodName × Nat) := [(⟨"DialectFormsModel", "nextTurn", "(I)Z"⟩, 46), (⟨"DialectFormsModel", "areLike", "(III)Z"⟩, 46), (⟨"DialectFormsModel", "areSaid", "(III)Z"⟩, 46), (⟨"DialectFormsModel", "join", "(II)V"⟩, 46), (⟨"DialectFormsModel", "joinedOf", "(I)I"⟩, 46), (⟨"DialectFormsModel", "lost", "(I)J"⟩, 46), (⟨"DialectFormsModel", "begins", "(I)V"⟩, 46)]
theorem lw_r7 : ∀ q ∈ lw_privs_7, lw_okq q := List.forall_mem_cons.mpr ⟨lw_p96, List.forall_mem_cons.mpr ⟨lw_p97, List.forall_mem_cons.mpr ⟨lw_p98, List.forall_mem_cons.mpr ⟨lw_p99, List.forall_mem_cons.mpr ⟨lw_p100, List.forall_mem_cons.mpr ⟨lw_p101, List.forall_mem_cons.mpr ⟨lw_p102, fun _ h => absurd h List.not_mem_nil⟩⟩⟩⟩⟩⟩⟩
def lw_privs : List (MethodName × Nat) := lw_privs_1 ++ (lw_privs_2 ++ (lw_privs_3 ++ (lw_privs_4 ++ (lw_privs_5 ++ (lw_privs_6 ++ (lw_privs_7))))))
def lw_tbl : List Cond := k2_sels lw_privs ++ tables_1
theorem lw_privs_ok : ∀ q ∈ lw_privs, lw_okq q := by
  show ∀ q ∈ lw_privs_1 ++ (lw_privs_2 ++ (lw_privs_3 ++ (lw_privs_4 ++ (lw_privs_5 ++ (lw_privs_6 ++ (lw_privs_7)))))), lw_okq q
  exact List.forall_mem_append.mpr ⟨lw_r1, List.forall_mem_append.mpr ⟨lw_r2, List.forall_mem_append.mpr ⟨lw_r3, List.forall_mem_append.mpr ⟨lw_r4, List.forall_mem_append.mpr ⟨lw_r5, List.forall_mem_append.mpr ⟨lw_r6, lw_r7⟩⟩⟩⟩⟩⟩
end
section
def RX0 : String := "DialectForms$Candidates"
def TX0 : u_T := fun k => match k with
  | 0 => ("DialectForms$Candidates", "members", "[I", true)
  | 1 => ("DialectForms$Candidates", "count", "I", false)
  | _ => ("DialectForms$Candidates", "total", "I", false)
def tyX0 : Nat → FieldType := fun k => match k with
  | 0 => .array .int
  | 1 => .int
  | _ => .int
abbrev wsX00 : List Cond := u_ws RX0 TX0 3
theorem nmX0 : ∀ a, a < 3 → ∀ b, b < 3 → a ≠ b → (TX0 a).2.1 ≠ (TX0 b).2.1 := by decide +kernel
theorem tyX0_ok : ∀ k, k < 3 → parseFieldDescriptor (TX0 k).2.2.1 = some (tyX0 k) := by decide +kernel
abbrev cX0_init : ByteArray := prog_2_method_1_code
def yX0_init : MethodName := ⟨RX0, "<init>", "()V"⟩
abbrev cX0_begin : ByteArray := prog_2_method_2_code
def yX0_begin : MethodName := ⟨RX0, "begin", "(I)V"⟩
abbrev cX0_writeTo : ByteArray := prog_2_method_3_code
def yX0_writeTo : MethodName := ⟨RX0, "writeTo", "(LDialectForms$Row;I)V"⟩
def RX1 : String := "DialectForms$Collector"
def TX1 : u_T := fun k => match k with
  | 0 => ("DialectForms$Collector", "codes", "[I", true)
  | 1 => ("DialectForms$Collector", "sizes", "[I", true)
  | 2 => ("DialectForms$Collector", "standsFor", "[I", true)
  | _ => ("DialectForms$Collector", "count", "I", false)
def tyX1 : Nat → FieldType := fun k => match k with
  | 0 => .array .int
  | 1 => .array .int
  | 2 => .array .int
  | _ => .int
abbrev wsX10 : List Cond := u_ws RX1 TX1 4
theorem nmX1 : ∀ a, a < 4 → ∀ b, b < 4 → a ≠ b → (TX1 a).2.1 ≠ (TX1 b).2.1 := by decide +kernel
theorem tyX1_ok : ∀ k, k < 4 → parseFieldDescriptor (TX1 k).2.2.1 = some (tyX1 k) := by decide +kernel
abbrev cX1_init : ByteArray := prog_3_method_1_code
def yX1_init : MethodName := ⟨RX1, "<init>", "()V"⟩
abbrev cX1_addEntry : ByteArray := prog_3_method_2_code
def yX1_addEntry : MethodName := ⟨RX1, "addEntry", "(I[II)I"⟩
abbrev cX1_readInto : ByteArray := prog_3_method_3_code
def yX1_readInto : MethodName := ⟨RX1, "readInto", "(LDialectForms$Row;[II)I"⟩
abbrev cX1_longestAt : ByteArray := prog_3_method_4_code
def yX1_longestAt : MethodName := ⟨RX1, "longestAt", "([III)I"⟩
abbrev cX1_stands : ByteArray := prog_3_method_5_code
def yX1_stands : MethodName := ⟨RX1, "stands", "(I[III)Z"⟩
def RX2 : String := "DialectForms$Form"
def TX2 : u_T := fun k => match k with
  | 0 => ("DialectForms$Form", "row", "LDialectForms$Row;", true)
  | 1 => ("DialectForms$Form", "kind", "I", false)
  | 2 => ("DialectForms$Form", "place", "I", false)
  | _ => ("DialectForms$Form", "meaning", "I", false)
def tyX2 : Nat → FieldType := fun k => match k with
  | 0 => .object "DialectForms$Row"
  | 1 => .int
  | 2 => .int
  | _ => .int
abbrev wsX20 : List Cond := u_ws RX2 TX2 4
theorem nmX2 : ∀ a, a < 4 → ∀ b, b < 4 → a ≠ b → (TX2 a).2.1 ≠ (TX2 b).2.1 := by decide +kernel
theorem tyX2_ok : ∀ k, k < 4 → parseFieldDescriptor (TX2 k).2.2.1 = some (tyX2 k) := by decide +kernel
abbrev cX2_init : ByteArray := prog_4_method_1_code
def yX2_init : MethodName := ⟨RX2, "<init>", "()V"⟩
abbrev cX2_become : ByteArray := prog_4_method_2_code
def yX2_become : MethodName := ⟨RX2, "become", "(IIILDialectForms$Row;)V"⟩
def RX3 : String := "DialectForms$Law"
def TX3 : u_T := fun k => match k with
  | 0 => ("DialectForms$Law", "places", "I", false)
  | 1 => ("DialectForms$Law", "target", "I", false)
  | 2 => ("DialectForms$Law", "result", "I", false)
  | 3 => ("DialectForms$Law", "left", "I", false)
  | _ => ("DialectForms$Law", "right", "I", false)
def tyX3 : Nat → FieldType := fun k => match k with
  | 0 => .int
  | 1 => .int
  | 2 => .int
  | 3 => .int
  | _ => .int
abbrev wsX30 : List Cond := u_ws RX3 TX3 5
theorem nmX3 : ∀ a, a < 5 → ∀ b, b < 5 → a ≠ b → (TX3 a).2.1 ≠ (TX3 b).2.1 := by decide +kernel
theorem tyX3_ok : ∀ k, k < 5 → parseFieldDescriptor (TX3 k).2.2.1 = some (tyX3 k) := by decide +kernel
abbrev cX3_init : ByteArray := prog_5_method_1_code
def yX3_init : MethodName := ⟨RX3, "<init>", "()V"⟩
def RX4 : String := "DialectForms$LawBook"
def TX4 : u_T := fun k => match k with
  | 0 => ("DialectForms$LawBook", "laws", "[LDialectForms$Law;", true)
  | 1 => ("DialectForms$LawBook", "text", "LDialectForms$LawText;", true)
  | 2 => ("DialectForms$LawBook", "was", "LDialectForms$Row;", true)
  | 3 => ("DialectForms$LawBook", "sounds", "LDialectForms$Sounds;", true)
  | _ => ("DialectForms$LawBook", "count", "I", false)
def tyX4 : Nat → FieldType := fun k => match k with
  | 0 => .array (.object "DialectForms$Law")
  | 1 => .object "DialectForms$LawText"
  | 2 => .object "DialectForms$Row"
  | 3 => .object "DialectForms$Sounds"
  | _ => .int
abbrev wsX40 : List Cond := u_ws RX4 TX4 5
theorem nmX4 : ∀ a, a < 5 → ∀ b, b < 5 → a ≠ b → (TX4 a).2.1 ≠ (TX4 b).2.1 := by decide +kernel
theorem tyX4_ok : ∀ k, k < 5 → parseFieldDescriptor (TX4 k).2.2.1 = some (tyX4 k) := by decide +kernel
abbrev cX4_init : ByteArray := prog_6_method_1_code
def yX4_init : MethodName := ⟨RX4, "<init>", "(LDialectForms$Sounds;)V"⟩
abbrev cX4_readLaw : ByteArray := prog_6_method_2_code
def yX4_readLaw : MethodName := ⟨RX4, "readLaw", "([II)I"⟩
abbrev cX4_addRead : ByteArray := prog_6_method_3_code
def yX4_addRead : MethodName := ⟨RX4, "addRead", "(I)I"⟩
abbrev cX4_collectAt : ByteArray := prog_6_method_4_code
def yX4_collectAt : MethodName := ⟨RX4, "collectAt", "(ILDialectForms$Row;)V"⟩
abbrev cX4_deriveAt : ByteArray := prog_6_method_5_code
def yX4_deriveAt : MethodName := ⟨RX4, "deriveAt", "(ILDialectForms$Row;I)I"⟩
abbrev cX4_deriveBy : ByteArray := prog_6_method_6_code
def yX4_deriveBy : MethodName := ⟨RX4, "deriveBy", "(LDialectForms$Row;LDialectForms$Row;)V"⟩
abbrev cX4_doLaw : ByteArray := prog_6_method_7_code
def yX4_doLaw : MethodName := ⟨RX4, "doLaw", "(LDialectForms$Law;LDialectForms$Row;)Z"⟩
def RX5 : String := "DialectForms$LawText"
def TX5 : u_T := fun k => match k with
  | 0 => ("DialectForms$LawText", "codes", "[I", true)
  | 1 => ("DialectForms$LawText", "size", "I", false)
  | _ => ("DialectForms$LawText", "at", "I", false)
def tyX5 : Nat → FieldType := fun k => match k with
  | 0 => .array .int
  | 1 => .int
  | _ => .int
abbrev wsX50 : List Cond := u_ws RX5 TX5 3
theorem nmX5 : ∀ a, a < 3 → ∀ b, b < 3 → a ≠ b → (TX5 a).2.1 ≠ (TX5 b).2.1 := by decide +kernel
theorem tyX5_ok : ∀ k, k < 3 → parseFieldDescriptor (TX5 k).2.2.1 = some (tyX5 k) := by decide +kernel
abbrev cX5_init : ByteArray := prog_7_method_1_code
def yX5_init : MethodName := ⟨RX5, "<init>", "()V"⟩
abbrev cX5_firstFault : ByteArray := prog_7_method_2_code
def yX5_firstFault : MethodName := ⟨RX5, "firstFault", "([IILDialectForms$Law;)I"⟩
abbrev cX5_isAtEnd : ByteArray := prog_7_method_3_code
def yX5_isAtEnd : MethodName := ⟨RX5, "isAtEnd", "()Z"⟩
abbrev cX5_isAt : ByteArray := prog_7_method_4_code
def yX5_isAt : MethodName := ⟨RX5, "isAt", "(C)Z"⟩
abbrev cX5_takes : ByteArray := prog_7_method_5_code
def yX5_takes : MethodName := ⟨RX5, "takes", "(C)Z"⟩
abbrev cX5_readTarget : ByteArray := prog_7_method_6_code
def yX5_readTarget : MethodName := ⟨RX5, "readTarget", "(LDialectForms$Law;)Z"⟩
abbrev cX5_readResult : ByteArray := prog_7_method_7_code
def yX5_readResult : MethodName := ⟨RX5, "readResult", "(LDialectForms$Law;)Z"⟩
abbrev cX5_readSides : ByteArray := prog_7_method_8_code
def yX5_readSides : MethodName := ⟨RX5, "readSides", "(LDialectForms$Law;)Z"⟩
abbrev cX5_takeSide : ByteArray := prog_7_method_9_code
def yX5_takeSide : MethodName := ⟨RX5, "takeSide", "()I"⟩
abbrev cX5_takePattern : ByteArray := prog_7_method_10_code
def yX5_takePattern : MethodName := ⟨RX5, "takePattern", "()I"⟩
abbrev cX5_takeBetween : ByteArray := prog_7_method_11_code
def yX5_takeBetween : MethodName := ⟨RX5, "takeBetween", "(CCI)I"⟩
def RX6 : String := "DialectForms$Laying"
def TX6 : u_T := fun k => match k with
  | 0 => ("DialectForms$Laying", "rest", "[I", true)
  | 1 => ("DialectForms$Laying", "sounds", "LDialectForms$Sounds;", true)
  | 2 => ("DialectForms$Laying", "gap", "I", false)
  | _ => ("DialectForms$Laying", "limit", "I", false)
def tyX6 : Nat → FieldType := fun k => match k with
  | 0 => .array .int
  | 1 => .object "DialectForms$Sounds"
  | 2 => .int
  | _ => .int
abbrev wsX60 : List Cond := u_ws RX6 TX6 4
theorem nmX6 : ∀ a, a < 4 → ∀ b, b < 4 → a ≠ b → (TX6 a).2.1 ≠ (TX6 b).2.1 := by decide +kernel
theorem tyX6_ok : ∀ k, k < 4 → parseFieldDescriptor (TX6 k).2.2.1 = some (tyX6 k) := by decide +kernel
abbrev cX6_init : ByteArray := prog_8_method_1_code
def yX6_init : MethodName := ⟨RX6, "<init>", "(LDialectForms$Sounds;)V"⟩
abbrev cX6_leastCost : ByteArray := prog_8_method_2_code
def yX6_leastCost : MethodName := ⟨RX6, "leastCost", "(LDialectForms$Row;LDialectForms$Row;)I"⟩
abbrev cX6_costOfPair : ByteArray := prog_8_method_3_code
def yX6_costOfPair : MethodName := ⟨RX6, "costOfPair", "(LDialectForms$Row;LDialectForms$Row;II)I"⟩
abbrev cX6_column : ByteArray := prog_8_method_4_code
def yX6_column : MethodName := ⟨RX6, "column", "(LDialectForms$Row;LDialectForms$Row;I)I"⟩
abbrev cX6_isPair : ByteArray := prog_8_method_5_code
def yX6_isPair : MethodName := ⟨RX6, "isPair", "(LDialectForms$Row;LDialectForms$Row;II)Z"⟩
abbrev cX6_isFirstAlone : ByteArray := prog_8_method_6_code
def yX6_isFirstAlone : MethodName := ⟨RX6, "isFirstAlone", "(LDialectForms$Row;II)Z"⟩
def RX7 : String := "DialectForms$Row"
def TX7 : u_T := fun k => match k with
  | 0 => ("DialectForms$Row", "numbers", "[I", true)
  | _ => ("DialectForms$Row", "size", "I", false)
def tyX7 : Nat → FieldType := fun k => match k with
  | 0 => .array .int
  | _ => .int
abbrev wsX70 : List Cond := u_ws RX7 TX7 2
theorem nmX7 : ∀ a, a < 2 → ∀ b, b < 2 → a ≠ b → (TX7 a).2.1 ≠ (TX7 b).2.1 := by decide +kernel
theorem tyX7_ok : ∀ k, k < 2 → parseFieldDescriptor (TX7 k).2.2.1 = some (tyX7 k) := by decide +kernel
abbrev cX7_init : ByteArray := prog_9_method_1_code
def yX7_init : MethodName := ⟨RX7, "<init>", "()V"⟩
abbrev cX7_clear : ByteArray := prog_9_method_2_code
def yX7_clear : MethodName := ⟨RX7, "clear", "()V"⟩
abbrev cX7_add : ByteArray := prog_9_method_3_code
def yX7_add : MethodName := ⟨RX7, "add", "(I)V"⟩
abbrev cX7_become : ByteArray := prog_9_method_4_code
def yX7_become : MethodName := ⟨RX7, "become", "(LDialectForms$Row;)V"⟩
abbrev cX7_becomeCells : ByteArray := prog_9_method_5_code
def yX7_becomeCells : MethodName := ⟨RX7, "becomeCells", "([II)V"⟩
abbrev cX7_at : ByteArray := prog_9_method_6_code
def yX7_at : MethodName := ⟨RX7, "at", "(I)I"⟩
abbrev cX7_sizeOrAt : ByteArray := prog_9_method_7_code
def yX7_sizeOrAt : MethodName := ⟨RX7, "sizeOrAt", "(I)I"⟩
abbrev cX7_isSame : ByteArray := prog_9_method_8_code
def yX7_isSame : MethodName := ⟨RX7, "isSame", "(LDialectForms$Row;)Z"⟩
abbrev cX7_stepOrder : ByteArray := prog_9_method_9_code
def yX7_stepOrder : MethodName := ⟨RX7, "stepOrder", "()Z"⟩
abbrev cX7_swap : ByteArray := prog_9_method_10_code
def yX7_swap : MethodName := ⟨RX7, "swap", "(II)V"⟩
def RX8 : String := "DialectForms$Sheet"
def TX8 : u_T := fun k => match k with
  | 0 => ("DialectForms$Sheet", "cells", "[I", true)
  | 1 => ("DialectForms$Sheet", "hasRow", "Z", false)
  | 2 => ("DialectForms$Sheet", "lane", "I", false)
  | _ => ("DialectForms$Sheet", "size", "I", false)
def tyX8 : Nat → FieldType := fun k => match k with
  | 0 => .array .int
  | 1 => .boolean
  | 2 => .int
  | _ => .int
abbrev wsX80 : List Cond := u_ws RX8 TX8 4
theorem nmX8 : ∀ a, a < 4 → ∀ b, b < 4 → a ≠ b → (TX8 a).2.1 ≠ (TX8 b).2.1 := by decide +kernel
theorem tyX8_ok : ∀ k, k < 4 → parseFieldDescriptor (TX8 k).2.2.1 = some (tyX8 k) := by decide +kernel
abbrev cX8_init : ByteArray := prog_10_method_1_code
def yX8_init : MethodName := ⟨RX8, "<init>", "()V"⟩
abbrev cX8_renew : ByteArray := prog_10_method_2_code
def yX8_renew : MethodName := ⟨RX8, "renew", "(II)V"⟩
abbrev cX8_loseRow : ByteArray := prog_10_method_3_code
def yX8_loseRow : MethodName := ⟨RX8, "loseRow", "()Z"⟩
abbrev cX8_putCut : ByteArray := prog_10_method_4_code
def yX8_putCut : MethodName := ⟨RX8, "putCut", "(II)V"⟩
abbrev cX8_faultOfRow : ByteArray := prog_10_method_5_code
def yX8_faultOfRow : MethodName := ⟨RX8, "faultOfRow", "(I)I"⟩
abbrev cX8_faultOfCells : ByteArray := prog_10_method_6_code
def yX8_faultOfCells : MethodName := ⟨RX8, "faultOfCells", "(III)I"⟩
def RX9 : String := "DialectForms$Sounds"
def TX9 : u_T := fun k => match k with
  | 0 => ("DialectForms$Sounds", "yes", "[I", true)
  | _ => ("DialectForms$Sounds", "no", "[I", true)
def tyX9 : Nat → FieldType := fun k => match k with
  | 0 => .array .int
  | _ => .array .int
abbrev wsX90 : List Cond := u_ws RX9 TX9 2
theorem nmX9 : ∀ a, a < 2 → ∀ b, b < 2 → a ≠ b → (TX9 a).2.1 ≠ (TX9 b).2.1 := by decide +kernel
theorem tyX9_ok : ∀ k, k < 2 → parseFieldDescriptor (TX9 k).2.2.1 = some (tyX9 k) := by decide +kernel
abbrev cX9_init : ByteArray := prog_11_method_1_code
def yX9_init : MethodName := ⟨RX9, "<init>", "()V"⟩
abbrev cX9_become : ByteArray := prog_11_method_2_code
def yX9_become : MethodName := ⟨RX9, "become", "(III)Z"⟩
abbrev cX9_difference : ByteArray := prog_11_method_3_code
def yX9_difference : MethodName := ⟨RX9, "difference", "(II)I"⟩
abbrev cX9_isOf : ByteArray := prog_11_method_4_code
def yX9_isOf : MethodName := ⟨RX9, "isOf", "(II)Z"⟩
def RX10 : String := "DialectForms"
def TX10 : u_T := fun k => match k with
  | 0 => ("DialectForms", "sounds", "LDialectForms$Sounds;", true)
  | 1 => ("DialectForms", "collectors", "[LDialectForms$Collector;", true)
  | 2 => ("DialectForms", "nearTo", "[I", true)
  | 3 => ("DialectForms", "forms", "[LDialectForms$Form;", true)
  | 4 => ("DialectForms", "saidForms", "[I", true)
  | 5 => ("DialectForms", "roots", "[LDialectForms$Row;", true)
  | 6 => ("DialectForms", "lawBook", "LDialectForms$LawBook;", true)
  | 7 => ("DialectForms", "laying", "LDialectForms$Laying;", true)
  | 8 => ("DialectForms", "candidates", "LDialectForms$Candidates;", true)
  | 9 => ("DialectForms", "sheets", "[LDialectForms$Sheet;", true)
  | 10 => ("DialectForms", "taken", "[I", true)
  | 11 => ("DialectForms", "work", "LDialectForms$Row;", true)
  | 12 => ("DialectForms", "trial", "LDialectForms$Row;", true)
  | 13 => ("DialectForms", "best", "LDialectForms$Row;", true)
  | 14 => ("DialectForms", "links", "[I", true)
  | 15 => ("DialectForms", "placeCount", "I", false)
  | 16 => ("DialectForms", "formCount", "I", false)
  | 17 => ("DialectForms", "rooted", "I", false)
  | 18 => ("DialectForms", "trace", "I", false)
  | _ => ("DialectForms", "fault", "I", false)
def tyX10 : Nat → FieldType := fun k => match k with
  | 0 => .object "DialectForms$Sounds"
  | 1 => .array (.object "DialectForms$Collector")
  | 2 => .array .int
  | 3 => .array (.object "DialectForms$Form")
  | 4 => .array .int
  | 5 => .array (.object "DialectForms$Row")
  | 6 => .object "DialectForms$LawBook"
  | 7 => .object "DialectForms$Laying"
  | 8 => .object "DialectForms$Candidates"
  | 9 => .array (.object "DialectForms$Sheet")
  | 10 => .array .int
  | 11 => .object "DialectForms$Row"
  | 12 => .object "DialectForms$Row"
  | 13 => .object "DialectForms$Row"
  | 14 => .array .int
  | 15 => .int
  | 16 => .int
  | 17 => .int
  | 18 => .int
  | _ => .int
abbrev wsX100 : List Cond := u_ws RX10 TX10 20
theorem nmX10 : ∀ a, a < 20 → ∀ b, b < 20 → a ≠ b → (TX10 a).2.1 ≠ (TX10 b).2.1 := by decide +kernel
theorem tyX10_ok : ∀ k, k < 20 → parseFieldDescriptor (TX10 k).2.2.1 = some (tyX10 k) := by decide +kernel
abbrev cX10_init : ByteArray := prog_1_method_1_code
def yX10_init : MethodName := ⟨RX10, "<init>", "()V"⟩
abbrev cX10_sound : ByteArray := prog_1_method_2_code
def yX10_sound : MethodName := ⟨RX10, "sound", "(III)I"⟩
abbrev cX10_feature : ByteArray := prog_1_method_3_code
def yX10_feature : MethodName := ⟨RX10, "feature", "(II)I"⟩
abbrev cX10_differ : ByteArray := prog_1_method_4_code
def yX10_differ : MethodName := ⟨RX10, "differ", "(II)I"⟩
abbrev cX10_entry : ByteArray := prog_1_method_5_code
def yX10_entry : MethodName := ⟨RX10, "entry", "(IIIIII)I"⟩
abbrev cX10_place : ByteArray := prog_1_method_6_code
def yX10_place : MethodName := ⟨RX10, "place", "()I"⟩
abbrev cX10_near : ByteArray := prog_1_method_7_code
def yX10_near : MethodName := ⟨RX10, "near", "(IIZ)I"⟩
abbrev cX10_form : ByteArray := prog_1_method_8_code
def yX10_form : MethodName := ⟨RX10, "form", "(IIIIIII)I"⟩
abbrev cX10_read : ByteArray := prog_1_method_9_code
def yX10_read : MethodName := ⟨RX10, "read", "(IIIIIII)I"⟩
abbrev cX10_addForm : ByteArray := prog_1_method_10_code
def yX10_addForm : MethodName := ⟨RX10, "addForm", "(III)I"⟩
abbrev cX10_ofForm : ByteArray := prog_1_method_11_code
def yX10_ofForm : MethodName := ⟨RX10, "ofForm", "(II)I"⟩
abbrev cX10_said : ByteArray := prog_1_method_12_code
def yX10_said : MethodName := ⟨RX10, "said", "(II)I"⟩
abbrev cX10_root : ByteArray := prog_1_method_13_code
def yX10_root : MethodName := ⟨RX10, "root", "(IIIII)I"⟩
abbrev cX10_ofRoot : ByteArray := prog_1_method_14_code
def yX10_ofRoot : MethodName := ⟨RX10, "ofRoot", "(II)I"⟩
abbrev cX10_law : ByteArray := prog_1_method_15_code
def yX10_law : MethodName := ⟨RX10, "law", "(IIIII)I"⟩
abbrev cX10_force : ByteArray := prog_1_method_16_code
def yX10_force : MethodName := ⟨RX10, "force", "(II)I"⟩
abbrev cX10_derived : ByteArray := prog_1_method_17_code
def yX10_derived : MethodName := ⟨RX10, "derived", "(IIII)I"⟩
abbrev cX10_latest : ByteArray := prog_1_method_18_code
def yX10_latest : MethodName := ⟨RX10, "latest", "(II)I"⟩
abbrev cX10_gap : ByteArray := prog_1_method_19_code
def yX10_gap : MethodName := ⟨RX10, "gap", "(I)I"⟩
abbrev cX10_cost : ByteArray := prog_1_method_20_code
def yX10_cost : MethodName := ⟨RX10, "cost", "(II)I"⟩
abbrev cX10_align : ByteArray := prog_1_method_21_code
def yX10_align : MethodName := ⟨RX10, "align", "(III)I"⟩
abbrev cX10_sought : ByteArray := prog_1_method_22_code
def yX10_sought : MethodName := ⟨RX10, "sought", "(III)I"⟩
abbrev cX10_seekBest : ByteArray := prog_1_method_23_code
def yX10_seekBest : MethodName := ⟨RX10, "seekBest", "(II)I"⟩
abbrev cX10_costsOfTrial : ByteArray := prog_1_method_24_code
def yX10_costsOfTrial : MethodName := ⟨RX10, "costsOfTrial", "(II)I"⟩
abbrev cX10_regular : ByteArray := prog_1_method_25_code
def yX10_regular : MethodName := ⟨RX10, "regular", "(I)I"⟩
abbrev cX10_ways : ByteArray := prog_1_method_26_code
def yX10_ways : MethodName := ⟨RX10, "ways", "(II)I"⟩
abbrev cX10_order : ByteArray := prog_1_method_27_code
def yX10_order : MethodName := ⟨RX10, "order", "(II)I"⟩
abbrev cX10_orderBest : ByteArray := prog_1_method_28_code
def yX10_orderBest : MethodName := ⟨RX10, "orderBest", "(I)I"⟩
abbrev cX10_regularByTrial : ByteArray := prog_1_method_29_code
def yX10_regularByTrial : MethodName := ⟨RX10, "regularByTrial", "(I)I"⟩
abbrev cX10_limit : ByteArray := prog_1_method_30_code
def yX10_limit : MethodName := ⟨RX10, "limit", "(I)I"⟩
abbrev cX10_group : ByteArray := prog_1_method_31_code
def yX10_group : MethodName := ⟨RX10, "group", "(II)I"⟩
abbrev cX10_saidPlaces : ByteArray := prog_1_method_32_code
def yX10_saidPlaces : MethodName := ⟨RX10, "saidPlaces", "(I)I"⟩
abbrev cX10_likePlaces : ByteArray := prog_1_method_33_code
def yX10_likePlaces : MethodName := ⟨RX10, "likePlaces", "(II)I"⟩
abbrev cX10_costBetween : ByteArray := prog_1_method_34_code
def yX10_costBetween : MethodName := ⟨RX10, "costBetween", "(III)I"⟩
abbrev cX10_countOrLeast : ByteArray := prog_1_method_35_code
def yX10_countOrLeast : MethodName := ⟨RX10, "countOrLeast", "(I[II)I"⟩
abbrev cX10_leastJoined : ByteArray := prog_1_method_36_code
def yX10_leastJoined : MethodName := ⟨RX10, "leastJoined", "(I[II)I"⟩
abbrev cX10_border : ByteArray := prog_1_method_37_code
def yX10_border : MethodName := ⟨RX10, "border", "(II)I"⟩
abbrev cX10_bundle : ByteArray := prog_1_method_38_code
def yX10_bundle : MethodName := ⟨RX10, "bundle", "(II)I"⟩
abbrev cX10_area : ByteArray := prog_1_method_39_code
def yX10_area : MethodName := ⟨RX10, "area", "(II)I"⟩
abbrev cX10_sheet : ByteArray := prog_1_method_40_code
def yX10_sheet : MethodName := ⟨RX10, "sheet", "(III)I"⟩
abbrev cX10_lose : ByteArray := prog_1_method_41_code
def yX10_lose : MethodName := ⟨RX10, "lose", "(I)I"⟩
abbrev cX10_put : ByteArray := prog_1_method_42_code
def yX10_put : MethodName := ⟨RX10, "put", "(III)I"⟩
abbrev cX10_cell : ByteArray := prog_1_method_43_code
def yX10_cell : MethodName := ⟨RX10, "cell", "(III)J"⟩
abbrev cX10_tell : ByteArray := prog_1_method_44_code
def yX10_tell : MethodName := ⟨RX10, "tell", "(I)I"⟩
abbrev cX10_tellForm : ByteArray := prog_1_method_45_code
def yX10_tellForm : MethodName := ⟨RX10, "tellForm", "(LDialectForms$Form;)I"⟩
abbrev cX10_tellLoan : ByteArray := prog_1_method_46_code
def yX10_tellLoan : MethodName := ⟨RX10, "tellLoan", "(LDialectForms$Form;)I"⟩
abbrev cX10_tellGuess : ByteArray := prog_1_method_47_code
def yX10_tellGuess : MethodName := ⟨RX10, "tellGuess", "(LDialectForms$Form;)I"⟩
abbrev cX10_name : ByteArray := prog_1_method_48_code
def yX10_name : MethodName := ⟨RX10, "name", "(I)I"⟩
abbrev cX10_leaveTrace : ByteArray := prog_1_method_49_code
def yX10_leaveTrace : MethodName := ⟨RX10, "leaveTrace", "(I)V"⟩
abbrev cX10_as : ByteArray := prog_1_method_50_code
def yX10_as : MethodName := ⟨RX10, "as", "(II)I"⟩
abbrev cX10_trace : ByteArray := prog_1_method_51_code
def yX10_trace : MethodName := ⟨RX10, "trace", "()I"⟩
abbrev cX10_fault : ByteArray := prog_1_method_52_code
def yX10_fault : MethodName := ⟨RX10, "fault", "()I"⟩
abbrev cX10_many : ByteArray := prog_1_method_53_code
def yX10_many : MethodName := ⟨RX10, "many", "(I)I"⟩
abbrev cX10_isBelow : ByteArray := prog_1_method_54_code
def yX10_isBelow : MethodName := ⟨RX10, "isBelow", "(II)Z"⟩
abbrev cX10_isWithin : ByteArray := prog_1_method_55_code
def yX10_isWithin : MethodName := ⟨RX10, "isWithin", "(III)Z"⟩
abbrev cX10_isSetBelow : ByteArray := prog_1_method_56_code
def yX10_isSetBelow : MethodName := ⟨RX10, "isSetBelow", "(II)Z"⟩
abbrev cX10_isIn : ByteArray := prog_1_method_57_code
def yX10_isIn : MethodName := ⟨RX10, "isIn", "(II)Z"⟩
abbrev cX10_isMeaning : ByteArray := prog_1_method_58_code
def yX10_isMeaning : MethodName := ⟨RX10, "isMeaning", "(I)Z"⟩
abbrev cX10_isSoughtSet : ByteArray := prog_1_method_59_code
def yX10_isSoughtSet : MethodName := ⟨RX10, "isSoughtSet", "(I)Z"⟩
abbrev cX10_isPlace : ByteArray := prog_1_method_60_code
def yX10_isPlace : MethodName := ⟨RX10, "isPlace", "(I)Z"⟩
abbrev cX10_isForm : ByteArray := prog_1_method_61_code
def yX10_isForm : MethodName := ⟨RX10, "isForm", "(I)Z"⟩
abbrev cX10_isLaw : ByteArray := prog_1_method_62_code
def yX10_isLaw : MethodName := ⟨RX10, "isLaw", "(I)Z"⟩
abbrev cX10_failBy : ByteArray := prog_1_method_63_code
def yX10_failBy : MethodName := ⟨RX10, "failBy", "(I)I"⟩
abbrev cX10_takeCells : ByteArray := prog_1_method_64_code
def yX10_takeCells : MethodName := ⟨RX10, "takeCells", "(IIII)I"⟩
abbrev cX10_takeSounds : ByteArray := prog_1_method_65_code
def yX10_takeSounds : MethodName := ⟨RX10, "takeSounds", "(IIII)I"⟩
abbrev cX10_areTakenBelow : ByteArray := prog_1_method_66_code
def yX10_areTakenBelow : MethodName := ⟨RX10, "areTakenBelow", "(II)Z"⟩
def RX11 : String := "DialectFormsModel"
def TX11 : u_T := fun k => match k with
  | 0 => ("DialectFormsModel", "fault", "I", false)
  | 1 => ("DialectFormsModel", "trace", "I", false)
  | 2 => ("DialectFormsModel", "lanes", "[I", true)
  | 3 => ("DialectFormsModel", "sheetLong", "[I", true)
  | 4 => ("DialectFormsModel", "cells", "[I", true)
  | 5 => ("DialectFormsModel", "yes", "[I", true)
  | 6 => ("DialectFormsModel", "no", "[I", true)
  | 7 => ("DialectFormsModel", "entries", "[I", true)
  | 8 => ("DialectFormsModel", "entrySound", "[I", true)
  | 9 => ("DialectFormsModel", "entryLong", "[I", true)
  | 10 => ("DialectFormsModel", "entryCodes", "[I", true)
  | 11 => ("DialectFormsModel", "places", "I", false)
  | 12 => ("DialectFormsModel", "near", "[I", true)
  | 13 => ("DialectFormsModel", "forms", "I", false)
  | 14 => ("DialectFormsModel", "formKind", "[I", true)
  | 15 => ("DialectFormsModel", "formPlace", "[I", true)
  | 16 => ("DialectFormsModel", "formMeaning", "[I", true)
  | 17 => ("DialectFormsModel", "formLong", "[I", true)
  | 18 => ("DialectFormsModel", "formRow", "[I", true)
  | 19 => ("DialectFormsModel", "heard", "[I", true)
  | 20 => ("DialectFormsModel", "rootLong", "[I", true)
  | 21 => ("DialectFormsModel", "rootRow", "[I", true)
  | 22 => ("DialectFormsModel", "laws", "I", false)
  | 23 => ("DialectFormsModel", "lawPlaces", "[I", true)
  | 24 => ("DialectFormsModel", "lawTarget", "[I", true)
  | 25 => ("DialectFormsModel", "lawResult", "[I", true)
  | 26 => ("DialectFormsModel", "lawLeft", "[I", true)
  | 27 => ("DialectFormsModel", "lawRight", "[I", true)
  | 28 => ("DialectFormsModel", "at", "I", false)
  | 29 => ("DialectFormsModel", "end", "I", false)
  | 30 => ("DialectFormsModel", "readLaw", "[I", true)
  | 31 => ("DialectFormsModel", "row", "[I", true)
  | 32 => ("DialectFormsModel", "rowLong", "I", false)
  | 33 => ("DialectFormsModel", "was", "[I", true)
  | 34 => ("DialectFormsModel", "gap", "I", false)
  | 35 => ("DialectFormsModel", "costs", "[I", true)
  | 36 => ("DialectFormsModel", "first", "[I", true)
  | 37 => ("DialectFormsModel", "second", "[I", true)
  | 38 => ("DialectFormsModel", "candidate", "[I", true)
  | 39 => ("DialectFormsModel", "candidateLong", "I", false)
  | 40 => ("DialectFormsModel", "setSounds", "[I", true)
  | 41 => ("DialectFormsModel", "setMany", "I", false)
  | 42 => ("DialectFormsModel", "turn", "[I", true)
  | 43 => ("DialectFormsModel", "bestTurn", "[I", true)
  | 44 => ("DialectFormsModel", "limit", "I", false)
  | _ => ("DialectFormsModel", "joined", "[I", true)
def tyX11 : Nat → FieldType := fun k => match k with
  | 0 => .int
  | 1 => .int
  | 2 => .array .int
  | 3 => .array .int
  | 4 => .array .int
  | 5 => .array .int
  | 6 => .array .int
  | 7 => .array .int
  | 8 => .array .int
  | 9 => .array .int
  | 10 => .array .int
  | 11 => .int
  | 12 => .array .int
  | 13 => .int
  | 14 => .array .int
  | 15 => .array .int
  | 16 => .array .int
  | 17 => .array .int
  | 18 => .array .int
  | 19 => .array .int
  | 20 => .array .int
  | 21 => .array .int
  | 22 => .int
  | 23 => .array .int
  | 24 => .array .int
  | 25 => .array .int
  | 26 => .array .int
  | 27 => .array .int
  | 28 => .int
  | 29 => .int
  | 30 => .array .int
  | 31 => .array .int
  | 32 => .int
  | 33 => .array .int
  | 34 => .int
  | 35 => .array .int
  | 36 => .array .int
  | 37 => .array .int
  | 38 => .array .int
  | 39 => .int
  | 40 => .array .int
  | 41 => .int
  | 42 => .array .int
  | 43 => .array .int
  | 44 => .int
  | _ => .array .int
abbrev wsX110 : List Cond := u_ws RX11 TX11 46
theorem nmX11 : ∀ a, a < 46 → ∀ b, b < 46 → a ≠ b → (TX11 a).2.1 ≠ (TX11 b).2.1 := by decide +kernel
theorem tyX11_ok : ∀ k, k < 46 → parseFieldDescriptor (TX11 k).2.2.1 = some (tyX11 k) := by decide +kernel
abbrev cX11_init : ByteArray := prog_13_method_1_code
def yX11_init : MethodName := ⟨RX11, "<init>", "()V"⟩
abbrev cX11_fails : ByteArray := prog_13_method_3_code
def yX11_fails : MethodName := ⟨RX11, "fails", "(I)I"⟩
abbrev cX11_lost : ByteArray := prog_13_method_4_code
def yX11_lost : MethodName := ⟨RX11, "lost", "(I)J"⟩
abbrev cX11_within : ByteArray := prog_13_method_5_code
def yX11_within : MethodName := ⟨RX11, "within", "(III)Z"⟩
abbrev cX11_has : ByteArray := prog_13_method_6_code
def yX11_has : MethodName := ⟨RX11, "has", "(II)Z"⟩
abbrev cX11_isSheet : ByteArray := prog_13_method_7_code
def yX11_isSheet : MethodName := ⟨RX11, "isSheet", "(I)Z"⟩
abbrev cX11_isLane : ByteArray := prog_13_method_8_code
def yX11_isLane : MethodName := ⟨RX11, "isLane", "(I)Z"⟩
abbrev cX11_against : ByteArray := prog_13_method_9_code
def yX11_against : MethodName := ⟨RX11, "against", "(IIII)I"⟩
abbrev cX11_areCells : ByteArray := prog_13_method_10_code
def yX11_areCells : MethodName := ⟨RX11, "areCells", "(IIII)Z"⟩
abbrev cX11_isSound : ByteArray := prog_13_method_11_code
def yX11_isSound : MethodName := ⟨RX11, "isSound", "(I)Z"⟩
abbrev cX11_sound : ByteArray := prog_13_method_12_code
def yX11_sound : MethodName := ⟨RX11, "sound", "(III)I"⟩
abbrev cX11_feature : ByteArray := prog_13_method_13_code
def yX11_feature : MethodName := ⟨RX11, "feature", "(II)I"⟩
abbrev cX11_differOf : ByteArray := prog_13_method_14_code
def yX11_differOf : MethodName := ⟨RX11, "differOf", "(II)I"⟩
abbrev cX11_differ : ByteArray := prog_13_method_15_code
def yX11_differ : MethodName := ⟨RX11, "differ", "(II)I"⟩
abbrev cX11_isCollector : ByteArray := prog_13_method_16_code
def yX11_isCollector : MethodName := ⟨RX11, "isCollector", "(I)Z"⟩
abbrev cX11_entry : ByteArray := prog_13_method_17_code
def yX11_entry : MethodName := ⟨RX11, "entry", "(IIIIII)I"⟩
abbrev cX11_stands : ByteArray := prog_13_method_18_code
def yX11_stands : MethodName := ⟨RX11, "stands", "(III)Z"⟩
abbrev cX11_entryAt : ByteArray := prog_13_method_19_code
def yX11_entryAt : MethodName := ⟨RX11, "entryAt", "(III)I"⟩
abbrev cX11_isPlace : ByteArray := prog_13_method_20_code
def yX11_isPlace : MethodName := ⟨RX11, "isPlace", "(I)Z"⟩
abbrev cX11_isMeaning : ByteArray := prog_13_method_21_code
def yX11_isMeaning : MethodName := ⟨RX11, "isMeaning", "(I)Z"⟩
abbrev cX11_place : ByteArray := prog_13_method_22_code
def yX11_place : MethodName := ⟨RX11, "place", "()I"⟩
abbrev cX11_near : ByteArray := prog_13_method_23_code
def yX11_near : MethodName := ⟨RX11, "near", "(IIZ)I"⟩
abbrev cX11_isForm : ByteArray := prog_13_method_24_code
def yX11_isForm : MethodName := ⟨RX11, "isForm", "(I)Z"⟩
abbrev cX11_form : ByteArray := prog_13_method_25_code
def yX11_form : MethodName := ⟨RX11, "form", "(IIIIIII)I"⟩
abbrev cX11_formComes : ByteArray := prog_13_method_26_code
def yX11_formComes : MethodName := ⟨RX11, "formComes", "(IIII)I"⟩
abbrev cX11_read : ByteArray := prog_13_method_27_code
def yX11_read : MethodName := ⟨RX11, "read", "(IIIIIII)I"⟩
abbrev cX11_ofForm : ByteArray := prog_13_method_28_code
def yX11_ofForm : MethodName := ⟨RX11, "ofForm", "(II)I"⟩
abbrev cX11_saidAt : ByteArray := prog_13_method_29_code
def yX11_saidAt : MethodName := ⟨RX11, "saidAt", "(II)I"⟩
abbrev cX11_said : ByteArray := prog_13_method_30_code
def yX11_said : MethodName := ⟨RX11, "said", "(II)I"⟩
abbrev cX11_root : ByteArray := prog_13_method_31_code
def yX11_root : MethodName := ⟨RX11, "root", "(IIIII)I"⟩
abbrev cX11_ofRoot : ByteArray := prog_13_method_32_code
def yX11_ofRoot : MethodName := ⟨RX11, "ofRoot", "(II)I"⟩
abbrev cX11_codeAt : ByteArray := prog_13_method_33_code
def yX11_codeAt : MethodName := ⟨RX11, "codeAt", "()I"⟩
abbrev cX11_readsTarget : ByteArray := prog_13_method_34_code
def yX11_readsTarget : MethodName := ⟨RX11, "readsTarget", "()I"⟩
abbrev cX11_readsSide : ByteArray := prog_13_method_35_code
def yX11_readsSide : MethodName := ⟨RX11, "readsSide", "(I)I"⟩
abbrev cX11_readsLaw : ByteArray := prog_13_method_36_code
def yX11_readsLaw : MethodName := ⟨RX11, "readsLaw", "([I)Z"⟩
abbrev cX11_law : ByteArray := prog_13_method_37_code
def yX11_law : MethodName := ⟨RX11, "law", "(IIIII)I"⟩
abbrev cX11_isLaw : ByteArray := prog_13_method_38_code
def yX11_isLaw : MethodName := ⟨RX11, "isLaw", "(I)Z"⟩
abbrev cX11_force : ByteArray := prog_13_method_39_code
def yX11_force : MethodName := ⟨RX11, "force", "(II)I"⟩
abbrev cX11_isOf : ByteArray := prog_13_method_40_code
def yX11_isOf : MethodName := ⟨RX11, "isOf", "(II)Z"⟩
abbrev cX11_holds : ByteArray := prog_13_method_41_code
def yX11_holds : MethodName := ⟨RX11, "holds", "(II)Z"⟩
abbrev cX11_doLaw : ByteArray := prog_13_method_42_code
def yX11_doLaw : MethodName := ⟨RX11, "doLaw", "(I)Z"⟩
abbrev cX11_takeRoot : ByteArray := prog_13_method_43_code
def yX11_takeRoot : MethodName := ⟨RX11, "takeRoot", "(I)V"⟩
abbrev cX11_derive : ByteArray := prog_13_method_44_code
def yX11_derive : MethodName := ⟨RX11, "derive", "(II)I"⟩
abbrev cX11_derived : ByteArray := prog_13_method_45_code
def yX11_derived : MethodName := ⟨RX11, "derived", "(IIII)I"⟩
abbrev cX11_latest : ByteArray := prog_13_method_46_code
def yX11_latest : MethodName := ⟨RX11, "latest", "(II)I"⟩
abbrev cX11_gap : ByteArray := prog_13_method_47_code
def yX11_gap : MethodName := ⟨RX11, "gap", "(I)I"⟩
abbrev cX11_layCosts : ByteArray := prog_13_method_48_code
def yX11_layCosts : MethodName := ⟨RX11, "layCosts", "(II)I"⟩
abbrev cX11_takeForms : ByteArray := prog_13_method_49_code
def yX11_takeForms : MethodName := ⟨RX11, "takeForms", "(II)V"⟩
abbrev cX11_costOf : ByteArray := prog_13_method_50_code
def yX11_costOf : MethodName := ⟨RX11, "costOf", "(II)I"⟩
abbrev cX11_cost : ByteArray := prog_13_method_51_code
def yX11_cost : MethodName := ⟨RX11, "cost", "(II)I"⟩
abbrev cX11_align : ByteArray := prog_13_method_52_code
def yX11_align : MethodName := ⟨RX11, "align", "(III)I"⟩
abbrev cX11_laySet : ByteArray := prog_13_method_53_code
def yX11_laySet : MethodName := ⟨RX11, "laySet", "(I)Z"⟩
abbrev cX11_manyCandidates : ByteArray := prog_13_method_54_code
def yX11_manyCandidates : MethodName := ⟨RX11, "manyCandidates", "()I"⟩
abbrev cX11_layCandidate : ByteArray := prog_13_method_55_code
def yX11_layCandidate : MethodName := ⟨RX11, "layCandidate", "(I)V"⟩
abbrev cX11_deriveCandidate : ByteArray := prog_13_method_56_code
def yX11_deriveCandidate : MethodName := ⟨RX11, "deriveCandidate", "(I)V"⟩
abbrev cX11_costFrom : ByteArray := prog_13_method_57_code
def yX11_costFrom : MethodName := ⟨RX11, "costFrom", "(I)I"⟩
abbrev cX11_costsOf : ByteArray := prog_13_method_58_code
def yX11_costsOf : MethodName := ⟨RX11, "costsOf", "(I)I"⟩
abbrev cX11_isSaid : ByteArray := prog_13_method_59_code
def yX11_isSaid : MethodName := ⟨RX11, "isSaid", "(I)Z"⟩
abbrev cX11_sought : ByteArray := prog_13_method_60_code
def yX11_sought : MethodName := ⟨RX11, "sought", "(III)I"⟩
abbrev cX11_isForms : ByteArray := prog_13_method_61_code
def yX11_isForms : MethodName := ⟨RX11, "isForms", "(I)Z"⟩
abbrev cX11_regular : ByteArray := prog_13_method_62_code
def yX11_regular : MethodName := ⟨RX11, "regular", "(I)I"⟩
abbrev cX11_ways : ByteArray := prog_13_method_63_code
def yX11_ways : MethodName := ⟨RX11, "ways", "(II)I"⟩
abbrev cX11_regulars : ByteArray := prog_13_method_64_code
def yX11_regulars : MethodName := ⟨RX11, "regulars", "(II)I"⟩
abbrev cX11_nextTurn : ByteArray := prog_13_method_65_code
def yX11_nextTurn : MethodName := ⟨RX11, "nextTurn", "(I)Z"⟩
abbrev cX11_order : ByteArray := prog_13_method_66_code
def yX11_order : MethodName := ⟨RX11, "order", "(II)I"⟩
abbrev cX11_limit : ByteArray := prog_13_method_67_code
def yX11_limit : MethodName := ⟨RX11, "limit", "(I)I"⟩
abbrev cX11_areSaid : ByteArray := prog_13_method_68_code
def yX11_areSaid : MethodName := ⟨RX11, "areSaid", "(III)Z"⟩
abbrev cX11_areLike : ByteArray := prog_13_method_69_code
def yX11_areLike : MethodName := ⟨RX11, "areLike", "(III)Z"⟩
abbrev cX11_join : ByteArray := prog_13_method_70_code
def yX11_join : MethodName := ⟨RX11, "join", "(II)V"⟩
abbrev cX11_joinedOf : ByteArray := prog_13_method_71_code
def yX11_joinedOf : MethodName := ⟨RX11, "joinedOf", "(I)I"⟩
abbrev cX11_group : ByteArray := prog_13_method_72_code
def yX11_group : MethodName := ⟨RX11, "group", "(II)I"⟩
abbrev cX11_border : ByteArray := prog_13_method_73_code
def yX11_border : MethodName := ⟨RX11, "border", "(II)I"⟩
abbrev cX11_bundle : ByteArray := prog_13_method_74_code
def yX11_bundle : MethodName := ⟨RX11, "bundle", "(II)I"⟩
abbrev cX11_area : ByteArray := prog_13_method_75_code
def yX11_area : MethodName := ⟨RX11, "area", "(II)I"⟩
abbrev cX11_sheet : ByteArray := prog_13_method_76_code
def yX11_sheet : MethodName := ⟨RX11, "sheet", "(III)I"⟩
abbrev cX11_lose : ByteArray := prog_13_method_77_code
def yX11_lose : MethodName := ⟨RX11, "lose", "(I)I"⟩
abbrev cX11_put : ByteArray := prog_13_method_78_code
def yX11_put : MethodName := ⟨RX11, "put", "(III)I"⟩
abbrev cX11_cell : ByteArray := prog_13_method_79_code
def yX11_cell : MethodName := ⟨RX11, "cell", "(III)J"⟩
abbrev cX11_begins : ByteArray := prog_13_method_80_code
def yX11_begins : MethodName := ⟨RX11, "begins", "(I)V"⟩
abbrev cX11_tell : ByteArray := prog_13_method_81_code
def yX11_tell : MethodName := ⟨RX11, "tell", "(I)I"⟩
abbrev cX11_name : ByteArray := prog_13_method_82_code
def yX11_name : MethodName := ⟨RX11, "name", "(I)I"⟩
abbrev cX11_as : ByteArray := prog_13_method_83_code
def yX11_as : MethodName := ⟨RX11, "as", "(II)I"⟩
abbrev cX11_trace : ByteArray := prog_13_method_84_code
def yX11_trace : MethodName := ⟨RX11, "trace", "()I"⟩
abbrev cX11_fault : ByteArray := prog_13_method_85_code
def yX11_fault : MethodName := ⟨RX11, "fault", "()I"⟩
abbrev cX11_many : ByteArray := prog_13_method_86_code
def yX11_many : MethodName := ⟨RX11, "many", "(I)I"⟩
def RJ6 : String := "java/lang/Integer"
def TJ6 : u_T := fun k => match k with
  | _ => ("", "", "", false)
def tyJ6 : Nat → FieldType := fun k => match k with
  | _ => .int
abbrev cJ6_numberOfTrailingZeros_0f7a4 : ByteArray := prog_14_method_48_code
def yJ6_numberOfTrailingZeros_0f7a4 : MethodName := ⟨RJ6, "numberOfTrailingZeros", "(I)I"⟩
abbrev cJ6_bitCount_0f7a4 : ByteArray := prog_14_method_49_code
def yJ6_bitCount_0f7a4 : MethodName := ⟨RJ6, "bitCount", "(I)I"⟩
def RJ9 : String := "java/lang/Math"
def TJ9 : u_T := fun k => match k with
  | _ => ("", "", "", false)
def tyJ9 : Nat → FieldType := fun k => match k with
  | _ => .int
abbrev cJ9_min_7cf53 : ByteArray := prog_15_method_69_code
def yJ9_min_7cf53 : MethodName := ⟨RJ9, "min", "(II)I"⟩
def RJ10 : String := "java/lang/System"
def TJ10 : u_T := fun k => match k with
  | _ => ("", "", "", false)
def tyJ10 : Nat → FieldType := fun k => match k with
  | _ => .int
def RJ7 : String := "java/util/Arrays"
def TJ7 : u_T := fun k => match k with
  | _ => ("", "", "", false)
def tyJ7 : Nat → FieldType := fun k => match k with
  | _ => .int
abbrev cJ7_fill_53178 : ByteArray := prog_17_method_103_code
def yJ7_fill_53178 : MethodName := ⟨RJ7, "fill", "([II)V"⟩
def RL : String := "DialectFormsLaw"
abbrev cL_law : ByteArray := code
def yL_law : MethodName := ⟨RL, "law", "([I)Z"⟩
abbrev vwCl : List vw_C := [(RX0, TX0, 3), (RX1, TX1, 4), (RX2, TX2, 4), (RX3, TX3, 5), (RX4, TX4, 5), (RX5, TX5, 3), (RX6, TX6, 4), (RX7, TX7, 2), (RX8, TX8, 4), (RX9, TX9, 2), (RX10, TX10, 20), (RX11, TX11, 46)]
abbrev mX0_init : MethodName × ByteArray × Nat × Option FieldType := (yX0_init, cX0_init, 1, none)
abbrev mX10_isIn : MethodName × ByteArray × Nat × Option FieldType := (yX10_isIn, cX10_isIn, 2, (some .boolean))
abbrev mX0_begin : MethodName × ByteArray × Nat × Option FieldType := (yX0_begin, cX0_begin, 3, none)
abbrev mX7_clear : MethodName × ByteArray × Nat × Option FieldType := (yX7_clear, cX7_clear, 1, none)
abbrev mX0_writeTo : MethodName × ByteArray × Nat × Option FieldType := (yX0_writeTo, cX0_writeTo, 6, none)
abbrev mX1_init : MethodName × ByteArray × Nat × Option FieldType := (yX1_init, cX1_init, 1, none)
abbrev mX1_addEntry : MethodName × ByteArray × Nat × Option FieldType := (yX1_addEntry, cX1_addEntry, 4, (some .int))
abbrev mX1_stands : MethodName × ByteArray × Nat × Option FieldType := (yX1_stands, cX1_stands, 6, (some .boolean))
abbrev mX1_longestAt : MethodName × ByteArray × Nat × Option FieldType := (yX1_longestAt, cX1_longestAt, 7, (some .int))
abbrev mX7_add : MethodName × ByteArray × Nat × Option FieldType := (yX7_add, cX7_add, 2, none)
abbrev mX1_readInto : MethodName × ByteArray × Nat × Option FieldType := (yX1_readInto, cX1_readInto, 7, (some .int))
abbrev mX7_init : MethodName × ByteArray × Nat × Option FieldType := (yX7_init, cX7_init, 1, none)
abbrev mX2_init : MethodName × ByteArray × Nat × Option FieldType := (yX2_init, cX2_init, 1, none)
abbrev mX7_become : MethodName × ByteArray × Nat × Option FieldType := (yX7_become, cX7_become, 2, none)
abbrev mX2_become : MethodName × ByteArray × Nat × Option FieldType := (yX2_become, cX2_become, 5, none)
abbrev mX3_init : MethodName × ByteArray × Nat × Option FieldType := (yX3_init, cX3_init, 1, none)
abbrev mX5_init : MethodName × ByteArray × Nat × Option FieldType := (yX5_init, cX5_init, 1, none)
abbrev mX4_init : MethodName × ByteArray × Nat × Option FieldType := (yX4_init, cX4_init, 3, none)
abbrev mX5_takes : MethodName × ByteArray × Nat × Option FieldType := (yX5_takes, cX5_takes, 3, (some .boolean))
abbrev mX5_takeBetween : MethodName × ByteArray × Nat × Option FieldType := (yX5_takeBetween, cX5_takeBetween, 4, (some .int))
abbrev mX5_takePattern : MethodName × ByteArray × Nat × Option FieldType := (yX5_takePattern, cX5_takePattern, 1, (some .int))
abbrev mX5_readTarget : MethodName × ByteArray × Nat × Option FieldType := (yX5_readTarget, cX5_readTarget, 2, (some .boolean))
abbrev mX5_readResult : MethodName × ByteArray × Nat × Option FieldType := (yX5_readResult, cX5_readResult, 2, (some .boolean))
abbrev mX5_isAtEnd : MethodName × ByteArray × Nat × Option FieldType := (yX5_isAtEnd, cX5_isAtEnd, 1, (some .boolean))
abbrev mX5_isAt : MethodName × ByteArray × Nat × Option FieldType := (yX5_isAt, cX5_isAt, 2, (some .boolean))
abbrev mX5_takeSide : MethodName × ByteArray × Nat × Option FieldType := (yX5_takeSide, cX5_takeSide, 1, (some .int))
abbrev mX5_readSides : MethodName × ByteArray × Nat × Option FieldType := (yX5_readSides, cX5_readSides, 2, (some .boolean))
abbrev mX5_firstFault : MethodName × ByteArray × Nat × Option FieldType := (yX5_firstFault, cX5_firstFault, 5, (some .int))
abbrev mX4_readLaw : MethodName × ByteArray × Nat × Option FieldType := (yX4_readLaw, cX4_readLaw, 3, (some .int))
abbrev mX4_addRead : MethodName × ByteArray × Nat × Option FieldType := (yX4_addRead, cX4_addRead, 2, (some .int))
abbrev mX4_collectAt : MethodName × ByteArray × Nat × Option FieldType := (yX4_collectAt, cX4_collectAt, 4, none)
abbrev mX10_isBelow : MethodName × ByteArray × Nat × Option FieldType := (yX10_isBelow, cX10_isBelow, 2, (some .boolean))
abbrev mX7_at : MethodName × ByteArray × Nat × Option FieldType := (yX7_at, cX7_at, 2, (some .int))
abbrev mX9_isOf : MethodName × ByteArray × Nat × Option FieldType := (yX9_isOf, cX9_isOf, 3, (some .boolean))
abbrev mX4_doLaw : MethodName × ByteArray × Nat × Option FieldType := (yX4_doLaw, cX4_doLaw, 8, (some .boolean))
abbrev mX4_deriveAt : MethodName × ByteArray × Nat × Option FieldType := (yX4_deriveAt, cX4_deriveAt, 7, (some .int))
abbrev mX4_deriveBy : MethodName × ByteArray × Nat × Option FieldType := (yX4_deriveBy, cX4_deriveBy, 5, none)
abbrev mX6_init : MethodName × ByteArray × Nat × Option FieldType := (yX6_init, cX6_init, 2, none)
abbrev mJ6_bitCount_0f7a4 : MethodName × ByteArray × Nat × Option FieldType := (yJ6_bitCount_0f7a4, cJ6_bitCount_0f7a4, 1, (some .int))
abbrev mX9_difference : MethodName × ByteArray × Nat × Option FieldType := (yX9_difference, cX9_difference, 5, (some .int))
abbrev mX6_costOfPair : MethodName × ByteArray × Nat × Option FieldType := (yX6_costOfPair, cX6_costOfPair, 5, (some .int))
abbrev mX6_leastCost : MethodName × ByteArray × Nat × Option FieldType := (yX6_leastCost, cX6_leastCost, 6, (some .int))
abbrev mX6_isPair : MethodName × ByteArray × Nat × Option FieldType := (yX6_isPair, cX6_isPair, 5, (some .boolean))
abbrev mX6_isFirstAlone : MethodName × ByteArray × Nat × Option FieldType := (yX6_isFirstAlone, cX6_isFirstAlone, 4, (some .boolean))
abbrev mX6_column : MethodName × ByteArray × Nat × Option FieldType := (yX6_column, cX6_column, 10, (some .int))
abbrev mX7_becomeCells : MethodName × ByteArray × Nat × Option FieldType := (yX7_becomeCells, cX7_becomeCells, 4, none)
abbrev mX7_sizeOrAt : MethodName × ByteArray × Nat × Option FieldType := (yX7_sizeOrAt, cX7_sizeOrAt, 2, (some .int))
abbrev mX7_isSame : MethodName × ByteArray × Nat × Option FieldType := (yX7_isSame, cX7_isSame, 3, (some .boolean))
abbrev mX7_swap : MethodName × ByteArray × Nat × Option FieldType := (yX7_swap, cX7_swap, 4, none)
abbrev mX7_stepOrder : MethodName × ByteArray × Nat × Option FieldType := (yX7_stepOrder, cX7_stepOrder, 5, (some .boolean))
abbrev mX8_init : MethodName × ByteArray × Nat × Option FieldType := (yX8_init, cX8_init, 1, none)
abbrev mJ7_fill_53178 : MethodName × ByteArray × Nat × Option FieldType := (yJ7_fill_53178, cJ7_fill_53178, 4, none)
abbrev mX8_renew : MethodName × ByteArray × Nat × Option FieldType := (yX8_renew, cX8_renew, 3, none)
abbrev mX8_loseRow : MethodName × ByteArray × Nat × Option FieldType := (yX8_loseRow, cX8_loseRow, 2, (some .boolean))
abbrev mX8_putCut : MethodName × ByteArray × Nat × Option FieldType := (yX8_putCut, cX8_putCut, 3, none)
abbrev mX8_faultOfRow : MethodName × ByteArray × Nat × Option FieldType := (yX8_faultOfRow, cX8_faultOfRow, 2, (some .int))
abbrev mX10_isWithin : MethodName × ByteArray × Nat × Option FieldType := (yX10_isWithin, cX10_isWithin, 3, (some .boolean))
abbrev mX8_faultOfCells : MethodName × ByteArray × Nat × Option FieldType := (yX8_faultOfCells, cX8_faultOfCells, 5, (some .int))
abbrev mX9_init : MethodName × ByteArray × Nat × Option FieldType := (yX9_init, cX9_init, 1, none)
abbrev mX9_become : MethodName × ByteArray × Nat × Option FieldType := (yX9_become, cX9_become, 4, (some .boolean))
abbrev mX10_init : MethodName × ByteArray × Nat × Option FieldType := (yX10_init, cX10_init, 2, none)
abbrev mX10_isSetBelow : MethodName × ByteArray × Nat × Option FieldType := (yX10_isSetBelow, cX10_isSetBelow, 2, (some .boolean))
abbrev mX10_sound : MethodName × ByteArray × Nat × Option FieldType := (yX10_sound, cX10_sound, 4, (some .int))
abbrev mX10_feature : MethodName × ByteArray × Nat × Option FieldType := (yX10_feature, cX10_feature, 3, (some .int))
abbrev mX10_differ : MethodName × ByteArray × Nat × Option FieldType := (yX10_differ, cX10_differ, 3, (some .int))
abbrev mX10_failBy : MethodName × ByteArray × Nat × Option FieldType := (yX10_failBy, cX10_failBy, 2, (some .int))
abbrev mX10_takeCells : MethodName × ByteArray × Nat × Option FieldType := (yX10_takeCells, cX10_takeCells, 6, (some .int))
abbrev mX10_areTakenBelow : MethodName × ByteArray × Nat × Option FieldType := (yX10_areTakenBelow, cX10_areTakenBelow, 4, (some .boolean))
abbrev mX10_entry : MethodName × ByteArray × Nat × Option FieldType := (yX10_entry, cX10_entry, 8, (some .int))
abbrev mX10_place : MethodName × ByteArray × Nat × Option FieldType := (yX10_place, cX10_place, 1, (some .int))
abbrev mX10_isPlace : MethodName × ByteArray × Nat × Option FieldType := (yX10_isPlace, cX10_isPlace, 2, (some .boolean))
abbrev mX10_near : MethodName × ByteArray × Nat × Option FieldType := (yX10_near, cX10_near, 4, (some .int))
abbrev mX10_isMeaning : MethodName × ByteArray × Nat × Option FieldType := (yX10_isMeaning, cX10_isMeaning, 1, (some .boolean))
abbrev mX10_takeSounds : MethodName × ByteArray × Nat × Option FieldType := (yX10_takeSounds, cX10_takeSounds, 6, (some .int))
abbrev mX10_addForm : MethodName × ByteArray × Nat × Option FieldType := (yX10_addForm, cX10_addForm, 5, (some .int))
abbrev mX10_form : MethodName × ByteArray × Nat × Option FieldType := (yX10_form, cX10_form, 9, (some .int))
abbrev mX10_read : MethodName × ByteArray × Nat × Option FieldType := (yX10_read, cX10_read, 10, (some .int))
abbrev mX10_isForm : MethodName × ByteArray × Nat × Option FieldType := (yX10_isForm, cX10_isForm, 2, (some .boolean))
abbrev mX10_ofForm : MethodName × ByteArray × Nat × Option FieldType := (yX10_ofForm, cX10_ofForm, 4, (some .int))
abbrev mX10_said : MethodName × ByteArray × Nat × Option FieldType := (yX10_said, cX10_said, 3, (some .int))
abbrev mX10_root : MethodName × ByteArray × Nat × Option FieldType := (yX10_root, cX10_root, 7, (some .int))
abbrev mX10_ofRoot : MethodName × ByteArray × Nat × Option FieldType := (yX10_ofRoot, cX10_ofRoot, 3, (some .int))
abbrev mX10_law : MethodName × ByteArray × Nat × Option FieldType := (yX10_law, cX10_law, 8, (some .int))
abbrev mX10_isLaw : MethodName × ByteArray × Nat × Option FieldType := (yX10_isLaw, cX10_isLaw, 2, (some .boolean))
abbrev mX10_force : MethodName × ByteArray × Nat × Option FieldType := (yX10_force, cX10_force, 4, (some .int))
abbrev mX10_derived : MethodName × ByteArray × Nat × Option FieldType := (yX10_derived, cX10_derived, 5, (some .int))
abbrev mX10_latest : MethodName × ByteArray × Nat × Option FieldType := (yX10_latest, cX10_latest, 3, (some .int))
abbrev mX10_gap : MethodName × ByteArray × Nat × Option FieldType := (yX10_gap, cX10_gap, 3, (some .int))
abbrev mX10_cost : MethodName × ByteArray × Nat × Option FieldType := (yX10_cost, cX10_cost, 3, (some .int))
abbrev mX10_align : MethodName × ByteArray × Nat × Option FieldType := (yX10_align, cX10_align, 4, (some .int))
abbrev mX10_isSoughtSet : MethodName × ByteArray × Nat × Option FieldType := (yX10_isSoughtSet, cX10_isSoughtSet, 1, (some .boolean))
abbrev mX10_saidPlaces : MethodName × ByteArray × Nat × Option FieldType := (yX10_saidPlaces, cX10_saidPlaces, 4, (some .int))
abbrev mX10_costsOfTrial : MethodName × ByteArray × Nat × Option FieldType := (yX10_costsOfTrial, cX10_costsOfTrial, 6, (some .int))
abbrev mX10_seekBest : MethodName × ByteArray × Nat × Option FieldType := (yX10_seekBest, cX10_seekBest, 6, (some .int))
abbrev mX10_sought : MethodName × ByteArray × Nat × Option FieldType := (yX10_sought, cX10_sought, 5, (some .int))
abbrev mX10_regular : MethodName × ByteArray × Nat × Option FieldType := (yX10_regular, cX10_regular, 3, (some .int))
abbrev mX10_ways : MethodName × ByteArray × Nat × Option FieldType := (yX10_ways, cX10_ways, 5, (some .int))
abbrev mX10_regularByTrial : MethodName × ByteArray × Nat × Option FieldType := (yX10_regularByTrial, cX10_regularByTrial, 5, (some .int))
abbrev mX10_orderBest : MethodName × ByteArray × Nat × Option FieldType := (yX10_orderBest, cX10_orderBest, 6, (some .int))
abbrev mX10_order : MethodName × ByteArray × Nat × Option FieldType := (yX10_order, cX10_order, 4, (some .int))
abbrev mX10_limit : MethodName × ByteArray × Nat × Option FieldType := (yX10_limit, cX10_limit, 3, (some .int))
abbrev mX10_costBetween : MethodName × ByteArray × Nat × Option FieldType := (yX10_costBetween, cX10_costBetween, 6, (some .int))
abbrev mX10_likePlaces : MethodName × ByteArray × Nat × Option FieldType := (yX10_likePlaces, cX10_likePlaces, 5, (some .int))
abbrev mJ6_numberOfTrailingZeros_0f7a4 : MethodName × ByteArray × Nat × Option FieldType := (yJ6_numberOfTrailingZeros_0f7a4, cJ6_numberOfTrailingZeros_0f7a4, 2, (some .int))
abbrev mX10_leastJoined : MethodName × ByteArray × Nat × Option FieldType := (yX10_leastJoined, cX10_leastJoined, 6, (some .int))
abbrev mX10_countOrLeast : MethodName × ByteArray × Nat × Option FieldType := (yX10_countOrLeast, cX10_countOrLeast, 5, (some .int))
abbrev mX10_group : MethodName × ByteArray × Nat × Option FieldType := (yX10_group, cX10_group, 4, (some .int))
abbrev mX10_border : MethodName × ByteArray × Nat × Option FieldType := (yX10_border, cX10_border, 6, (some .int))
abbrev mX10_bundle : MethodName × ByteArray × Nat × Option FieldType := (yX10_bundle, cX10_bundle, 5, (some .int))
abbrev mX10_area : MethodName × ByteArray × Nat × Option FieldType := (yX10_area, cX10_area, 3, (some .int))
abbrev mX10_sheet : MethodName × ByteArray × Nat × Option FieldType := (yX10_sheet, cX10_sheet, 4, (some .int))
abbrev mX10_lose : MethodName × ByteArray × Nat × Option FieldType := (yX10_lose, cX10_lose, 2, (some .int))
abbrev mX10_put : MethodName × ByteArray × Nat × Option FieldType := (yX10_put, cX10_put, 4, (some .int))
abbrev mX10_cell : MethodName × ByteArray × Nat × Option FieldType := (yX10_cell, cX10_cell, 4, (some .long))
abbrev mX10_leaveTrace : MethodName × ByteArray × Nat × Option FieldType := (yX10_leaveTrace, cX10_leaveTrace, 2, none)
abbrev mX10_tellForm : MethodName × ByteArray × Nat × Option FieldType := (yX10_tellForm, cX10_tellForm, 2, (some .int))
abbrev mX10_tellLoan : MethodName × ByteArray × Nat × Option FieldType := (yX10_tellLoan, cX10_tellLoan, 2, (some .int))
abbrev mX10_tellGuess : MethodName × ByteArray × Nat × Option FieldType := (yX10_tellGuess, cX10_tellGuess, 2, (some .int))
abbrev mX10_tell : MethodName × ByteArray × Nat × Option FieldType := (yX10_tell, cX10_tell, 2, (some .int))
abbrev mX10_name : MethodName × ByteArray × Nat × Option FieldType := (yX10_name, cX10_name, 2, (some .int))
abbrev mX10_as : MethodName × ByteArray × Nat × Option FieldType := (yX10_as, cX10_as, 3, (some .int))
abbrev mX10_trace : MethodName × ByteArray × Nat × Option FieldType := (yX10_trace, cX10_trace, 1, (some .int))
abbrev mX10_fault : MethodName × ByteArray × Nat × Option FieldType := (yX10_fault, cX10_fault, 1, (some .int))
abbrev mX10_many : MethodName × ByteArray × Nat × Option FieldType := (yX10_many, cX10_many, 2, (some .int))
abbrev mX11_init : MethodName × ByteArray × Nat × Option FieldType := (yX11_init, cX11_init, 1, none)
abbrev mX11_fails : MethodName × ByteArray × Nat × Option FieldType := (yX11_fails, cX11_fails, 2, (some .int))
abbrev mX11_lost : MethodName × ByteArray × Nat × Option FieldType := (yX11_lost, cX11_lost, 2, (some .long))
abbrev mX11_within : MethodName × ByteArray × Nat × Option FieldType := (yX11_within, cX11_within, 3, (some .boolean))
abbrev mX11_has : MethodName × ByteArray × Nat × Option FieldType := (yX11_has, cX11_has, 2, (some .boolean))
abbrev mX11_isSheet : MethodName × ByteArray × Nat × Option FieldType := (yX11_isSheet, cX11_isSheet, 1, (some .boolean))
abbrev mX11_isLane : MethodName × ByteArray × Nat × Option FieldType := (yX11_isLane, cX11_isLane, 1, (some .boolean))
abbrev mX11_against : MethodName × ByteArray × Nat × Option FieldType := (yX11_against, cX11_against, 5, (some .int))
abbrev mX11_areCells : MethodName × ByteArray × Nat × Option FieldType := (yX11_areCells, cX11_areCells, 6, (some .boolean))
abbrev mX11_isSound : MethodName × ByteArray × Nat × Option FieldType := (yX11_isSound, cX11_isSound, 1, (some .boolean))
abbrev mX11_sound : MethodName × ByteArray × Nat × Option FieldType := (yX11_sound, cX11_sound, 5, (some .int))
abbrev mX11_feature : MethodName × ByteArray × Nat × Option FieldType := (yX11_feature, cX11_feature, 3, (some .int))
abbrev mX11_differOf : MethodName × ByteArray × Nat × Option FieldType := (yX11_differOf, cX11_differOf, 7, (some .int))
abbrev mX11_differ : MethodName × ByteArray × Nat × Option FieldType := (yX11_differ, cX11_differ, 3, (some .int))
abbrev mX11_isCollector : MethodName × ByteArray × Nat × Option FieldType := (yX11_isCollector, cX11_isCollector, 1, (some .boolean))
abbrev mX11_entry : MethodName × ByteArray × Nat × Option FieldType := (yX11_entry, cX11_entry, 11, (some .int))
abbrev mX11_stands : MethodName × ByteArray × Nat × Option FieldType := (yX11_stands, cX11_stands, 5, (some .boolean))
abbrev mX11_entryAt : MethodName × ByteArray × Nat × Option FieldType := (yX11_entryAt, cX11_entryAt, 6, (some .int))
abbrev mX11_isPlace : MethodName × ByteArray × Nat × Option FieldType := (yX11_isPlace, cX11_isPlace, 2, (some .boolean))
abbrev mX11_isMeaning : MethodName × ByteArray × Nat × Option FieldType := (yX11_isMeaning, cX11_isMeaning, 1, (some .boolean))
abbrev mX11_place : MethodName × ByteArray × Nat × Option FieldType := (yX11_place, cX11_place, 1, (some .int))
abbrev mX11_near : MethodName × ByteArray × Nat × Option FieldType := (yX11_near, cX11_near, 4, (some .int))
abbrev mX11_isForm : MethodName × ByteArray × Nat × Option FieldType := (yX11_isForm, cX11_isForm, 2, (some .boolean))
abbrev mX11_formComes : MethodName × ByteArray × Nat × Option FieldType := (yX11_formComes, cX11_formComes, 5, (some .int))
abbrev mX11_form : MethodName × ByteArray × Nat × Option FieldType := (yX11_form, cX11_form, 11, (some .int))
abbrev mX11_read : MethodName × ByteArray × Nat × Option FieldType := (yX11_read, cX11_read, 13, (some .int))
abbrev mX11_ofForm : MethodName × ByteArray × Nat × Option FieldType := (yX11_ofForm, cX11_ofForm, 3, (some .int))
abbrev mX11_saidAt : MethodName × ByteArray × Nat × Option FieldType := (yX11_saidAt, cX11_saidAt, 5, (some .int))
abbrev mX11_said : MethodName × ByteArray × Nat × Option FieldType := (yX11_said, cX11_said, 3, (some .int))
abbrev mX11_root : MethodName × ByteArray × Nat × Option FieldType := (yX11_root, cX11_root, 9, (some .int))
abbrev mX11_ofRoot : MethodName × ByteArray × Nat × Option FieldType := (yX11_ofRoot, cX11_ofRoot, 3, (some .int))
abbrev mX11_codeAt : MethodName × ByteArray × Nat × Option FieldType := (yX11_codeAt, cX11_codeAt, 1, (some .int))
abbrev mX11_readsTarget : MethodName × ByteArray × Nat × Option FieldType := (yX11_readsTarget, cX11_readsTarget, 3, (some .int))
abbrev mX11_readsSide : MethodName × ByteArray × Nat × Option FieldType := (yX11_readsSide, cX11_readsSide, 2, (some .int))
abbrev mX11_readsLaw : MethodName × ByteArray × Nat × Option FieldType := (yX11_readsLaw, cX11_readsLaw, 3, (some .boolean))
abbrev mX11_law : MethodName × ByteArray × Nat × Option FieldType := (yX11_law, cX11_law, 8, (some .int))
abbrev mX11_isLaw : MethodName × ByteArray × Nat × Option FieldType := (yX11_isLaw, cX11_isLaw, 2, (some .boolean))
abbrev mX11_force : MethodName × ByteArray × Nat × Option FieldType := (yX11_force, cX11_force, 4, (some .int))
abbrev mX11_isOf : MethodName × ByteArray × Nat × Option FieldType := (yX11_isOf, cX11_isOf, 3, (some .boolean))
abbrev mX11_holds : MethodName × ByteArray × Nat × Option FieldType := (yX11_holds, cX11_holds, 3, (some .boolean))
abbrev mX11_doLaw : MethodName × ByteArray × Nat × Option FieldType := (yX11_doLaw, cX11_doLaw, 6, (some .boolean))
abbrev mX11_takeRoot : MethodName × ByteArray × Nat × Option FieldType := (yX11_takeRoot, cX11_takeRoot, 3, none)
abbrev mX11_derive : MethodName × ByteArray × Nat × Option FieldType := (yX11_derive, cX11_derive, 6, (some .int))
abbrev mX11_derived : MethodName × ByteArray × Nat × Option FieldType := (yX11_derived, cX11_derived, 5, (some .int))
abbrev mX11_latest : MethodName × ByteArray × Nat × Option FieldType := (yX11_latest, cX11_latest, 3, (some .int))
abbrev mX11_gap : MethodName × ByteArray × Nat × Option FieldType := (yX11_gap, cX11_gap, 3, (some .int))
abbrev mX11_layCosts : MethodName × ByteArray × Nat × Option FieldType := (yX11_layCosts, cX11_layCosts, 9, (some .int))
abbrev mX11_takeForms : MethodName × ByteArray × Nat × Option FieldType := (yX11_takeForms, cX11_takeForms, 4, none)
abbrev mX11_costOf : MethodName × ByteArray × Nat × Option FieldType := (yX11_costOf, cX11_costOf, 3, (some .int))
abbrev mX11_cost : MethodName × ByteArray × Nat × Option FieldType := (yX11_cost, cX11_cost, 3, (some .int))
abbrev mX11_align : MethodName × ByteArray × Nat × Option FieldType := (yX11_align, cX11_align, 11, (some .int))
abbrev mX11_laySet : MethodName × ByteArray × Nat × Option FieldType := (yX11_laySet, cX11_laySet, 3, (some .boolean))
abbrev mX11_manyCandidates : MethodName × ByteArray × Nat × Option FieldType := (yX11_manyCandidates, cX11_manyCandidates, 1, (some .int))
abbrev mX11_layCandidate : MethodName × ByteArray × Nat × Option FieldType := (yX11_layCandidate, cX11_layCandidate, 5, none)
abbrev mX11_deriveCandidate : MethodName × ByteArray × Nat × Option FieldType := (yX11_deriveCandidate, cX11_deriveCandidate, 3, none)
abbrev mX11_costFrom : MethodName × ByteArray × Nat × Option FieldType := (yX11_costFrom, cX11_costFrom, 3, (some .int))
abbrev mX11_costsOf : MethodName × ByteArray × Nat × Option FieldType := (yX11_costsOf, cX11_costsOf, 5, (some .int))
abbrev mX11_isSaid : MethodName × ByteArray × Nat × Option FieldType := (yX11_isSaid, cX11_isSaid, 3, (some .boolean))
abbrev mX11_sought : MethodName × ByteArray × Nat × Option FieldType := (yX11_sought, cX11_sought, 8, (some .int))
abbrev mX11_isForms : MethodName × ByteArray × Nat × Option FieldType := (yX11_isForms, cX11_isForms, 3, (some .boolean))
abbrev mX11_regular : MethodName × ByteArray × Nat × Option FieldType := (yX11_regular, cX11_regular, 2, (some .int))
abbrev mX11_ways : MethodName × ByteArray × Nat × Option FieldType := (yX11_ways, cX11_ways, 5, (some .int))
abbrev mX11_regulars : MethodName × ByteArray × Nat × Option FieldType := (yX11_regulars, cX11_regulars, 7, (some .int))
abbrev mX11_nextTurn : MethodName × ByteArray × Nat × Option FieldType := (yX11_nextTurn, cX11_nextTurn, 7, (some .boolean))
abbrev mX11_order : MethodName × ByteArray × Nat × Option FieldType := (yX11_order, cX11_order, 8, (some .int))
abbrev mX11_limit : MethodName × ByteArray × Nat × Option FieldType := (yX11_limit, cX11_limit, 3, (some .int))
abbrev mX11_areSaid : MethodName × ByteArray × Nat × Option FieldType := (yX11_areSaid, cX11_areSaid, 4, (some .boolean))
abbrev mX11_areLike : MethodName × ByteArray × Nat × Option FieldType := (yX11_areLike, cX11_areLike, 4, (some .boolean))
abbrev mX11_join : MethodName × ByteArray × Nat × Option FieldType := (yX11_join, cX11_join, 7, none)
abbrev mX11_joinedOf : MethodName × ByteArray × Nat × Option FieldType := (yX11_joinedOf, cX11_joinedOf, 4, (some .int))
abbrev mX11_group : MethodName × ByteArray × Nat × Option FieldType := (yX11_group, cX11_group, 5, (some .int))
abbrev mX11_border : MethodName × ByteArray × Nat × Option FieldType := (yX11_border, cX11_border, 6, (some .int))
abbrev mX11_bundle : MethodName × ByteArray × Nat × Option FieldType := (yX11_bundle, cX11_bundle, 5, (some .int))
abbrev mX11_area : MethodName × ByteArray × Nat × Option FieldType := (yX11_area, cX11_area, 5, (some .int))
abbrev mX11_sheet : MethodName × ByteArray × Nat × Option FieldType := (yX11_sheet, cX11_sheet, 5, (some .int))
abbrev mX11_lose : MethodName × ByteArray × Nat × Option FieldType := (yX11_lose, cX11_lose, 3, (some .int))
abbrev mX11_put : MethodName × ByteArray × Nat × Option FieldType := (yX11_put, cX11_put, 4, (some .int))
abbrev mX11_cell : MethodName × ByteArray × Nat × Option FieldType := (yX11_cell, cX11_cell, 4, (some .long))
abbrev mX11_begins : MethodName × ByteArray × Nat × Option FieldType := (yX11_begins, cX11_begins, 2, none)
abbrev mX11_tell : MethodName × ByteArray × Nat × Option FieldType := (yX11_tell, cX11_tell, 2, (some .int))
abbrev mX11_name : MethodName × ByteArray × Nat × Option FieldType := (yX11_name, cX11_name, 2, (some .int))
abbrev mX11_as : MethodName × ByteArray × Nat × Option FieldType := (yX11_as, cX11_as, 3, (some .int))
abbrev mX11_trace : MethodName × ByteArray × Nat × Option FieldType := (yX11_trace, cX11_trace, 1, (some .int))
abbrev mX11_fault : MethodName × ByteArray × Nat × Option FieldType := (yX11_fault, cX11_fault, 1, (some .int))
abbrev mX11_many : MethodName × ByteArray × Nat × Option FieldType := (yX11_many, cX11_many, 4, (some .int))
abbrev mJ9_min_7cf53 : MethodName × ByteArray × Nat × Option FieldType := (yJ9_min_7cf53, cJ9_min_7cf53, 2, (some .int))
end
section
theorem dX0_init_0 : decode cX0_init 0 = .ok (.aload_n 0, 1) := by decide +kernel
theorem dX0_init_1 : decode cX0_init 1 = .ok (.invokespecial 3, 3) := by decide +kernel
theorem dX0_init_4 : decode cX0_init 4 = .ok (.aload_n 0, 1) := by decide +kernel
theorem dX0_init_5 : decode cX0_init 5 = .ok (.iconst 5, 1) := by decide +kernel
theorem dX0_init_6 : decode cX0_init 6 = .ok (.newarray .int, 2) := by decide +kernel
theorem dX0_init_8 : decode cX0_init 8 = .ok (.putfield 9, 3) := by decide +kernel
theorem dX0_init_11 : decode cX0_init 11 = .ok (.aload_n 0, 1) := by decide +kernel
theorem dX0_init_12 : decode cX0_init 12 = .ok (.iconst 0, 1) := by decide +kernel
theorem dX0_init_13 : decode cX0_init 13 = .ok (.putfield 15, 3) := by decide +kernel
theorem dX0_init_16 : decode cX0_init 16 = .ok (.aload_n 0, 1) := by decide +kernel
theorem dX0_init_17 : decode cX0_init 17 = .ok (.iconst 0, 1) := by decide +kernel
theorem dX0_init_18 : decode cX0_init 18 = .ok (.putfield 19, 3) := by decide +kernel
theorem dX0_init_21 : decode cX0_init 21 = .ok (.return_, 1) := by decide +kernel
theorem dX0_begin_0 : decode cX0_begin 0 = .ok (.aload_n 0, 1) := by decide +kernel
theorem dX0_begin_1 : decode cX0_begin 1 = .ok (.iconst 0, 1) := by decide +kernel
theorem dX0_begin_2 : decode cX0_begin 2 = .ok (.putfield 15, 3) := by decide +kernel
theorem dX0_begin_5 : decode cX0_begin 5 = .ok (.iconst 0, 1) := by decide +kernel
theorem dX0_begin_6 : decode cX0_begin 6 = .ok (.istore_n 2, 1) := by decide +kernel
theorem dX0_begin_7 : decode cX0_begin 7 = .ok (.iload_n 2, 1) := by decide +kernel
theorem dX0_begin_8 : decode cX0_begin 8 = .ok (.bipush 16, 2) := by decide +kernel
theorem dX0_begin_10 : decode cX0_begin 10 = .ok (.if_icmp .ge 45, 3) := by decide +kernel
theorem dX0_begin_13 : decode cX0_begin 13 = .ok (.aload_n 0, 1) := by decide +kernel
theorem dX0_begin_14 : decode cX0_begin 14 = .ok (.getfield 15, 3) := by decide +kernel
theorem dX0_begin_17 : decode cX0_begin 17 = .ok (.iconst 5, 1) := by decide +kernel
theorem dX0_begin_18 : decode cX0_begin 18 = .ok (.if_icmp .ge 37, 3) := by decide +kernel
theorem dX0_begin_21 : decode cX0_begin 21 = .ok (.iload_n 2, 1) := by decide +kernel
theorem dX0_begin_22 : decode cX0_begin 22 = .ok (.iload_n 1, 1) := by decide +kernel
theorem dX0_begin_23 : decode cX0_begin 23 = .ok (.invokestatic 22, 3) := by decide +kernel
theorem dX0_begin_26 : decode cX0_begin 26 = .ok (.ifCond .eq 23, 3) := by decide +kernel
theorem dX0_begin_29 : decode cX0_begin 29 = .ok (.aload_n 0, 1) := by decide +kernel
theorem dX0_begin_30 : decode cX0_begin 30 = .ok (.getfield 9, 3) := by decide +kernel
theorem dX0_begin_33 : decode cX0_begin 33 = .ok (.aload_n 0, 1) := by decide +kernel
theorem dX0_begin_34 : decode cX0_begin 34 = .ok (.getfield 15, 3) := by decide +kernel
theorem dX0_begin_37 : decode cX0_begin 37 = .ok (.iload_n 2, 1) := by decide +kernel
theorem dX0_begin_38 : decode cX0_begin 38 = .ok (.iastore, 1) := by decide +kernel
theorem dX0_begin_39 : decode cX0_begin 39 = .ok (.aload_n 0, 1) := by decide +kernel
theorem dX0_begin_40 : decode cX0_begin 40 = .ok (.dup, 1) := by decide +kernel
theorem dX0_begin_41 : decode cX0_begin 41 = .ok (.getfield 15, 3) := by decide +kernel
theorem dX0_begin_44 : decode cX0_begin 44 = .ok (.iconst 1, 1) := by decide +kernel
theorem dX0_begin_45 : decode cX0_begin 45 = .ok (.iadd, 1) := by decide +kernel
theorem dX0_begin_46 : decode cX0_begin 46 = .ok (.putfield 15, 3) := by decide +kernel
theorem dX0_begin_49 : decode cX0_begin 49 = .ok (.iinc 2 1, 3) := by decide +kernel
theorem dX0_begin_52 : decode cX0_begin 52 = .ok (.goto (-45), 3) := by decide +kernel
theorem dX0_begin_55 : decode cX0_begin 55 = .ok (.aload_n 0, 1) := by decide +kernel
theorem dX0_begin_56 : decode cX0_begin 56 = .ok (.iconst 1, 1) := by decide +kernel
theorem dX0_begin_57 : decode cX0_begin 57 = .ok (.aload_n 0, 1) := by decide +kernel
theorem dX0_begin_58 : decode cX0_begin 58 = .ok (.getfield 15, 3) := by decide +kernel
theorem dX0_begin_61 : decode cX0_begin 61 = .ok (.iconst 1, 1) := by decide +kernel
theorem dX0_begin_62 : decode cX0_begin 62 = .ok (.aload_n 0, 1) := by decide +kernel
theorem dX0_begin_63 : decode cX0_begin 63 = .ok (.getfield 15, 3) := by decide +kernel
theorem dX0_begin_66 : decode cX0_begin 66 = .ok (.iconst 1, 1) := by decide +kernel
theorem dX0_begin_67 : decode cX0_begin 67 = .ok (.aload_n 0, 1) := by decide +kernel
theorem dX0_begin_68 : decode cX0_begin 68 = .ok (.getfield 15, 3) := by decide +kernel
theorem dX0_begin_71 : decode cX0_begin 71 = .ok (.iadd, 1) := by decide +kernel
theorem dX0_begin_72 : decode cX0_begin 72 = .ok (.imul, 1) := by decide +kernel
theorem dX0_begin_73 : decode cX0_begin 73 = .ok (.iadd, 1) := by decide +kernel
theorem dX0_begin_74 : decode cX0_begin 74 = .ok (.imul, 1) := by decide +kernel
theorem dX0_begin_75 : decode cX0_begin 75 = .ok (.iadd, 1) := by decide +kernel
theorem dX0_begin_76 : decode cX0_begin 76 = .ok (.putfield 19, 3) := by decide +kernel
theorem dX0_begin_79 : decode cX0_begin 79 = .ok (.return_, 1) := by decide +kernel
theorem dX0_writeTo_0 : decode cX0_writeTo 0 = .ok (.aload_n 1, 1) := by decide +kernel
theorem dX0_writeTo_1 : decode cX0_writeTo 1 = .ok (.invokevirtual 26, 3) := by decide +kernel
theorem dX0_writeTo_4 : decode cX0_writeTo 4 = .ok (.aload_n 0, 1) := by decide +kernel
theorem dX0_writeTo_5 : decode cX0_writeTo 5 = .ok (.getfield 15, 3) := by decide +kernel
theorem dX0_writeTo_8 : decode cX0_writeTo 8 = .ok (.iconst 1, 1) := by decide +kernel
theorem dX0_writeTo_9 : decode cX0_writeTo 9 = .ok (.if_icmp .ge 4, 3) := by decide +kernel
theorem dX0_writeTo_12 : decode cX0_writeTo 12 = .ok (.return_, 1) := by decide +kernel
theorem dX0_writeTo_13 : decode cX0_writeTo 13 = .ok (.iload_n 2, 1) := by decide +kernel
theorem dX0_writeTo_14 : decode cX0_writeTo 14 = .ok (.istore_n 3, 1) := by decide +kernel
theorem dX0_writeTo_15 : decode cX0_writeTo 15 = .ok (.iconst 1, 1) := by decide +kernel
theorem dX0_writeTo_16 : decode cX0_writeTo 16 = .ok (.istore 4, 2) := by decide +kernel
theorem dX0_writeTo_18 : decode cX0_writeTo 18 = .ok (.aload_n 1, 1) := by decide +kernel
theorem dX0_writeTo_19 : decode cX0_writeTo 19 = .ok (.getfield 31, 3) := by decide +kernel
theorem dX0_writeTo_22 : decode cX0_writeTo 22 = .ok (.iconst 3, 1) := by decide +kernel
theorem dX0_writeTo_23 : decode cX0_writeTo 23 = .ok (.if_icmp .ge 36, 3) := by decide +kernel
theorem dX0_writeTo_26 : decode cX0_writeTo 26 = .ok (.iload_n 3, 1) := by decide +kernel
theorem dX0_writeTo_27 : decode cX0_writeTo 27 = .ok (.iload 4, 2) := by decide +kernel
theorem dX0_writeTo_29 : decode cX0_writeTo 29 = .ok (.if_icmp .lt 30, 3) := by decide +kernel
theorem dX0_writeTo_32 : decode cX0_writeTo 32 = .ok (.iload_n 3, 1) := by decide +kernel
theorem dX0_writeTo_33 : decode cX0_writeTo 33 = .ok (.iload 4, 2) := by decide +kernel
theorem dX0_writeTo_35 : decode cX0_writeTo 35 = .ok (.isub, 1) := by decide +kernel
theorem dX0_writeTo_36 : decode cX0_writeTo 36 = .ok (.istore_n 3, 1) := by decide +kernel
theorem dX0_writeTo_37 : decode cX0_writeTo 37 = .ok (.iload 4, 2) := by decide +kernel
theorem dX0_writeTo_39 : decode cX0_writeTo 39 = .ok (.aload_n 0, 1) := by decide +kernel
theorem dX0_writeTo_40 : decode cX0_writeTo 40 = .ok (.getfield 15, 3) := by decide +kernel
theorem dX0_writeTo_43 : decode cX0_writeTo 43 = .ok (.imul, 1) := by decide +kernel
theorem dX0_writeTo_44 : decode cX0_writeTo 44 = .ok (.istore 4, 2) := by decide +kernel
theorem dX0_writeTo_46 : decode cX0_writeTo 46 = .ok (.aload_n 1, 1) := by decide +kernel
theorem dX0_writeTo_47 : decode cX0_writeTo 47 = .ok (.dup, 1) := by decide +kernel
theorem dX0_writeTo_48 : decode cX0_writeTo 48 = .ok (.getfield 31, 3) := by decide +kernel
theorem dX0_writeTo_51 : decode cX0_writeTo 51 = .ok (.iconst 1, 1) := by decide +kernel
theorem dX0_writeTo_52 : decode cX0_writeTo 52 = .ok (.iadd, 1) := by decide +kernel
theorem dX0_writeTo_53 : decode cX0_writeTo 53 = .ok (.putfield 31, 3) := by decide +kernel
theorem dX0_writeTo_56 : decode cX0_writeTo 56 = .ok (.goto (-38), 3) := by decide +kernel
theorem dX0_writeTo_59 : decode cX0_writeTo 59 = .ok (.aload_n 1, 1) := by decide +kernel
theorem dX0_writeTo_60 : decode cX0_writeTo 60 = .ok (.getfield 31, 3) := by decide +kernel
theorem dX0_writeTo_63 : decode cX0_writeTo 63 = .ok (.iconst 1, 1) := by decide +kernel
theorem dX0_writeTo_64 : decode cX0_writeTo 64 = .ok (.isub, 1) := by decide +kernel
theorem dX0_writeTo_65 : decode cX0_writeTo 65 = .ok (.istore 5, 2) := by decide +kernel
theorem dX0_writeTo_67 : decode cX0_writeTo 67 = .ok (.iload 5, 2) := by decide +kernel
theorem dX0_writeTo_69 : decode cX0_writeTo 69 = .ok (.ifCond .lt 34, 3) := by decide +kernel
theorem dX0_writeTo_72 : decode cX0_writeTo 72 = .ok (.aload_n 1, 1) := by decide +kernel
theorem dX0_writeTo_73 : decode cX0_writeTo 73 = .ok (.getfield 34, 3) := by decide +kernel
theorem dX0_writeTo_76 : decode cX0_writeTo 76 = .ok (.iload 5, 2) := by decide +kernel
theorem dX0_writeTo_78 : decode cX0_writeTo 78 = .ok (.aload_n 0, 1) := by decide +kernel
theorem dX0_writeTo_79 : decode cX0_writeTo 79 = .ok (.getfield 9, 3) := by decide +kernel
theorem dX0_writeTo_82 : decode cX0_writeTo 82 = .ok (.iload_n 3, 1) := by decide +kernel
theorem dX0_writeTo_83 : decode cX0_writeTo 83 = .ok (.aload_n 0, 1) := by decide +kernel
theorem dX0_writeTo_84 : decode cX0_writeTo 84 = .ok (.getfield 15, 3) := by decide +kernel
theorem dX0_writeTo_87 : decode cX0_writeTo 87 = .ok (.irem, 1) := by decide +kernel
theorem dX0_writeTo_88 : decode cX0_writeTo 88 = .ok (.iaload, 1) := by decide +kernel
theorem dX0_writeTo_89 : decode cX0_writeTo 89 = .ok (.iastore, 1) := by decide +kernel
theorem dX0_writeTo_90 : decode cX0_writeTo 90 = .ok (.iload_n 3, 1) := by decide +kernel
theorem dX0_writeTo_91 : decode cX0_writeTo 91 = .ok (.aload_n 0, 1) := by decide +kernel
theorem dX0_writeTo_92 : decode cX0_writeTo 92 = .ok (.getfield 15, 3) := by decide +kernel
theorem dX0_writeTo_95 : decode cX0_writeTo 95 = .ok (.idiv, 1) := by decide +kernel
theorem dX0_writeTo_96 : decode cX0_writeTo 96 = .ok (.istore_n 3, 1) := by decide +kernel
theorem dX0_writeTo_97 : decode cX0_writeTo 97 = .ok (.iinc 5 (-1), 3) := by decide +kernel
theorem dX0_writeTo_100 : decode cX0_writeTo 100 = .ok (.goto (-33), 3) := by decide +kernel
theorem dX0_writeTo_103 : decode cX0_writeTo 103 = .ok (.return_, 1) := by decide +kernel
theorem dX1_init_0 : decode cX1_init 0 = .ok (.aload_n 0, 1) := by decide +kernel
theorem dX1_init_1 : decode cX1_init 1 = .ok (.invokespecial 3, 3) := by decide +kernel
theorem dX1_init_4 : decode cX1_init 4 = .ok (.aload_n 0, 1) := by decide +kernel
theorem dX1_init_5 : decode cX1_init 5 = .ok (.bipush 30, 2) := by decide +kernel
theorem dX1_init_7 : decode cX1_init 7 = .ok (.newarray .int, 2) := by decide +kernel
theorem dX1_init_9 : decode cX1_init 9 = .ok (.putfield 9, 3) := by decide +kernel
theorem dX1_init_12 : decode cX1_init 12 = .ok (.aload_n 0, 1) := by decide +kernel
theorem dX1_init_13 : decode cX1_init 13 = .ok (.bipush 10, 2) := by decide +kernel
theorem dX1_init_15 : decode cX1_init 15 = .ok (.newarray .int, 2) := by decide +kernel
theorem dX1_init_17 : decode cX1_init 17 = .ok (.putfield 15, 3) := by decide +kernel
theorem dX1_init_20 : decode cX1_init 20 = .ok (.aload_n 0, 1) := by decide +kernel
theorem dX1_init_21 : decode cX1_init 21 = .ok (.bipush 10, 2) := by decide +kernel
theorem dX1_init_23 : decode cX1_init 23 = .ok (.newarray .int, 2) := by decide +kernel
theorem dX1_init_25 : decode cX1_init 25 = .ok (.putfield 18, 3) := by decide +kernel
theorem dX1_init_28 : decode cX1_init 28 = .ok (.aload_n 0, 1) := by decide +kernel
theorem dX1_init_29 : decode cX1_init 29 = .ok (.iconst 0, 1) := by decide +kernel
theorem dX1_init_30 : decode cX1_init 30 = .ok (.putfield 21, 3) := by decide +kernel
theorem dX1_init_33 : decode cX1_init 33 = .ok (.return_, 1) := by decide +kernel
theorem dX1_addEntry_0 : decode cX1_addEntry 0 = .ok (.aload_n 0, 1) := by decide +kernel
theorem dX1_addEntry_1 : decode cX1_addEntry 1 = .ok (.getfield 21, 3) := by decide +kernel
theorem dX1_addEntry_4 : decode cX1_addEntry 4 = .ok (.bipush 10, 2) := by decide +kernel
theorem dX1_addEntry_6 : decode cX1_addEntry 6 = .ok (.if_icmp .lt 6, 3) := by decide +kernel
theorem dX1_addEntry_9 : decode cX1_addEntry 9 = .ok (.bipush (-4), 2) := by decide +kernel
theorem dX1_addEntry_11 : decode cX1_addEntry 11 = .ok (.ireturn, 1) := by decide +kernel
theorem dX1_addEntry_12 : decode cX1_addEntry 12 = .ok (.aload_n 2, 1) := by decide +kernel
theorem dX1_addEntry_13 : decode cX1_addEntry 13 = .ok (.iconst 0, 1) := by decide +kernel
theorem dX1_addEntry_14 : decode cX1_addEntry 14 = .ok (.aload_n 0, 1) := by decide +kernel
theorem dX1_addEntry_15 : decode cX1_addEntry 15 = .ok (.getfield 9, 3) := by decide +kernel
theorem dX1_addEntry_18 : decode cX1_addEntry 18 = .ok (.aload_n 0, 1) := by decide +kernel
theorem dX1_addEntry_19 : decode cX1_addEntry 19 = .ok (.getfield 21, 3) := by decide +kernel
theorem dX1_addEntry_22 : decode cX1_addEntry 22 = .ok (.iconst 3, 1) := by decide +kernel
theorem dX1_addEntry_23 : decode cX1_addEntry 23 = .ok (.imul, 1) := by decide +kernel
theorem dX1_addEntry_24 : decode cX1_addEntry 24 = .ok (.iload_n 3, 1) := by decide +kernel
theorem dX1_addEntry_25 : decode cX1_addEntry 25 = .ok (.invokestatic 25, 3) := by decide +kernel
theorem dX1_addEntry_28 : decode cX1_addEntry 28 = .ok (.aload_n 0, 1) := by decide +kernel
theorem dX1_addEntry_29 : decode cX1_addEntry 29 = .ok (.getfield 15, 3) := by decide +kernel
theorem dX1_addEntry_32 : decode cX1_addEntry 32 = .ok (.aload_n 0, 1) := by decide +kernel
theorem dX1_addEntry_33 : decode cX1_addEntry 33 = .ok (.getfield 21, 3) := by decide +kernel
theorem dX1_addEntry_36 : decode cX1_addEntry 36 = .ok (.iload_n 3, 1) := by decide +kernel
theorem dX1_addEntry_37 : decode cX1_addEntry 37 = .ok (.iastore, 1) := by decide +kernel
theorem dX1_addEntry_38 : decode cX1_addEntry 38 = .ok (.aload_n 0, 1) := by decide +kernel
theorem dX1_addEntry_39 : decode cX1_addEntry 39 = .ok (.getfield 18, 3) := by decide +kernel
theorem dX1_addEntry_42 : decode cX1_addEntry 42 = .ok (.aload_n 0, 1) := by decide +kernel
theorem dX1_addEntry_43 : decode cX1_addEntry 43 = .ok (.getfield 21, 3) := by decide +kernel
theorem dX1_addEntry_46 : decode cX1_addEntry 46 = .ok (.iload_n 1, 1) := by decide +kernel
theorem dX1_addEntry_47 : decode cX1_addEntry 47 = .ok (.iastore, 1) := by decide +kernel
theorem dX1_addEntry_48 : decode cX1_addEntry 48 = .ok (.aload_n 0, 1) := by decide +kernel
theorem dX1_addEntry_49 : decode cX1_addEntry 49 = .ok (.dup, 1) := by decide +kernel
theorem dX1_addEntry_50 : decode cX1_addEntry 50 = .ok (.getfield 21, 3) := by decide +kernel
theorem dX1_addEntry_53 : decode cX1_addEntry 53 = .ok (.iconst 1, 1) := by decide +kernel
theorem dX1_addEntry_54 : decode cX1_addEntry 54 = .ok (.iadd, 1) := by decide +kernel
theorem dX1_addEntry_55 : decode cX1_addEntry 55 = .ok (.putfield 21, 3) := by decide +kernel
theorem dX1_addEntry_58 : decode cX1_addEntry 58 = .ok (.aload_n 0, 1) := by decide +kernel
theorem dX1_addEntry_59 : decode cX1_addEntry 59 = .ok (.getfield 21, 3) := by decide +kernel
theorem dX1_addEntry_62 : decode cX1_addEntry 62 = .ok (.ireturn, 1) := by decide +kernel
theorem dX1_readInto_0 : decode cX1_readInto 0 = .ok (.aload_n 1, 1) := by decide +kernel
theorem dX1_readInto_1 : decode cX1_readInto 1 = .ok (.invokevirtual 31, 3) := by decide +kernel
theorem dX1_readInto_4 : decode cX1_readInto 4 = .ok (.iconst 0, 1) := by decide +kernel
theorem dX1_readInto_5 : decode cX1_readInto 5 = .ok (.istore 4, 2) := by decide +kernel
theorem dX1_readInto_7 : decode cX1_readInto 7 = .ok (.iconst 0, 1) := by decide +kernel
theorem dX1_readInto_8 : decode cX1_readInto 8 = .ok (.istore 5, 2) := by decide +kernel
theorem dX1_readInto_10 : decode cX1_readInto 10 = .ok (.iload 5, 2) := by decide +kernel
theorem dX1_readInto_12 : decode cX1_readInto 12 = .ok (.bipush 8, 2) := by decide +kernel
theorem dX1_readInto_14 : decode cX1_readInto 14 = .ok (.if_icmp .gt 65, 3) := by decide +kernel
theorem dX1_readInto_17 : decode cX1_readInto 17 = .ok (.iload 4, 2) := by decide +kernel
theorem dX1_readInto_19 : decode cX1_readInto 19 = .ok (.iload_n 3, 1) := by decide +kernel
theorem dX1_readInto_20 : decode cX1_readInto 20 = .ok (.if_icmp .ge 59, 3) := by decide +kernel
theorem dX1_readInto_23 : decode cX1_readInto 23 = .ok (.aload_n 0, 1) := by decide +kernel
theorem dX1_readInto_24 : decode cX1_readInto 24 = .ok (.aload_n 2, 1) := by decide +kernel
theorem dX1_readInto_25 : decode cX1_readInto 25 = .ok (.iload 4, 2) := by decide +kernel
theorem dX1_readInto_27 : decode cX1_readInto 27 = .ok (.iload_n 3, 1) := by decide +kernel
theorem dX1_readInto_28 : decode cX1_readInto 28 = .ok (.invokevirtual 36, 3) := by decide +kernel
theorem dX1_readInto_31 : decode cX1_readInto 31 = .ok (.istore 6, 2) := by decide +kernel
theorem dX1_readInto_33 : decode cX1_readInto 33 = .ok (.iload 6, 2) := by decide +kernel
theorem dX1_readInto_35 : decode cX1_readInto 35 = .ok (.bipush (-9), 2) := by decide +kernel
theorem dX1_readInto_37 : decode cX1_readInto 37 = .ok (.if_icmp .eq 10, 3) := by decide +kernel
theorem dX1_readInto_40 : decode cX1_readInto 40 = .ok (.iload 5, 2) := by decide +kernel
theorem dX1_readInto_42 : decode cX1_readInto 42 = .ok (.bipush 8, 2) := by decide +kernel
theorem dX1_readInto_44 : decode cX1_readInto 44 = .ok (.if_icmp .ne 6, 3) := by decide +kernel
theorem dX1_readInto_47 : decode cX1_readInto 47 = .ok (.iload 4, 2) := by decide +kernel
theorem dX1_readInto_49 : decode cX1_readInto 49 = .ok (.ireturn, 1) := by decide +kernel
theorem dX1_readInto_50 : decode cX1_readInto 50 = .ok (.aload_n 1, 1) := by decide +kernel
theorem dX1_readInto_51 : decode cX1_readInto 51 = .ok (.aload_n 0, 1) := by decide +kernel
theorem dX1_readInto_52 : decode cX1_readInto 52 = .ok (.getfield 18, 3) := by decide +kernel
theorem dX1_readInto_55 : decode cX1_readInto 55 = .ok (.iload 6, 2) := by decide +kernel
theorem dX1_readInto_57 : decode cX1_readInto 57 = .ok (.iaload, 1) := by decide +kernel
theorem dX1_readInto_58 : decode cX1_readInto 58 = .ok (.invokevirtual 40, 3) := by decide +kernel
theorem dX1_readInto_61 : decode cX1_readInto 61 = .ok (.iload 4, 2) := by decide +kernel
theorem dX1_readInto_63 : decode cX1_readInto 63 = .ok (.aload_n 0, 1) := by decide +kernel
theorem dX1_readInto_64 : decode cX1_readInto 64 = .ok (.getfield 15, 3) := by decide +kernel
theorem dX1_readInto_67 : decode cX1_readInto 67 = .ok (.iload 6, 2) := by decide +kernel
theorem dX1_readInto_69 : decode cX1_readInto 69 = .ok (.iaload, 1) := by decide +kernel
theorem dX1_readInto_70 : decode cX1_readInto 70 = .ok (.iadd, 1) := by decide +kernel
theorem dX1_readInto_71 : decode cX1_readInto 71 = .ok (.istore 4, 2) := by decide +kernel
theorem dX1_readInto_73 : decode cX1_readInto 73 = .ok (.iinc 5 1, 3) := by decide +kernel
theorem dX1_readInto_76 : decode cX1_readInto 76 = .ok (.goto (-66), 3) := by decide +kernel
theorem dX1_readInto_79 : decode cX1_readInto 79 = .ok (.bipush (-9), 2) := by decide +kernel
theorem dX1_readInto_81 : decode cX1_readInto 81 = .ok (.ireturn, 1) := by decide +kernel
theorem dX1_longestAt_0 : decode cX1_longestAt 0 = .ok (.bipush (-9), 2) := by decide +kernel
theorem dX1_longestAt_2 : decode cX1_longestAt 2 = .ok (.istore 4, 2) := by decide +kernel
theorem dX1_longestAt_4 : decode cX1_longestAt 4 = .ok (.iconst 0, 1) := by decide +kernel
theorem dX1_longestAt_5 : decode cX1_longestAt 5 = .ok (.istore 5, 2) := by decide +kernel
theorem dX1_longestAt_7 : decode cX1_longestAt 7 = .ok (.iload 5, 2) := by decide +kernel
theorem dX1_longestAt_9 : decode cX1_longestAt 9 = .ok (.aload_n 0, 1) := by decide +kernel
theorem dX1_longestAt_10 : decode cX1_longestAt 10 = .ok (.getfield 21, 3) := by decide +kernel
theorem dX1_longestAt_13 : decode cX1_longestAt 13 = .ok (.if_icmp .ge 61, 3) := by decide +kernel
theorem dX1_longestAt_16 : decode cX1_longestAt 16 = .ok (.iload 4, 2) := by decide +kernel
theorem dX1_longestAt_18 : decode cX1_longestAt 18 = .ok (.bipush (-9), 2) := by decide +kernel
theorem dX1_longestAt_20 : decode cX1_longestAt 20 = .ok (.if_icmp .eq 20, 3) := by decide +kernel
theorem dX1_longestAt_23 : decode cX1_longestAt 23 = .ok (.aload_n 0, 1) := by decide +kernel
theorem dX1_longestAt_24 : decode cX1_longestAt 24 = .ok (.getfield 15, 3) := by decide +kernel
theorem dX1_longestAt_27 : decode cX1_longestAt 27 = .ok (.iload 5, 2) := by decide +kernel
theorem dX1_longestAt_29 : decode cX1_longestAt 29 = .ok (.iaload, 1) := by decide +kernel
theorem dX1_longestAt_30 : decode cX1_longestAt 30 = .ok (.aload_n 0, 1) := by decide +kernel
theorem dX1_longestAt_31 : decode cX1_longestAt 31 = .ok (.getfield 15, 3) := by decide +kernel
theorem dX1_longestAt_34 : decode cX1_longestAt 34 = .ok (.iload 4, 2) := by decide +kernel
theorem dX1_longestAt_36 : decode cX1_longestAt 36 = .ok (.iaload, 1) := by decide +kernel
theorem dX1_longestAt_37 : decode cX1_longestAt 37 = .ok (.if_icmp .lt 7, 3) := by decide +kernel
theorem dX1_longestAt_40 : decode cX1_longestAt 40 = .ok (.iconst 1, 1) := by decide +kernel
theorem dX1_longestAt_41 : decode cX1_longestAt 41 = .ok (.goto 4, 3) := by decide +kernel
theorem dX1_longestAt_44 : decode cX1_longestAt 44 = .ok (.iconst 0, 1) := by decide +kernel
theorem dX1_longestAt_45 : decode cX1_longestAt 45 = .ok (.istore 6, 2) := by decide +kernel
theorem dX1_longestAt_47 : decode cX1_longestAt 47 = .ok (.iload 6, 2) := by decide +kernel
theorem dX1_longestAt_49 : decode cX1_longestAt 49 = .ok (.ifCond .eq 19, 3) := by decide +kernel
theorem dX1_longestAt_52 : decode cX1_longestAt 52 = .ok (.aload_n 0, 1) := by decide +kernel
theorem dX1_longestAt_53 : decode cX1_longestAt 53 = .ok (.iload 5, 2) := by decide +kernel
theorem dX1_longestAt_55 : decode cX1_longestAt 55 = .ok (.aload_n 1, 1) := by decide +kernel
theorem dX1_longestAt_56 : decode cX1_longestAt 56 = .ok (.iload_n 2, 1) := by decide +kernel
theorem dX1_longestAt_57 : decode cX1_longestAt 57 = .ok (.iload_n 3, 1) := by decide +kernel
theorem dX1_longestAt_58 : decode cX1_longestAt 58 = .ok (.invokevirtual 44, 3) := by decide +kernel
theorem dX1_longestAt_61 : decode cX1_longestAt 61 = .ok (.ifCond .eq 7, 3) := by decide +kernel
theorem dX1_longestAt_64 : decode cX1_longestAt 64 = .ok (.iload 5, 2) := by decide +kernel
theorem dX1_longestAt_66 : decode cX1_longestAt 66 = .ok (.istore 4, 2) := by decide +kernel
theorem dX1_longestAt_68 : decode cX1_longestAt 68 = .ok (.iinc 5 1, 3) := by decide +kernel
theorem dX1_longestAt_71 : decode cX1_longestAt 71 = .ok (.goto (-64), 3) := by decide +kernel
theorem dX1_longestAt_74 : decode cX1_longestAt 74 = .ok (.iload 4, 2) := by decide +kernel
theorem dX1_longestAt_76 : decode cX1_longestAt 76 = .ok (.ireturn, 1) := by decide +kernel
theorem dX1_stands_0 : decode cX1_stands 0 = .ok (.aload_n 0, 1) := by decide +kernel
theorem dX1_stands_1 : decode cX1_stands 1 = .ok (.getfield 15, 3) := by decide +kernel
theorem dX1_stands_4 : decode cX1_stands 4 = .ok (.iload_n 1, 1) := by decide +kernel
theorem dX1_stands_5 : decode cX1_stands 5 = .ok (.iaload, 1) := by decide +kernel
theorem dX1_stands_6 : decode cX1_stands 6 = .ok (.iload 4, 2) := by decide +kernel
theorem dX1_stands_8 : decode cX1_stands 8 = .ok (.iload_n 3, 1) := by decide +kernel
theorem dX1_stands_9 : decode cX1_stands 9 = .ok (.isub, 1) := by decide +kernel
theorem dX1_stands_10 : decode cX1_stands 10 = .ok (.if_icmp .le 5, 3) := by decide +kernel
theorem dX1_stands_13 : decode cX1_stands 13 = .ok (.iconst 0, 1) := by decide +kernel
theorem dX1_stands_14 : decode cX1_stands 14 = .ok (.ireturn, 1) := by decide +kernel
theorem dX1_stands_15 : decode cX1_stands 15 = .ok (.iconst 0, 1) := by decide +kernel
theorem dX1_stands_16 : decode cX1_stands 16 = .ok (.istore 5, 2) := by decide +kernel
theorem dX1_stands_18 : decode cX1_stands 18 = .ok (.iload 5, 2) := by decide +kernel
theorem dX1_stands_20 : decode cX1_stands 20 = .ok (.aload_n 0, 1) := by decide +kernel
theorem dX1_stands_21 : decode cX1_stands 21 = .ok (.getfield 15, 3) := by decide +kernel
theorem dX1_stands_24 : decode cX1_stands 24 = .ok (.iload_n 1, 1) := by decide +kernel
theorem dX1_stands_25 : decode cX1_stands 25 = .ok (.iaload, 1) := by decide +kernel
theorem dX1_stands_26 : decode cX1_stands 26 = .ok (.if_icmp .ge 31, 3) := by decide +kernel
theorem dX1_stands_29 : decode cX1_stands 29 = .ok (.aload_n 2, 1) := by decide +kernel
theorem dX1_stands_30 : decode cX1_stands 30 = .ok (.iload_n 3, 1) := by decide +kernel
theorem dX1_stands_31 : decode cX1_stands 31 = .ok (.iload 5, 2) := by decide +kernel
theorem dX1_stands_33 : decode cX1_stands 33 = .ok (.iadd, 1) := by decide +kernel
theorem dX1_stands_34 : decode cX1_stands 34 = .ok (.iaload, 1) := by decide +kernel
theorem dX1_stands_35 : decode cX1_stands 35 = .ok (.aload_n 0, 1) := by decide +kernel
theorem dX1_stands_36 : decode cX1_stands 36 = .ok (.getfield 9, 3) := by decide +kernel
theorem dX1_stands_39 : decode cX1_stands 39 = .ok (.iload_n 1, 1) := by decide +kernel
theorem dX1_stands_40 : decode cX1_stands 40 = .ok (.iconst 3, 1) := by decide +kernel
theorem dX1_stands_41 : decode cX1_stands 41 = .ok (.imul, 1) := by decide +kernel
theorem dX1_stands_42 : decode cX1_stands 42 = .ok (.iload 5, 2) := by decide +kernel
theorem dX1_stands_44 : decode cX1_stands 44 = .ok (.iadd, 1) := by decide +kernel
theorem dX1_stands_45 : decode cX1_stands 45 = .ok (.iaload, 1) := by decide +kernel
theorem dX1_stands_46 : decode cX1_stands 46 = .ok (.if_icmp .eq 5, 3) := by decide +kernel
theorem dX1_stands_49 : decode cX1_stands 49 = .ok (.iconst 0, 1) := by decide +kernel
theorem dX1_stands_50 : decode cX1_stands 50 = .ok (.ireturn, 1) := by decide +kernel
theorem dX1_stands_51 : decode cX1_stands 51 = .ok (.iinc 5 1, 3) := by decide +kernel
theorem dX1_stands_54 : decode cX1_stands 54 = .ok (.goto (-36), 3) := by decide +kernel
theorem dX1_stands_57 : decode cX1_stands 57 = .ok (.iconst 1, 1) := by decide +kernel
theorem dX1_stands_58 : decode cX1_stands 58 = .ok (.ireturn, 1) := by decide +kernel
theorem dX2_init_0 : decode cX2_init 0 = .ok (.aload_n 0, 1) := by decide +kernel
theorem dX2_init_1 : decode cX2_init 1 = .ok (.invokespecial 3, 3) := by decide +kernel
theorem dX2_init_4 : decode cX2_init 4 = .ok (.aload_n 0, 1) := by decide +kernel
theorem dX2_init_5 : decode cX2_init 5 = .ok (.new 9, 3) := by decide +kernel
theorem dX2_init_8 : decode cX2_init 8 = .ok (.dup, 1) := by decide +kernel
theorem dX2_init_9 : decode cX2_init 9 = .ok (.invokespecial 11, 3) := by decide +kernel
theorem dX2_init_12 : decode cX2_init 12 = .ok (.putfield 12, 3) := by decide +kernel
theorem dX2_init_15 : decode cX2_init 15 = .ok (.aload_n 0, 1) := by decide +kernel
theorem dX2_init_16 : decode cX2_init 16 = .ok (.iconst 0, 1) := by decide +kernel
theorem dX2_init_17 : decode cX2_init 17 = .ok (.putfield 18, 3) := by decide +kernel
theorem dX2_init_20 : decode cX2_init 20 = .ok (.aload_n 0, 1) := by decide +kernel
theorem dX2_init_21 : decode cX2_init 21 = .ok (.iconst 0, 1) := by decide +kernel
theorem dX2_init_22 : decode cX2_init 22 = .ok (.putfield 22, 3) := by decide +kernel
theorem dX2_init_25 : decode cX2_init 25 = .ok (.aload_n 0, 1) := by decide +kernel
theorem dX2_init_26 : decode cX2_init 26 = .ok (.iconst 0, 1) := by decide +kernel
theorem dX2_init_27 : decode cX2_init 27 = .ok (.putfield 25, 3) := by decide +kernel
theorem dX2_init_30 : decode cX2_init 30 = .ok (.return_, 1) := by decide +kernel
theorem dX2_become_0 : decode cX2_become 0 = .ok (.aload_n 0, 1) := by decide +kernel
theorem dX2_become_1 : decode cX2_become 1 = .ok (.iload_n 1, 1) := by decide +kernel
theorem dX2_become_2 : decode cX2_become 2 = .ok (.putfield 18, 3) := by decide +kernel
theorem dX2_become_5 : decode cX2_become 5 = .ok (.aload_n 0, 1) := by decide +kernel
theorem dX2_become_6 : decode cX2_become 6 = .ok (.iload_n 2, 1) := by decide +kernel
theorem dX2_become_7 : decode cX2_become 7 = .ok (.putfield 22, 3) := by decide +kernel
theorem dX2_become_10 : decode cX2_become 10 = .ok (.aload_n 0, 1) := by decide +kernel
theorem dX2_become_11 : decode cX2_become 11 = .ok (.iload_n 3, 1) := by decide +kernel
theorem dX2_become_12 : decode cX2_become 12 = .ok (.putfield 25, 3) := by decide +kernel
theorem dX2_become_15 : decode cX2_become 15 = .ok (.aload_n 0, 1) := by decide +kernel
theorem dX2_become_16 : decode cX2_become 16 = .ok (.getfield 12, 3) := by decide +kernel
theorem dX2_become_19 : decode cX2_become 19 = .ok (.aload 4, 2) := by decide +kernel
theorem dX2_become_21 : decode cX2_become 21 = .ok (.invokevirtual 28, 3) := by decide +kernel
theorem dX2_become_24 : decode cX2_become 24 = .ok (.return_, 1) := by decide +kernel
theorem dX3_init_0 : decode cX3_init 0 = .ok (.aload_n 0, 1) := by decide +kernel
theorem dX3_init_1 : decode cX3_init 1 = .ok (.invokespecial 5, 3) := by decide +kernel
theorem dX3_init_4 : decode cX3_init 4 = .ok (.aload_n 0, 1) := by decide +kernel
theorem dX3_init_5 : decode cX3_init 5 = .ok (.iconst 0, 1) := by decide +kernel
theorem dX3_init_6 : decode cX3_init 6 = .ok (.putfield 11, 3) := by decide +kernel
theorem dX3_init_9 : decode cX3_init 9 = .ok (.aload_n 0, 1) := by decide +kernel
theorem dX3_init_10 : decode cX3_init 10 = .ok (.bipush 29, 2) := by decide +kernel
theorem dX3_init_12 : decode cX3_init 12 = .ok (.putfield 15, 3) := by decide +kernel
theorem dX3_init_15 : decode cX3_init 15 = .ok (.aload_n 0, 1) := by decide +kernel
theorem dX3_init_16 : decode cX3_init 16 = .ok (.bipush (-2), 2) := by decide +kernel
theorem dX3_init_18 : decode cX3_init 18 = .ok (.putfield 18, 3) := by decide +kernel
theorem dX3_init_21 : decode cX3_init 21 = .ok (.aload_n 0, 1) := by decide +kernel
theorem dX3_init_22 : decode cX3_init 22 = .ok (.bipush 29, 2) := by decide +kernel
theorem dX3_init_24 : decode cX3_init 24 = .ok (.putfield 21, 3) := by decide +kernel
theorem dX3_init_27 : decode cX3_init 27 = .ok (.aload_n 0, 1) := by decide +kernel
theorem dX3_init_28 : decode cX3_init 28 = .ok (.bipush 29, 2) := by decide +kernel
theorem dX3_init_30 : decode cX3_init 30 = .ok (.putfield 24, 3) := by decide +kernel
theorem dX3_init_33 : decode cX3_init 33 = .ok (.return_, 1) := by decide +kernel
theorem dX4_init_0 : decode cX4_init 0 = .ok (.aload_n 0, 1) := by decide +kernel
theorem dX4_init_1 : decode cX4_init 1 = .ok (.invokespecial 3, 3) := by decide +kernel
theorem dX4_init_4 : decode cX4_init 4 = .ok (.aload_n 0, 1) := by decide +kernel
theorem dX4_init_5 : decode cX4_init 5 = .ok (.bipush 9, 2) := by decide +kernel
theorem dX4_init_7 : decode cX4_init 7 = .ok (.anewarray 9, 3) := by decide +kernel
theorem dX4_init_10 : decode cX4_init 10 = .ok (.putfield 11, 3) := by decide +kernel
theorem dX4_init_13 : decode cX4_init 13 = .ok (.aload_n 0, 1) := by decide +kernel
theorem dX4_init_14 : decode cX4_init 14 = .ok (.new 17, 3) := by decide +kernel
theorem dX4_init_17 : decode cX4_init 17 = .ok (.dup, 1) := by decide +kernel
theorem dX4_init_18 : decode cX4_init 18 = .ok (.invokespecial 19, 3) := by decide +kernel
theorem dX4_init_21 : decode cX4_init 21 = .ok (.putfield 20, 3) := by decide +kernel
theorem dX4_init_24 : decode cX4_init 24 = .ok (.aload_n 0, 1) := by decide +kernel
theorem dX4_init_25 : decode cX4_init 25 = .ok (.new 24, 3) := by decide +kernel
theorem dX4_init_28 : decode cX4_init 28 = .ok (.dup, 1) := by decide +kernel
theorem dX4_init_29 : decode cX4_init 29 = .ok (.invokespecial 26, 3) := by decide +kernel
theorem dX4_init_32 : decode cX4_init 32 = .ok (.putfield 27, 3) := by decide +kernel
theorem dX4_init_35 : decode cX4_init 35 = .ok (.aload_n 0, 1) := by decide +kernel
theorem dX4_init_36 : decode cX4_init 36 = .ok (.iconst 0, 1) := by decide +kernel
theorem dX4_init_37 : decode cX4_init 37 = .ok (.putfield 31, 3) := by decide +kernel
theorem dX4_init_40 : decode cX4_init 40 = .ok (.aload_n 0, 1) := by decide +kernel
theorem dX4_init_41 : decode cX4_init 41 = .ok (.aload_n 1, 1) := by decide +kernel
theorem dX4_init_42 : decode cX4_init 42 = .ok (.putfield 35, 3) := by decide +kernel
theorem dX4_init_45 : decode cX4_init 45 = .ok (.iconst 0, 1) := by decide +kernel
theorem dX4_init_46 : decode cX4_init 46 = .ok (.istore_n 2, 1) := by decide +kernel
theorem dX4_init_47 : decode cX4_init 47 = .ok (.iload_n 2, 1) := by decide +kernel
theorem dX4_init_48 : decode cX4_init 48 = .ok (.bipush 8, 2) := by decide +kernel
theorem dX4_init_50 : decode cX4_init 50 = .ok (.if_icmp .gt 22, 3) := by decide +kernel
theorem dX4_init_53 : decode cX4_init 53 = .ok (.aload_n 0, 1) := by decide +kernel
theorem dX4_init_54 : decode cX4_init 54 = .ok (.getfield 11, 3) := by decide +kernel
theorem dX4_init_57 : decode cX4_init 57 = .ok (.iload_n 2, 1) := by decide +kernel
theorem dX4_init_58 : decode cX4_init 58 = .ok (.new 9, 3) := by decide +kernel
theorem dX4_init_61 : decode cX4_init 61 = .ok (.dup, 1) := by decide +kernel
theorem dX4_init_62 : decode cX4_init 62 = .ok (.invokespecial 39, 3) := by decide +kernel
theorem dX4_init_65 : decode cX4_init 65 = .ok (.aastore, 1) := by decide +kernel
theorem dX4_init_66 : decode cX4_init 66 = .ok (.iinc 2 1, 3) := by decide +kernel
theorem dX4_init_69 : decode cX4_init 69 = .ok (.goto (-22), 3) := by decide +kernel
theorem dX4_init_72 : decode cX4_init 72 = .ok (.return_, 1) := by decide +kernel
theorem dX4_readLaw_0 : decode cX4_readLaw 0 = .ok (.aload_n 0, 1) := by decide +kernel
theorem dX4_readLaw_1 : decode cX4_readLaw 1 = .ok (.getfield 20, 3) := by decide +kernel
theorem dX4_readLaw_4 : decode cX4_readLaw 4 = .ok (.aload_n 1, 1) := by decide +kernel
theorem dX4_readLaw_5 : decode cX4_readLaw 5 = .ok (.iload_n 2, 1) := by decide +kernel
theorem dX4_readLaw_6 : decode cX4_readLaw 6 = .ok (.aload_n 0, 1) := by decide +kernel
theorem dX4_readLaw_7 : decode cX4_readLaw 7 = .ok (.getfield 11, 3) := by decide +kernel
theorem dX4_readLaw_10 : decode cX4_readLaw 10 = .ok (.aload_n 0, 1) := by decide +kernel
theorem dX4_readLaw_11 : decode cX4_readLaw 11 = .ok (.getfield 31, 3) := by decide +kernel
theorem dX4_readLaw_14 : decode cX4_readLaw 14 = .ok (.aaload, 1) := by decide +kernel
theorem dX4_readLaw_15 : decode cX4_readLaw 15 = .ok (.invokevirtual 40, 3) := by decide +kernel
theorem dX4_readLaw_18 : decode cX4_readLaw 18 = .ok (.ireturn, 1) := by decide +kernel
theorem dX4_addRead_0 : decode cX4_addRead 0 = .ok (.aload_n 0, 1) := by decide +kernel
theorem dX4_addRead_1 : decode cX4_addRead 1 = .ok (.getfield 31, 3) := by decide +kernel
theorem dX4_addRead_4 : decode cX4_addRead 4 = .ok (.bipush 8, 2) := by decide +kernel
theorem dX4_addRead_6 : decode cX4_addRead 6 = .ok (.if_icmp .lt 6, 3) := by decide +kernel
theorem dX4_addRead_9 : decode cX4_addRead 9 = .ok (.bipush (-4), 2) := by decide +kernel
theorem dX4_addRead_11 : decode cX4_addRead 11 = .ok (.ireturn, 1) := by decide +kernel
theorem dX4_addRead_12 : decode cX4_addRead 12 = .ok (.aload_n 0, 1) := by decide +kernel
theorem dX4_addRead_13 : decode cX4_addRead 13 = .ok (.getfield 11, 3) := by decide +kernel
theorem dX4_addRead_16 : decode cX4_addRead 16 = .ok (.aload_n 0, 1) := by decide +kernel
theorem dX4_addRead_17 : decode cX4_addRead 17 = .ok (.getfield 31, 3) := by decide +kernel
theorem dX4_addRead_20 : decode cX4_addRead 20 = .ok (.aaload, 1) := by decide +kernel
theorem dX4_addRead_21 : decode cX4_addRead 21 = .ok (.iload_n 1, 1) := by decide +kernel
theorem dX4_addRead_22 : decode cX4_addRead 22 = .ok (.putfield 44, 3) := by decide +kernel
theorem dX4_addRead_25 : decode cX4_addRead 25 = .ok (.aload_n 0, 1) := by decide +kernel
theorem dX4_addRead_26 : decode cX4_addRead 26 = .ok (.dup, 1) := by decide +kernel
theorem dX4_addRead_27 : decode cX4_addRead 27 = .ok (.getfield 31, 3) := by decide +kernel
theorem dX4_addRead_30 : decode cX4_addRead 30 = .ok (.iconst 1, 1) := by decide +kernel
theorem dX4_addRead_31 : decode cX4_addRead 31 = .ok (.iadd, 1) := by decide +kernel
theorem dX4_addRead_32 : decode cX4_addRead 32 = .ok (.putfield 31, 3) := by decide +kernel
theorem dX4_addRead_35 : decode cX4_addRead 35 = .ok (.aload_n 0, 1) := by decide +kernel
theorem dX4_addRead_36 : decode cX4_addRead 36 = .ok (.getfield 31, 3) := by decide +kernel
theorem dX4_addRead_39 : decode cX4_addRead 39 = .ok (.iconst 1, 1) := by decide +kernel
theorem dX4_addRead_40 : decode cX4_addRead 40 = .ok (.isub, 1) := by decide +kernel
theorem dX4_addRead_41 : decode cX4_addRead 41 = .ok (.ireturn, 1) := by decide +kernel
theorem dX4_collectAt_0 : decode cX4_collectAt 0 = .ok (.aload_n 2, 1) := by decide +kernel
theorem dX4_collectAt_1 : decode cX4_collectAt 1 = .ok (.invokevirtual 47, 3) := by decide +kernel
theorem dX4_collectAt_4 : decode cX4_collectAt 4 = .ok (.iconst 0, 1) := by decide +kernel
theorem dX4_collectAt_5 : decode cX4_collectAt 5 = .ok (.istore_n 3, 1) := by decide +kernel
theorem dX4_collectAt_6 : decode cX4_collectAt 6 = .ok (.iload_n 3, 1) := by decide +kernel
theorem dX4_collectAt_7 : decode cX4_collectAt 7 = .ok (.aload_n 0, 1) := by decide +kernel
theorem dX4_collectAt_8 : decode cX4_collectAt 8 = .ok (.getfield 31, 3) := by decide +kernel
theorem dX4_collectAt_11 : decode cX4_collectAt 11 = .ok (.if_icmp .ge 30, 3) := by decide +kernel
theorem dX4_collectAt_14 : decode cX4_collectAt 14 = .ok (.iload_n 1, 1) := by decide +kernel
theorem dX4_collectAt_15 : decode cX4_collectAt 15 = .ok (.aload_n 0, 1) := by decide +kernel
theorem dX4_collectAt_16 : decode cX4_collectAt 16 = .ok (.getfield 11, 3) := by decide +kernel
theorem dX4_collectAt_19 : decode cX4_collectAt 19 = .ok (.iload_n 3, 1) := by decide +kernel
theorem dX4_collectAt_20 : decode cX4_collectAt 20 = .ok (.aaload, 1) := by decide +kernel
theorem dX4_collectAt_21 : decode cX4_collectAt 21 = .ok (.getfield 44, 3) := by decide +kernel
theorem dX4_collectAt_24 : decode cX4_collectAt 24 = .ok (.invokestatic 50, 3) := by decide +kernel
theorem dX4_collectAt_27 : decode cX4_collectAt 27 = .ok (.ifCond .eq 8, 3) := by decide +kernel
theorem dX4_collectAt_30 : decode cX4_collectAt 30 = .ok (.aload_n 2, 1) := by decide +kernel
theorem dX4_collectAt_31 : decode cX4_collectAt 31 = .ok (.iload_n 3, 1) := by decide +kernel
theorem dX4_collectAt_32 : decode cX4_collectAt 32 = .ok (.invokevirtual 54, 3) := by decide +kernel
theorem dX4_collectAt_35 : decode cX4_collectAt 35 = .ok (.iinc 3 1, 3) := by decide +kernel
theorem dX4_collectAt_38 : decode cX4_collectAt 38 = .ok (.goto (-32), 3) := by decide +kernel
theorem dX4_collectAt_41 : decode cX4_collectAt 41 = .ok (.return_, 1) := by decide +kernel
theorem dX4_deriveAt_0 : decode cX4_deriveAt 0 = .ok (.bipush (-9), 2) := by decide +kernel
theorem dX4_deriveAt_2 : decode cX4_deriveAt 2 = .ok (.istore 4, 2) := by decide +kernel
theorem dX4_deriveAt_4 : decode cX4_deriveAt 4 = .ok (.iconst 0, 1) := by decide +kernel
theorem dX4_deriveAt_5 : decode cX4_deriveAt 5 = .ok (.istore 5, 2) := by decide +kernel
theorem dX4_deriveAt_7 : decode cX4_deriveAt 7 = .ok (.iconst 0, 1) := by decide +kernel
theorem dX4_deriveAt_8 : decode cX4_deriveAt 8 = .ok (.istore 6, 2) := by decide +kernel
theorem dX4_deriveAt_10 : decode cX4_deriveAt 10 = .ok (.iload 6, 2) := by decide +kernel
theorem dX4_deriveAt_12 : decode cX4_deriveAt 12 = .ok (.aload_n 0, 1) := by decide +kernel
theorem dX4_deriveAt_13 : decode cX4_deriveAt 13 = .ok (.getfield 31, 3) := by decide +kernel
theorem dX4_deriveAt_16 : decode cX4_deriveAt 16 = .ok (.if_icmp .ge 57, 3) := by decide +kernel
theorem dX4_deriveAt_19 : decode cX4_deriveAt 19 = .ok (.iload 5, 2) := by decide +kernel
theorem dX4_deriveAt_21 : decode cX4_deriveAt 21 = .ok (.iload_n 3, 1) := by decide +kernel
theorem dX4_deriveAt_22 : decode cX4_deriveAt 22 = .ok (.if_icmp .ge 51, 3) := by decide +kernel
theorem dX4_deriveAt_25 : decode cX4_deriveAt 25 = .ok (.iload_n 1, 1) := by decide +kernel
theorem dX4_deriveAt_26 : decode cX4_deriveAt 26 = .ok (.aload_n 0, 1) := by decide +kernel
theorem dX4_deriveAt_27 : decode cX4_deriveAt 27 = .ok (.getfield 11, 3) := by decide +kernel
theorem dX4_deriveAt_30 : decode cX4_deriveAt 30 = .ok (.iload 6, 2) := by decide +kernel
theorem dX4_deriveAt_32 : decode cX4_deriveAt 32 = .ok (.aaload, 1) := by decide +kernel
theorem dX4_deriveAt_33 : decode cX4_deriveAt 33 = .ok (.getfield 44, 3) := by decide +kernel
theorem dX4_deriveAt_36 : decode cX4_deriveAt 36 = .ok (.invokestatic 50, 3) := by decide +kernel
theorem dX4_deriveAt_39 : decode cX4_deriveAt 39 = .ok (.ifCond .ne 6, 3) := by decide +kernel
theorem dX4_deriveAt_42 : decode cX4_deriveAt 42 = .ok (.goto 25, 3) := by decide +kernel
theorem dX4_deriveAt_45 : decode cX4_deriveAt 45 = .ok (.iinc 5 1, 3) := by decide +kernel
theorem dX4_deriveAt_48 : decode cX4_deriveAt 48 = .ok (.aload_n 0, 1) := by decide +kernel
theorem dX4_deriveAt_49 : decode cX4_deriveAt 49 = .ok (.aload_n 0, 1) := by decide +kernel
theorem dX4_deriveAt_50 : decode cX4_deriveAt 50 = .ok (.getfield 11, 3) := by decide +kernel
theorem dX4_deriveAt_53 : decode cX4_deriveAt 53 = .ok (.iload 6, 2) := by decide +kernel
theorem dX4_deriveAt_55 : decode cX4_deriveAt 55 = .ok (.aaload, 1) := by decide +kernel
theorem dX4_deriveAt_56 : decode cX4_deriveAt 56 = .ok (.aload_n 2, 1) := by decide +kernel
theorem dX4_deriveAt_57 : decode cX4_deriveAt 57 = .ok (.invokevirtual 58, 3) := by decide +kernel
theorem dX4_deriveAt_60 : decode cX4_deriveAt 60 = .ok (.ifCond .eq 7, 3) := by decide +kernel
theorem dX4_deriveAt_63 : decode cX4_deriveAt 63 = .ok (.iload 6, 2) := by decide +kernel
theorem dX4_deriveAt_65 : decode cX4_deriveAt 65 = .ok (.istore 4, 2) := by decide +kernel
theorem dX4_deriveAt_67 : decode cX4_deriveAt 67 = .ok (.iinc 6 1, 3) := by decide +kernel
theorem dX4_deriveAt_70 : decode cX4_deriveAt 70 = .ok (.goto (-60), 3) := by decide +kernel
theorem dX4_deriveAt_73 : decode cX4_deriveAt 73 = .ok (.iload 4, 2) := by decide +kernel
theorem dX4_deriveAt_75 : decode cX4_deriveAt 75 = .ok (.ireturn, 1) := by decide +kernel
theorem dX4_deriveBy_0 : decode cX4_deriveBy 0 = .ok (.iconst 0, 1) := by decide +kernel
theorem dX4_deriveBy_1 : decode cX4_deriveBy 1 = .ok (.istore_n 3, 1) := by decide +kernel
theorem dX4_deriveBy_2 : decode cX4_deriveBy 2 = .ok (.iload_n 3, 1) := by decide +kernel
theorem dX4_deriveBy_3 : decode cX4_deriveBy 3 = .ok (.aload_n 1, 1) := by decide +kernel
theorem dX4_deriveBy_4 : decode cX4_deriveBy 4 = .ok (.getfield 62, 3) := by decide +kernel
theorem dX4_deriveBy_7 : decode cX4_deriveBy 7 = .ok (.if_icmp .ge 41, 3) := by decide +kernel
theorem dX4_deriveBy_10 : decode cX4_deriveBy 10 = .ok (.aload_n 1, 1) := by decide +kernel
theorem dX4_deriveBy_11 : decode cX4_deriveBy 11 = .ok (.iload_n 3, 1) := by decide +kernel
theorem dX4_deriveBy_12 : decode cX4_deriveBy 12 = .ok (.invokevirtual 65, 3) := by decide +kernel
theorem dX4_deriveBy_15 : decode cX4_deriveBy 15 = .ok (.istore 4, 2) := by decide +kernel
theorem dX4_deriveBy_17 : decode cX4_deriveBy 17 = .ok (.iload 4, 2) := by decide +kernel
theorem dX4_deriveBy_19 : decode cX4_deriveBy 19 = .ok (.aload_n 0, 1) := by decide +kernel
theorem dX4_deriveBy_20 : decode cX4_deriveBy 20 = .ok (.getfield 31, 3) := by decide +kernel
theorem dX4_deriveBy_23 : decode cX4_deriveBy 23 = .ok (.invokestatic 69, 3) := by decide +kernel
theorem dX4_deriveBy_26 : decode cX4_deriveBy 26 = .ok (.ifCond .eq 16, 3) := by decide +kernel
theorem dX4_deriveBy_29 : decode cX4_deriveBy 29 = .ok (.aload_n 0, 1) := by decide +kernel
theorem dX4_deriveBy_30 : decode cX4_deriveBy 30 = .ok (.aload_n 0, 1) := by decide +kernel
theorem dX4_deriveBy_31 : decode cX4_deriveBy 31 = .ok (.getfield 11, 3) := by decide +kernel
theorem dX4_deriveBy_34 : decode cX4_deriveBy 34 = .ok (.iload 4, 2) := by decide +kernel
theorem dX4_deriveBy_36 : decode cX4_deriveBy 36 = .ok (.aaload, 1) := by decide +kernel
theorem dX4_deriveBy_37 : decode cX4_deriveBy 37 = .ok (.aload_n 2, 1) := by decide +kernel
theorem dX4_deriveBy_38 : decode cX4_deriveBy 38 = .ok (.invokevirtual 58, 3) := by decide +kernel
theorem dX4_deriveBy_41 : decode cX4_deriveBy 41 = .ok (.pop, 1) := by decide +kernel
theorem dX4_deriveBy_42 : decode cX4_deriveBy 42 = .ok (.iinc 3 1, 3) := by decide +kernel
theorem dX4_deriveBy_45 : decode cX4_deriveBy 45 = .ok (.goto (-43), 3) := by decide +kernel
theorem dX4_deriveBy_48 : decode cX4_deriveBy 48 = .ok (.return_, 1) := by decide +kernel
theorem dX4_doLaw_0 : decode cX4_doLaw 0 = .ok (.aload_n 0, 1) := by decide +kernel
theorem dX4_doLaw_1 : decode cX4_doLaw 1 = .ok (.getfield 27, 3) := by decide +kernel
theorem dX4_doLaw_4 : decode cX4_doLaw 4 = .ok (.aload_n 2, 1) := by decide +kernel
theorem dX4_doLaw_5 : decode cX4_doLaw 5 = .ok (.invokevirtual 72, 3) := by decide +kernel
theorem dX4_doLaw_8 : decode cX4_doLaw 8 = .ok (.aload_n 2, 1) := by decide +kernel
theorem dX4_doLaw_9 : decode cX4_doLaw 9 = .ok (.invokevirtual 47, 3) := by decide +kernel
theorem dX4_doLaw_12 : decode cX4_doLaw 12 = .ok (.iconst 0, 1) := by decide +kernel
theorem dX4_doLaw_13 : decode cX4_doLaw 13 = .ok (.istore_n 3, 1) := by decide +kernel
theorem dX4_doLaw_14 : decode cX4_doLaw 14 = .ok (.iconst 0, 1) := by decide +kernel
theorem dX4_doLaw_15 : decode cX4_doLaw 15 = .ok (.istore 4, 2) := by decide +kernel
theorem dX4_doLaw_17 : decode cX4_doLaw 17 = .ok (.iload 4, 2) := by decide +kernel
theorem dX4_doLaw_19 : decode cX4_doLaw 19 = .ok (.aload_n 0, 1) := by decide +kernel
theorem dX4_doLaw_20 : decode cX4_doLaw 20 = .ok (.getfield 27, 3) := by decide +kernel
theorem dX4_doLaw_23 : decode cX4_doLaw 23 = .ok (.getfield 62, 3) := by decide +kernel
theorem dX4_doLaw_26 : decode cX4_doLaw 26 = .ok (.if_icmp .ge 139, 3) := by decide +kernel
theorem dX4_doLaw_29 : decode cX4_doLaw 29 = .ok (.aload_n 0, 1) := by decide +kernel
theorem dX4_doLaw_30 : decode cX4_doLaw 30 = .ok (.getfield 27, 3) := by decide +kernel
theorem dX4_doLaw_33 : decode cX4_doLaw 33 = .ok (.iload 4, 2) := by decide +kernel
theorem dX4_doLaw_35 : decode cX4_doLaw 35 = .ok (.invokevirtual 65, 3) := by decide +kernel
theorem dX4_doLaw_38 : decode cX4_doLaw 38 = .ok (.istore 5, 2) := by decide +kernel
theorem dX4_doLaw_40 : decode cX4_doLaw 40 = .ok (.aload_n 0, 1) := by decide +kernel
theorem dX4_doLaw_41 : decode cX4_doLaw 41 = .ok (.getfield 35, 3) := by decide +kernel
theorem dX4_doLaw_44 : decode cX4_doLaw 44 = .ok (.iload 5, 2) := by decide +kernel
theorem dX4_doLaw_46 : decode cX4_doLaw 46 = .ok (.aload_n 1, 1) := by decide +kernel
theorem dX4_doLaw_47 : decode cX4_doLaw 47 = .ok (.getfield 76, 3) := by decide +kernel
theorem dX4_doLaw_50 : decode cX4_doLaw 50 = .ok (.invokevirtual 79, 3) := by decide +kernel
theorem dX4_doLaw_53 : decode cX4_doLaw 53 = .ok (.ifCond .eq 57, 3) := by decide +kernel
theorem dX4_doLaw_56 : decode cX4_doLaw 56 = .ok (.aload_n 0, 1) := by decide +kernel
theorem dX4_doLaw_57 : decode cX4_doLaw 57 = .ok (.getfield 35, 3) := by decide +kernel
theorem dX4_doLaw_60 : decode cX4_doLaw 60 = .ok (.aload_n 0, 1) := by decide +kernel
theorem dX4_doLaw_61 : decode cX4_doLaw 61 = .ok (.getfield 27, 3) := by decide +kernel
theorem dX4_doLaw_64 : decode cX4_doLaw 64 = .ok (.iload 4, 2) := by decide +kernel
theorem dX4_doLaw_66 : decode cX4_doLaw 66 = .ok (.iconst 1, 1) := by decide +kernel
theorem dX4_doLaw_67 : decode cX4_doLaw 67 = .ok (.isub, 1) := by decide +kernel
theorem dX4_doLaw_68 : decode cX4_doLaw 68 = .ok (.invokevirtual 65, 3) := by decide +kernel
theorem dX4_doLaw_71 : decode cX4_doLaw 71 = .ok (.aload_n 1, 1) := by decide +kernel
theorem dX4_doLaw_72 : decode cX4_doLaw 72 = .ok (.getfield 84, 3) := by decide +kernel
theorem dX4_doLaw_75 : decode cX4_doLaw 75 = .ok (.invokevirtual 79, 3) := by decide +kernel
theorem dX4_doLaw_78 : decode cX4_doLaw 78 = .ok (.ifCond .eq 32, 3) := by decide +kernel
theorem dX4_doLaw_81 : decode cX4_doLaw 81 = .ok (.aload_n 0, 1) := by decide +kernel
theorem dX4_doLaw_82 : decode cX4_doLaw 82 = .ok (.getfield 35, 3) := by decide +kernel
theorem dX4_doLaw_85 : decode cX4_doLaw 85 = .ok (.aload_n 0, 1) := by decide +kernel
theorem dX4_doLaw_86 : decode cX4_doLaw 86 = .ok (.getfield 27, 3) := by decide +kernel
theorem dX4_doLaw_89 : decode cX4_doLaw 89 = .ok (.iload 4, 2) := by decide +kernel
theorem dX4_doLaw_91 : decode cX4_doLaw 91 = .ok (.iconst 1, 1) := by decide +kernel
theorem dX4_doLaw_92 : decode cX4_doLaw 92 = .ok (.iadd, 1) := by decide +kernel
theorem dX4_doLaw_93 : decode cX4_doLaw 93 = .ok (.invokevirtual 65, 3) := by decide +kernel
theorem dX4_doLaw_96 : decode cX4_doLaw 96 = .ok (.aload_n 1, 1) := by decide +kernel
theorem dX4_doLaw_97 : decode cX4_doLaw 97 = .ok (.getfield 87, 3) := by decide +kernel
theorem dX4_doLaw_100 : decode cX4_doLaw 100 = .ok (.invokevirtual 79, 3) := by decide +kernel
theorem dX4_doLaw_103 : decode cX4_doLaw 103 = .ok (.ifCond .eq 7, 3) := by decide +kernel
theorem dX4_doLaw_106 : decode cX4_doLaw 106 = .ok (.iconst 1, 1) := by decide +kernel
theorem dX4_doLaw_107 : decode cX4_doLaw 107 = .ok (.goto 4, 3) := by decide +kernel
theorem dX4_doLaw_110 : decode cX4_doLaw 110 = .ok (.iconst 0, 1) := by decide +kernel
theorem dX4_doLaw_111 : decode cX4_doLaw 111 = .ok (.istore 6, 2) := by decide +kernel
theorem dX4_doLaw_113 : decode cX4_doLaw 113 = .ok (.iload 6, 2) := by decide +kernel
theorem dX4_doLaw_115 : decode cX4_doLaw 115 = .ok (.ifCond .eq 10, 3) := by decide +kernel
theorem dX4_doLaw_118 : decode cX4_doLaw 118 = .ok (.aload_n 1, 1) := by decide +kernel
theorem dX4_doLaw_119 : decode cX4_doLaw 119 = .ok (.getfield 90, 3) := by decide +kernel
theorem dX4_doLaw_122 : decode cX4_doLaw 122 = .ok (.goto 5, 3) := by decide +kernel
theorem dX4_doLaw_125 : decode cX4_doLaw 125 = .ok (.iload 5, 2) := by decide +kernel
theorem dX4_doLaw_127 : decode cX4_doLaw 127 = .ok (.istore 7, 2) := by decide +kernel
theorem dX4_doLaw_129 : decode cX4_doLaw 129 = .ok (.iload 7, 2) := by decide +kernel
theorem dX4_doLaw_131 : decode cX4_doLaw 131 = .ok (.bipush (-2), 2) := by decide +kernel
theorem dX4_doLaw_133 : decode cX4_doLaw 133 = .ok (.if_icmp .eq 9, 3) := by decide +kernel
theorem dX4_doLaw_136 : decode cX4_doLaw 136 = .ok (.aload_n 2, 1) := by decide +kernel
theorem dX4_doLaw_137 : decode cX4_doLaw 137 = .ok (.iload 7, 2) := by decide +kernel
theorem dX4_doLaw_139 : decode cX4_doLaw 139 = .ok (.invokevirtual 54, 3) := by decide +kernel
theorem dX4_doLaw_142 : decode cX4_doLaw 142 = .ok (.iload_n 3, 1) := by decide +kernel
theorem dX4_doLaw_143 : decode cX4_doLaw 143 = .ok (.ifCond .ne 10, 3) := by decide +kernel
theorem dX4_doLaw_146 : decode cX4_doLaw 146 = .ok (.iload 7, 2) := by decide +kernel
theorem dX4_doLaw_148 : decode cX4_doLaw 148 = .ok (.iload 5, 2) := by decide +kernel
theorem dX4_doLaw_150 : decode cX4_doLaw 150 = .ok (.if_icmp .eq 7, 3) := by decide +kernel
theorem dX4_doLaw_153 : decode cX4_doLaw 153 = .ok (.iconst 1, 1) := by decide +kernel
theorem dX4_doLaw_154 : decode cX4_doLaw 154 = .ok (.goto 4, 3) := by decide +kernel
theorem dX4_doLaw_157 : decode cX4_doLaw 157 = .ok (.iconst 0, 1) := by decide +kernel
theorem dX4_doLaw_158 : decode cX4_doLaw 158 = .ok (.istore_n 3, 1) := by decide +kernel
theorem dX4_doLaw_159 : decode cX4_doLaw 159 = .ok (.iinc 4 1, 3) := by decide +kernel
theorem dX4_doLaw_162 : decode cX4_doLaw 162 = .ok (.goto (-145), 3) := by decide +kernel
theorem dX4_doLaw_165 : decode cX4_doLaw 165 = .ok (.iload_n 3, 1) := by decide +kernel
theorem dX4_doLaw_166 : decode cX4_doLaw 166 = .ok (.ireturn, 1) := by decide +kernel
theorem dX5_init_0 : decode cX5_init 0 = .ok (.aload_n 0, 1) := by decide +kernel
theorem dX5_init_1 : decode cX5_init 1 = .ok (.invokespecial 3, 3) := by decide +kernel
theorem dX5_init_4 : decode cX5_init 4 = .ok (.aload_n 0, 1) := by decide +kernel
theorem dX5_init_5 : decode cX5_init 5 = .ok (.bipush 60, 2) := by decide +kernel
theorem dX5_init_7 : decode cX5_init 7 = .ok (.newarray .int, 2) := by decide +kernel
theorem dX5_init_9 : decode cX5_init 9 = .ok (.putfield 9, 3) := by decide +kernel
theorem dX5_init_12 : decode cX5_init 12 = .ok (.aload_n 0, 1) := by decide +kernel
theorem dX5_init_13 : decode cX5_init 13 = .ok (.iconst 0, 1) := by decide +kernel
theorem dX5_init_14 : decode cX5_init 14 = .ok (.putfield 15, 3) := by decide +kernel
theorem dX5_init_17 : decode cX5_init 17 = .ok (.aload_n 0, 1) := by decide +kernel
theorem dX5_init_18 : decode cX5_init 18 = .ok (.iconst 0, 1) := by decide +kernel
theorem dX5_init_19 : decode cX5_init 19 = .ok (.putfield 19, 3) := by decide +kernel
theorem dX5_init_22 : decode cX5_init 22 = .ok (.return_, 1) := by decide +kernel
theorem dX5_firstFault_0 : decode cX5_firstFault 0 = .ok (.aload_n 1, 1) := by decide +kernel
theorem dX5_firstFault_1 : decode cX5_firstFault 1 = .ok (.iconst 0, 1) := by decide +kernel
theorem dX5_firstFault_2 : decode cX5_firstFault 2 = .ok (.aload_n 0, 1) := by decide +kernel
theorem dX5_firstFault_3 : decode cX5_firstFault 3 = .ok (.getfield 9, 3) := by decide +kernel
theorem dX5_firstFault_6 : decode cX5_firstFault 6 = .ok (.iconst 0, 1) := by decide +kernel
theorem dX5_firstFault_7 : decode cX5_firstFault 7 = .ok (.iload_n 2, 1) := by decide +kernel
theorem dX5_firstFault_8 : decode cX5_firstFault 8 = .ok (.invokestatic 22, 3) := by decide +kernel
theorem dX5_firstFault_11 : decode cX5_firstFault 11 = .ok (.aload_n 0, 1) := by decide +kernel
theorem dX5_firstFault_12 : decode cX5_firstFault 12 = .ok (.iload_n 2, 1) := by decide +kernel
theorem dX5_firstFault_13 : decode cX5_firstFault 13 = .ok (.putfield 15, 3) := by decide +kernel
theorem dX5_firstFault_16 : decode cX5_firstFault 16 = .ok (.aload_n 0, 1) := by decide +kernel
theorem dX5_firstFault_17 : decode cX5_firstFault 17 = .ok (.iconst 0, 1) := by decide +kernel
theorem dX5_firstFault_18 : decode cX5_firstFault 18 = .ok (.putfield 19, 3) := by decide +kernel
theorem dX5_firstFault_21 : decode cX5_firstFault 21 = .ok (.aload_n 3, 1) := by decide +kernel
theorem dX5_firstFault_22 : decode cX5_firstFault 22 = .ok (.bipush 29, 2) := by decide +kernel
theorem dX5_firstFault_24 : decode cX5_firstFault 24 = .ok (.putfield 30, 3) := by decide +kernel
theorem dX5_firstFault_27 : decode cX5_firstFault 27 = .ok (.aload_n 3, 1) := by decide +kernel
theorem dX5_firstFault_28 : decode cX5_firstFault 28 = .ok (.bipush 29, 2) := by decide +kernel
theorem dX5_firstFault_30 : decode cX5_firstFault 30 = .ok (.putfield 33, 3) := by decide +kernel
theorem dX5_firstFault_33 : decode cX5_firstFault 33 = .ok (.aload_n 0, 1) := by decide +kernel
theorem dX5_firstFault_34 : decode cX5_firstFault 34 = .ok (.aload_n 3, 1) := by decide +kernel
theorem dX5_firstFault_35 : decode cX5_firstFault 35 = .ok (.invokevirtual 36, 3) := by decide +kernel
theorem dX5_firstFault_38 : decode cX5_firstFault 38 = .ok (.ifCond .eq 39, 3) := by decide +kernel
theorem dX5_firstFault_41 : decode cX5_firstFault 41 = .ok (.aload_n 0, 1) := by decide +kernel
theorem dX5_firstFault_42 : decode cX5_firstFault 42 = .ok (.bipush 62, 2) := by decide +kernel
theorem dX5_firstFault_44 : decode cX5_firstFault 44 = .ok (.invokevirtual 40, 3) := by decide +kernel
theorem dX5_firstFault_47 : decode cX5_firstFault 47 = .ok (.ifCond .eq 30, 3) := by decide +kernel
theorem dX5_firstFault_50 : decode cX5_firstFault 50 = .ok (.aload_n 0, 1) := by decide +kernel
theorem dX5_firstFault_51 : decode cX5_firstFault 51 = .ok (.aload_n 3, 1) := by decide +kernel
theorem dX5_firstFault_52 : decode cX5_firstFault 52 = .ok (.invokevirtual 44, 3) := by decide +kernel
theorem dX5_firstFault_55 : decode cX5_firstFault 55 = .ok (.ifCond .eq 22, 3) := by decide +kernel
theorem dX5_firstFault_58 : decode cX5_firstFault 58 = .ok (.aload_n 0, 1) := by decide +kernel
theorem dX5_firstFault_59 : decode cX5_firstFault 59 = .ok (.invokevirtual 47, 3) := by decide +kernel
theorem dX5_firstFault_62 : decode cX5_firstFault 62 = .ok (.ifCond .ne 11, 3) := by decide +kernel
theorem dX5_firstFault_65 : decode cX5_firstFault 65 = .ok (.aload_n 0, 1) := by decide +kernel
theorem dX5_firstFault_66 : decode cX5_firstFault 66 = .ok (.aload_n 3, 1) := by decide +kernel
theorem dX5_firstFault_67 : decode cX5_firstFault 67 = .ok (.invokevirtual 51, 3) := by decide +kernel
theorem dX5_firstFault_70 : decode cX5_firstFault 70 = .ok (.ifCond .eq 7, 3) := by decide +kernel
theorem dX5_firstFault_73 : decode cX5_firstFault 73 = .ok (.iconst 1, 1) := by decide +kernel
theorem dX5_firstFault_74 : decode cX5_firstFault 74 = .ok (.goto 4, 3) := by decide +kernel
theorem dX5_firstFault_77 : decode cX5_firstFault 77 = .ok (.iconst 0, 1) := by decide +kernel
theorem dX5_firstFault_78 : decode cX5_firstFault 78 = .ok (.istore 4, 2) := by decide +kernel
theorem dX5_firstFault_80 : decode cX5_firstFault 80 = .ok (.iload 4, 2) := by decide +kernel
theorem dX5_firstFault_82 : decode cX5_firstFault 82 = .ok (.ifCond .eq 8, 3) := by decide +kernel
theorem dX5_firstFault_85 : decode cX5_firstFault 85 = .ok (.bipush (-9), 2) := by decide +kernel
theorem dX5_firstFault_87 : decode cX5_firstFault 87 = .ok (.goto 7, 3) := by decide +kernel
theorem dX5_firstFault_90 : decode cX5_firstFault 90 = .ok (.aload_n 0, 1) := by decide +kernel
theorem dX5_firstFault_91 : decode cX5_firstFault 91 = .ok (.getfield 19, 3) := by decide +kernel
theorem dX5_firstFault_94 : decode cX5_firstFault 94 = .ok (.ireturn, 1) := by decide +kernel
theorem dX5_isAtEnd_0 : decode cX5_isAtEnd 0 = .ok (.aload_n 0, 1) := by decide +kernel
theorem dX5_isAtEnd_1 : decode cX5_isAtEnd 1 = .ok (.getfield 19, 3) := by decide +kernel
theorem dX5_isAtEnd_4 : decode cX5_isAtEnd 4 = .ok (.aload_n 0, 1) := by decide +kernel
theorem dX5_isAtEnd_5 : decode cX5_isAtEnd 5 = .ok (.getfield 15, 3) := by decide +kernel
theorem dX5_isAtEnd_8 : decode cX5_isAtEnd 8 = .ok (.if_icmp .lt 7, 3) := by decide +kernel
theorem dX5_isAtEnd_11 : decode cX5_isAtEnd 11 = .ok (.iconst 1, 1) := by decide +kernel
theorem dX5_isAtEnd_12 : decode cX5_isAtEnd 12 = .ok (.goto 4, 3) := by decide +kernel
theorem dX5_isAtEnd_15 : decode cX5_isAtEnd 15 = .ok (.iconst 0, 1) := by decide +kernel
theorem dX5_isAtEnd_16 : decode cX5_isAtEnd 16 = .ok (.ireturn, 1) := by decide +kernel
theorem dX5_isAt_0 : decode cX5_isAt 0 = .ok (.aload_n 0, 1) := by decide +kernel
theorem dX5_isAt_1 : decode cX5_isAt 1 = .ok (.getfield 19, 3) := by decide +kernel
theorem dX5_isAt_4 : decode cX5_isAt 4 = .ok (.aload_n 0, 1) := by decide +kernel
theorem dX5_isAt_5 : decode cX5_isAt 5 = .ok (.getfield 15, 3) := by decide +kernel
theorem dX5_isAt_8 : decode cX5_isAt 8 = .ok (.if_icmp .ge 20, 3) := by decide +kernel
theorem dX5_isAt_11 : decode cX5_isAt 11 = .ok (.aload_n 0, 1) := by decide +kernel
theorem dX5_isAt_12 : decode cX5_isAt 12 = .ok (.getfield 9, 3) := by decide +kernel
theorem dX5_isAt_15 : decode cX5_isAt 15 = .ok (.aload_n 0, 1) := by decide +kernel
theorem dX5_isAt_16 : decode cX5_isAt 16 = .ok (.getfield 19, 3) := by decide +kernel
theorem dX5_isAt_19 : decode cX5_isAt 19 = .ok (.iaload, 1) := by decide +kernel
theorem dX5_isAt_20 : decode cX5_isAt 20 = .ok (.iload_n 1, 1) := by decide +kernel
theorem dX5_isAt_21 : decode cX5_isAt 21 = .ok (.if_icmp .ne 7, 3) := by decide +kernel
theorem dX5_isAt_24 : decode cX5_isAt 24 = .ok (.iconst 1, 1) := by decide +kernel
theorem dX5_isAt_25 : decode cX5_isAt 25 = .ok (.goto 4, 3) := by decide +kernel
theorem dX5_isAt_28 : decode cX5_isAt 28 = .ok (.iconst 0, 1) := by decide +kernel
theorem dX5_isAt_29 : decode cX5_isAt 29 = .ok (.ireturn, 1) := by decide +kernel
theorem dX5_takes_0 : decode cX5_takes 0 = .ok (.aload_n 0, 1) := by decide +kernel
theorem dX5_takes_1 : decode cX5_takes 1 = .ok (.getfield 19, 3) := by decide +kernel
theorem dX5_takes_4 : decode cX5_takes 4 = .ok (.aload_n 0, 1) := by decide +kernel
theorem dX5_takes_5 : decode cX5_takes 5 = .ok (.getfield 15, 3) := by decide +kernel
theorem dX5_takes_8 : decode cX5_takes 8 = .ok (.if_icmp .ge 20, 3) := by decide +kernel
theorem dX5_takes_11 : decode cX5_takes 11 = .ok (.aload_n 0, 1) := by decide +kernel
theorem dX5_takes_12 : decode cX5_takes 12 = .ok (.getfield 9, 3) := by decide +kernel
theorem dX5_takes_15 : decode cX5_takes 15 = .ok (.aload_n 0, 1) := by decide +kernel
theorem dX5_takes_16 : decode cX5_takes 16 = .ok (.getfield 19, 3) := by decide +kernel
theorem dX5_takes_19 : decode cX5_takes 19 = .ok (.iaload, 1) := by decide +kernel
theorem dX5_takes_20 : decode cX5_takes 20 = .ok (.iload_n 1, 1) := by decide +kernel
theorem dX5_takes_21 : decode cX5_takes 21 = .ok (.if_icmp .ne 7, 3) := by decide +kernel
theorem dX5_takes_24 : decode cX5_takes 24 = .ok (.iconst 1, 1) := by decide +kernel
theorem dX5_takes_25 : decode cX5_takes 25 = .ok (.goto 4, 3) := by decide +kernel
theorem dX5_takes_28 : decode cX5_takes 28 = .ok (.iconst 0, 1) := by decide +kernel
theorem dX5_takes_29 : decode cX5_takes 29 = .ok (.istore_n 2, 1) := by decide +kernel
theorem dX5_takes_30 : decode cX5_takes 30 = .ok (.aload_n 0, 1) := by decide +kernel
theorem dX5_takes_31 : decode cX5_takes 31 = .ok (.dup, 1) := by decide +kernel
theorem dX5_takes_32 : decode cX5_takes 32 = .ok (.getfield 19, 3) := by decide +kernel
theorem dX5_takes_35 : decode cX5_takes 35 = .ok (.iload_n 2, 1) := by decide +kernel
theorem dX5_takes_36 : decode cX5_takes 36 = .ok (.ifCond .eq 7, 3) := by decide +kernel
theorem dX5_takes_39 : decode cX5_takes 39 = .ok (.iconst 1, 1) := by decide +kernel
theorem dX5_takes_40 : decode cX5_takes 40 = .ok (.goto 4, 3) := by decide +kernel
theorem dX5_takes_43 : decode cX5_takes 43 = .ok (.iconst 0, 1) := by decide +kernel
theorem dX5_takes_44 : decode cX5_takes 44 = .ok (.iadd, 1) := by decide +kernel
theorem dX5_takes_45 : decode cX5_takes 45 = .ok (.putfield 19, 3) := by decide +kernel
theorem dX5_takes_48 : decode cX5_takes 48 = .ok (.iload_n 2, 1) := by decide +kernel
theorem dX5_takes_49 : decode cX5_takes 49 = .ok (.ireturn, 1) := by decide +kernel
theorem dX5_readTarget_0 : decode cX5_readTarget 0 = .ok (.aload_n 1, 1) := by decide +kernel
theorem dX5_readTarget_1 : decode cX5_readTarget 1 = .ok (.aload_n 0, 1) := by decide +kernel
theorem dX5_readTarget_2 : decode cX5_readTarget 2 = .ok (.invokevirtual 54, 3) := by decide +kernel
theorem dX5_readTarget_5 : decode cX5_readTarget 5 = .ok (.putfield 58, 3) := by decide +kernel
theorem dX5_readTarget_8 : decode cX5_readTarget 8 = .ok (.aload_n 1, 1) := by decide +kernel
theorem dX5_readTarget_9 : decode cX5_readTarget 9 = .ok (.getfield 58, 3) := by decide +kernel
theorem dX5_readTarget_12 : decode cX5_readTarget 12 = .ok (.iconst (-1), 1) := by decide +kernel
theorem dX5_readTarget_13 : decode cX5_readTarget 13 = .ok (.if_icmp .eq 7, 3) := by decide +kernel
theorem dX5_readTarget_16 : decode cX5_readTarget 16 = .ok (.iconst 1, 1) := by decide +kernel
theorem dX5_readTarget_17 : decode cX5_readTarget 17 = .ok (.goto 4, 3) := by decide +kernel
theorem dX5_readTarget_20 : decode cX5_readTarget 20 = .ok (.iconst 0, 1) := by decide +kernel
theorem dX5_readTarget_21 : decode cX5_readTarget 21 = .ok (.ireturn, 1) := by decide +kernel
theorem dX5_readResult_0 : decode cX5_readResult 0 = .ok (.aload_n 1, 1) := by decide +kernel
theorem dX5_readResult_1 : decode cX5_readResult 1 = .ok (.aload_n 0, 1) := by decide +kernel
theorem dX5_readResult_2 : decode cX5_readResult 2 = .ok (.bipush 48, 2) := by decide +kernel
theorem dX5_readResult_4 : decode cX5_readResult 4 = .ok (.invokevirtual 40, 3) := by decide +kernel
theorem dX5_readResult_7 : decode cX5_readResult 7 = .ok (.ifCond .eq 8, 3) := by decide +kernel
theorem dX5_readResult_10 : decode cX5_readResult 10 = .ok (.bipush (-2), 2) := by decide +kernel
theorem dX5_readResult_12 : decode cX5_readResult 12 = .ok (.goto 12, 3) := by decide +kernel
theorem dX5_readResult_15 : decode cX5_readResult 15 = .ok (.aload_n 0, 1) := by decide +kernel
theorem dX5_readResult_16 : decode cX5_readResult 16 = .ok (.bipush 97, 2) := by decide +kernel
theorem dX5_readResult_18 : decode cX5_readResult 18 = .ok (.bipush 112, 2) := by decide +kernel
theorem dX5_readResult_20 : decode cX5_readResult 20 = .ok (.iconst 0, 1) := by decide +kernel
theorem dX5_readResult_21 : decode cX5_readResult 21 = .ok (.invokevirtual 61, 3) := by decide +kernel
theorem dX5_readResult_24 : decode cX5_readResult 24 = .ok (.putfield 65, 3) := by decide +kernel
theorem dX5_readResult_27 : decode cX5_readResult 27 = .ok (.aload_n 1, 1) := by decide +kernel
theorem dX5_readResult_28 : decode cX5_readResult 28 = .ok (.getfield 65, 3) := by decide +kernel
theorem dX5_readResult_31 : decode cX5_readResult 31 = .ok (.iconst (-1), 1) := by decide +kernel
theorem dX5_readResult_32 : decode cX5_readResult 32 = .ok (.if_icmp .eq 7, 3) := by decide +kernel
theorem dX5_readResult_35 : decode cX5_readResult 35 = .ok (.iconst 1, 1) := by decide +kernel
theorem dX5_readResult_36 : decode cX5_readResult 36 = .ok (.goto 4, 3) := by decide +kernel
theorem dX5_readResult_39 : decode cX5_readResult 39 = .ok (.iconst 0, 1) := by decide +kernel
theorem dX5_readResult_40 : decode cX5_readResult 40 = .ok (.ireturn, 1) := by decide +kernel
theorem dX5_readSides_0 : decode cX5_readSides 0 = .ok (.aload_n 0, 1) := by decide +kernel
theorem dX5_readSides_1 : decode cX5_readSides 1 = .ok (.bipush 47, 2) := by decide +kernel
theorem dX5_readSides_3 : decode cX5_readSides 3 = .ok (.invokevirtual 40, 3) := by decide +kernel
theorem dX5_readSides_6 : decode cX5_readSides 6 = .ok (.ifCond .ne 5, 3) := by decide +kernel
theorem dX5_readSides_9 : decode cX5_readSides 9 = .ok (.iconst 0, 1) := by decide +kernel
theorem dX5_readSides_10 : decode cX5_readSides 10 = .ok (.ireturn, 1) := by decide +kernel
theorem dX5_readSides_11 : decode cX5_readSides 11 = .ok (.aload_n 1, 1) := by decide +kernel
theorem dX5_readSides_12 : decode cX5_readSides 12 = .ok (.aload_n 0, 1) := by decide +kernel
theorem dX5_readSides_13 : decode cX5_readSides 13 = .ok (.bipush 95, 2) := by decide +kernel
theorem dX5_readSides_15 : decode cX5_readSides 15 = .ok (.invokevirtual 68, 3) := by decide +kernel
theorem dX5_readSides_18 : decode cX5_readSides 18 = .ok (.ifCond .eq 8, 3) := by decide +kernel
theorem dX5_readSides_21 : decode cX5_readSides 21 = .ok (.bipush 29, 2) := by decide +kernel
theorem dX5_readSides_23 : decode cX5_readSides 23 = .ok (.goto 7, 3) := by decide +kernel
theorem dX5_readSides_26 : decode cX5_readSides 26 = .ok (.aload_n 0, 1) := by decide +kernel
theorem dX5_readSides_27 : decode cX5_readSides 27 = .ok (.invokevirtual 71, 3) := by decide +kernel
theorem dX5_readSides_30 : decode cX5_readSides 30 = .ok (.putfield 30, 3) := by decide +kernel
theorem dX5_readSides_33 : decode cX5_readSides 33 = .ok (.aload_n 1, 1) := by decide +kernel
theorem dX5_readSides_34 : decode cX5_readSides 34 = .ok (.getfield 30, 3) := by decide +kernel
theorem dX5_readSides_37 : decode cX5_readSides 37 = .ok (.iconst (-1), 1) := by decide +kernel
theorem dX5_readSides_38 : decode cX5_readSides 38 = .ok (.if_icmp .eq 12, 3) := by decide +kernel
theorem dX5_readSides_41 : decode cX5_readSides 41 = .ok (.aload_n 0, 1) := by decide +kernel
theorem dX5_readSides_42 : decode cX5_readSides 42 = .ok (.bipush 95, 2) := by decide +kernel
theorem dX5_readSides_44 : decode cX5_readSides 44 = .ok (.invokevirtual 40, 3) := by decide +kernel
theorem dX5_readSides_47 : decode cX5_readSides 47 = .ok (.ifCond .ne 5, 3) := by decide +kernel
theorem dX5_readSides_50 : decode cX5_readSides 50 = .ok (.iconst 0, 1) := by decide +kernel
theorem dX5_readSides_51 : decode cX5_readSides 51 = .ok (.ireturn, 1) := by decide +kernel
theorem dX5_readSides_52 : decode cX5_readSides 52 = .ok (.aload_n 1, 1) := by decide +kernel
theorem dX5_readSides_53 : decode cX5_readSides 53 = .ok (.aload_n 0, 1) := by decide +kernel
theorem dX5_readSides_54 : decode cX5_readSides 54 = .ok (.invokevirtual 47, 3) := by decide +kernel
theorem dX5_readSides_57 : decode cX5_readSides 57 = .ok (.ifCond .eq 8, 3) := by decide +kernel
theorem dX5_readSides_60 : decode cX5_readSides 60 = .ok (.bipush 29, 2) := by decide +kernel
theorem dX5_readSides_62 : decode cX5_readSides 62 = .ok (.goto 7, 3) := by decide +kernel
theorem dX5_readSides_65 : decode cX5_readSides 65 = .ok (.aload_n 0, 1) := by decide +kernel
theorem dX5_readSides_66 : decode cX5_readSides 66 = .ok (.invokevirtual 71, 3) := by decide +kernel
theorem dX5_readSides_69 : decode cX5_readSides 69 = .ok (.putfield 33, 3) := by decide +kernel
theorem dX5_readSides_72 : decode cX5_readSides 72 = .ok (.aload_n 1, 1) := by decide +kernel
theorem dX5_readSides_73 : decode cX5_readSides 73 = .ok (.getfield 33, 3) := by decide +kernel
theorem dX5_readSides_76 : decode cX5_readSides 76 = .ok (.iconst (-1), 1) := by decide +kernel
theorem dX5_readSides_77 : decode cX5_readSides 77 = .ok (.if_icmp .eq 14, 3) := by decide +kernel
theorem dX5_readSides_80 : decode cX5_readSides 80 = .ok (.aload_n 0, 1) := by decide +kernel
theorem dX5_readSides_81 : decode cX5_readSides 81 = .ok (.invokevirtual 47, 3) := by decide +kernel
theorem dX5_readSides_84 : decode cX5_readSides 84 = .ok (.ifCond .eq 7, 3) := by decide +kernel
theorem dX5_readSides_87 : decode cX5_readSides 87 = .ok (.iconst 1, 1) := by decide +kernel
theorem dX5_readSides_88 : decode cX5_readSides 88 = .ok (.goto 4, 3) := by decide +kernel
theorem dX5_readSides_91 : decode cX5_readSides 91 = .ok (.iconst 0, 1) := by decide +kernel
theorem dX5_readSides_92 : decode cX5_readSides 92 = .ok (.ireturn, 1) := by decide +kernel
theorem dX5_takeSide_0 : decode cX5_takeSide 0 = .ok (.aload_n 0, 1) := by decide +kernel
theorem dX5_takeSide_1 : decode cX5_takeSide 1 = .ok (.bipush 35, 2) := by decide +kernel
theorem dX5_takeSide_3 : decode cX5_takeSide 3 = .ok (.invokevirtual 40, 3) := by decide +kernel
theorem dX5_takeSide_6 : decode cX5_takeSide 6 = .ok (.ifCond .eq 8, 3) := by decide +kernel
theorem dX5_takeSide_9 : decode cX5_takeSide 9 = .ok (.bipush 28, 2) := by decide +kernel
theorem dX5_takeSide_11 : decode cX5_takeSide 11 = .ok (.goto 7, 3) := by decide +kernel
theorem dX5_takeSide_14 : decode cX5_takeSide 14 = .ok (.aload_n 0, 1) := by decide +kernel
theorem dX5_takeSide_15 : decode cX5_takeSide 15 = .ok (.invokevirtual 54, 3) := by decide +kernel
theorem dX5_takeSide_18 : decode cX5_takeSide 18 = .ok (.ireturn, 1) := by decide +kernel
theorem dX5_takePattern_0 : decode cX5_takePattern 0 = .ok (.aload_n 0, 1) := by decide +kernel
theorem dX5_takePattern_1 : decode cX5_takePattern 1 = .ok (.bipush 43, 2) := by decide +kernel
theorem dX5_takePattern_3 : decode cX5_takePattern 3 = .ok (.invokevirtual 40, 3) := by decide +kernel
theorem dX5_takePattern_6 : decode cX5_takePattern 6 = .ok (.ifCond .eq 14, 3) := by decide +kernel
theorem dX5_takePattern_9 : decode cX5_takePattern 9 = .ok (.aload_n 0, 1) := by decide +kernel
theorem dX5_takePattern_10 : decode cX5_takePattern 10 = .ok (.bipush 48, 2) := by decide +kernel
theorem dX5_takePattern_12 : decode cX5_takePattern 12 = .ok (.bipush 53, 2) := by decide +kernel
theorem dX5_takePattern_14 : decode cX5_takePattern 14 = .ok (.bipush 16, 2) := by decide +kernel
theorem dX5_takePattern_16 : decode cX5_takePattern 16 = .ok (.invokevirtual 61, 3) := by decide +kernel
theorem dX5_takePattern_19 : decode cX5_takePattern 19 = .ok (.ireturn, 1) := by decide +kernel
theorem dX5_takePattern_20 : decode cX5_takePattern 20 = .ok (.aload_n 0, 1) := by decide +kernel
theorem dX5_takePattern_21 : decode cX5_takePattern 21 = .ok (.bipush 45, 2) := by decide +kernel
theorem dX5_takePattern_23 : decode cX5_takePattern 23 = .ok (.invokevirtual 40, 3) := by decide +kernel
theorem dX5_takePattern_26 : decode cX5_takePattern 26 = .ok (.ifCond .eq 16, 3) := by decide +kernel
theorem dX5_takePattern_29 : decode cX5_takePattern 29 = .ok (.aload_n 0, 1) := by decide +kernel
theorem dX5_takePattern_30 : decode cX5_takePattern 30 = .ok (.bipush 48, 2) := by decide +kernel
theorem dX5_takePattern_32 : decode cX5_takePattern 32 = .ok (.bipush 53, 2) := by decide +kernel
theorem dX5_takePattern_34 : decode cX5_takePattern 34 = .ok (.bipush 22, 2) := by decide +kernel
theorem dX5_takePattern_36 : decode cX5_takePattern 36 = .ok (.invokevirtual 61, 3) := by decide +kernel
theorem dX5_takePattern_39 : decode cX5_takePattern 39 = .ok (.goto 12, 3) := by decide +kernel
theorem dX5_takePattern_42 : decode cX5_takePattern 42 = .ok (.aload_n 0, 1) := by decide +kernel
theorem dX5_takePattern_43 : decode cX5_takePattern 43 = .ok (.bipush 97, 2) := by decide +kernel
theorem dX5_takePattern_45 : decode cX5_takePattern 45 = .ok (.bipush 112, 2) := by decide +kernel
theorem dX5_takePattern_47 : decode cX5_takePattern 47 = .ok (.iconst 0, 1) := by decide +kernel
theorem dX5_takePattern_48 : decode cX5_takePattern 48 = .ok (.invokevirtual 61, 3) := by decide +kernel
theorem dX5_takePattern_51 : decode cX5_takePattern 51 = .ok (.ireturn, 1) := by decide +kernel
theorem dX5_takeBetween_0 : decode cX5_takeBetween 0 = .ok (.aload_n 0, 1) := by decide +kernel
theorem dX5_takeBetween_1 : decode cX5_takeBetween 1 = .ok (.getfield 19, 3) := by decide +kernel
theorem dX5_takeBetween_4 : decode cX5_takeBetween 4 = .ok (.aload_n 0, 1) := by decide +kernel
theorem dX5_takeBetween_5 : decode cX5_takeBetween 5 = .ok (.getfield 15, 3) := by decide +kernel
theorem dX5_takeBetween_8 : decode cX5_takeBetween 8 = .ok (.if_icmp .ge 29, 3) := by decide +kernel
theorem dX5_takeBetween_11 : decode cX5_takeBetween 11 = .ok (.aload_n 0, 1) := by decide +kernel
theorem dX5_takeBetween_12 : decode cX5_takeBetween 12 = .ok (.getfield 9, 3) := by decide +kernel
theorem dX5_takeBetween_15 : decode cX5_takeBetween 15 = .ok (.aload_n 0, 1) := by decide +kernel
theorem dX5_takeBetween_16 : decode cX5_takeBetween 16 = .ok (.getfield 19, 3) := by decide +kernel
theorem dX5_takeBetween_19 : decode cX5_takeBetween 19 = .ok (.iaload, 1) := by decide +kernel
theorem dX5_takeBetween_20 : decode cX5_takeBetween 20 = .ok (.iload_n 1, 1) := by decide +kernel
theorem dX5_takeBetween_21 : decode cX5_takeBetween 21 = .ok (.if_icmp .lt 16, 3) := by decide +kernel
theorem dX5_takeBetween_24 : decode cX5_takeBetween 24 = .ok (.aload_n 0, 1) := by decide +kernel
theorem dX5_takeBetween_25 : decode cX5_takeBetween 25 = .ok (.getfield 9, 3) := by decide +kernel
theorem dX5_takeBetween_28 : decode cX5_takeBetween 28 = .ok (.aload_n 0, 1) := by decide +kernel
theorem dX5_takeBetween_29 : decode cX5_takeBetween 29 = .ok (.getfield 19, 3) := by decide +kernel
theorem dX5_takeBetween_32 : decode cX5_takeBetween 32 = .ok (.iaload, 1) := by decide +kernel
theorem dX5_takeBetween_33 : decode cX5_takeBetween 33 = .ok (.iload_n 2, 1) := by decide +kernel
theorem dX5_takeBetween_34 : decode cX5_takeBetween 34 = .ok (.if_icmp .le 5, 3) := by decide +kernel
theorem dX5_takeBetween_37 : decode cX5_takeBetween 37 = .ok (.iconst (-1), 1) := by decide +kernel
theorem dX5_takeBetween_38 : decode cX5_takeBetween 38 = .ok (.ireturn, 1) := by decide +kernel
theorem dX5_takeBetween_39 : decode cX5_takeBetween 39 = .ok (.aload_n 0, 1) := by decide +kernel
theorem dX5_takeBetween_40 : decode cX5_takeBetween 40 = .ok (.dup, 1) := by decide +kernel
theorem dX5_takeBetween_41 : decode cX5_takeBetween 41 = .ok (.getfield 19, 3) := by decide +kernel
theorem dX5_takeBetween_44 : decode cX5_takeBetween 44 = .ok (.iconst 1, 1) := by decide +kernel
theorem dX5_takeBetween_45 : decode cX5_takeBetween 45 = .ok (.iadd, 1) := by decide +kernel
theorem dX5_takeBetween_46 : decode cX5_takeBetween 46 = .ok (.putfield 19, 3) := by decide +kernel
theorem dX5_takeBetween_49 : decode cX5_takeBetween 49 = .ok (.iload_n 3, 1) := by decide +kernel
theorem dX5_takeBetween_50 : decode cX5_takeBetween 50 = .ok (.aload_n 0, 1) := by decide +kernel
theorem dX5_takeBetween_51 : decode cX5_takeBetween 51 = .ok (.getfield 9, 3) := by decide +kernel
theorem dX5_takeBetween_54 : decode cX5_takeBetween 54 = .ok (.aload_n 0, 1) := by decide +kernel
theorem dX5_takeBetween_55 : decode cX5_takeBetween 55 = .ok (.getfield 19, 3) := by decide +kernel
theorem dX5_takeBetween_58 : decode cX5_takeBetween 58 = .ok (.iconst 1, 1) := by decide +kernel
theorem dX5_takeBetween_59 : decode cX5_takeBetween 59 = .ok (.isub, 1) := by decide +kernel
theorem dX5_takeBetween_60 : decode cX5_takeBetween 60 = .ok (.iaload, 1) := by decide +kernel
theorem dX5_takeBetween_61 : decode cX5_takeBetween 61 = .ok (.iadd, 1) := by decide +kernel
theorem dX5_takeBetween_62 : decode cX5_takeBetween 62 = .ok (.iload_n 1, 1) := by decide +kernel
theorem dX5_takeBetween_63 : decode cX5_takeBetween 63 = .ok (.isub, 1) := by decide +kernel
theorem dX5_takeBetween_64 : decode cX5_takeBetween 64 = .ok (.ireturn, 1) := by decide +kernel
theorem dX6_init_0 : decode cX6_init 0 = .ok (.aload_n 0, 1) := by decide +kernel
theorem dX6_init_1 : decode cX6_init 1 = .ok (.invokespecial 3, 3) := by decide +kernel
theorem dX6_init_4 : decode cX6_init 4 = .ok (.aload_n 0, 1) := by decide +kernel
theorem dX6_init_5 : decode cX6_init 5 = .ok (.bipush 81, 2) := by decide +kernel
theorem dX6_init_7 : decode cX6_init 7 = .ok (.newarray .int, 2) := by decide +kernel
theorem dX6_init_9 : decode cX6_init 9 = .ok (.putfield 11, 3) := by decide +kernel
theorem dX6_init_12 : decode cX6_init 12 = .ok (.aload_n 0, 1) := by decide +kernel
theorem dX6_init_13 : decode cX6_init 13 = .ok (.bipush 6, 2) := by decide +kernel
theorem dX6_init_15 : decode cX6_init 15 = .ok (.putfield 15, 3) := by decide +kernel
theorem dX6_init_18 : decode cX6_init 18 = .ok (.aload_n 0, 1) := by decide +kernel
theorem dX6_init_19 : decode cX6_init 19 = .ok (.iconst 3, 1) := by decide +kernel
theorem dX6_init_20 : decode cX6_init 20 = .ok (.putfield 19, 3) := by decide +kernel
theorem dX6_init_23 : decode cX6_init 23 = .ok (.aload_n 0, 1) := by decide +kernel
theorem dX6_init_24 : decode cX6_init 24 = .ok (.aload_n 1, 1) := by decide +kernel
theorem dX6_init_25 : decode cX6_init 25 = .ok (.putfield 22, 3) := by decide +kernel
theorem dX6_init_28 : decode cX6_init 28 = .ok (.return_, 1) := by decide +kernel
theorem dX6_leastCost_0 : decode cX6_leastCost 0 = .ok (.aload_n 1, 1) := by decide +kernel
theorem dX6_leastCost_1 : decode cX6_leastCost 1 = .ok (.getfield 26, 3) := by decide +kernel
theorem dX6_leastCost_4 : decode cX6_leastCost 4 = .ok (.istore_n 3, 1) := by decide +kernel
theorem dX6_leastCost_5 : decode cX6_leastCost 5 = .ok (.iload_n 3, 1) := by decide +kernel
theorem dX6_leastCost_6 : decode cX6_leastCost 6 = .ok (.ifCond .lt 141, 3) := by decide +kernel
theorem dX6_leastCost_9 : decode cX6_leastCost 9 = .ok (.aload_n 2, 1) := by decide +kernel
theorem dX6_leastCost_10 : decode cX6_leastCost 10 = .ok (.getfield 26, 3) := by decide +kernel
theorem dX6_leastCost_13 : decode cX6_leastCost 13 = .ok (.istore 4, 2) := by decide +kernel
theorem dX6_leastCost_15 : decode cX6_leastCost 15 = .ok (.iload 4, 2) := by decide +kernel
theorem dX6_leastCost_17 : decode cX6_leastCost 17 = .ok (.ifCond .lt 124, 3) := by decide +kernel
theorem dX6_leastCost_20 : decode cX6_leastCost 20 = .ok (.iload_n 3, 1) := by decide +kernel
theorem dX6_leastCost_21 : decode cX6_leastCost 21 = .ok (.aload_n 1, 1) := by decide +kernel
theorem dX6_leastCost_22 : decode cX6_leastCost 22 = .ok (.getfield 26, 3) := by decide +kernel
theorem dX6_leastCost_25 : decode cX6_leastCost 25 = .ok (.if_icmp .eq 12, 3) := by decide +kernel
theorem dX6_leastCost_28 : decode cX6_leastCost 28 = .ok (.iload 4, 2) := by decide +kernel
theorem dX6_leastCost_30 : decode cX6_leastCost 30 = .ok (.aload_n 2, 1) := by decide +kernel
theorem dX6_leastCost_31 : decode cX6_leastCost 31 = .ok (.getfield 26, 3) := by decide +kernel
theorem dX6_leastCost_34 : decode cX6_leastCost 34 = .ok (.if_icmp .ne 37, 3) := by decide +kernel
theorem dX6_leastCost_37 : decode cX6_leastCost 37 = .ok (.aload_n 0, 1) := by decide +kernel
theorem dX6_leastCost_38 : decode cX6_leastCost 38 = .ok (.getfield 11, 3) := by decide +kernel
theorem dX6_leastCost_41 : decode cX6_leastCost 41 = .ok (.iload_n 3, 1) := by decide +kernel
theorem dX6_leastCost_42 : decode cX6_leastCost 42 = .ok (.bipush 9, 2) := by decide +kernel
theorem dX6_leastCost_44 : decode cX6_leastCost 44 = .ok (.imul, 1) := by decide +kernel
theorem dX6_leastCost_45 : decode cX6_leastCost 45 = .ok (.iload 4, 2) := by decide +kernel
theorem dX6_leastCost_47 : decode cX6_leastCost 47 = .ok (.iadd, 1) := by decide +kernel
theorem dX6_leastCost_48 : decode cX6_leastCost 48 = .ok (.aload_n 1, 1) := by decide +kernel
theorem dX6_leastCost_49 : decode cX6_leastCost 49 = .ok (.getfield 26, 3) := by decide +kernel
theorem dX6_leastCost_52 : decode cX6_leastCost 52 = .ok (.iload_n 3, 1) := by decide +kernel
theorem dX6_leastCost_53 : decode cX6_leastCost 53 = .ok (.isub, 1) := by decide +kernel
theorem dX6_leastCost_54 : decode cX6_leastCost 54 = .ok (.aload_n 2, 1) := by decide +kernel
theorem dX6_leastCost_55 : decode cX6_leastCost 55 = .ok (.getfield 26, 3) := by decide +kernel
theorem dX6_leastCost_58 : decode cX6_leastCost 58 = .ok (.iadd, 1) := by decide +kernel
theorem dX6_leastCost_59 : decode cX6_leastCost 59 = .ok (.iload 4, 2) := by decide +kernel
theorem dX6_leastCost_61 : decode cX6_leastCost 61 = .ok (.isub, 1) := by decide +kernel
theorem dX6_leastCost_62 : decode cX6_leastCost 62 = .ok (.aload_n 0, 1) := by decide +kernel
theorem dX6_leastCost_63 : decode cX6_leastCost 63 = .ok (.getfield 15, 3) := by decide +kernel
theorem dX6_leastCost_66 : decode cX6_leastCost 66 = .ok (.imul, 1) := by decide +kernel
theorem dX6_leastCost_67 : decode cX6_leastCost 67 = .ok (.iastore, 1) := by decide +kernel
theorem dX6_leastCost_68 : decode cX6_leastCost 68 = .ok (.goto 67, 3) := by decide +kernel
theorem dX6_leastCost_71 : decode cX6_leastCost 71 = .ok (.aload_n 0, 1) := by decide +kernel
theorem dX6_leastCost_72 : decode cX6_leastCost 72 = .ok (.getfield 11, 3) := by decide +kernel
theorem dX6_leastCost_75 : decode cX6_leastCost 75 = .ok (.iload_n 3, 1) := by decide +kernel
theorem dX6_leastCost_76 : decode cX6_leastCost 76 = .ok (.iconst 1, 1) := by decide +kernel
theorem dX6_leastCost_77 : decode cX6_leastCost 77 = .ok (.iadd, 1) := by decide +kernel
theorem dX6_leastCost_78 : decode cX6_leastCost 78 = .ok (.bipush 9, 2) := by decide +kernel
theorem dX6_leastCost_80 : decode cX6_leastCost 80 = .ok (.imul, 1) := by decide +kernel
theorem dX6_leastCost_81 : decode cX6_leastCost 81 = .ok (.iload 4, 2) := by decide +kernel
theorem dX6_leastCost_83 : decode cX6_leastCost 83 = .ok (.iadd, 1) := by decide +kernel
theorem dX6_leastCost_84 : decode cX6_leastCost 84 = .ok (.iaload, 1) := by decide +kernel
theorem dX6_leastCost_85 : decode cX6_leastCost 85 = .ok (.aload_n 0, 1) := by decide +kernel
theorem dX6_leastCost_86 : decode cX6_leastCost 86 = .ok (.getfield 11, 3) := by decide +kernel
theorem dX6_leastCost_89 : decode cX6_leastCost 89 = .ok (.iload_n 3, 1) := by decide +kernel
theorem dX6_leastCost_90 : decode cX6_leastCost 90 = .ok (.bipush 9, 2) := by decide +kernel
theorem dX6_leastCost_92 : decode cX6_leastCost 92 = .ok (.imul, 1) := by decide +kernel
theorem dX6_leastCost_93 : decode cX6_leastCost 93 = .ok (.iload 4, 2) := by decide +kernel
theorem dX6_leastCost_95 : decode cX6_leastCost 95 = .ok (.iadd, 1) := by decide +kernel
theorem dX6_leastCost_96 : decode cX6_leastCost 96 = .ok (.iconst 1, 1) := by decide +kernel
theorem dX6_leastCost_97 : decode cX6_leastCost 97 = .ok (.iadd, 1) := by decide +kernel
theorem dX6_leastCost_98 : decode cX6_leastCost 98 = .ok (.iaload, 1) := by decide +kernel
theorem dX6_leastCost_99 : decode cX6_leastCost 99 = .ok (.invokestatic 31, 3) := by decide +kernel
theorem dX6_leastCost_102 : decode cX6_leastCost 102 = .ok (.aload_n 0, 1) := by decide +kernel
theorem dX6_leastCost_103 : decode cX6_leastCost 103 = .ok (.getfield 15, 3) := by decide +kernel
theorem dX6_leastCost_106 : decode cX6_leastCost 106 = .ok (.iadd, 1) := by decide +kernel
theorem dX6_leastCost_107 : decode cX6_leastCost 107 = .ok (.istore 5, 2) := by decide +kernel
theorem dX6_leastCost_109 : decode cX6_leastCost 109 = .ok (.aload_n 0, 1) := by decide +kernel
theorem dX6_leastCost_110 : decode cX6_leastCost 110 = .ok (.getfield 11, 3) := by decide +kernel
theorem dX6_leastCost_113 : decode cX6_leastCost 113 = .ok (.iload_n 3, 1) := by decide +kernel
theorem dX6_leastCost_114 : decode cX6_leastCost 114 = .ok (.bipush 9, 2) := by decide +kernel
theorem dX6_leastCost_116 : decode cX6_leastCost 116 = .ok (.imul, 1) := by decide +kernel
theorem dX6_leastCost_117 : decode cX6_leastCost 117 = .ok (.iload 4, 2) := by decide +kernel
theorem dX6_leastCost_119 : decode cX6_leastCost 119 = .ok (.iadd, 1) := by decide +kernel
theorem dX6_leastCost_120 : decode cX6_leastCost 120 = .ok (.iload 5, 2) := by decide +kernel
theorem dX6_leastCost_122 : decode cX6_leastCost 122 = .ok (.aload_n 0, 1) := by decide +kernel
theorem dX6_leastCost_123 : decode cX6_leastCost 123 = .ok (.aload_n 1, 1) := by decide +kernel
theorem dX6_leastCost_124 : decode cX6_leastCost 124 = .ok (.aload_n 2, 1) := by decide +kernel
theorem dX6_leastCost_125 : decode cX6_leastCost 125 = .ok (.iload_n 3, 1) := by decide +kernel
theorem dX6_leastCost_126 : decode cX6_leastCost 126 = .ok (.iload 4, 2) := by decide +kernel
theorem dX6_leastCost_128 : decode cX6_leastCost 128 = .ok (.invokevirtual 37, 3) := by decide +kernel
theorem dX6_leastCost_131 : decode cX6_leastCost 131 = .ok (.invokestatic 31, 3) := by decide +kernel
theorem dX6_leastCost_134 : decode cX6_leastCost 134 = .ok (.iastore, 1) := by decide +kernel
theorem dX6_leastCost_135 : decode cX6_leastCost 135 = .ok (.iinc 4 (-1), 3) := by decide +kernel
theorem dX6_leastCost_138 : decode cX6_leastCost 138 = .ok (.goto (-123), 3) := by decide +kernel
theorem dX6_leastCost_141 : decode cX6_leastCost 141 = .ok (.iinc 3 (-1), 3) := by decide +kernel
theorem dX6_leastCost_144 : decode cX6_leastCost 144 = .ok (.goto (-139), 3) := by decide +kernel
theorem dX6_leastCost_147 : decode cX6_leastCost 147 = .ok (.aload_n 0, 1) := by decide +kernel
theorem dX6_leastCost_148 : decode cX6_leastCost 148 = .ok (.getfield 11, 3) := by decide +kernel
theorem dX6_leastCost_151 : decode cX6_leastCost 151 = .ok (.iconst 0, 1) := by decide +kernel
theorem dX6_leastCost_152 : decode cX6_leastCost 152 = .ok (.iaload, 1) := by decide +kernel
theorem dX6_leastCost_153 : decode cX6_leastCost 153 = .ok (.ireturn, 1) := by decide +kernel
theorem dX6_costOfPair_0 : decode cX6_costOfPair 0 = .ok (.aload_n 0, 1) := by decide +kernel
theorem dX6_costOfPair_1 : decode cX6_costOfPair 1 = .ok (.getfield 22, 3) := by decide +kernel
theorem dX6_costOfPair_4 : decode cX6_costOfPair 4 = .ok (.aload_n 1, 1) := by decide +kernel
theorem dX6_costOfPair_5 : decode cX6_costOfPair 5 = .ok (.getfield 41, 3) := by decide +kernel
theorem dX6_costOfPair_8 : decode cX6_costOfPair 8 = .ok (.iload_n 3, 1) := by decide +kernel
theorem dX6_costOfPair_9 : decode cX6_costOfPair 9 = .ok (.iaload, 1) := by decide +kernel
theorem dX6_costOfPair_10 : decode cX6_costOfPair 10 = .ok (.aload_n 2, 1) := by decide +kernel
theorem dX6_costOfPair_11 : decode cX6_costOfPair 11 = .ok (.getfield 41, 3) := by decide +kernel
theorem dX6_costOfPair_14 : decode cX6_costOfPair 14 = .ok (.iload 4, 2) := by decide +kernel
theorem dX6_costOfPair_16 : decode cX6_costOfPair 16 = .ok (.iaload, 1) := by decide +kernel
theorem dX6_costOfPair_17 : decode cX6_costOfPair 17 = .ok (.invokevirtual 44, 3) := by decide +kernel
theorem dX6_costOfPair_20 : decode cX6_costOfPair 20 = .ok (.aload_n 0, 1) := by decide +kernel
theorem dX6_costOfPair_21 : decode cX6_costOfPair 21 = .ok (.getfield 11, 3) := by decide +kernel
theorem dX6_costOfPair_24 : decode cX6_costOfPair 24 = .ok (.iload_n 3, 1) := by decide +kernel
theorem dX6_costOfPair_25 : decode cX6_costOfPair 25 = .ok (.iconst 1, 1) := by decide +kernel
theorem dX6_costOfPair_26 : decode cX6_costOfPair 26 = .ok (.iadd, 1) := by decide +kernel
theorem dX6_costOfPair_27 : decode cX6_costOfPair 27 = .ok (.bipush 9, 2) := by decide +kernel
theorem dX6_costOfPair_29 : decode cX6_costOfPair 29 = .ok (.imul, 1) := by decide +kernel
theorem dX6_costOfPair_30 : decode cX6_costOfPair 30 = .ok (.iload 4, 2) := by decide +kernel
theorem dX6_costOfPair_32 : decode cX6_costOfPair 32 = .ok (.iadd, 1) := by decide +kernel
theorem dX6_costOfPair_33 : decode cX6_costOfPair 33 = .ok (.iconst 1, 1) := by decide +kernel
theorem dX6_costOfPair_34 : decode cX6_costOfPair 34 = .ok (.iadd, 1) := by decide +kernel
theorem dX6_costOfPair_35 : decode cX6_costOfPair 35 = .ok (.iaload, 1) := by decide +kernel
theorem dX6_costOfPair_36 : decode cX6_costOfPair 36 = .ok (.iadd, 1) := by decide +kernel
theorem dX6_costOfPair_37 : decode cX6_costOfPair 37 = .ok (.ireturn, 1) := by decide +kernel
theorem dX6_column_0 : decode cX6_column 0 = .ok (.aload_n 0, 1) := by decide +kernel
theorem dX6_column_1 : decode cX6_column 1 = .ok (.aload_n 1, 1) := by decide +kernel
theorem dX6_column_2 : decode cX6_column 2 = .ok (.aload_n 2, 1) := by decide +kernel
theorem dX6_column_3 : decode cX6_column 3 = .ok (.invokevirtual 49, 3) := by decide +kernel
theorem dX6_column_6 : decode cX6_column 6 = .ok (.pop, 1) := by decide +kernel
theorem dX6_column_7 : decode cX6_column 7 = .ok (.iconst 0, 1) := by decide +kernel
theorem dX6_column_8 : decode cX6_column 8 = .ok (.istore 4, 2) := by decide +kernel
theorem dX6_column_10 : decode cX6_column 10 = .ok (.iconst 0, 1) := by decide +kernel
theorem dX6_column_11 : decode cX6_column 11 = .ok (.istore 5, 2) := by decide +kernel
theorem dX6_column_13 : decode cX6_column 13 = .ok (.iconst 0, 1) := by decide +kernel
theorem dX6_column_14 : decode cX6_column 14 = .ok (.istore 6, 2) := by decide +kernel
theorem dX6_column_16 : decode cX6_column 16 = .ok (.iload 6, 2) := by decide +kernel
theorem dX6_column_18 : decode cX6_column 18 = .ok (.bipush 16, 2) := by decide +kernel
theorem dX6_column_20 : decode cX6_column 20 = .ok (.if_icmp .ge 155, 3) := by decide +kernel
theorem dX6_column_23 : decode cX6_column 23 = .ok (.iload 4, 2) := by decide +kernel
theorem dX6_column_25 : decode cX6_column 25 = .ok (.aload_n 1, 1) := by decide +kernel
theorem dX6_column_26 : decode cX6_column 26 = .ok (.getfield 26, 3) := by decide +kernel
theorem dX6_column_29 : decode cX6_column 29 = .ok (.if_icmp .lt 12, 3) := by decide +kernel
theorem dX6_column_32 : decode cX6_column 32 = .ok (.iload 5, 2) := by decide +kernel
theorem dX6_column_34 : decode cX6_column 34 = .ok (.aload_n 2, 1) := by decide +kernel
theorem dX6_column_35 : decode cX6_column 35 = .ok (.getfield 26, 3) := by decide +kernel
theorem dX6_column_38 : decode cX6_column 38 = .ok (.if_icmp .ge 137, 3) := by decide +kernel
theorem dX6_column_41 : decode cX6_column 41 = .ok (.aload_n 0, 1) := by decide +kernel
theorem dX6_column_42 : decode cX6_column 42 = .ok (.aload_n 1, 1) := by decide +kernel
theorem dX6_column_43 : decode cX6_column 43 = .ok (.aload_n 2, 1) := by decide +kernel
theorem dX6_column_44 : decode cX6_column 44 = .ok (.iload 4, 2) := by decide +kernel
theorem dX6_column_46 : decode cX6_column 46 = .ok (.iload 5, 2) := by decide +kernel
theorem dX6_column_48 : decode cX6_column 48 = .ok (.invokevirtual 53, 3) := by decide +kernel
theorem dX6_column_51 : decode cX6_column 51 = .ok (.istore 7, 2) := by decide +kernel
theorem dX6_column_53 : decode cX6_column 53 = .ok (.iload 7, 2) := by decide +kernel
theorem dX6_column_55 : decode cX6_column 55 = .ok (.ifCond .ne 15, 3) := by decide +kernel
theorem dX6_column_58 : decode cX6_column 58 = .ok (.aload_n 0, 1) := by decide +kernel
theorem dX6_column_59 : decode cX6_column 59 = .ok (.aload_n 1, 1) := by decide +kernel
theorem dX6_column_60 : decode cX6_column 60 = .ok (.iload 4, 2) := by decide +kernel
theorem dX6_column_62 : decode cX6_column 62 = .ok (.iload 5, 2) := by decide +kernel
theorem dX6_column_64 : decode cX6_column 64 = .ok (.invokevirtual 57, 3) := by decide +kernel
theorem dX6_column_67 : decode cX6_column 67 = .ok (.ifCond .eq 7, 3) := by decide +kernel
theorem dX6_column_70 : decode cX6_column 70 = .ok (.iconst 1, 1) := by decide +kernel
theorem dX6_column_71 : decode cX6_column 71 = .ok (.goto 4, 3) := by decide +kernel
theorem dX6_column_74 : decode cX6_column 74 = .ok (.iconst 0, 1) := by decide +kernel
theorem dX6_column_75 : decode cX6_column 75 = .ok (.istore 8, 2) := by decide +kernel
theorem dX6_column_77 : decode cX6_column 77 = .ok (.iload 7, 2) := by decide +kernel
theorem dX6_column_79 : decode cX6_column 79 = .ok (.ifCond .ne 8, 3) := by decide +kernel
theorem dX6_column_82 : decode cX6_column 82 = .ok (.iload 8, 2) := by decide +kernel
theorem dX6_column_84 : decode cX6_column 84 = .ok (.ifCond .ne 7, 3) := by decide +kernel
theorem dX6_column_87 : decode cX6_column 87 = .ok (.iconst 1, 1) := by decide +kernel
theorem dX6_column_88 : decode cX6_column 88 = .ok (.goto 4, 3) := by decide +kernel
theorem dX6_column_91 : decode cX6_column 91 = .ok (.iconst 0, 1) := by decide +kernel
theorem dX6_column_92 : decode cX6_column 92 = .ok (.istore 9, 2) := by decide +kernel
theorem dX6_column_94 : decode cX6_column 94 = .ok (.iload 6, 2) := by decide +kernel
theorem dX6_column_96 : decode cX6_column 96 = .ok (.iload_n 3, 1) := by decide +kernel
theorem dX6_column_97 : decode cX6_column 97 = .ok (.if_icmp .ne 42, 3) := by decide +kernel
theorem dX6_column_100 : decode cX6_column 100 = .ok (.iload 8, 2) := by decide +kernel
theorem dX6_column_102 : decode cX6_column 102 = .ok (.ifCond .eq 17, 3) := by decide +kernel
theorem dX6_column_105 : decode cX6_column 105 = .ok (.bipush 100, 2) := by decide +kernel
theorem dX6_column_107 : decode cX6_column 107 = .ok (.aload_n 1, 1) := by decide +kernel
theorem dX6_column_108 : decode cX6_column 108 = .ok (.iload 4, 2) := by decide +kernel
theorem dX6_column_110 : decode cX6_column 110 = .ok (.invokevirtual 61, 3) := by decide +kernel
theorem dX6_column_113 : decode cX6_column 113 = .ok (.iconst 1, 1) := by decide +kernel
theorem dX6_column_114 : decode cX6_column 114 = .ok (.iadd, 1) := by decide +kernel
theorem dX6_column_115 : decode cX6_column 115 = .ok (.imul, 1) := by decide +kernel
theorem dX6_column_116 : decode cX6_column 116 = .ok (.goto 4, 3) := by decide +kernel
theorem dX6_column_119 : decode cX6_column 119 = .ok (.iconst 0, 1) := by decide +kernel
theorem dX6_column_120 : decode cX6_column 120 = .ok (.iload 9, 2) := by decide +kernel
theorem dX6_column_122 : decode cX6_column 122 = .ok (.ifCond .eq 14, 3) := by decide +kernel
theorem dX6_column_125 : decode cX6_column 125 = .ok (.aload_n 2, 1) := by decide +kernel
theorem dX6_column_126 : decode cX6_column 126 = .ok (.iload 5, 2) := by decide +kernel
theorem dX6_column_128 : decode cX6_column 128 = .ok (.invokevirtual 61, 3) := by decide +kernel
theorem dX6_column_131 : decode cX6_column 131 = .ok (.iconst 1, 1) := by decide +kernel
theorem dX6_column_132 : decode cX6_column 132 = .ok (.iadd, 1) := by decide +kernel
theorem dX6_column_133 : decode cX6_column 133 = .ok (.goto 4, 3) := by decide +kernel
theorem dX6_column_136 : decode cX6_column 136 = .ok (.iconst 0, 1) := by decide +kernel
theorem dX6_column_137 : decode cX6_column 137 = .ok (.iadd, 1) := by decide +kernel
theorem dX6_column_138 : decode cX6_column 138 = .ok (.ireturn, 1) := by decide +kernel
theorem dX6_column_139 : decode cX6_column 139 = .ok (.iload 4, 2) := by decide +kernel
theorem dX6_column_141 : decode cX6_column 141 = .ok (.iload 8, 2) := by decide +kernel
theorem dX6_column_143 : decode cX6_column 143 = .ok (.ifCond .eq 7, 3) := by decide +kernel
theorem dX6_column_146 : decode cX6_column 146 = .ok (.iconst 1, 1) := by decide +kernel
theorem dX6_column_147 : decode cX6_column 147 = .ok (.goto 4, 3) := by decide +kernel
theorem dX6_column_150 : decode cX6_column 150 = .ok (.iconst 0, 1) := by decide +kernel
theorem dX6_column_151 : decode cX6_column 151 = .ok (.iadd, 1) := by decide +kernel
theorem dX6_column_152 : decode cX6_column 152 = .ok (.istore 4, 2) := by decide +kernel
theorem dX6_column_154 : decode cX6_column 154 = .ok (.iload 5, 2) := by decide +kernel
theorem dX6_column_156 : decode cX6_column 156 = .ok (.iload 9, 2) := by decide +kernel
theorem dX6_column_158 : decode cX6_column 158 = .ok (.ifCond .eq 7, 3) := by decide +kernel
theorem dX6_column_161 : decode cX6_column 161 = .ok (.iconst 1, 1) := by decide +kernel
theorem dX6_column_162 : decode cX6_column 162 = .ok (.goto 4, 3) := by decide +kernel
theorem dX6_column_165 : decode cX6_column 165 = .ok (.iconst 0, 1) := by decide +kernel
theorem dX6_column_166 : decode cX6_column 166 = .ok (.iadd, 1) := by decide +kernel
theorem dX6_column_167 : decode cX6_column 167 = .ok (.istore 5, 2) := by decide +kernel
theorem dX6_column_169 : decode cX6_column 169 = .ok (.iinc 6 1, 3) := by decide +kernel
theorem dX6_column_172 : decode cX6_column 172 = .ok (.goto (-156), 3) := by decide +kernel
theorem dX6_column_175 : decode cX6_column 175 = .ok (.iload_n 3, 1) := by decide +kernel
theorem dX6_column_176 : decode cX6_column 176 = .ok (.iconst (-1), 1) := by decide +kernel
theorem dX6_column_177 : decode cX6_column 177 = .ok (.if_icmp .ne 8, 3) := by decide +kernel
theorem dX6_column_180 : decode cX6_column 180 = .ok (.iload 6, 2) := by decide +kernel
theorem dX6_column_182 : decode cX6_column 182 = .ok (.goto 5, 3) := by decide +kernel
theorem dX6_column_185 : decode cX6_column 185 = .ok (.bipush (-9), 2) := by decide +kernel
theorem dX6_column_187 : decode cX6_column 187 = .ok (.ireturn, 1) := by decide +kernel
theorem dX6_isPair_0 : decode cX6_isPair 0 = .ok (.iload_n 3, 1) := by decide +kernel
theorem dX6_isPair_1 : decode cX6_isPair 1 = .ok (.aload_n 1, 1) := by decide +kernel
theorem dX6_isPair_2 : decode cX6_isPair 2 = .ok (.getfield 26, 3) := by decide +kernel
theorem dX6_isPair_5 : decode cX6_isPair 5 = .ok (.if_icmp .ge 40, 3) := by decide +kernel
theorem dX6_isPair_8 : decode cX6_isPair 8 = .ok (.iload 4, 2) := by decide +kernel
theorem dX6_isPair_10 : decode cX6_isPair 10 = .ok (.aload_n 2, 1) := by decide +kernel
theorem dX6_isPair_11 : decode cX6_isPair 11 = .ok (.getfield 26, 3) := by decide +kernel
theorem dX6_isPair_14 : decode cX6_isPair 14 = .ok (.if_icmp .ge 31, 3) := by decide +kernel
theorem dX6_isPair_17 : decode cX6_isPair 17 = .ok (.aload_n 0, 1) := by decide +kernel
theorem dX6_isPair_18 : decode cX6_isPair 18 = .ok (.getfield 11, 3) := by decide +kernel
theorem dX6_isPair_21 : decode cX6_isPair 21 = .ok (.iload_n 3, 1) := by decide +kernel
theorem dX6_isPair_22 : decode cX6_isPair 22 = .ok (.bipush 9, 2) := by decide +kernel
theorem dX6_isPair_24 : decode cX6_isPair 24 = .ok (.imul, 1) := by decide +kernel
theorem dX6_isPair_25 : decode cX6_isPair 25 = .ok (.iload 4, 2) := by decide +kernel
theorem dX6_isPair_27 : decode cX6_isPair 27 = .ok (.iadd, 1) := by decide +kernel
theorem dX6_isPair_28 : decode cX6_isPair 28 = .ok (.iaload, 1) := by decide +kernel
theorem dX6_isPair_29 : decode cX6_isPair 29 = .ok (.aload_n 0, 1) := by decide +kernel
theorem dX6_isPair_30 : decode cX6_isPair 30 = .ok (.aload_n 1, 1) := by decide +kernel
theorem dX6_isPair_31 : decode cX6_isPair 31 = .ok (.aload_n 2, 1) := by decide +kernel
theorem dX6_isPair_32 : decode cX6_isPair 32 = .ok (.iload_n 3, 1) := by decide +kernel
theorem dX6_isPair_33 : decode cX6_isPair 33 = .ok (.iload 4, 2) := by decide +kernel
theorem dX6_isPair_35 : decode cX6_isPair 35 = .ok (.invokevirtual 37, 3) := by decide +kernel
theorem dX6_isPair_38 : decode cX6_isPair 38 = .ok (.if_icmp .ne 7, 3) := by decide +kernel
theorem dX6_isPair_41 : decode cX6_isPair 41 = .ok (.iconst 1, 1) := by decide +kernel
theorem dX6_isPair_42 : decode cX6_isPair 42 = .ok (.goto 4, 3) := by decide +kernel
theorem dX6_isPair_45 : decode cX6_isPair 45 = .ok (.iconst 0, 1) := by decide +kernel
theorem dX6_isPair_46 : decode cX6_isPair 46 = .ok (.ireturn, 1) := by decide +kernel
theorem dX6_isFirstAlone_0 : decode cX6_isFirstAlone 0 = .ok (.iload_n 2, 1) := by decide +kernel
theorem dX6_isFirstAlone_1 : decode cX6_isFirstAlone 1 = .ok (.aload_n 1, 1) := by decide +kernel
theorem dX6_isFirstAlone_2 : decode cX6_isFirstAlone 2 = .ok (.getfield 26, 3) := by decide +kernel
theorem dX6_isFirstAlone_5 : decode cX6_isFirstAlone 5 = .ok (.if_icmp .ge 39, 3) := by decide +kernel
theorem dX6_isFirstAlone_8 : decode cX6_isFirstAlone 8 = .ok (.aload_n 0, 1) := by decide +kernel
theorem dX6_isFirstAlone_9 : decode cX6_isFirstAlone 9 = .ok (.getfield 11, 3) := by decide +kernel
theorem dX6_isFirstAlone_12 : decode cX6_isFirstAlone 12 = .ok (.iload_n 2, 1) := by decide +kernel
theorem dX6_isFirstAlone_13 : decode cX6_isFirstAlone 13 = .ok (.bipush 9, 2) := by decide +kernel
theorem dX6_isFirstAlone_15 : decode cX6_isFirstAlone 15 = .ok (.imul, 1) := by decide +kernel
theorem dX6_isFirstAlone_16 : decode cX6_isFirstAlone 16 = .ok (.iload_n 3, 1) := by decide +kernel
theorem dX6_isFirstAlone_17 : decode cX6_isFirstAlone 17 = .ok (.iadd, 1) := by decide +kernel
theorem dX6_isFirstAlone_18 : decode cX6_isFirstAlone 18 = .ok (.iaload, 1) := by decide +kernel
theorem dX6_isFirstAlone_19 : decode cX6_isFirstAlone 19 = .ok (.aload_n 0, 1) := by decide +kernel
theorem dX6_isFirstAlone_20 : decode cX6_isFirstAlone 20 = .ok (.getfield 11, 3) := by decide +kernel
theorem dX6_isFirstAlone_23 : decode cX6_isFirstAlone 23 = .ok (.iload_n 2, 1) := by decide +kernel
theorem dX6_isFirstAlone_24 : decode cX6_isFirstAlone 24 = .ok (.iconst 1, 1) := by decide +kernel
theorem dX6_isFirstAlone_25 : decode cX6_isFirstAlone 25 = .ok (.iadd, 1) := by decide +kernel
theorem dX6_isFirstAlone_26 : decode cX6_isFirstAlone 26 = .ok (.bipush 9, 2) := by decide +kernel
theorem dX6_isFirstAlone_28 : decode cX6_isFirstAlone 28 = .ok (.imul, 1) := by decide +kernel
theorem dX6_isFirstAlone_29 : decode cX6_isFirstAlone 29 = .ok (.iload_n 3, 1) := by decide +kernel
theorem dX6_isFirstAlone_30 : decode cX6_isFirstAlone 30 = .ok (.iadd, 1) := by decide +kernel
theorem dX6_isFirstAlone_31 : decode cX6_isFirstAlone 31 = .ok (.iaload, 1) := by decide +kernel
theorem dX6_isFirstAlone_32 : decode cX6_isFirstAlone 32 = .ok (.aload_n 0, 1) := by decide +kernel
theorem dX6_isFirstAlone_33 : decode cX6_isFirstAlone 33 = .ok (.getfield 15, 3) := by decide +kernel
theorem dX6_isFirstAlone_36 : decode cX6_isFirstAlone 36 = .ok (.iadd, 1) := by decide +kernel
theorem dX6_isFirstAlone_37 : decode cX6_isFirstAlone 37 = .ok (.if_icmp .ne 7, 3) := by decide +kernel
theorem dX6_isFirstAlone_40 : decode cX6_isFirstAlone 40 = .ok (.iconst 1, 1) := by decide +kernel
theorem dX6_isFirstAlone_41 : decode cX6_isFirstAlone 41 = .ok (.goto 4, 3) := by decide +kernel
theorem dX6_isFirstAlone_44 : decode cX6_isFirstAlone 44 = .ok (.iconst 0, 1) := by decide +kernel
theorem dX6_isFirstAlone_45 : decode cX6_isFirstAlone 45 = .ok (.ireturn, 1) := by decide +kernel
theorem dX7_init_0 : decode cX7_init 0 = .ok (.aload_n 0, 1) := by decide +kernel
theorem dX7_init_1 : decode cX7_init 1 = .ok (.invokespecial 3, 3) := by decide +kernel
theorem dX7_init_4 : decode cX7_init 4 = .ok (.aload_n 0, 1) := by decide +kernel
theorem dX7_init_5 : decode cX7_init 5 = .ok (.bipush 8, 2) := by decide +kernel
theorem dX7_init_7 : decode cX7_init 7 = .ok (.newarray .int, 2) := by decide +kernel
theorem dX7_init_9 : decode cX7_init 9 = .ok (.putfield 9, 3) := by decide +kernel
theorem dX7_init_12 : decode cX7_init 12 = .ok (.aload_n 0, 1) := by decide +kernel
theorem dX7_init_13 : decode cX7_init 13 = .ok (.iconst 0, 1) := by decide +kernel
theorem dX7_init_14 : decode cX7_init 14 = .ok (.putfield 15, 3) := by decide +kernel
theorem dX7_init_17 : decode cX7_init 17 = .ok (.return_, 1) := by decide +kernel
theorem dX7_clear_0 : decode cX7_clear 0 = .ok (.aload_n 0, 1) := by decide +kernel
theorem dX7_clear_1 : decode cX7_clear 1 = .ok (.iconst 0, 1) := by decide +kernel
theorem dX7_clear_2 : decode cX7_clear 2 = .ok (.putfield 15, 3) := by decide +kernel
theorem dX7_clear_5 : decode cX7_clear 5 = .ok (.return_, 1) := by decide +kernel
theorem dX7_add_0 : decode cX7_add 0 = .ok (.aload_n 0, 1) := by decide +kernel
theorem dX7_add_1 : decode cX7_add 1 = .ok (.getfield 15, 3) := by decide +kernel
theorem dX7_add_4 : decode cX7_add 4 = .ok (.bipush 8, 2) := by decide +kernel
theorem dX7_add_6 : decode cX7_add 6 = .ok (.if_icmp .ge 23, 3) := by decide +kernel
theorem dX7_add_9 : decode cX7_add 9 = .ok (.aload_n 0, 1) := by decide +kernel
theorem dX7_add_10 : decode cX7_add 10 = .ok (.getfield 9, 3) := by decide +kernel
theorem dX7_add_13 : decode cX7_add 13 = .ok (.aload_n 0, 1) := by decide +kernel
theorem dX7_add_14 : decode cX7_add 14 = .ok (.getfield 15, 3) := by decide +kernel
theorem dX7_add_17 : decode cX7_add 17 = .ok (.iload_n 1, 1) := by decide +kernel
theorem dX7_add_18 : decode cX7_add 18 = .ok (.iastore, 1) := by decide +kernel
theorem dX7_add_19 : decode cX7_add 19 = .ok (.aload_n 0, 1) := by decide +kernel
theorem dX7_add_20 : decode cX7_add 20 = .ok (.dup, 1) := by decide +kernel
theorem dX7_add_21 : decode cX7_add 21 = .ok (.getfield 15, 3) := by decide +kernel
theorem dX7_add_24 : decode cX7_add 24 = .ok (.iconst 1, 1) := by decide +kernel
theorem dX7_add_25 : decode cX7_add 25 = .ok (.iadd, 1) := by decide +kernel
theorem dX7_add_26 : decode cX7_add 26 = .ok (.putfield 15, 3) := by decide +kernel
theorem dX7_add_29 : decode cX7_add 29 = .ok (.return_, 1) := by decide +kernel
theorem dX7_become_0 : decode cX7_become 0 = .ok (.aload_n 0, 1) := by decide +kernel
theorem dX7_become_1 : decode cX7_become 1 = .ok (.aload_n 1, 1) := by decide +kernel
theorem dX7_become_2 : decode cX7_become 2 = .ok (.getfield 15, 3) := by decide +kernel
theorem dX7_become_5 : decode cX7_become 5 = .ok (.putfield 15, 3) := by decide +kernel
theorem dX7_become_8 : decode cX7_become 8 = .ok (.aload_n 1, 1) := by decide +kernel
theorem dX7_become_9 : decode cX7_become 9 = .ok (.getfield 9, 3) := by decide +kernel
theorem dX7_become_12 : decode cX7_become 12 = .ok (.iconst 0, 1) := by decide +kernel
theorem dX7_become_13 : decode cX7_become 13 = .ok (.aload_n 0, 1) := by decide +kernel
theorem dX7_become_14 : decode cX7_become 14 = .ok (.getfield 9, 3) := by decide +kernel
theorem dX7_become_17 : decode cX7_become 17 = .ok (.iconst 0, 1) := by decide +kernel
theorem dX7_become_18 : decode cX7_become 18 = .ok (.aload_n 0, 1) := by decide +kernel
theorem dX7_become_19 : decode cX7_become 19 = .ok (.getfield 15, 3) := by decide +kernel
theorem dX7_become_22 : decode cX7_become 22 = .ok (.invokestatic 19, 3) := by decide +kernel
theorem dX7_become_25 : decode cX7_become 25 = .ok (.return_, 1) := by decide +kernel
theorem dX7_becomeCells_0 : decode cX7_becomeCells 0 = .ok (.aload_n 0, 1) := by decide +kernel
theorem dX7_becomeCells_1 : decode cX7_becomeCells 1 = .ok (.invokevirtual 25, 3) := by decide +kernel
theorem dX7_becomeCells_4 : decode cX7_becomeCells 4 = .ok (.iconst 0, 1) := by decide +kernel
theorem dX7_becomeCells_5 : decode cX7_becomeCells 5 = .ok (.istore_n 3, 1) := by decide +kernel
theorem dX7_becomeCells_6 : decode cX7_becomeCells 6 = .ok (.iload_n 3, 1) := by decide +kernel
theorem dX7_becomeCells_7 : decode cX7_becomeCells 7 = .ok (.iload_n 2, 1) := by decide +kernel
theorem dX7_becomeCells_8 : decode cX7_becomeCells 8 = .ok (.if_icmp .ge 16, 3) := by decide +kernel
theorem dX7_becomeCells_11 : decode cX7_becomeCells 11 = .ok (.aload_n 0, 1) := by decide +kernel
theorem dX7_becomeCells_12 : decode cX7_becomeCells 12 = .ok (.aload_n 1, 1) := by decide +kernel
theorem dX7_becomeCells_13 : decode cX7_becomeCells 13 = .ok (.iload_n 3, 1) := by decide +kernel
theorem dX7_becomeCells_14 : decode cX7_becomeCells 14 = .ok (.iaload, 1) := by decide +kernel
theorem dX7_becomeCells_15 : decode cX7_becomeCells 15 = .ok (.invokevirtual 28, 3) := by decide +kernel
theorem dX7_becomeCells_18 : decode cX7_becomeCells 18 = .ok (.iinc 3 1, 3) := by decide +kernel
theorem dX7_becomeCells_21 : decode cX7_becomeCells 21 = .ok (.goto (-15), 3) := by decide +kernel
theorem dX7_becomeCells_24 : decode cX7_becomeCells 24 = .ok (.return_, 1) := by decide +kernel
theorem dX7_at_0 : decode cX7_at 0 = .ok (.iload_n 1, 1) := by decide +kernel
theorem dX7_at_1 : decode cX7_at 1 = .ok (.aload_n 0, 1) := by decide +kernel
theorem dX7_at_2 : decode cX7_at 2 = .ok (.getfield 15, 3) := by decide +kernel
theorem dX7_at_5 : decode cX7_at 5 = .ok (.invokestatic 32, 3) := by decide +kernel
theorem dX7_at_8 : decode cX7_at 8 = .ok (.ifCond .eq 12, 3) := by decide +kernel
theorem dX7_at_11 : decode cX7_at 11 = .ok (.aload_n 0, 1) := by decide +kernel
theorem dX7_at_12 : decode cX7_at 12 = .ok (.getfield 9, 3) := by decide +kernel
theorem dX7_at_15 : decode cX7_at 15 = .ok (.iload_n 1, 1) := by decide +kernel
theorem dX7_at_16 : decode cX7_at 16 = .ok (.iaload, 1) := by decide +kernel
theorem dX7_at_17 : decode cX7_at 17 = .ok (.goto 5, 3) := by decide +kernel
theorem dX7_at_20 : decode cX7_at 20 = .ok (.bipush (-9), 2) := by decide +kernel
theorem dX7_at_22 : decode cX7_at 22 = .ok (.ireturn, 1) := by decide +kernel
theorem dX7_sizeOrAt_0 : decode cX7_sizeOrAt 0 = .ok (.iload_n 1, 1) := by decide +kernel
theorem dX7_sizeOrAt_1 : decode cX7_sizeOrAt 1 = .ok (.iconst (-1), 1) := by decide +kernel
theorem dX7_sizeOrAt_2 : decode cX7_sizeOrAt 2 = .ok (.if_icmp .ne 10, 3) := by decide +kernel
theorem dX7_sizeOrAt_5 : decode cX7_sizeOrAt 5 = .ok (.aload_n 0, 1) := by decide +kernel
theorem dX7_sizeOrAt_6 : decode cX7_sizeOrAt 6 = .ok (.getfield 15, 3) := by decide +kernel
theorem dX7_sizeOrAt_9 : decode cX7_sizeOrAt 9 = .ok (.goto 8, 3) := by decide +kernel
theorem dX7_sizeOrAt_12 : decode cX7_sizeOrAt 12 = .ok (.aload_n 0, 1) := by decide +kernel
theorem dX7_sizeOrAt_13 : decode cX7_sizeOrAt 13 = .ok (.iload_n 1, 1) := by decide +kernel
theorem dX7_sizeOrAt_14 : decode cX7_sizeOrAt 14 = .ok (.invokevirtual 36, 3) := by decide +kernel
theorem dX7_sizeOrAt_17 : decode cX7_sizeOrAt 17 = .ok (.ireturn, 1) := by decide +kernel
theorem dX7_isSame_0 : decode cX7_isSame 0 = .ok (.aload_n 0, 1) := by decide +kernel
theorem dX7_isSame_1 : decode cX7_isSame 1 = .ok (.getfield 15, 3) := by decide +kernel
theorem dX7_isSame_4 : decode cX7_isSame 4 = .ok (.aload_n 1, 1) := by decide +kernel
theorem dX7_isSame_5 : decode cX7_isSame 5 = .ok (.getfield 15, 3) := by decide +kernel
theorem dX7_isSame_8 : decode cX7_isSame 8 = .ok (.if_icmp .eq 5, 3) := by decide +kernel
theorem dX7_isSame_11 : decode cX7_isSame 11 = .ok (.iconst 0, 1) := by decide +kernel
theorem dX7_isSame_12 : decode cX7_isSame 12 = .ok (.ireturn, 1) := by decide +kernel
theorem dX7_isSame_13 : decode cX7_isSame 13 = .ok (.iconst 0, 1) := by decide +kernel
theorem dX7_isSame_14 : decode cX7_isSame 14 = .ok (.istore_n 2, 1) := by decide +kernel
theorem dX7_isSame_15 : decode cX7_isSame 15 = .ok (.iload_n 2, 1) := by decide +kernel
theorem dX7_isSame_16 : decode cX7_isSame 16 = .ok (.aload_n 0, 1) := by decide +kernel
theorem dX7_isSame_17 : decode cX7_isSame 17 = .ok (.getfield 15, 3) := by decide +kernel
theorem dX7_isSame_20 : decode cX7_isSame 20 = .ok (.if_icmp .ge 26, 3) := by decide +kernel
theorem dX7_isSame_23 : decode cX7_isSame 23 = .ok (.aload_n 0, 1) := by decide +kernel
theorem dX7_isSame_24 : decode cX7_isSame 24 = .ok (.getfield 9, 3) := by decide +kernel
theorem dX7_isSame_27 : decode cX7_isSame 27 = .ok (.iload_n 2, 1) := by decide +kernel
theorem dX7_isSame_28 : decode cX7_isSame 28 = .ok (.iaload, 1) := by decide +kernel
theorem dX7_isSame_29 : decode cX7_isSame 29 = .ok (.aload_n 1, 1) := by decide +kernel
theorem dX7_isSame_30 : decode cX7_isSame 30 = .ok (.getfield 9, 3) := by decide +kernel
theorem dX7_isSame_33 : decode cX7_isSame 33 = .ok (.iload_n 2, 1) := by decide +kernel
theorem dX7_isSame_34 : decode cX7_isSame 34 = .ok (.iaload, 1) := by decide +kernel
theorem dX7_isSame_35 : decode cX7_isSame 35 = .ok (.if_icmp .eq 5, 3) := by decide +kernel
theorem dX7_isSame_38 : decode cX7_isSame 38 = .ok (.iconst 0, 1) := by decide +kernel
theorem dX7_isSame_39 : decode cX7_isSame 39 = .ok (.ireturn, 1) := by decide +kernel
theorem dX7_isSame_40 : decode cX7_isSame 40 = .ok (.iinc 2 1, 3) := by decide +kernel
theorem dX7_isSame_43 : decode cX7_isSame 43 = .ok (.goto (-28), 3) := by decide +kernel
theorem dX7_isSame_46 : decode cX7_isSame 46 = .ok (.iconst 1, 1) := by decide +kernel
theorem dX7_isSame_47 : decode cX7_isSame 47 = .ok (.ireturn, 1) := by decide +kernel
theorem dX7_stepOrder_0 : decode cX7_stepOrder 0 = .ok (.aload_n 0, 1) := by decide +kernel
theorem dX7_stepOrder_1 : decode cX7_stepOrder 1 = .ok (.getfield 15, 3) := by decide +kernel
theorem dX7_stepOrder_4 : decode cX7_stepOrder 4 = .ok (.iconst 2, 1) := by decide +kernel
theorem dX7_stepOrder_5 : decode cX7_stepOrder 5 = .ok (.isub, 1) := by decide +kernel
theorem dX7_stepOrder_6 : decode cX7_stepOrder 6 = .ok (.istore_n 1, 1) := by decide +kernel
theorem dX7_stepOrder_7 : decode cX7_stepOrder 7 = .ok (.iload_n 1, 1) := by decide +kernel
theorem dX7_stepOrder_8 : decode cX7_stepOrder 8 = .ok (.ifCond .lt 26, 3) := by decide +kernel
theorem dX7_stepOrder_11 : decode cX7_stepOrder 11 = .ok (.aload_n 0, 1) := by decide +kernel
theorem dX7_stepOrder_12 : decode cX7_stepOrder 12 = .ok (.getfield 9, 3) := by decide +kernel
theorem dX7_stepOrder_15 : decode cX7_stepOrder 15 = .ok (.iload_n 1, 1) := by decide +kernel
theorem dX7_stepOrder_16 : decode cX7_stepOrder 16 = .ok (.iaload, 1) := by decide +kernel
theorem dX7_stepOrder_17 : decode cX7_stepOrder 17 = .ok (.aload_n 0, 1) := by decide +kernel
theorem dX7_stepOrder_18 : decode cX7_stepOrder 18 = .ok (.getfield 9, 3) := by decide +kernel
theorem dX7_stepOrder_21 : decode cX7_stepOrder 21 = .ok (.iload_n 1, 1) := by decide +kernel
theorem dX7_stepOrder_22 : decode cX7_stepOrder 22 = .ok (.iconst 1, 1) := by decide +kernel
theorem dX7_stepOrder_23 : decode cX7_stepOrder 23 = .ok (.iadd, 1) := by decide +kernel
theorem dX7_stepOrder_24 : decode cX7_stepOrder 24 = .ok (.iaload, 1) := by decide +kernel
theorem dX7_stepOrder_25 : decode cX7_stepOrder 25 = .ok (.if_icmp .le 9, 3) := by decide +kernel
theorem dX7_stepOrder_28 : decode cX7_stepOrder 28 = .ok (.iinc 1 (-1), 3) := by decide +kernel
theorem dX7_stepOrder_31 : decode cX7_stepOrder 31 = .ok (.goto (-24), 3) := by decide +kernel
theorem dX7_stepOrder_34 : decode cX7_stepOrder 34 = .ok (.iload_n 1, 1) := by decide +kernel
theorem dX7_stepOrder_35 : decode cX7_stepOrder 35 = .ok (.ifCond .ge 5, 3) := by decide +kernel
theorem dX7_stepOrder_38 : decode cX7_stepOrder 38 = .ok (.iconst 0, 1) := by decide +kernel
theorem dX7_stepOrder_39 : decode cX7_stepOrder 39 = .ok (.ireturn, 1) := by decide +kernel
theorem dX7_stepOrder_40 : decode cX7_stepOrder 40 = .ok (.aload_n 0, 1) := by decide +kernel
theorem dX7_stepOrder_41 : decode cX7_stepOrder 41 = .ok (.getfield 15, 3) := by decide +kernel
theorem dX7_stepOrder_44 : decode cX7_stepOrder 44 = .ok (.iconst 1, 1) := by decide +kernel
theorem dX7_stepOrder_45 : decode cX7_stepOrder 45 = .ok (.isub, 1) := by decide +kernel
theorem dX7_stepOrder_46 : decode cX7_stepOrder 46 = .ok (.istore_n 2, 1) := by decide +kernel
theorem dX7_stepOrder_47 : decode cX7_stepOrder 47 = .ok (.iload_n 2, 1) := by decide +kernel
theorem dX7_stepOrder_48 : decode cX7_stepOrder 48 = .ok (.iload_n 1, 1) := by decide +kernel
theorem dX7_stepOrder_49 : decode cX7_stepOrder 49 = .ok (.iconst 1, 1) := by decide +kernel
theorem dX7_stepOrder_50 : decode cX7_stepOrder 50 = .ok (.iadd, 1) := by decide +kernel
theorem dX7_stepOrder_51 : decode cX7_stepOrder 51 = .ok (.if_icmp .le 24, 3) := by decide +kernel
theorem dX7_stepOrder_54 : decode cX7_stepOrder 54 = .ok (.aload_n 0, 1) := by decide +kernel
theorem dX7_stepOrder_55 : decode cX7_stepOrder 55 = .ok (.getfield 9, 3) := by decide +kernel
theorem dX7_stepOrder_58 : decode cX7_stepOrder 58 = .ok (.iload_n 2, 1) := by decide +kernel
theorem dX7_stepOrder_59 : decode cX7_stepOrder 59 = .ok (.iaload, 1) := by decide +kernel
theorem dX7_stepOrder_60 : decode cX7_stepOrder 60 = .ok (.aload_n 0, 1) := by decide +kernel
theorem dX7_stepOrder_61 : decode cX7_stepOrder 61 = .ok (.getfield 9, 3) := by decide +kernel
theorem dX7_stepOrder_64 : decode cX7_stepOrder 64 = .ok (.iload_n 1, 1) := by decide +kernel
theorem dX7_stepOrder_65 : decode cX7_stepOrder 65 = .ok (.iaload, 1) := by decide +kernel
theorem dX7_stepOrder_66 : decode cX7_stepOrder 66 = .ok (.if_icmp .ge 9, 3) := by decide +kernel
theorem dX7_stepOrder_69 : decode cX7_stepOrder 69 = .ok (.iinc 2 (-1), 3) := by decide +kernel
theorem dX7_stepOrder_72 : decode cX7_stepOrder 72 = .ok (.goto (-25), 3) := by decide +kernel
theorem dX7_stepOrder_75 : decode cX7_stepOrder 75 = .ok (.aload_n 0, 1) := by decide +kernel
theorem dX7_stepOrder_76 : decode cX7_stepOrder 76 = .ok (.iload_n 1, 1) := by decide +kernel
theorem dX7_stepOrder_77 : decode cX7_stepOrder 77 = .ok (.iload_n 2, 1) := by decide +kernel
theorem dX7_stepOrder_78 : decode cX7_stepOrder 78 = .ok (.invokevirtual 40, 3) := by decide +kernel
theorem dX7_stepOrder_81 : decode cX7_stepOrder 81 = .ok (.iload_n 1, 1) := by decide +kernel
theorem dX7_stepOrder_82 : decode cX7_stepOrder 82 = .ok (.iconst 1, 1) := by decide +kernel
theorem dX7_stepOrder_83 : decode cX7_stepOrder 83 = .ok (.iadd, 1) := by decide +kernel
theorem dX7_stepOrder_84 : decode cX7_stepOrder 84 = .ok (.istore_n 3, 1) := by decide +kernel
theorem dX7_stepOrder_85 : decode cX7_stepOrder 85 = .ok (.aload_n 0, 1) := by decide +kernel
theorem dX7_stepOrder_86 : decode cX7_stepOrder 86 = .ok (.getfield 15, 3) := by decide +kernel
theorem dX7_stepOrder_89 : decode cX7_stepOrder 89 = .ok (.iconst 1, 1) := by decide +kernel
theorem dX7_stepOrder_90 : decode cX7_stepOrder 90 = .ok (.isub, 1) := by decide +kernel
theorem dX7_stepOrder_91 : decode cX7_stepOrder 91 = .ok (.istore 4, 2) := by decide +kernel
theorem dX7_stepOrder_93 : decode cX7_stepOrder 93 = .ok (.iload_n 3, 1) := by decide +kernel
theorem dX7_stepOrder_94 : decode cX7_stepOrder 94 = .ok (.iload 4, 2) := by decide +kernel
theorem dX7_stepOrder_96 : decode cX7_stepOrder 96 = .ok (.if_icmp .ge 19, 3) := by decide +kernel
theorem dX7_stepOrder_99 : decode cX7_stepOrder 99 = .ok (.aload_n 0, 1) := by decide +kernel
theorem dX7_stepOrder_100 : decode cX7_stepOrder 100 = .ok (.iload_n 3, 1) := by decide +kernel
theorem dX7_stepOrder_101 : decode cX7_stepOrder 101 = .ok (.iload 4, 2) := by decide +kernel
theorem dX7_stepOrder_103 : decode cX7_stepOrder 103 = .ok (.invokevirtual 40, 3) := by decide +kernel
theorem dX7_stepOrder_106 : decode cX7_stepOrder 106 = .ok (.iinc 3 1, 3) := by decide +kernel
theorem dX7_stepOrder_109 : decode cX7_stepOrder 109 = .ok (.iinc 4 (-1), 3) := by decide +kernel
theorem dX7_stepOrder_112 : decode cX7_stepOrder 112 = .ok (.goto (-19), 3) := by decide +kernel
theorem dX7_stepOrder_115 : decode cX7_stepOrder 115 = .ok (.iconst 1, 1) := by decide +kernel
theorem dX7_stepOrder_116 : decode cX7_stepOrder 116 = .ok (.ireturn, 1) := by decide +kernel
theorem dX7_swap_0 : decode cX7_swap 0 = .ok (.aload_n 0, 1) := by decide +kernel
theorem dX7_swap_1 : decode cX7_swap 1 = .ok (.getfield 9, 3) := by decide +kernel
theorem dX7_swap_4 : decode cX7_swap 4 = .ok (.iload_n 1, 1) := by decide +kernel
theorem dX7_swap_5 : decode cX7_swap 5 = .ok (.iaload, 1) := by decide +kernel
theorem dX7_swap_6 : decode cX7_swap 6 = .ok (.istore_n 3, 1) := by decide +kernel
theorem dX7_swap_7 : decode cX7_swap 7 = .ok (.aload_n 0, 1) := by decide +kernel
theorem dX7_swap_8 : decode cX7_swap 8 = .ok (.getfield 9, 3) := by decide +kernel
theorem dX7_swap_11 : decode cX7_swap 11 = .ok (.iload_n 1, 1) := by decide +kernel
theorem dX7_swap_12 : decode cX7_swap 12 = .ok (.aload_n 0, 1) := by decide +kernel
theorem dX7_swap_13 : decode cX7_swap 13 = .ok (.getfield 9, 3) := by decide +kernel
theorem dX7_swap_16 : decode cX7_swap 16 = .ok (.iload_n 2, 1) := by decide +kernel
theorem dX7_swap_17 : decode cX7_swap 17 = .ok (.iaload, 1) := by decide +kernel
theorem dX7_swap_18 : decode cX7_swap 18 = .ok (.iastore, 1) := by decide +kernel
theorem dX7_swap_19 : decode cX7_swap 19 = .ok (.aload_n 0, 1) := by decide +kernel
theorem dX7_swap_20 : decode cX7_swap 20 = .ok (.getfield 9, 3) := by decide +kernel
theorem dX7_swap_23 : decode cX7_swap 23 = .ok (.iload_n 2, 1) := by decide +kernel
theorem dX7_swap_24 : decode cX7_swap 24 = .ok (.iload_n 3, 1) := by decide +kernel
theorem dX7_swap_25 : decode cX7_swap 25 = .ok (.iastore, 1) := by decide +kernel
theorem dX7_swap_26 : decode cX7_swap 26 = .ok (.return_, 1) := by decide +kernel
theorem dX8_init_0 : decode cX8_init 0 = .ok (.aload_n 0, 1) := by decide +kernel
theorem dX8_init_1 : decode cX8_init 1 = .ok (.invokespecial 3, 3) := by decide +kernel
theorem dX8_init_4 : decode cX8_init 4 = .ok (.aload_n 0, 1) := by decide +kernel
theorem dX8_init_5 : decode cX8_init 5 = .ok (.bipush 60, 2) := by decide +kernel
theorem dX8_init_7 : decode cX8_init 7 = .ok (.newarray .int, 2) := by decide +kernel
theorem dX8_init_9 : decode cX8_init 9 = .ok (.putfield 9, 3) := by decide +kernel
theorem dX8_init_12 : decode cX8_init 12 = .ok (.aload_n 0, 1) := by decide +kernel
theorem dX8_init_13 : decode cX8_init 13 = .ok (.iconst 0, 1) := by decide +kernel
theorem dX8_init_14 : decode cX8_init 14 = .ok (.putfield 15, 3) := by decide +kernel
theorem dX8_init_17 : decode cX8_init 17 = .ok (.aload_n 0, 1) := by decide +kernel
theorem dX8_init_18 : decode cX8_init 18 = .ok (.iconst 0, 1) := by decide +kernel
theorem dX8_init_19 : decode cX8_init 19 = .ok (.putfield 19, 3) := by decide +kernel
theorem dX8_init_22 : decode cX8_init 22 = .ok (.aload_n 0, 1) := by decide +kernel
theorem dX8_init_23 : decode cX8_init 23 = .ok (.iconst 0, 1) := by decide +kernel
theorem dX8_init_24 : decode cX8_init 24 = .ok (.putfield 23, 3) := by decide +kernel
theorem dX8_init_27 : decode cX8_init 27 = .ok (.return_, 1) := by decide +kernel
theorem dX8_renew_0 : decode cX8_renew 0 = .ok (.aload_n 0, 1) := by decide +kernel
theorem dX8_renew_1 : decode cX8_renew 1 = .ok (.getfield 9, 3) := by decide +kernel
theorem dX8_renew_4 : decode cX8_renew 4 = .ok (.iconst 0, 1) := by decide +kernel
theorem dX8_renew_5 : decode cX8_renew 5 = .ok (.invokestatic 26, 3) := by decide +kernel
theorem dX8_renew_8 : decode cX8_renew 8 = .ok (.aload_n 0, 1) := by decide +kernel
theorem dX8_renew_9 : decode cX8_renew 9 = .ok (.iconst 1, 1) := by decide +kernel
theorem dX8_renew_10 : decode cX8_renew 10 = .ok (.putfield 15, 3) := by decide +kernel
theorem dX8_renew_13 : decode cX8_renew 13 = .ok (.aload_n 0, 1) := by decide +kernel
theorem dX8_renew_14 : decode cX8_renew 14 = .ok (.iload_n 1, 1) := by decide +kernel
theorem dX8_renew_15 : decode cX8_renew 15 = .ok (.putfield 19, 3) := by decide +kernel
theorem dX8_renew_18 : decode cX8_renew 18 = .ok (.aload_n 0, 1) := by decide +kernel
theorem dX8_renew_19 : decode cX8_renew 19 = .ok (.iload_n 2, 1) := by decide +kernel
theorem dX8_renew_20 : decode cX8_renew 20 = .ok (.putfield 23, 3) := by decide +kernel
theorem dX8_renew_23 : decode cX8_renew 23 = .ok (.return_, 1) := by decide +kernel
theorem dX8_loseRow_0 : decode cX8_loseRow 0 = .ok (.aload_n 0, 1) := by decide +kernel
theorem dX8_loseRow_1 : decode cX8_loseRow 1 = .ok (.getfield 15, 3) := by decide +kernel
theorem dX8_loseRow_4 : decode cX8_loseRow 4 = .ok (.istore_n 1, 1) := by decide +kernel
theorem dX8_loseRow_5 : decode cX8_loseRow 5 = .ok (.aload_n 0, 1) := by decide +kernel
theorem dX8_loseRow_6 : decode cX8_loseRow 6 = .ok (.iconst 0, 1) := by decide +kernel
theorem dX8_loseRow_7 : decode cX8_loseRow 7 = .ok (.putfield 15, 3) := by decide +kernel
theorem dX8_loseRow_10 : decode cX8_loseRow 10 = .ok (.iload_n 1, 1) := by decide +kernel
theorem dX8_loseRow_11 : decode cX8_loseRow 11 = .ok (.ireturn, 1) := by decide +kernel
theorem dX8_putCut_0 : decode cX8_putCut 0 = .ok (.aload_n 0, 1) := by decide +kernel
theorem dX8_putCut_1 : decode cX8_putCut 1 = .ok (.getfield 19, 3) := by decide +kernel
theorem dX8_putCut_4 : decode cX8_putCut 4 = .ok (.lookupswitch 50 #[(0, 28), (1, 39)], 28) := by decide +kernel
theorem dX8_putCut_32 : decode cX8_putCut 32 = .ok (.aload_n 0, 1) := by decide +kernel
theorem dX8_putCut_33 : decode cX8_putCut 33 = .ok (.getfield 9, 3) := by decide +kernel
theorem dX8_putCut_36 : decode cX8_putCut 36 = .ok (.iload_n 1, 1) := by decide +kernel
theorem dX8_putCut_37 : decode cX8_putCut 37 = .ok (.iload_n 2, 1) := by decide +kernel
theorem dX8_putCut_38 : decode cX8_putCut 38 = .ok (.i2b, 1) := by decide +kernel
theorem dX8_putCut_39 : decode cX8_putCut 39 = .ok (.iastore, 1) := by decide +kernel
theorem dX8_putCut_40 : decode cX8_putCut 40 = .ok (.goto 21, 3) := by decide +kernel
theorem dX8_putCut_43 : decode cX8_putCut 43 = .ok (.aload_n 0, 1) := by decide +kernel
theorem dX8_putCut_44 : decode cX8_putCut 44 = .ok (.getfield 9, 3) := by decide +kernel
theorem dX8_putCut_47 : decode cX8_putCut 47 = .ok (.iload_n 1, 1) := by decide +kernel
theorem dX8_putCut_48 : decode cX8_putCut 48 = .ok (.iload_n 2, 1) := by decide +kernel
theorem dX8_putCut_49 : decode cX8_putCut 49 = .ok (.i2s, 1) := by decide +kernel
theorem dX8_putCut_50 : decode cX8_putCut 50 = .ok (.iastore, 1) := by decide +kernel
theorem dX8_putCut_51 : decode cX8_putCut 51 = .ok (.goto 10, 3) := by decide +kernel
theorem dX8_putCut_54 : decode cX8_putCut 54 = .ok (.aload_n 0, 1) := by decide +kernel
theorem dX8_putCut_55 : decode cX8_putCut 55 = .ok (.getfield 9, 3) := by decide +kernel
theorem dX8_putCut_58 : decode cX8_putCut 58 = .ok (.iload_n 1, 1) := by decide +kernel
theorem dX8_putCut_59 : decode cX8_putCut 59 = .ok (.iload_n 2, 1) := by decide +kernel
theorem dX8_putCut_60 : decode cX8_putCut 60 = .ok (.iastore, 1) := by decide +kernel
theorem dX8_putCut_61 : decode cX8_putCut 61 = .ok (.return_, 1) := by decide +kernel
theorem dX8_faultOfRow_0 : decode cX8_faultOfRow 0 = .ok (.aload_n 0, 1) := by decide +kernel
theorem dX8_faultOfRow_1 : decode cX8_faultOfRow 1 = .ok (.getfield 15, 3) := by decide +kernel
theorem dX8_faultOfRow_4 : decode cX8_faultOfRow 4 = .ok (.ifCond .ne 5, 3) := by decide +kernel
theorem dX8_faultOfRow_7 : decode cX8_faultOfRow 7 = .ok (.iconst 1, 1) := by decide +kernel
theorem dX8_faultOfRow_8 : decode cX8_faultOfRow 8 = .ok (.ireturn, 1) := by decide +kernel
theorem dX8_faultOfRow_9 : decode cX8_faultOfRow 9 = .ok (.aload_n 0, 1) := by decide +kernel
theorem dX8_faultOfRow_10 : decode cX8_faultOfRow 10 = .ok (.getfield 19, 3) := by decide +kernel
theorem dX8_faultOfRow_13 : decode cX8_faultOfRow 13 = .ok (.iload_n 1, 1) := by decide +kernel
theorem dX8_faultOfRow_14 : decode cX8_faultOfRow 14 = .ok (.if_icmp .ne 7, 3) := by decide +kernel
theorem dX8_faultOfRow_17 : decode cX8_faultOfRow 17 = .ok (.iconst 0, 1) := by decide +kernel
theorem dX8_faultOfRow_18 : decode cX8_faultOfRow 18 = .ok (.goto 4, 3) := by decide +kernel
theorem dX8_faultOfRow_21 : decode cX8_faultOfRow 21 = .ok (.iconst 2, 1) := by decide +kernel
theorem dX8_faultOfRow_22 : decode cX8_faultOfRow 22 = .ok (.ireturn, 1) := by decide +kernel
theorem dX8_faultOfCells_0 : decode cX8_faultOfCells 0 = .ok (.aload_n 0, 1) := by decide +kernel
theorem dX8_faultOfCells_1 : decode cX8_faultOfCells 1 = .ok (.iload_n 1, 1) := by decide +kernel
theorem dX8_faultOfCells_2 : decode cX8_faultOfCells 2 = .ok (.invokevirtual 32, 3) := by decide +kernel
theorem dX8_faultOfCells_5 : decode cX8_faultOfCells 5 = .ok (.istore 4, 2) := by decide +kernel
theorem dX8_faultOfCells_7 : decode cX8_faultOfCells 7 = .ok (.iload 4, 2) := by decide +kernel
theorem dX8_faultOfCells_9 : decode cX8_faultOfCells 9 = .ok (.ifCond .eq 6, 3) := by decide +kernel
theorem dX8_faultOfCells_12 : decode cX8_faultOfCells 12 = .ok (.iload 4, 2) := by decide +kernel
theorem dX8_faultOfCells_14 : decode cX8_faultOfCells 14 = .ok (.ireturn, 1) := by decide +kernel
theorem dX8_faultOfCells_15 : decode cX8_faultOfCells 15 = .ok (.iload_n 3, 1) := by decide +kernel
theorem dX8_faultOfCells_16 : decode cX8_faultOfCells 16 = .ok (.ifCond .ge 5, 3) := by decide +kernel
theorem dX8_faultOfCells_19 : decode cX8_faultOfCells 19 = .ok (.iconst 4, 1) := by decide +kernel
theorem dX8_faultOfCells_20 : decode cX8_faultOfCells 20 = .ok (.ireturn, 1) := by decide +kernel
theorem dX8_faultOfCells_21 : decode cX8_faultOfCells 21 = .ok (.iload_n 2, 1) := by decide +kernel
theorem dX8_faultOfCells_22 : decode cX8_faultOfCells 22 = .ok (.iconst 0, 1) := by decide +kernel
theorem dX8_faultOfCells_23 : decode cX8_faultOfCells 23 = .ok (.aload_n 0, 1) := by decide +kernel
theorem dX8_faultOfCells_24 : decode cX8_faultOfCells 24 = .ok (.getfield 23, 3) := by decide +kernel
theorem dX8_faultOfCells_27 : decode cX8_faultOfCells 27 = .ok (.invokestatic 36, 3) := by decide +kernel
theorem dX8_faultOfCells_30 : decode cX8_faultOfCells 30 = .ok (.ifCond .eq 17, 3) := by decide +kernel
theorem dX8_faultOfCells_33 : decode cX8_faultOfCells 33 = .ok (.iload_n 3, 1) := by decide +kernel
theorem dX8_faultOfCells_34 : decode cX8_faultOfCells 34 = .ok (.aload_n 0, 1) := by decide +kernel
theorem dX8_faultOfCells_35 : decode cX8_faultOfCells 35 = .ok (.getfield 23, 3) := by decide +kernel
theorem dX8_faultOfCells_38 : decode cX8_faultOfCells 38 = .ok (.iload_n 2, 1) := by decide +kernel
theorem dX8_faultOfCells_39 : decode cX8_faultOfCells 39 = .ok (.isub, 1) := by decide +kernel
theorem dX8_faultOfCells_40 : decode cX8_faultOfCells 40 = .ok (.if_icmp .gt 7, 3) := by decide +kernel
theorem dX8_faultOfCells_43 : decode cX8_faultOfCells 43 = .ok (.iconst 0, 1) := by decide +kernel
theorem dX8_faultOfCells_44 : decode cX8_faultOfCells 44 = .ok (.goto 4, 3) := by decide +kernel
theorem dX8_faultOfCells_47 : decode cX8_faultOfCells 47 = .ok (.iconst 3, 1) := by decide +kernel
theorem dX8_faultOfCells_48 : decode cX8_faultOfCells 48 = .ok (.ireturn, 1) := by decide +kernel
theorem dX9_init_0 : decode cX9_init 0 = .ok (.aload_n 0, 1) := by decide +kernel
theorem dX9_init_1 : decode cX9_init 1 = .ok (.invokespecial 3, 3) := by decide +kernel
theorem dX9_init_4 : decode cX9_init 4 = .ok (.aload_n 0, 1) := by decide +kernel
theorem dX9_init_5 : decode cX9_init 5 = .ok (.bipush 16, 2) := by decide +kernel
theorem dX9_init_7 : decode cX9_init 7 = .ok (.newarray .int, 2) := by decide +kernel
theorem dX9_init_9 : decode cX9_init 9 = .ok (.putfield 9, 3) := by decide +kernel
theorem dX9_init_12 : decode cX9_init 12 = .ok (.aload_n 0, 1) := by decide +kernel
theorem dX9_init_13 : decode cX9_init 13 = .ok (.bipush 16, 2) := by decide +kernel
theorem dX9_init_15 : decode cX9_init 15 = .ok (.newarray .int, 2) := by decide +kernel
theorem dX9_init_17 : decode cX9_init 17 = .ok (.putfield 15, 3) := by decide +kernel
theorem dX9_init_20 : decode cX9_init 20 = .ok (.return_, 1) := by decide +kernel
theorem dX9_become_0 : decode cX9_become 0 = .ok (.aload_n 0, 1) := by decide +kernel
theorem dX9_become_1 : decode cX9_become 1 = .ok (.getfield 9, 3) := by decide +kernel
theorem dX9_become_4 : decode cX9_become 4 = .ok (.iload_n 1, 1) := by decide +kernel
theorem dX9_become_5 : decode cX9_become 5 = .ok (.iaload, 1) := by decide +kernel
theorem dX9_become_6 : decode cX9_become 6 = .ok (.iload_n 2, 1) := by decide +kernel
theorem dX9_become_7 : decode cX9_become 7 = .ok (.if_icmp .ne 15, 3) := by decide +kernel
theorem dX9_become_10 : decode cX9_become 10 = .ok (.aload_n 0, 1) := by decide +kernel
theorem dX9_become_11 : decode cX9_become 11 = .ok (.getfield 15, 3) := by decide +kernel
theorem dX9_become_14 : decode cX9_become 14 = .ok (.iload_n 1, 1) := by decide +kernel
theorem dX9_become_15 : decode cX9_become 15 = .ok (.iaload, 1) := by decide +kernel
theorem dX9_become_16 : decode cX9_become 16 = .ok (.iload_n 3, 1) := by decide +kernel
theorem dX9_become_17 : decode cX9_become 17 = .ok (.if_icmp .ne 5, 3) := by decide +kernel
theorem dX9_become_20 : decode cX9_become 20 = .ok (.iconst 0, 1) := by decide +kernel
theorem dX9_become_21 : decode cX9_become 21 = .ok (.ireturn, 1) := by decide +kernel
theorem dX9_become_22 : decode cX9_become 22 = .ok (.aload_n 0, 1) := by decide +kernel
theorem dX9_become_23 : decode cX9_become 23 = .ok (.getfield 9, 3) := by decide +kernel
theorem dX9_become_26 : decode cX9_become 26 = .ok (.iload_n 1, 1) := by decide +kernel
theorem dX9_become_27 : decode cX9_become 27 = .ok (.iload_n 2, 1) := by decide +kernel
theorem dX9_become_28 : decode cX9_become 28 = .ok (.iastore, 1) := by decide +kernel
theorem dX9_become_29 : decode cX9_become 29 = .ok (.aload_n 0, 1) := by decide +kernel
theorem dX9_become_30 : decode cX9_become 30 = .ok (.getfield 15, 3) := by decide +kernel
theorem dX9_become_33 : decode cX9_become 33 = .ok (.iload_n 1, 1) := by decide +kernel
theorem dX9_become_34 : decode cX9_become 34 = .ok (.iload_n 3, 1) := by decide +kernel
theorem dX9_become_35 : decode cX9_become 35 = .ok (.iastore, 1) := by decide +kernel
theorem dX9_become_36 : decode cX9_become 36 = .ok (.iconst 1, 1) := by decide +kernel
theorem dX9_become_37 : decode cX9_become 37 = .ok (.ireturn, 1) := by decide +kernel
theorem dX9_difference_0 : decode cX9_difference 0 = .ok (.aload_n 0, 1) := by decide +kernel
theorem dX9_difference_1 : decode cX9_difference 1 = .ok (.getfield 9, 3) := by decide +kernel
theorem dX9_difference_4 : decode cX9_difference 4 = .ok (.iload_n 1, 1) := by decide +kernel
theorem dX9_difference_5 : decode cX9_difference 5 = .ok (.iaload, 1) := by decide +kernel
theorem dX9_difference_6 : decode cX9_difference 6 = .ok (.aload_n 0, 1) := by decide +kernel
theorem dX9_difference_7 : decode cX9_difference 7 = .ok (.getfield 15, 3) := by decide +kernel
theorem dX9_difference_10 : decode cX9_difference 10 = .ok (.iload_n 2, 1) := by decide +kernel
theorem dX9_difference_11 : decode cX9_difference 11 = .ok (.iaload, 1) := by decide +kernel
theorem dX9_difference_12 : decode cX9_difference 12 = .ok (.iand, 1) := by decide +kernel
theorem dX9_difference_13 : decode cX9_difference 13 = .ok (.aload_n 0, 1) := by decide +kernel
theorem dX9_difference_14 : decode cX9_difference 14 = .ok (.getfield 15, 3) := by decide +kernel
theorem dX9_difference_17 : decode cX9_difference 17 = .ok (.iload_n 1, 1) := by decide +kernel
theorem dX9_difference_18 : decode cX9_difference 18 = .ok (.iaload, 1) := by decide +kernel
theorem dX9_difference_19 : decode cX9_difference 19 = .ok (.aload_n 0, 1) := by decide +kernel
theorem dX9_difference_20 : decode cX9_difference 20 = .ok (.getfield 9, 3) := by decide +kernel
theorem dX9_difference_23 : decode cX9_difference 23 = .ok (.iload_n 2, 1) := by decide +kernel
theorem dX9_difference_24 : decode cX9_difference 24 = .ok (.iaload, 1) := by decide +kernel
theorem dX9_difference_25 : decode cX9_difference 25 = .ok (.iand, 1) := by decide +kernel
theorem dX9_difference_26 : decode cX9_difference 26 = .ok (.ior, 1) := by decide +kernel
theorem dX9_difference_27 : decode cX9_difference 27 = .ok (.istore_n 3, 1) := by decide +kernel
theorem dX9_difference_28 : decode cX9_difference 28 = .ok (.aload_n 0, 1) := by decide +kernel
theorem dX9_difference_29 : decode cX9_difference 29 = .ok (.getfield 9, 3) := by decide +kernel
theorem dX9_difference_32 : decode cX9_difference 32 = .ok (.iload_n 1, 1) := by decide +kernel
theorem dX9_difference_33 : decode cX9_difference 33 = .ok (.iaload, 1) := by decide +kernel
theorem dX9_difference_34 : decode cX9_difference 34 = .ok (.aload_n 0, 1) := by decide +kernel
theorem dX9_difference_35 : decode cX9_difference 35 = .ok (.getfield 15, 3) := by decide +kernel
theorem dX9_difference_38 : decode cX9_difference 38 = .ok (.iload_n 1, 1) := by decide +kernel
theorem dX9_difference_39 : decode cX9_difference 39 = .ok (.iaload, 1) := by decide +kernel
theorem dX9_difference_40 : decode cX9_difference 40 = .ok (.ior, 1) := by decide +kernel
theorem dX9_difference_41 : decode cX9_difference 41 = .ok (.aload_n 0, 1) := by decide +kernel
theorem dX9_difference_42 : decode cX9_difference 42 = .ok (.getfield 9, 3) := by decide +kernel
theorem dX9_difference_45 : decode cX9_difference 45 = .ok (.iload_n 2, 1) := by decide +kernel
theorem dX9_difference_46 : decode cX9_difference 46 = .ok (.iaload, 1) := by decide +kernel
theorem dX9_difference_47 : decode cX9_difference 47 = .ok (.aload_n 0, 1) := by decide +kernel
theorem dX9_difference_48 : decode cX9_difference 48 = .ok (.getfield 15, 3) := by decide +kernel
theorem dX9_difference_51 : decode cX9_difference 51 = .ok (.iload_n 2, 1) := by decide +kernel
theorem dX9_difference_52 : decode cX9_difference 52 = .ok (.iaload, 1) := by decide +kernel
theorem dX9_difference_53 : decode cX9_difference 53 = .ok (.ior, 1) := by decide +kernel
theorem dX9_difference_54 : decode cX9_difference 54 = .ok (.ixor, 1) := by decide +kernel
theorem dX9_difference_55 : decode cX9_difference 55 = .ok (.istore 4, 2) := by decide +kernel
theorem dX9_difference_57 : decode cX9_difference 57 = .ok (.iconst 2, 1) := by decide +kernel
theorem dX9_difference_58 : decode cX9_difference 58 = .ok (.iload_n 3, 1) := by decide +kernel
theorem dX9_difference_59 : decode cX9_difference 59 = .ok (.invokestatic 18, 3) := by decide +kernel
theorem dX9_difference_62 : decode cX9_difference 62 = .ok (.imul, 1) := by decide +kernel
theorem dX9_difference_63 : decode cX9_difference 63 = .ok (.iload 4, 2) := by decide +kernel
theorem dX9_difference_65 : decode cX9_difference 65 = .ok (.invokestatic 18, 3) := by decide +kernel
theorem dX9_difference_68 : decode cX9_difference 68 = .ok (.iadd, 1) := by decide +kernel
theorem dX9_difference_69 : decode cX9_difference 69 = .ok (.ireturn, 1) := by decide +kernel
theorem dX9_isOf_0 : decode cX9_isOf 0 = .ok (.iload_n 2, 1) := by decide +kernel
theorem dX9_isOf_1 : decode cX9_isOf 1 = .ok (.bipush 29, 2) := by decide +kernel
theorem dX9_isOf_3 : decode cX9_isOf 3 = .ok (.if_icmp .ne 5, 3) := by decide +kernel
theorem dX9_isOf_6 : decode cX9_isOf 6 = .ok (.iconst 1, 1) := by decide +kernel
theorem dX9_isOf_7 : decode cX9_isOf 7 = .ok (.ireturn, 1) := by decide +kernel
theorem dX9_isOf_8 : decode cX9_isOf 8 = .ok (.iload_n 1, 1) := by decide +kernel
theorem dX9_isOf_9 : decode cX9_isOf 9 = .ok (.bipush 16, 2) := by decide +kernel
theorem dX9_isOf_11 : decode cX9_isOf 11 = .ok (.invokestatic 26, 3) := by decide +kernel
theorem dX9_isOf_14 : decode cX9_isOf 14 = .ok (.ifCond .ne 15, 3) := by decide +kernel
theorem dX9_isOf_17 : decode cX9_isOf 17 = .ok (.iload_n 2, 1) := by decide +kernel
theorem dX9_isOf_18 : decode cX9_isOf 18 = .ok (.bipush 28, 2) := by decide +kernel
theorem dX9_isOf_20 : decode cX9_isOf 20 = .ok (.if_icmp .ne 7, 3) := by decide +kernel
theorem dX9_isOf_23 : decode cX9_isOf 23 = .ok (.iconst 1, 1) := by decide +kernel
theorem dX9_isOf_24 : decode cX9_isOf 24 = .ok (.goto 4, 3) := by decide +kernel
theorem dX9_isOf_27 : decode cX9_isOf 27 = .ok (.iconst 0, 1) := by decide +kernel
theorem dX9_isOf_28 : decode cX9_isOf 28 = .ok (.ireturn, 1) := by decide +kernel
theorem dX9_isOf_29 : decode cX9_isOf 29 = .ok (.iload_n 2, 1) := by decide +kernel
theorem dX9_isOf_30 : decode cX9_isOf 30 = .ok (.bipush 28, 2) := by decide +kernel
theorem dX9_isOf_32 : decode cX9_isOf 32 = .ok (.if_icmp .lt 5, 3) := by decide +kernel
theorem dX9_isOf_35 : decode cX9_isOf 35 = .ok (.iconst 0, 1) := by decide +kernel
theorem dX9_isOf_36 : decode cX9_isOf 36 = .ok (.ireturn, 1) := by decide +kernel
theorem dX9_isOf_37 : decode cX9_isOf 37 = .ok (.iload_n 2, 1) := by decide +kernel
theorem dX9_isOf_38 : decode cX9_isOf 38 = .ok (.bipush 22, 2) := by decide +kernel
theorem dX9_isOf_40 : decode cX9_isOf 40 = .ok (.if_icmp .lt 17, 3) := by decide +kernel
theorem dX9_isOf_43 : decode cX9_isOf 43 = .ok (.iload_n 2, 1) := by decide +kernel
theorem dX9_isOf_44 : decode cX9_isOf 44 = .ok (.bipush 22, 2) := by decide +kernel
theorem dX9_isOf_46 : decode cX9_isOf 46 = .ok (.isub, 1) := by decide +kernel
theorem dX9_isOf_47 : decode cX9_isOf 47 = .ok (.aload_n 0, 1) := by decide +kernel
theorem dX9_isOf_48 : decode cX9_isOf 48 = .ok (.getfield 15, 3) := by decide +kernel
theorem dX9_isOf_51 : decode cX9_isOf 51 = .ok (.iload_n 1, 1) := by decide +kernel
theorem dX9_isOf_52 : decode cX9_isOf 52 = .ok (.iaload, 1) := by decide +kernel
theorem dX9_isOf_53 : decode cX9_isOf 53 = .ok (.invokestatic 30, 3) := by decide +kernel
theorem dX9_isOf_56 : decode cX9_isOf 56 = .ok (.ireturn, 1) := by decide +kernel
theorem dX9_isOf_57 : decode cX9_isOf 57 = .ok (.iload_n 2, 1) := by decide +kernel
theorem dX9_isOf_58 : decode cX9_isOf 58 = .ok (.bipush 16, 2) := by decide +kernel
theorem dX9_isOf_60 : decode cX9_isOf 60 = .ok (.if_icmp .lt 19, 3) := by decide +kernel
theorem dX9_isOf_63 : decode cX9_isOf 63 = .ok (.iload_n 2, 1) := by decide +kernel
theorem dX9_isOf_64 : decode cX9_isOf 64 = .ok (.bipush 16, 2) := by decide +kernel
theorem dX9_isOf_66 : decode cX9_isOf 66 = .ok (.isub, 1) := by decide +kernel
theorem dX9_isOf_67 : decode cX9_isOf 67 = .ok (.aload_n 0, 1) := by decide +kernel
theorem dX9_isOf_68 : decode cX9_isOf 68 = .ok (.getfield 9, 3) := by decide +kernel
theorem dX9_isOf_71 : decode cX9_isOf 71 = .ok (.iload_n 1, 1) := by decide +kernel
theorem dX9_isOf_72 : decode cX9_isOf 72 = .ok (.iaload, 1) := by decide +kernel
theorem dX9_isOf_73 : decode cX9_isOf 73 = .ok (.invokestatic 30, 3) := by decide +kernel
theorem dX9_isOf_76 : decode cX9_isOf 76 = .ok (.goto 13, 3) := by decide +kernel
theorem dX9_isOf_79 : decode cX9_isOf 79 = .ok (.iload_n 1, 1) := by decide +kernel
theorem dX9_isOf_80 : decode cX9_isOf 80 = .ok (.iload_n 2, 1) := by decide +kernel
theorem dX9_isOf_81 : decode cX9_isOf 81 = .ok (.if_icmp .ne 7, 3) := by decide +kernel
theorem dX9_isOf_84 : decode cX9_isOf 84 = .ok (.iconst 1, 1) := by decide +kernel
theorem dX9_isOf_85 : decode cX9_isOf 85 = .ok (.goto 4, 3) := by decide +kernel
theorem dX9_isOf_88 : decode cX9_isOf 88 = .ok (.iconst 0, 1) := by decide +kernel
theorem dX9_isOf_89 : decode cX9_isOf 89 = .ok (.ireturn, 1) := by decide +kernel
theorem dJ6_numberOfTrailingZeros_0f7a4_0 : decode cJ6_numberOfTrailingZeros_0f7a4 0 = .ok (.iload_n 0, 1) := by decide +kernel
theorem dJ6_numberOfTrailingZeros_0f7a4_1 : decode cJ6_numberOfTrailingZeros_0f7a4 1 = .ok (.iconst (-1), 1) := by decide +kernel
theorem dJ6_numberOfTrailingZeros_0f7a4_2 : decode cJ6_numberOfTrailingZeros_0f7a4 2 = .ok (.ixor, 1) := by decide +kernel
theorem dJ6_numberOfTrailingZeros_0f7a4_3 : decode cJ6_numberOfTrailingZeros_0f7a4 3 = .ok (.iload_n 0, 1) := by decide +kernel
theorem dJ6_numberOfTrailingZeros_0f7a4_4 : decode cJ6_numberOfTrailingZeros_0f7a4 4 = .ok (.iconst 1, 1) := by decide +kernel
theorem dJ6_numberOfTrailingZeros_0f7a4_5 : decode cJ6_numberOfTrailingZeros_0f7a4 5 = .ok (.isub, 1) := by decide +kernel
theorem dJ6_numberOfTrailingZeros_0f7a4_6 : decode cJ6_numberOfTrailingZeros_0f7a4 6 = .ok (.iand, 1) := by decide +kernel
theorem dJ6_numberOfTrailingZeros_0f7a4_7 : decode cJ6_numberOfTrailingZeros_0f7a4 7 = .ok (.istore_n 0, 1) := by decide +kernel
theorem dJ6_numberOfTrailingZeros_0f7a4_8 : decode cJ6_numberOfTrailingZeros_0f7a4 8 = .ok (.iload_n 0, 1) := by decide +kernel
theorem dJ6_numberOfTrailingZeros_0f7a4_9 : decode cJ6_numberOfTrailingZeros_0f7a4 9 = .ok (.ifCond .gt 8, 3) := by decide +kernel
theorem dJ6_numberOfTrailingZeros_0f7a4_12 : decode cJ6_numberOfTrailingZeros_0f7a4 12 = .ok (.iload_n 0, 1) := by decide +kernel
theorem dJ6_numberOfTrailingZeros_0f7a4_13 : decode cJ6_numberOfTrailingZeros_0f7a4 13 = .ok (.bipush 32, 2) := by decide +kernel
theorem dJ6_numberOfTrailingZeros_0f7a4_15 : decode cJ6_numberOfTrailingZeros_0f7a4 15 = .ok (.iand, 1) := by decide +kernel
theorem dJ6_numberOfTrailingZeros_0f7a4_16 : decode cJ6_numberOfTrailingZeros_0f7a4 16 = .ok (.ireturn, 1) := by decide +kernel
theorem dJ6_numberOfTrailingZeros_0f7a4_17 : decode cJ6_numberOfTrailingZeros_0f7a4 17 = .ok (.iconst 1, 1) := by decide +kernel
theorem dJ6_numberOfTrailingZeros_0f7a4_18 : decode cJ6_numberOfTrailingZeros_0f7a4 18 = .ok (.istore_n 1, 1) := by decide +kernel
theorem dJ6_numberOfTrailingZeros_0f7a4_19 : decode cJ6_numberOfTrailingZeros_0f7a4 19 = .ok (.iload_n 0, 1) := by decide +kernel
theorem dJ6_numberOfTrailingZeros_0f7a4_20 : decode cJ6_numberOfTrailingZeros_0f7a4 20 = .ok (.ldc_w 264, 3) := by decide +kernel
theorem dJ6_numberOfTrailingZeros_0f7a4_23 : decode cJ6_numberOfTrailingZeros_0f7a4 23 = .ok (.if_icmp .le 11, 3) := by decide +kernel
theorem dJ6_numberOfTrailingZeros_0f7a4_26 : decode cJ6_numberOfTrailingZeros_0f7a4 26 = .ok (.iinc 1 16, 3) := by decide +kernel
theorem dJ6_numberOfTrailingZeros_0f7a4_29 : decode cJ6_numberOfTrailingZeros_0f7a4 29 = .ok (.iload_n 0, 1) := by decide +kernel
theorem dJ6_numberOfTrailingZeros_0f7a4_30 : decode cJ6_numberOfTrailingZeros_0f7a4 30 = .ok (.bipush 16, 2) := by decide +kernel
theorem dJ6_numberOfTrailingZeros_0f7a4_32 : decode cJ6_numberOfTrailingZeros_0f7a4 32 = .ok (.iushr, 1) := by decide +kernel
theorem dJ6_numberOfTrailingZeros_0f7a4_33 : decode cJ6_numberOfTrailingZeros_0f7a4 33 = .ok (.istore_n 0, 1) := by decide +kernel
theorem dJ6_numberOfTrailingZeros_0f7a4_34 : decode cJ6_numberOfTrailingZeros_0f7a4 34 = .ok (.iload_n 0, 1) := by decide +kernel
theorem dJ6_numberOfTrailingZeros_0f7a4_35 : decode cJ6_numberOfTrailingZeros_0f7a4 35 = .ok (.sipush 256, 3) := by decide +kernel
theorem dJ6_numberOfTrailingZeros_0f7a4_38 : decode cJ6_numberOfTrailingZeros_0f7a4 38 = .ok (.if_icmp .le 11, 3) := by decide +kernel
theorem dJ6_numberOfTrailingZeros_0f7a4_41 : decode cJ6_numberOfTrailingZeros_0f7a4 41 = .ok (.iinc 1 8, 3) := by decide +kernel
theorem dJ6_numberOfTrailingZeros_0f7a4_44 : decode cJ6_numberOfTrailingZeros_0f7a4 44 = .ok (.iload_n 0, 1) := by decide +kernel
theorem dJ6_numberOfTrailingZeros_0f7a4_45 : decode cJ6_numberOfTrailingZeros_0f7a4 45 = .ok (.bipush 8, 2) := by decide +kernel
theorem dJ6_numberOfTrailingZeros_0f7a4_47 : decode cJ6_numberOfTrailingZeros_0f7a4 47 = .ok (.iushr, 1) := by decide +kernel
theorem dJ6_numberOfTrailingZeros_0f7a4_48 : decode cJ6_numberOfTrailingZeros_0f7a4 48 = .ok (.istore_n 0, 1) := by decide +kernel
theorem dJ6_numberOfTrailingZeros_0f7a4_49 : decode cJ6_numberOfTrailingZeros_0f7a4 49 = .ok (.iload_n 0, 1) := by decide +kernel
theorem dJ6_numberOfTrailingZeros_0f7a4_50 : decode cJ6_numberOfTrailingZeros_0f7a4 50 = .ok (.bipush 16, 2) := by decide +kernel
theorem dJ6_numberOfTrailingZeros_0f7a4_52 : decode cJ6_numberOfTrailingZeros_0f7a4 52 = .ok (.if_icmp .le 10, 3) := by decide +kernel
theorem dJ6_numberOfTrailingZeros_0f7a4_55 : decode cJ6_numberOfTrailingZeros_0f7a4 55 = .ok (.iinc 1 4, 3) := by decide +kernel
theorem dJ6_numberOfTrailingZeros_0f7a4_58 : decode cJ6_numberOfTrailingZeros_0f7a4 58 = .ok (.iload_n 0, 1) := by decide +kernel
theorem dJ6_numberOfTrailingZeros_0f7a4_59 : decode cJ6_numberOfTrailingZeros_0f7a4 59 = .ok (.iconst 4, 1) := by decide +kernel
theorem dJ6_numberOfTrailingZeros_0f7a4_60 : decode cJ6_numberOfTrailingZeros_0f7a4 60 = .ok (.iushr, 1) := by decide +kernel
theorem dJ6_numberOfTrailingZeros_0f7a4_61 : decode cJ6_numberOfTrailingZeros_0f7a4 61 = .ok (.istore_n 0, 1) := by decide +kernel
theorem dJ6_numberOfTrailingZeros_0f7a4_62 : decode cJ6_numberOfTrailingZeros_0f7a4 62 = .ok (.iload_n 0, 1) := by decide +kernel
theorem dJ6_numberOfTrailingZeros_0f7a4_63 : decode cJ6_numberOfTrailingZeros_0f7a4 63 = .ok (.iconst 4, 1) := by decide +kernel
theorem dJ6_numberOfTrailingZeros_0f7a4_64 : decode cJ6_numberOfTrailingZeros_0f7a4 64 = .ok (.if_icmp .le 10, 3) := by decide +kernel
theorem dJ6_numberOfTrailingZeros_0f7a4_67 : decode cJ6_numberOfTrailingZeros_0f7a4 67 = .ok (.iinc 1 2, 3) := by decide +kernel
theorem dJ6_numberOfTrailingZeros_0f7a4_70 : decode cJ6_numberOfTrailingZeros_0f7a4 70 = .ok (.iload_n 0, 1) := by decide +kernel
theorem dJ6_numberOfTrailingZeros_0f7a4_71 : decode cJ6_numberOfTrailingZeros_0f7a4 71 = .ok (.iconst 2, 1) := by decide +kernel
theorem dJ6_numberOfTrailingZeros_0f7a4_72 : decode cJ6_numberOfTrailingZeros_0f7a4 72 = .ok (.iushr, 1) := by decide +kernel
theorem dJ6_numberOfTrailingZeros_0f7a4_73 : decode cJ6_numberOfTrailingZeros_0f7a4 73 = .ok (.istore_n 0, 1) := by decide +kernel
theorem dJ6_numberOfTrailingZeros_0f7a4_74 : decode cJ6_numberOfTrailingZeros_0f7a4 74 = .ok (.iload_n 1, 1) := by decide +kernel
theorem dJ6_numberOfTrailingZeros_0f7a4_75 : decode cJ6_numberOfTrailingZeros_0f7a4 75 = .ok (.iload_n 0, 1) := by decide +kernel
theorem dJ6_numberOfTrailingZeros_0f7a4_76 : decode cJ6_numberOfTrailingZeros_0f7a4 76 = .ok (.iconst 1, 1) := by decide +kernel
theorem dJ6_numberOfTrailingZeros_0f7a4_77 : decode cJ6_numberOfTrailingZeros_0f7a4 77 = .ok (.iushr, 1) := by decide +kernel
theorem dJ6_numberOfTrailingZeros_0f7a4_78 : decode cJ6_numberOfTrailingZeros_0f7a4 78 = .ok (.iadd, 1) := by decide +kernel
theorem dJ6_numberOfTrailingZeros_0f7a4_79 : decode cJ6_numberOfTrailingZeros_0f7a4 79 = .ok (.ireturn, 1) := by decide +kernel
theorem dJ6_bitCount_0f7a4_0 : decode cJ6_bitCount_0f7a4 0 = .ok (.iload_n 0, 1) := by decide +kernel
theorem dJ6_bitCount_0f7a4_1 : decode cJ6_bitCount_0f7a4 1 = .ok (.iload_n 0, 1) := by decide +kernel
theorem dJ6_bitCount_0f7a4_2 : decode cJ6_bitCount_0f7a4 2 = .ok (.iconst 1, 1) := by decide +kernel
theorem dJ6_bitCount_0f7a4_3 : decode cJ6_bitCount_0f7a4 3 = .ok (.iushr, 1) := by decide +kernel
theorem dJ6_bitCount_0f7a4_4 : decode cJ6_bitCount_0f7a4 4 = .ok (.ldc_w 265, 3) := by decide +kernel
theorem dJ6_bitCount_0f7a4_7 : decode cJ6_bitCount_0f7a4 7 = .ok (.iand, 1) := by decide +kernel
theorem dJ6_bitCount_0f7a4_8 : decode cJ6_bitCount_0f7a4 8 = .ok (.isub, 1) := by decide +kernel
theorem dJ6_bitCount_0f7a4_9 : decode cJ6_bitCount_0f7a4 9 = .ok (.istore_n 0, 1) := by decide +kernel
theorem dJ6_bitCount_0f7a4_10 : decode cJ6_bitCount_0f7a4 10 = .ok (.iload_n 0, 1) := by decide +kernel
theorem dJ6_bitCount_0f7a4_11 : decode cJ6_bitCount_0f7a4 11 = .ok (.ldc_w 266, 3) := by decide +kernel
theorem dJ6_bitCount_0f7a4_14 : decode cJ6_bitCount_0f7a4 14 = .ok (.iand, 1) := by decide +kernel
theorem dJ6_bitCount_0f7a4_15 : decode cJ6_bitCount_0f7a4 15 = .ok (.iload_n 0, 1) := by decide +kernel
theorem dJ6_bitCount_0f7a4_16 : decode cJ6_bitCount_0f7a4 16 = .ok (.iconst 2, 1) := by decide +kernel
theorem dJ6_bitCount_0f7a4_17 : decode cJ6_bitCount_0f7a4 17 = .ok (.iushr, 1) := by decide +kernel
theorem dJ6_bitCount_0f7a4_18 : decode cJ6_bitCount_0f7a4 18 = .ok (.ldc_w 266, 3) := by decide +kernel
theorem dJ6_bitCount_0f7a4_21 : decode cJ6_bitCount_0f7a4 21 = .ok (.iand, 1) := by decide +kernel
theorem dJ6_bitCount_0f7a4_22 : decode cJ6_bitCount_0f7a4 22 = .ok (.iadd, 1) := by decide +kernel
theorem dJ6_bitCount_0f7a4_23 : decode cJ6_bitCount_0f7a4 23 = .ok (.istore_n 0, 1) := by decide +kernel
theorem dJ6_bitCount_0f7a4_24 : decode cJ6_bitCount_0f7a4 24 = .ok (.iload_n 0, 1) := by decide +kernel
theorem dJ6_bitCount_0f7a4_25 : decode cJ6_bitCount_0f7a4 25 = .ok (.iload_n 0, 1) := by decide +kernel
theorem dJ6_bitCount_0f7a4_26 : decode cJ6_bitCount_0f7a4 26 = .ok (.iconst 4, 1) := by decide +kernel
theorem dJ6_bitCount_0f7a4_27 : decode cJ6_bitCount_0f7a4 27 = .ok (.iushr, 1) := by decide +kernel
theorem dJ6_bitCount_0f7a4_28 : decode cJ6_bitCount_0f7a4 28 = .ok (.iadd, 1) := by decide +kernel
theorem dJ6_bitCount_0f7a4_29 : decode cJ6_bitCount_0f7a4 29 = .ok (.ldc_w 267, 3) := by decide +kernel
theorem dJ6_bitCount_0f7a4_32 : decode cJ6_bitCount_0f7a4 32 = .ok (.iand, 1) := by decide +kernel
theorem dJ6_bitCount_0f7a4_33 : decode cJ6_bitCount_0f7a4 33 = .ok (.istore_n 0, 1) := by decide +kernel
theorem dJ6_bitCount_0f7a4_34 : decode cJ6_bitCount_0f7a4 34 = .ok (.iload_n 0, 1) := by decide +kernel
theorem dJ6_bitCount_0f7a4_35 : decode cJ6_bitCount_0f7a4 35 = .ok (.iload_n 0, 1) := by decide +kernel
theorem dJ6_bitCount_0f7a4_36 : decode cJ6_bitCount_0f7a4 36 = .ok (.bipush 8, 2) := by decide +kernel
theorem dJ6_bitCount_0f7a4_38 : decode cJ6_bitCount_0f7a4 38 = .ok (.iushr, 1) := by decide +kernel
theorem dJ6_bitCount_0f7a4_39 : decode cJ6_bitCount_0f7a4 39 = .ok (.iadd, 1) := by decide +kernel
theorem dJ6_bitCount_0f7a4_40 : decode cJ6_bitCount_0f7a4 40 = .ok (.istore_n 0, 1) := by decide +kernel
theorem dJ6_bitCount_0f7a4_41 : decode cJ6_bitCount_0f7a4 41 = .ok (.iload_n 0, 1) := by decide +kernel
theorem dJ6_bitCount_0f7a4_42 : decode cJ6_bitCount_0f7a4 42 = .ok (.iload_n 0, 1) := by decide +kernel
theorem dJ6_bitCount_0f7a4_43 : decode cJ6_bitCount_0f7a4 43 = .ok (.bipush 16, 2) := by decide +kernel
theorem dJ6_bitCount_0f7a4_45 : decode cJ6_bitCount_0f7a4 45 = .ok (.iushr, 1) := by decide +kernel
theorem dJ6_bitCount_0f7a4_46 : decode cJ6_bitCount_0f7a4 46 = .ok (.iadd, 1) := by decide +kernel
theorem dJ6_bitCount_0f7a4_47 : decode cJ6_bitCount_0f7a4 47 = .ok (.istore_n 0, 1) := by decide +kernel
theorem dJ6_bitCount_0f7a4_48 : decode cJ6_bitCount_0f7a4 48 = .ok (.iload_n 0, 1) := by decide +kernel
theorem dJ6_bitCount_0f7a4_49 : decode cJ6_bitCount_0f7a4 49 = .ok (.bipush 63, 2) := by decide +kernel
theorem dJ6_bitCount_0f7a4_51 : decode cJ6_bitCount_0f7a4 51 = .ok (.iand, 1) := by decide +kernel
theorem dJ6_bitCount_0f7a4_52 : decode cJ6_bitCount_0f7a4 52 = .ok (.ireturn, 1) := by decide +kernel
theorem dJ9_min_7cf53_0 : decode cJ9_min_7cf53 0 = .ok (.iload_n 0, 1) := by decide +kernel
theorem dJ9_min_7cf53_1 : decode cJ9_min_7cf53 1 = .ok (.iload_n 1, 1) := by decide +kernel
theorem dJ9_min_7cf53_2 : decode cJ9_min_7cf53 2 = .ok (.if_icmp .gt 7, 3) := by decide +kernel
theorem dJ9_min_7cf53_5 : decode cJ9_min_7cf53 5 = .ok (.iload_n 0, 1) := by decide +kernel
theorem dJ9_min_7cf53_6 : decode cJ9_min_7cf53 6 = .ok (.goto 4, 3) := by decide +kernel
theorem dJ9_min_7cf53_9 : decode cJ9_min_7cf53 9 = .ok (.iload_n 1, 1) := by decide +kernel
theorem dJ9_min_7cf53_10 : decode cJ9_min_7cf53 10 = .ok (.ireturn, 1) := by decide +kernel
theorem dJ7_fill_53178_0 : decode cJ7_fill_53178 0 = .ok (.iconst 0, 1) := by decide +kernel
theorem dJ7_fill_53178_1 : decode cJ7_fill_53178 1 = .ok (.istore_n 2, 1) := by decide +kernel
theorem dJ7_fill_53178_2 : decode cJ7_fill_53178 2 = .ok (.aload_n 0, 1) := by decide +kernel
theorem dJ7_fill_53178_3 : decode cJ7_fill_53178 3 = .ok (.arraylength, 1) := by decide +kernel
theorem dJ7_fill_53178_4 : decode cJ7_fill_53178 4 = .ok (.istore_n 3, 1) := by decide +kernel
theorem dJ7_fill_53178_5 : decode cJ7_fill_53178 5 = .ok (.iload_n 2, 1) := by decide +kernel
theorem dJ7_fill_53178_6 : decode cJ7_fill_53178 6 = .ok (.iload_n 3, 1) := by decide +kernel
theorem dJ7_fill_53178_7 : decode cJ7_fill_53178 7 = .ok (.if_icmp .ge 13, 3) := by decide +kernel
theorem dJ7_fill_53178_10 : decode cJ7_fill_53178 10 = .ok (.aload_n 0, 1) := by decide +kernel
theorem dJ7_fill_53178_11 : decode cJ7_fill_53178 11 = .ok (.iload_n 2, 1) := by decide +kernel
theorem dJ7_fill_53178_12 : decode cJ7_fill_53178 12 = .ok (.iload_n 1, 1) := by decide +kernel
theorem dJ7_fill_53178_13 : decode cJ7_fill_53178 13 = .ok (.iastore, 1) := by decide +kernel
theorem dJ7_fill_53178_14 : decode cJ7_fill_53178 14 = .ok (.iinc 2 1, 3) := by decide +kernel
theorem dJ7_fill_53178_17 : decode cJ7_fill_53178 17 = .ok (.goto (-12), 3) := by decide +kernel
theorem dJ7_fill_53178_20 : decode cJ7_fill_53178 20 = .ok (.return_, 1) := by decide +kernel
end
section
theorem dX10_init_0 : decode cX10_init 0 = .ok (.aload_n 0, 1) := by decide +kernel
theorem dX10_init_1 : decode cX10_init 1 = .ok (.invokespecial 3, 3) := by decide +kernel
theorem dX10_init_4 : decode cX10_init 4 = .ok (.aload_n 0, 1) := by decide +kernel
theorem dX10_init_5 : decode cX10_init 5 = .ok (.new 9, 3) := by decide +kernel
theorem dX10_init_8 : decode cX10_init 8 = .ok (.dup, 1) := by decide +kernel
theorem dX10_init_9 : decode cX10_init 9 = .ok (.invokespecial 11, 3) := by decide +kernel
theorem dX10_init_12 : decode cX10_init 12 = .ok (.putfield 12, 3) := by decide +kernel
theorem dX10_init_15 : decode cX10_init 15 = .ok (.aload_n 0, 1) := by decide +kernel
theorem dX10_init_16 : decode cX10_init 16 = .ok (.iconst 3, 1) := by decide +kernel
theorem dX10_init_17 : decode cX10_init 17 = .ok (.anewarray 18, 3) := by decide +kernel
theorem dX10_init_20 : decode cX10_init 20 = .ok (.putfield 20, 3) := by decide +kernel
theorem dX10_init_23 : decode cX10_init 23 = .ok (.aload_n 0, 1) := by decide +kernel
theorem dX10_init_24 : decode cX10_init 24 = .ok (.bipush 8, 2) := by decide +kernel
theorem dX10_init_26 : decode cX10_init 26 = .ok (.newarray .int, 2) := by decide +kernel
theorem dX10_init_28 : decode cX10_init 28 = .ok (.putfield 24, 3) := by decide +kernel
theorem dX10_init_31 : decode cX10_init 31 = .ok (.aload_n 0, 1) := by decide +kernel
theorem dX10_init_32 : decode cX10_init 32 = .ok (.bipush 40, 2) := by decide +kernel
theorem dX10_init_34 : decode cX10_init 34 = .ok (.anewarray 28, 3) := by decide +kernel
theorem dX10_init_37 : decode cX10_init 37 = .ok (.putfield 30, 3) := by decide +kernel
theorem dX10_init_40 : decode cX10_init 40 = .ok (.aload_n 0, 1) := by decide +kernel
theorem dX10_init_41 : decode cX10_init 41 = .ok (.bipush 48, 2) := by decide +kernel
theorem dX10_init_43 : decode cX10_init 43 = .ok (.newarray .int, 2) := by decide +kernel
theorem dX10_init_45 : decode cX10_init 45 = .ok (.putfield 34, 3) := by decide +kernel
theorem dX10_init_48 : decode cX10_init 48 = .ok (.aload_n 0, 1) := by decide +kernel
theorem dX10_init_49 : decode cX10_init 49 = .ok (.bipush 6, 2) := by decide +kernel
theorem dX10_init_51 : decode cX10_init 51 = .ok (.anewarray 37, 3) := by decide +kernel
theorem dX10_init_54 : decode cX10_init 54 = .ok (.putfield 39, 3) := by decide +kernel
theorem dX10_init_57 : decode cX10_init 57 = .ok (.aload_n 0, 1) := by decide +kernel
theorem dX10_init_58 : decode cX10_init 58 = .ok (.new 43, 3) := by decide +kernel
theorem dX10_init_61 : decode cX10_init 61 = .ok (.dup, 1) := by decide +kernel
theorem dX10_init_62 : decode cX10_init 62 = .ok (.aload_n 0, 1) := by decide +kernel
theorem dX10_init_63 : decode cX10_init 63 = .ok (.getfield 12, 3) := by decide +kernel
theorem dX10_init_66 : decode cX10_init 66 = .ok (.invokespecial 45, 3) := by decide +kernel
theorem dX10_init_69 : decode cX10_init 69 = .ok (.putfield 48, 3) := by decide +kernel
theorem dX10_init_72 : decode cX10_init 72 = .ok (.aload_n 0, 1) := by decide +kernel
theorem dX10_init_73 : decode cX10_init 73 = .ok (.new 52, 3) := by decide +kernel
theorem dX10_init_76 : decode cX10_init 76 = .ok (.dup, 1) := by decide +kernel
theorem dX10_init_77 : decode cX10_init 77 = .ok (.aload_n 0, 1) := by decide +kernel
theorem dX10_init_78 : decode cX10_init 78 = .ok (.getfield 12, 3) := by decide +kernel
theorem dX10_init_81 : decode cX10_init 81 = .ok (.invokespecial 54, 3) := by decide +kernel
theorem dX10_init_84 : decode cX10_init 84 = .ok (.putfield 55, 3) := by decide +kernel
theorem dX10_init_87 : decode cX10_init 87 = .ok (.aload_n 0, 1) := by decide +kernel
theorem dX10_init_88 : decode cX10_init 88 = .ok (.new 59, 3) := by decide +kernel
theorem dX10_init_91 : decode cX10_init 91 = .ok (.dup, 1) := by decide +kernel
theorem dX10_init_92 : decode cX10_init 92 = .ok (.invokespecial 61, 3) := by decide +kernel
theorem dX10_init_95 : decode cX10_init 95 = .ok (.putfield 62, 3) := by decide +kernel
theorem dX10_init_98 : decode cX10_init 98 = .ok (.aload_n 0, 1) := by decide +kernel
theorem dX10_init_99 : decode cX10_init 99 = .ok (.iconst 4, 1) := by decide +kernel
theorem dX10_init_100 : decode cX10_init 100 = .ok (.anewarray 66, 3) := by decide +kernel
theorem dX10_init_103 : decode cX10_init 103 = .ok (.putfield 68, 3) := by decide +kernel
theorem dX10_init_106 : decode cX10_init 106 = .ok (.aload_n 0, 1) := by decide +kernel
theorem dX10_init_107 : decode cX10_init 107 = .ok (.bipush 60, 2) := by decide +kernel
theorem dX10_init_109 : decode cX10_init 109 = .ok (.newarray .int, 2) := by decide +kernel
theorem dX10_init_111 : decode cX10_init 111 = .ok (.putfield 72, 3) := by decide +kernel
theorem dX10_init_114 : decode cX10_init 114 = .ok (.aload_n 0, 1) := by decide +kernel
theorem dX10_init_115 : decode cX10_init 115 = .ok (.new 37, 3) := by decide +kernel
theorem dX10_init_118 : decode cX10_init 118 = .ok (.dup, 1) := by decide +kernel
theorem dX10_init_119 : decode cX10_init 119 = .ok (.invokespecial 75, 3) := by decide +kernel
theorem dX10_init_122 : decode cX10_init 122 = .ok (.putfield 76, 3) := by decide +kernel
theorem dX10_init_125 : decode cX10_init 125 = .ok (.aload_n 0, 1) := by decide +kernel
theorem dX10_init_126 : decode cX10_init 126 = .ok (.new 37, 3) := by decide +kernel
theorem dX10_init_129 : decode cX10_init 129 = .ok (.dup, 1) := by decide +kernel
theorem dX10_init_130 : decode cX10_init 130 = .ok (.invokespecial 75, 3) := by decide +kernel
theorem dX10_init_133 : decode cX10_init 133 = .ok (.putfield 80, 3) := by decide +kernel
theorem dX10_init_136 : decode cX10_init 136 = .ok (.aload_n 0, 1) := by decide +kernel
theorem dX10_init_137 : decode cX10_init 137 = .ok (.new 37, 3) := by decide +kernel
theorem dX10_init_140 : decode cX10_init 140 = .ok (.dup, 1) := by decide +kernel
theorem dX10_init_141 : decode cX10_init 141 = .ok (.invokespecial 75, 3) := by decide +kernel
theorem dX10_init_144 : decode cX10_init 144 = .ok (.putfield 83, 3) := by decide +kernel
theorem dX10_init_147 : decode cX10_init 147 = .ok (.aload_n 0, 1) := by decide +kernel
theorem dX10_init_148 : decode cX10_init 148 = .ok (.bipush 8, 2) := by decide +kernel
theorem dX10_init_150 : decode cX10_init 150 = .ok (.newarray .int, 2) := by decide +kernel
theorem dX10_init_152 : decode cX10_init 152 = .ok (.putfield 86, 3) := by decide +kernel
theorem dX10_init_155 : decode cX10_init 155 = .ok (.aload_n 0, 1) := by decide +kernel
theorem dX10_init_156 : decode cX10_init 156 = .ok (.iconst 0, 1) := by decide +kernel
theorem dX10_init_157 : decode cX10_init 157 = .ok (.putfield 89, 3) := by decide +kernel
theorem dX10_init_160 : decode cX10_init 160 = .ok (.aload_n 0, 1) := by decide +kernel
theorem dX10_init_161 : decode cX10_init 161 = .ok (.iconst 0, 1) := by decide +kernel
theorem dX10_init_162 : decode cX10_init 162 = .ok (.putfield 93, 3) := by decide +kernel
theorem dX10_init_165 : decode cX10_init 165 = .ok (.aload_n 0, 1) := by decide +kernel
theorem dX10_init_166 : decode cX10_init 166 = .ok (.iconst 0, 1) := by decide +kernel
theorem dX10_init_167 : decode cX10_init 167 = .ok (.putfield 96, 3) := by decide +kernel
theorem dX10_init_170 : decode cX10_init 170 = .ok (.aload_n 0, 1) := by decide +kernel
theorem dX10_init_171 : decode cX10_init 171 = .ok (.iconst 0, 1) := by decide +kernel
theorem dX10_init_172 : decode cX10_init 172 = .ok (.putfield 99, 3) := by decide +kernel
theorem dX10_init_175 : decode cX10_init 175 = .ok (.aload_n 0, 1) := by decide +kernel
theorem dX10_init_176 : decode cX10_init 176 = .ok (.iconst 0, 1) := by decide +kernel
theorem dX10_init_177 : decode cX10_init 177 = .ok (.putfield 102, 3) := by decide +kernel
theorem dX10_init_180 : decode cX10_init 180 = .ok (.iconst 0, 1) := by decide +kernel
theorem dX10_init_181 : decode cX10_init 181 = .ok (.istore_n 1, 1) := by decide +kernel
theorem dX10_init_182 : decode cX10_init 182 = .ok (.iload_n 1, 1) := by decide +kernel
theorem dX10_init_183 : decode cX10_init 183 = .ok (.iconst 3, 1) := by decide +kernel
theorem dX10_init_184 : decode cX10_init 184 = .ok (.if_icmp .ge 22, 3) := by decide +kernel
theorem dX10_init_187 : decode cX10_init 187 = .ok (.aload_n 0, 1) := by decide +kernel
theorem dX10_init_188 : decode cX10_init 188 = .ok (.getfield 20, 3) := by decide +kernel
theorem dX10_init_191 : decode cX10_init 191 = .ok (.iload_n 1, 1) := by decide +kernel
theorem dX10_init_192 : decode cX10_init 192 = .ok (.new 18, 3) := by decide +kernel
theorem dX10_init_195 : decode cX10_init 195 = .ok (.dup, 1) := by decide +kernel
theorem dX10_init_196 : decode cX10_init 196 = .ok (.invokespecial 105, 3) := by decide +kernel
theorem dX10_init_199 : decode cX10_init 199 = .ok (.aastore, 1) := by decide +kernel
theorem dX10_init_200 : decode cX10_init 200 = .ok (.iinc 1 1, 3) := by decide +kernel
theorem dX10_init_203 : decode cX10_init 203 = .ok (.goto (-21), 3) := by decide +kernel
theorem dX10_init_206 : decode cX10_init 206 = .ok (.iconst 0, 1) := by decide +kernel
theorem dX10_init_207 : decode cX10_init 207 = .ok (.istore_n 1, 1) := by decide +kernel
theorem dX10_init_208 : decode cX10_init 208 = .ok (.iload_n 1, 1) := by decide +kernel
theorem dX10_init_209 : decode cX10_init 209 = .ok (.bipush 40, 2) := by decide +kernel
theorem dX10_init_211 : decode cX10_init 211 = .ok (.if_icmp .ge 22, 3) := by decide +kernel
theorem dX10_init_214 : decode cX10_init 214 = .ok (.aload_n 0, 1) := by decide +kernel
theorem dX10_init_215 : decode cX10_init 215 = .ok (.getfield 30, 3) := by decide +kernel
theorem dX10_init_218 : decode cX10_init 218 = .ok (.iload_n 1, 1) := by decide +kernel
theorem dX10_init_219 : decode cX10_init 219 = .ok (.new 28, 3) := by decide +kernel
theorem dX10_init_222 : decode cX10_init 222 = .ok (.dup, 1) := by decide +kernel
theorem dX10_init_223 : decode cX10_init 223 = .ok (.invokespecial 106, 3) := by decide +kernel
theorem dX10_init_226 : decode cX10_init 226 = .ok (.aastore, 1) := by decide +kernel
theorem dX10_init_227 : decode cX10_init 227 = .ok (.iinc 1 1, 3) := by decide +kernel
theorem dX10_init_230 : decode cX10_init 230 = .ok (.goto (-22), 3) := by decide +kernel
theorem dX10_init_233 : decode cX10_init 233 = .ok (.iconst 0, 1) := by decide +kernel
theorem dX10_init_234 : decode cX10_init 234 = .ok (.istore_n 1, 1) := by decide +kernel
theorem dX10_init_235 : decode cX10_init 235 = .ok (.iload_n 1, 1) := by decide +kernel
theorem dX10_init_236 : decode cX10_init 236 = .ok (.bipush 6, 2) := by decide +kernel
theorem dX10_init_238 : decode cX10_init 238 = .ok (.if_icmp .ge 22, 3) := by decide +kernel
theorem dX10_init_241 : decode cX10_init 241 = .ok (.aload_n 0, 1) := by decide +kernel
theorem dX10_init_242 : decode cX10_init 242 = .ok (.getfield 39, 3) := by decide +kernel
theorem dX10_init_245 : decode cX10_init 245 = .ok (.iload_n 1, 1) := by decide +kernel
theorem dX10_init_246 : decode cX10_init 246 = .ok (.new 37, 3) := by decide +kernel
theorem dX10_init_249 : decode cX10_init 249 = .ok (.dup, 1) := by decide +kernel
theorem dX10_init_250 : decode cX10_init 250 = .ok (.invokespecial 75, 3) := by decide +kernel
theorem dX10_init_253 : decode cX10_init 253 = .ok (.aastore, 1) := by decide +kernel
theorem dX10_init_254 : decode cX10_init 254 = .ok (.iinc 1 1, 3) := by decide +kernel
theorem dX10_init_257 : decode cX10_init 257 = .ok (.goto (-22), 3) := by decide +kernel
theorem dX10_init_260 : decode cX10_init 260 = .ok (.iconst 0, 1) := by decide +kernel
theorem dX10_init_261 : decode cX10_init 261 = .ok (.istore_n 1, 1) := by decide +kernel
theorem dX10_init_262 : decode cX10_init 262 = .ok (.iload_n 1, 1) := by decide +kernel
theorem dX10_init_263 : decode cX10_init 263 = .ok (.iconst 4, 1) := by decide +kernel
theorem dX10_init_264 : decode cX10_init 264 = .ok (.if_icmp .ge 22, 3) := by decide +kernel
theorem dX10_init_267 : decode cX10_init 267 = .ok (.aload_n 0, 1) := by decide +kernel
theorem dX10_init_268 : decode cX10_init 268 = .ok (.getfield 68, 3) := by decide +kernel
theorem dX10_init_271 : decode cX10_init 271 = .ok (.iload_n 1, 1) := by decide +kernel
theorem dX10_init_272 : decode cX10_init 272 = .ok (.new 66, 3) := by decide +kernel
theorem dX10_init_275 : decode cX10_init 275 = .ok (.dup, 1) := by decide +kernel
theorem dX10_init_276 : decode cX10_init 276 = .ok (.invokespecial 107, 3) := by decide +kernel
theorem dX10_init_279 : decode cX10_init 279 = .ok (.aastore, 1) := by decide +kernel
theorem dX10_init_280 : decode cX10_init 280 = .ok (.iinc 1 1, 3) := by decide +kernel
theorem dX10_init_283 : decode cX10_init 283 = .ok (.goto (-21), 3) := by decide +kernel
theorem dX10_init_286 : decode cX10_init 286 = .ok (.aload_n 0, 1) := by decide +kernel
theorem dX10_init_287 : decode cX10_init 287 = .ok (.getfield 34, 3) := by decide +kernel
theorem dX10_init_290 : decode cX10_init 290 = .ok (.bipush (-9), 2) := by decide +kernel
theorem dX10_init_292 : decode cX10_init 292 = .ok (.invokestatic 108, 3) := by decide +kernel
theorem dX10_init_295 : decode cX10_init 295 = .ok (.return_, 1) := by decide +kernel
theorem dX10_sound_0 : decode cX10_sound 0 = .ok (.iload_n 1, 1) := by decide +kernel
theorem dX10_sound_1 : decode cX10_sound 1 = .ok (.bipush 16, 2) := by decide +kernel
theorem dX10_sound_3 : decode cX10_sound 3 = .ok (.invokestatic 114, 3) := by decide +kernel
theorem dX10_sound_6 : decode cX10_sound 6 = .ok (.ifCond .ne 5, 3) := by decide +kernel
theorem dX10_sound_9 : decode cX10_sound 9 = .ok (.iconst (-1), 1) := by decide +kernel
theorem dX10_sound_10 : decode cX10_sound 10 = .ok (.ireturn, 1) := by decide +kernel
theorem dX10_sound_11 : decode cX10_sound 11 = .ok (.iload_n 2, 1) := by decide +kernel
theorem dX10_sound_12 : decode cX10_sound 12 = .ok (.bipush 6, 2) := by decide +kernel
theorem dX10_sound_14 : decode cX10_sound 14 = .ok (.invokestatic 118, 3) := by decide +kernel
theorem dX10_sound_17 : decode cX10_sound 17 = .ok (.ifCond .eq 18, 3) := by decide +kernel
theorem dX10_sound_20 : decode cX10_sound 20 = .ok (.iload_n 3, 1) := by decide +kernel
theorem dX10_sound_21 : decode cX10_sound 21 = .ok (.bipush 6, 2) := by decide +kernel
theorem dX10_sound_23 : decode cX10_sound 23 = .ok (.invokestatic 118, 3) := by decide +kernel
theorem dX10_sound_26 : decode cX10_sound 26 = .ok (.ifCond .eq 9, 3) := by decide +kernel
theorem dX10_sound_29 : decode cX10_sound 29 = .ok (.iload_n 2, 1) := by decide +kernel
theorem dX10_sound_30 : decode cX10_sound 30 = .ok (.iload_n 3, 1) := by decide +kernel
theorem dX10_sound_31 : decode cX10_sound 31 = .ok (.iand, 1) := by decide +kernel
theorem dX10_sound_32 : decode cX10_sound 32 = .ok (.ifCond .eq 6, 3) := by decide +kernel
theorem dX10_sound_35 : decode cX10_sound 35 = .ok (.bipush (-2), 2) := by decide +kernel
theorem dX10_sound_37 : decode cX10_sound 37 = .ok (.ireturn, 1) := by decide +kernel
theorem dX10_sound_38 : decode cX10_sound 38 = .ok (.aload_n 0, 1) := by decide +kernel
theorem dX10_sound_39 : decode cX10_sound 39 = .ok (.getfield 12, 3) := by decide +kernel
theorem dX10_sound_42 : decode cX10_sound 42 = .ok (.iload_n 1, 1) := by decide +kernel
theorem dX10_sound_43 : decode cX10_sound 43 = .ok (.iload_n 2, 1) := by decide +kernel
theorem dX10_sound_44 : decode cX10_sound 44 = .ok (.iload_n 3, 1) := by decide +kernel
theorem dX10_sound_45 : decode cX10_sound 45 = .ok (.invokevirtual 121, 3) := by decide +kernel
theorem dX10_sound_48 : decode cX10_sound 48 = .ok (.ifCond .eq 7, 3) := by decide +kernel
theorem dX10_sound_51 : decode cX10_sound 51 = .ok (.iconst 1, 1) := by decide +kernel
theorem dX10_sound_52 : decode cX10_sound 52 = .ok (.goto 4, 3) := by decide +kernel
theorem dX10_sound_55 : decode cX10_sound 55 = .ok (.iconst 0, 1) := by decide +kernel
theorem dX10_sound_56 : decode cX10_sound 56 = .ok (.ireturn, 1) := by decide +kernel
theorem dX10_feature_0 : decode cX10_feature 0 = .ok (.iload_n 1, 1) := by decide +kernel
theorem dX10_feature_1 : decode cX10_feature 1 = .ok (.bipush 16, 2) := by decide +kernel
theorem dX10_feature_3 : decode cX10_feature 3 = .ok (.invokestatic 114, 3) := by decide +kernel
theorem dX10_feature_6 : decode cX10_feature 6 = .ok (.ifCond .ne 5, 3) := by decide +kernel
theorem dX10_feature_9 : decode cX10_feature 9 = .ok (.iconst (-1), 1) := by decide +kernel
theorem dX10_feature_10 : decode cX10_feature 10 = .ok (.ireturn, 1) := by decide +kernel
theorem dX10_feature_11 : decode cX10_feature 11 = .ok (.iload_n 2, 1) := by decide +kernel
theorem dX10_feature_12 : decode cX10_feature 12 = .ok (.bipush 6, 2) := by decide +kernel
theorem dX10_feature_14 : decode cX10_feature 14 = .ok (.invokestatic 114, 3) := by decide +kernel
theorem dX10_feature_17 : decode cX10_feature 17 = .ok (.ifCond .ne 6, 3) := by decide +kernel
theorem dX10_feature_20 : decode cX10_feature 20 = .ok (.bipush (-2), 2) := by decide +kernel
theorem dX10_feature_22 : decode cX10_feature 22 = .ok (.ireturn, 1) := by decide +kernel
theorem dX10_feature_23 : decode cX10_feature 23 = .ok (.iload_n 2, 1) := by decide +kernel
theorem dX10_feature_24 : decode cX10_feature 24 = .ok (.aload_n 0, 1) := by decide +kernel
theorem dX10_feature_25 : decode cX10_feature 25 = .ok (.getfield 12, 3) := by decide +kernel
theorem dX10_feature_28 : decode cX10_feature 28 = .ok (.getfield 125, 3) := by decide +kernel
theorem dX10_feature_31 : decode cX10_feature 31 = .ok (.iload_n 1, 1) := by decide +kernel
theorem dX10_feature_32 : decode cX10_feature 32 = .ok (.iaload, 1) := by decide +kernel
theorem dX10_feature_33 : decode cX10_feature 33 = .ok (.invokestatic 128, 3) := by decide +kernel
theorem dX10_feature_36 : decode cX10_feature 36 = .ok (.ifCond .eq 5, 3) := by decide +kernel
theorem dX10_feature_39 : decode cX10_feature 39 = .ok (.iconst 1, 1) := by decide +kernel
theorem dX10_feature_40 : decode cX10_feature 40 = .ok (.ireturn, 1) := by decide +kernel
theorem dX10_feature_41 : decode cX10_feature 41 = .ok (.iload_n 2, 1) := by decide +kernel
theorem dX10_feature_42 : decode cX10_feature 42 = .ok (.aload_n 0, 1) := by decide +kernel
theorem dX10_feature_43 : decode cX10_feature 43 = .ok (.getfield 12, 3) := by decide +kernel
theorem dX10_feature_46 : decode cX10_feature 46 = .ok (.getfield 131, 3) := by decide +kernel
theorem dX10_feature_49 : decode cX10_feature 49 = .ok (.iload_n 1, 1) := by decide +kernel
theorem dX10_feature_50 : decode cX10_feature 50 = .ok (.iaload, 1) := by decide +kernel
theorem dX10_feature_51 : decode cX10_feature 51 = .ok (.invokestatic 128, 3) := by decide +kernel
theorem dX10_feature_54 : decode cX10_feature 54 = .ok (.ifCond .eq 7, 3) := by decide +kernel
theorem dX10_feature_57 : decode cX10_feature 57 = .ok (.iconst 0, 1) := by decide +kernel
theorem dX10_feature_58 : decode cX10_feature 58 = .ok (.goto 5, 3) := by decide +kernel
theorem dX10_feature_61 : decode cX10_feature 61 = .ok (.bipush (-9), 2) := by decide +kernel
theorem dX10_feature_63 : decode cX10_feature 63 = .ok (.ireturn, 1) := by decide +kernel
theorem dX10_differ_0 : decode cX10_differ 0 = .ok (.iload_n 1, 1) := by decide +kernel
theorem dX10_differ_1 : decode cX10_differ 1 = .ok (.bipush 16, 2) := by decide +kernel
theorem dX10_differ_3 : decode cX10_differ 3 = .ok (.invokestatic 114, 3) := by decide +kernel
theorem dX10_differ_6 : decode cX10_differ 6 = .ok (.ifCond .eq 12, 3) := by decide +kernel
theorem dX10_differ_9 : decode cX10_differ 9 = .ok (.iload_n 2, 1) := by decide +kernel
theorem dX10_differ_10 : decode cX10_differ 10 = .ok (.bipush 16, 2) := by decide +kernel
theorem dX10_differ_12 : decode cX10_differ 12 = .ok (.invokestatic 114, 3) := by decide +kernel
theorem dX10_differ_15 : decode cX10_differ 15 = .ok (.ifCond .ne 5, 3) := by decide +kernel
theorem dX10_differ_18 : decode cX10_differ 18 = .ok (.iconst (-1), 1) := by decide +kernel
theorem dX10_differ_19 : decode cX10_differ 19 = .ok (.ireturn, 1) := by decide +kernel
theorem dX10_differ_20 : decode cX10_differ 20 = .ok (.aload_n 0, 1) := by decide +kernel
theorem dX10_differ_21 : decode cX10_differ 21 = .ok (.getfield 12, 3) := by decide +kernel
theorem dX10_differ_24 : decode cX10_differ 24 = .ok (.iload_n 1, 1) := by decide +kernel
theorem dX10_differ_25 : decode cX10_differ 25 = .ok (.iload_n 2, 1) := by decide +kernel
theorem dX10_differ_26 : decode cX10_differ 26 = .ok (.invokevirtual 134, 3) := by decide +kernel
theorem dX10_differ_29 : decode cX10_differ 29 = .ok (.ireturn, 1) := by decide +kernel
theorem dX10_entry_0 : decode cX10_entry 0 = .ok (.aload_n 0, 1) := by decide +kernel
theorem dX10_entry_1 : decode cX10_entry 1 = .ok (.iconst 0, 1) := by decide +kernel
theorem dX10_entry_2 : decode cX10_entry 2 = .ok (.putfield 102, 3) := by decide +kernel
theorem dX10_entry_5 : decode cX10_entry 5 = .ok (.iload_n 1, 1) := by decide +kernel
theorem dX10_entry_6 : decode cX10_entry 6 = .ok (.iconst 3, 1) := by decide +kernel
theorem dX10_entry_7 : decode cX10_entry 7 = .ok (.invokestatic 114, 3) := by decide +kernel
theorem dX10_entry_10 : decode cX10_entry 10 = .ok (.ifCond .eq 20, 3) := by decide +kernel
theorem dX10_entry_13 : decode cX10_entry 13 = .ok (.iload_n 2, 1) := by decide +kernel
theorem dX10_entry_14 : decode cX10_entry 14 = .ok (.bipush 16, 2) := by decide +kernel
theorem dX10_entry_16 : decode cX10_entry 16 = .ok (.invokestatic 114, 3) := by decide +kernel
theorem dX10_entry_19 : decode cX10_entry 19 = .ok (.ifCond .eq 11, 3) := by decide +kernel
theorem dX10_entry_22 : decode cX10_entry 22 = .ok (.iload_n 3, 1) := by decide +kernel
theorem dX10_entry_23 : decode cX10_entry 23 = .ok (.iconst 4, 1) := by decide +kernel
theorem dX10_entry_24 : decode cX10_entry 24 = .ok (.invokestatic 114, 3) := by decide +kernel
theorem dX10_entry_27 : decode cX10_entry 27 = .ok (.ifCond .ne 5, 3) := by decide +kernel
theorem dX10_entry_30 : decode cX10_entry 30 = .ok (.iconst (-1), 1) := by decide +kernel
theorem dX10_entry_31 : decode cX10_entry 31 = .ok (.ireturn, 1) := by decide +kernel
theorem dX10_entry_32 : decode cX10_entry 32 = .ok (.iload 4, 2) := by decide +kernel
theorem dX10_entry_34 : decode cX10_entry 34 = .ok (.iconst 3, 1) := by decide +kernel
theorem dX10_entry_35 : decode cX10_entry 35 = .ok (.invokestatic 114, 3) := by decide +kernel
theorem dX10_entry_38 : decode cX10_entry 38 = .ok (.ifCond .ne 6, 3) := by decide +kernel
theorem dX10_entry_41 : decode cX10_entry 41 = .ok (.bipush (-2), 2) := by decide +kernel
theorem dX10_entry_43 : decode cX10_entry 43 = .ok (.ireturn, 1) := by decide +kernel
theorem dX10_entry_44 : decode cX10_entry 44 = .ok (.aload_n 0, 1) := by decide +kernel
theorem dX10_entry_45 : decode cX10_entry 45 = .ok (.iload_n 3, 1) := by decide +kernel
theorem dX10_entry_46 : decode cX10_entry 46 = .ok (.iload 4, 2) := by decide +kernel
theorem dX10_entry_48 : decode cX10_entry 48 = .ok (.iload 5, 2) := by decide +kernel
theorem dX10_entry_50 : decode cX10_entry 50 = .ok (.iload 6, 2) := by decide +kernel
theorem dX10_entry_52 : decode cX10_entry 52 = .ok (.invokevirtual 138, 3) := by decide +kernel
theorem dX10_entry_55 : decode cX10_entry 55 = .ok (.istore 7, 2) := by decide +kernel
theorem dX10_entry_57 : decode cX10_entry 57 = .ok (.iload 7, 2) := by decide +kernel
theorem dX10_entry_59 : decode cX10_entry 59 = .ok (.ifCond .eq 6, 3) := by decide +kernel
theorem dX10_entry_62 : decode cX10_entry 62 = .ok (.iload 7, 2) := by decide +kernel
theorem dX10_entry_64 : decode cX10_entry 64 = .ok (.ireturn, 1) := by decide +kernel
theorem dX10_entry_65 : decode cX10_entry 65 = .ok (.iload 6, 2) := by decide +kernel
theorem dX10_entry_67 : decode cX10_entry 67 = .ok (.iconst 1, 1) := by decide +kernel
theorem dX10_entry_68 : decode cX10_entry 68 = .ok (.iconst 3, 1) := by decide +kernel
theorem dX10_entry_69 : decode cX10_entry 69 = .ok (.invokestatic 142, 3) := by decide +kernel
theorem dX10_entry_72 : decode cX10_entry 72 = .ok (.ifCond .eq 15, 3) := by decide +kernel
theorem dX10_entry_75 : decode cX10_entry 75 = .ok (.aload_n 0, 1) := by decide +kernel
theorem dX10_entry_76 : decode cX10_entry 76 = .ok (.sipush 128, 3) := by decide +kernel
theorem dX10_entry_79 : decode cX10_entry 79 = .ok (.iload 6, 2) := by decide +kernel
theorem dX10_entry_81 : decode cX10_entry 81 = .ok (.invokevirtual 145, 3) := by decide +kernel
theorem dX10_entry_84 : decode cX10_entry 84 = .ok (.ifCond .ne 6, 3) := by decide +kernel
theorem dX10_entry_87 : decode cX10_entry 87 = .ok (.bipush (-2), 2) := by decide +kernel
theorem dX10_entry_89 : decode cX10_entry 89 = .ok (.ireturn, 1) := by decide +kernel
theorem dX10_entry_90 : decode cX10_entry 90 = .ok (.aload_n 0, 1) := by decide +kernel
theorem dX10_entry_91 : decode cX10_entry 91 = .ok (.getfield 20, 3) := by decide +kernel
theorem dX10_entry_94 : decode cX10_entry 94 = .ok (.iload_n 1, 1) := by decide +kernel
theorem dX10_entry_95 : decode cX10_entry 95 = .ok (.aaload, 1) := by decide +kernel
theorem dX10_entry_96 : decode cX10_entry 96 = .ok (.iload_n 2, 1) := by decide +kernel
theorem dX10_entry_97 : decode cX10_entry 97 = .ok (.aload_n 0, 1) := by decide +kernel
theorem dX10_entry_98 : decode cX10_entry 98 = .ok (.getfield 72, 3) := by decide +kernel
theorem dX10_entry_101 : decode cX10_entry 101 = .ok (.iload 6, 2) := by decide +kernel
theorem dX10_entry_103 : decode cX10_entry 103 = .ok (.invokevirtual 148, 3) := by decide +kernel
theorem dX10_entry_106 : decode cX10_entry 106 = .ok (.ireturn, 1) := by decide +kernel
theorem dX10_place_0 : decode cX10_place 0 = .ok (.aload_n 0, 1) := by decide +kernel
theorem dX10_place_1 : decode cX10_place 1 = .ok (.getfield 89, 3) := by decide +kernel
theorem dX10_place_4 : decode cX10_place 4 = .ok (.bipush 8, 2) := by decide +kernel
theorem dX10_place_6 : decode cX10_place 6 = .ok (.if_icmp .lt 6, 3) := by decide +kernel
theorem dX10_place_9 : decode cX10_place 9 = .ok (.bipush (-4), 2) := by decide +kernel
theorem dX10_place_11 : decode cX10_place 11 = .ok (.ireturn, 1) := by decide +kernel
theorem dX10_place_12 : decode cX10_place 12 = .ok (.aload_n 0, 1) := by decide +kernel
theorem dX10_place_13 : decode cX10_place 13 = .ok (.dup, 1) := by decide +kernel
theorem dX10_place_14 : decode cX10_place 14 = .ok (.getfield 89, 3) := by decide +kernel
theorem dX10_place_17 : decode cX10_place 17 = .ok (.iconst 1, 1) := by decide +kernel
theorem dX10_place_18 : decode cX10_place 18 = .ok (.iadd, 1) := by decide +kernel
theorem dX10_place_19 : decode cX10_place 19 = .ok (.putfield 89, 3) := by decide +kernel
theorem dX10_place_22 : decode cX10_place 22 = .ok (.aload_n 0, 1) := by decide +kernel
theorem dX10_place_23 : decode cX10_place 23 = .ok (.getfield 89, 3) := by decide +kernel
theorem dX10_place_26 : decode cX10_place 26 = .ok (.iconst 1, 1) := by decide +kernel
theorem dX10_place_27 : decode cX10_place 27 = .ok (.isub, 1) := by decide +kernel
theorem dX10_place_28 : decode cX10_place 28 = .ok (.ireturn, 1) := by decide +kernel
theorem dX10_near_0 : decode cX10_near 0 = .ok (.aload_n 0, 1) := by decide +kernel
theorem dX10_near_1 : decode cX10_near 1 = .ok (.iload_n 1, 1) := by decide +kernel
theorem dX10_near_2 : decode cX10_near 2 = .ok (.invokevirtual 152, 3) := by decide +kernel
theorem dX10_near_5 : decode cX10_near 5 = .ok (.ifCond .eq 11, 3) := by decide +kernel
theorem dX10_near_8 : decode cX10_near 8 = .ok (.aload_n 0, 1) := by decide +kernel
theorem dX10_near_9 : decode cX10_near 9 = .ok (.iload_n 2, 1) := by decide +kernel
theorem dX10_near_10 : decode cX10_near 10 = .ok (.invokevirtual 152, 3) := by decide +kernel
theorem dX10_near_13 : decode cX10_near 13 = .ok (.ifCond .ne 5, 3) := by decide +kernel
theorem dX10_near_16 : decode cX10_near 16 = .ok (.iconst (-1), 1) := by decide +kernel
theorem dX10_near_17 : decode cX10_near 17 = .ok (.ireturn, 1) := by decide +kernel
theorem dX10_near_18 : decode cX10_near 18 = .ok (.iload_n 1, 1) := by decide +kernel
theorem dX10_near_19 : decode cX10_near 19 = .ok (.iload_n 2, 1) := by decide +kernel
theorem dX10_near_20 : decode cX10_near 20 = .ok (.if_icmp .ne 6, 3) := by decide +kernel
theorem dX10_near_23 : decode cX10_near 23 = .ok (.bipush (-2), 2) := by decide +kernel
theorem dX10_near_25 : decode cX10_near 25 = .ok (.ireturn, 1) := by decide +kernel
theorem dX10_near_26 : decode cX10_near 26 = .ok (.iload_n 2, 1) := by decide +kernel
theorem dX10_near_27 : decode cX10_near 27 = .ok (.aload_n 0, 1) := by decide +kernel
theorem dX10_near_28 : decode cX10_near 28 = .ok (.getfield 24, 3) := by decide +kernel
theorem dX10_near_31 : decode cX10_near 31 = .ok (.iload_n 1, 1) := by decide +kernel
theorem dX10_near_32 : decode cX10_near 32 = .ok (.iaload, 1) := by decide +kernel
theorem dX10_near_33 : decode cX10_near 33 = .ok (.invokestatic 128, 3) := by decide +kernel
theorem dX10_near_36 : decode cX10_near 36 = .ok (.iload_n 3, 1) := by decide +kernel
theorem dX10_near_37 : decode cX10_near 37 = .ok (.if_icmp .ne 5, 3) := by decide +kernel
theorem dX10_near_40 : decode cX10_near 40 = .ok (.iconst 0, 1) := by decide +kernel
theorem dX10_near_41 : decode cX10_near 41 = .ok (.ireturn, 1) := by decide +kernel
theorem dX10_near_42 : decode cX10_near 42 = .ok (.aload_n 0, 1) := by decide +kernel
theorem dX10_near_43 : decode cX10_near 43 = .ok (.getfield 24, 3) := by decide +kernel
theorem dX10_near_46 : decode cX10_near 46 = .ok (.iload_n 1, 1) := by decide +kernel
theorem dX10_near_47 : decode cX10_near 47 = .ok (.dup2, 1) := by decide +kernel
theorem dX10_near_48 : decode cX10_near 48 = .ok (.iaload, 1) := by decide +kernel
theorem dX10_near_49 : decode cX10_near 49 = .ok (.iconst 1, 1) := by decide +kernel
theorem dX10_near_50 : decode cX10_near 50 = .ok (.iload_n 2, 1) := by decide +kernel
theorem dX10_near_51 : decode cX10_near 51 = .ok (.ishl, 1) := by decide +kernel
theorem dX10_near_52 : decode cX10_near 52 = .ok (.ixor, 1) := by decide +kernel
theorem dX10_near_53 : decode cX10_near 53 = .ok (.iastore, 1) := by decide +kernel
theorem dX10_near_54 : decode cX10_near 54 = .ok (.aload_n 0, 1) := by decide +kernel
theorem dX10_near_55 : decode cX10_near 55 = .ok (.getfield 24, 3) := by decide +kernel
theorem dX10_near_58 : decode cX10_near 58 = .ok (.iload_n 2, 1) := by decide +kernel
theorem dX10_near_59 : decode cX10_near 59 = .ok (.dup2, 1) := by decide +kernel
theorem dX10_near_60 : decode cX10_near 60 = .ok (.iaload, 1) := by decide +kernel
theorem dX10_near_61 : decode cX10_near 61 = .ok (.iconst 1, 1) := by decide +kernel
theorem dX10_near_62 : decode cX10_near 62 = .ok (.iload_n 1, 1) := by decide +kernel
theorem dX10_near_63 : decode cX10_near 63 = .ok (.ishl, 1) := by decide +kernel
theorem dX10_near_64 : decode cX10_near 64 = .ok (.ixor, 1) := by decide +kernel
theorem dX10_near_65 : decode cX10_near 65 = .ok (.iastore, 1) := by decide +kernel
theorem dX10_near_66 : decode cX10_near 66 = .ok (.iconst 1, 1) := by decide +kernel
theorem dX10_near_67 : decode cX10_near 67 = .ok (.ireturn, 1) := by decide +kernel
theorem dX10_form_0 : decode cX10_form 0 = .ok (.aload_n 0, 1) := by decide +kernel
theorem dX10_form_1 : decode cX10_form 1 = .ok (.iconst 0, 1) := by decide +kernel
theorem dX10_form_2 : decode cX10_form 2 = .ok (.putfield 102, 3) := by decide +kernel
theorem dX10_form_5 : decode cX10_form 5 = .ok (.aload_n 0, 1) := by decide +kernel
theorem dX10_form_6 : decode cX10_form 6 = .ok (.iload_n 2, 1) := by decide +kernel
theorem dX10_form_7 : decode cX10_form 7 = .ok (.invokevirtual 152, 3) := by decide +kernel
theorem dX10_form_10 : decode cX10_form 10 = .ok (.ifCond .eq 19, 3) := by decide +kernel
theorem dX10_form_13 : decode cX10_form 13 = .ok (.iload_n 3, 1) := by decide +kernel
theorem dX10_form_14 : decode cX10_form 14 = .ok (.invokestatic 156, 3) := by decide +kernel
theorem dX10_form_17 : decode cX10_form 17 = .ok (.ifCond .eq 12, 3) := by decide +kernel
theorem dX10_form_20 : decode cX10_form 20 = .ok (.iload 4, 2) := by decide +kernel
theorem dX10_form_22 : decode cX10_form 22 = .ok (.iconst 4, 1) := by decide +kernel
theorem dX10_form_23 : decode cX10_form 23 = .ok (.invokestatic 114, 3) := by decide +kernel
theorem dX10_form_26 : decode cX10_form 26 = .ok (.ifCond .ne 5, 3) := by decide +kernel
theorem dX10_form_29 : decode cX10_form 29 = .ok (.iconst (-1), 1) := by decide +kernel
theorem dX10_form_30 : decode cX10_form 30 = .ok (.ireturn, 1) := by decide +kernel
theorem dX10_form_31 : decode cX10_form 31 = .ok (.iload_n 1, 1) := by decide +kernel
theorem dX10_form_32 : decode cX10_form 32 = .ok (.iconst 0, 1) := by decide +kernel
theorem dX10_form_33 : decode cX10_form 33 = .ok (.iconst 2, 1) := by decide +kernel
theorem dX10_form_34 : decode cX10_form 34 = .ok (.invokestatic 142, 3) := by decide +kernel
theorem dX10_form_37 : decode cX10_form 37 = .ok (.ifCond .eq 12, 3) := by decide +kernel
theorem dX10_form_40 : decode cX10_form 40 = .ok (.iload 5, 2) := by decide +kernel
theorem dX10_form_42 : decode cX10_form 42 = .ok (.iconst 3, 1) := by decide +kernel
theorem dX10_form_43 : decode cX10_form 43 = .ok (.invokestatic 114, 3) := by decide +kernel
theorem dX10_form_46 : decode cX10_form 46 = .ok (.ifCond .ne 6, 3) := by decide +kernel
theorem dX10_form_49 : decode cX10_form 49 = .ok (.bipush (-2), 2) := by decide +kernel
theorem dX10_form_51 : decode cX10_form 51 = .ok (.ireturn, 1) := by decide +kernel
theorem dX10_form_52 : decode cX10_form 52 = .ok (.aload_n 0, 1) := by decide +kernel
theorem dX10_form_53 : decode cX10_form 53 = .ok (.iload 4, 2) := by decide +kernel
theorem dX10_form_55 : decode cX10_form 55 = .ok (.iload 5, 2) := by decide +kernel
theorem dX10_form_57 : decode cX10_form 57 = .ok (.iload 6, 2) := by decide +kernel
theorem dX10_form_59 : decode cX10_form 59 = .ok (.iload 7, 2) := by decide +kernel
theorem dX10_form_61 : decode cX10_form 61 = .ok (.invokevirtual 159, 3) := by decide +kernel
theorem dX10_form_64 : decode cX10_form 64 = .ok (.istore 8, 2) := by decide +kernel
theorem dX10_form_66 : decode cX10_form 66 = .ok (.iload 8, 2) := by decide +kernel
theorem dX10_form_68 : decode cX10_form 68 = .ok (.ifCond .eq 6, 3) := by decide +kernel
theorem dX10_form_71 : decode cX10_form 71 = .ok (.iload 8, 2) := by decide +kernel
theorem dX10_form_73 : decode cX10_form 73 = .ok (.ireturn, 1) := by decide +kernel
theorem dX10_form_74 : decode cX10_form 74 = .ok (.aload_n 0, 1) := by decide +kernel
theorem dX10_form_75 : decode cX10_form 75 = .ok (.getfield 76, 3) := by decide +kernel
theorem dX10_form_78 : decode cX10_form 78 = .ok (.aload_n 0, 1) := by decide +kernel
theorem dX10_form_79 : decode cX10_form 79 = .ok (.getfield 72, 3) := by decide +kernel
theorem dX10_form_82 : decode cX10_form 82 = .ok (.iload 7, 2) := by decide +kernel
theorem dX10_form_84 : decode cX10_form 84 = .ok (.invokevirtual 162, 3) := by decide +kernel
theorem dX10_form_87 : decode cX10_form 87 = .ok (.aload_n 0, 1) := by decide +kernel
theorem dX10_form_88 : decode cX10_form 88 = .ok (.iload_n 1, 1) := by decide +kernel
theorem dX10_form_89 : decode cX10_form 89 = .ok (.iload_n 2, 1) := by decide +kernel
theorem dX10_form_90 : decode cX10_form 90 = .ok (.iload_n 3, 1) := by decide +kernel
theorem dX10_form_91 : decode cX10_form 91 = .ok (.invokevirtual 165, 3) := by decide +kernel
theorem dX10_form_94 : decode cX10_form 94 = .ok (.ireturn, 1) := by decide +kernel
theorem dX10_read_0 : decode cX10_read 0 = .ok (.aload_n 0, 1) := by decide +kernel
theorem dX10_read_1 : decode cX10_read 1 = .ok (.iconst 0, 1) := by decide +kernel
theorem dX10_read_2 : decode cX10_read 2 = .ok (.putfield 102, 3) := by decide +kernel
theorem dX10_read_5 : decode cX10_read 5 = .ok (.iload_n 1, 1) := by decide +kernel
theorem dX10_read_6 : decode cX10_read 6 = .ok (.iconst 3, 1) := by decide +kernel
theorem dX10_read_7 : decode cX10_read 7 = .ok (.invokestatic 114, 3) := by decide +kernel
theorem dX10_read_10 : decode cX10_read 10 = .ok (.ifCond .eq 27, 3) := by decide +kernel
theorem dX10_read_13 : decode cX10_read 13 = .ok (.aload_n 0, 1) := by decide +kernel
theorem dX10_read_14 : decode cX10_read 14 = .ok (.iload_n 2, 1) := by decide +kernel
theorem dX10_read_15 : decode cX10_read 15 = .ok (.invokevirtual 152, 3) := by decide +kernel
theorem dX10_read_18 : decode cX10_read 18 = .ok (.ifCond .eq 19, 3) := by decide +kernel
theorem dX10_read_21 : decode cX10_read 21 = .ok (.iload_n 3, 1) := by decide +kernel
theorem dX10_read_22 : decode cX10_read 22 = .ok (.invokestatic 156, 3) := by decide +kernel
theorem dX10_read_25 : decode cX10_read 25 = .ok (.ifCond .eq 12, 3) := by decide +kernel
theorem dX10_read_28 : decode cX10_read 28 = .ok (.iload 4, 2) := by decide +kernel
theorem dX10_read_30 : decode cX10_read 30 = .ok (.iconst 4, 1) := by decide +kernel
theorem dX10_read_31 : decode cX10_read 31 = .ok (.invokestatic 114, 3) := by decide +kernel
theorem dX10_read_34 : decode cX10_read 34 = .ok (.ifCond .ne 5, 3) := by decide +kernel
theorem dX10_read_37 : decode cX10_read 37 = .ok (.iconst (-1), 1) := by decide +kernel
theorem dX10_read_38 : decode cX10_read 38 = .ok (.ireturn, 1) := by decide +kernel
theorem dX10_read_39 : decode cX10_read 39 = .ok (.iload 5, 2) := by decide +kernel
theorem dX10_read_41 : decode cX10_read 41 = .ok (.iconst 3, 1) := by decide +kernel
theorem dX10_read_42 : decode cX10_read 42 = .ok (.invokestatic 114, 3) := by decide +kernel
theorem dX10_read_45 : decode cX10_read 45 = .ok (.ifCond .ne 6, 3) := by decide +kernel
theorem dX10_read_48 : decode cX10_read 48 = .ok (.bipush (-2), 2) := by decide +kernel
theorem dX10_read_50 : decode cX10_read 50 = .ok (.ireturn, 1) := by decide +kernel
theorem dX10_read_51 : decode cX10_read 51 = .ok (.aload_n 0, 1) := by decide +kernel
theorem dX10_read_52 : decode cX10_read 52 = .ok (.iload 4, 2) := by decide +kernel
theorem dX10_read_54 : decode cX10_read 54 = .ok (.iload 5, 2) := by decide +kernel
theorem dX10_read_56 : decode cX10_read 56 = .ok (.iload 6, 2) := by decide +kernel
theorem dX10_read_58 : decode cX10_read 58 = .ok (.iload 7, 2) := by decide +kernel
theorem dX10_read_60 : decode cX10_read 60 = .ok (.invokevirtual 138, 3) := by decide +kernel
theorem dX10_read_63 : decode cX10_read 63 = .ok (.istore 8, 2) := by decide +kernel
theorem dX10_read_65 : decode cX10_read 65 = .ok (.iload 8, 2) := by decide +kernel
theorem dX10_read_67 : decode cX10_read 67 = .ok (.ifCond .eq 6, 3) := by decide +kernel
theorem dX10_read_70 : decode cX10_read 70 = .ok (.iload 8, 2) := by decide +kernel
theorem dX10_read_72 : decode cX10_read 72 = .ok (.ireturn, 1) := by decide +kernel
theorem dX10_read_73 : decode cX10_read 73 = .ok (.aload_n 0, 1) := by decide +kernel
theorem dX10_read_74 : decode cX10_read 74 = .ok (.getfield 20, 3) := by decide +kernel
theorem dX10_read_77 : decode cX10_read 77 = .ok (.iload_n 1, 1) := by decide +kernel
theorem dX10_read_78 : decode cX10_read 78 = .ok (.aaload, 1) := by decide +kernel
theorem dX10_read_79 : decode cX10_read 79 = .ok (.aload_n 0, 1) := by decide +kernel
theorem dX10_read_80 : decode cX10_read 80 = .ok (.getfield 76, 3) := by decide +kernel
theorem dX10_read_83 : decode cX10_read 83 = .ok (.aload_n 0, 1) := by decide +kernel
theorem dX10_read_84 : decode cX10_read 84 = .ok (.getfield 72, 3) := by decide +kernel
theorem dX10_read_87 : decode cX10_read 87 = .ok (.iload 7, 2) := by decide +kernel
theorem dX10_read_89 : decode cX10_read 89 = .ok (.invokevirtual 169, 3) := by decide +kernel
theorem dX10_read_92 : decode cX10_read 92 = .ok (.istore 9, 2) := by decide +kernel
theorem dX10_read_94 : decode cX10_read 94 = .ok (.iload 9, 2) := by decide +kernel
theorem dX10_read_96 : decode cX10_read 96 = .ok (.bipush (-9), 2) := by decide +kernel
theorem dX10_read_98 : decode cX10_read 98 = .ok (.if_icmp .eq 9, 3) := by decide +kernel
theorem dX10_read_101 : decode cX10_read 101 = .ok (.bipush (-100), 2) := by decide +kernel
theorem dX10_read_103 : decode cX10_read 103 = .ok (.iload 9, 2) := by decide +kernel
theorem dX10_read_105 : decode cX10_read 105 = .ok (.isub, 1) := by decide +kernel
theorem dX10_read_106 : decode cX10_read 106 = .ok (.ireturn, 1) := by decide +kernel
theorem dX10_read_107 : decode cX10_read 107 = .ok (.aload_n 0, 1) := by decide +kernel
theorem dX10_read_108 : decode cX10_read 108 = .ok (.iconst 0, 1) := by decide +kernel
theorem dX10_read_109 : decode cX10_read 109 = .ok (.iload_n 2, 1) := by decide +kernel
theorem dX10_read_110 : decode cX10_read 110 = .ok (.iload_n 3, 1) := by decide +kernel
theorem dX10_read_111 : decode cX10_read 111 = .ok (.invokevirtual 165, 3) := by decide +kernel
theorem dX10_read_114 : decode cX10_read 114 = .ok (.ireturn, 1) := by decide +kernel
theorem dX10_addForm_0 : decode cX10_addForm 0 = .ok (.aload_n 0, 1) := by decide +kernel
theorem dX10_addForm_1 : decode cX10_addForm 1 = .ok (.getfield 93, 3) := by decide +kernel
theorem dX10_addForm_4 : decode cX10_addForm 4 = .ok (.bipush 40, 2) := by decide +kernel
theorem dX10_addForm_6 : decode cX10_addForm 6 = .ok (.if_icmp .lt 6, 3) := by decide +kernel
theorem dX10_addForm_9 : decode cX10_addForm 9 = .ok (.bipush (-4), 2) := by decide +kernel
theorem dX10_addForm_11 : decode cX10_addForm 11 = .ok (.ireturn, 1) := by decide +kernel
theorem dX10_addForm_12 : decode cX10_addForm 12 = .ok (.aload_n 0, 1) := by decide +kernel
theorem dX10_addForm_13 : decode cX10_addForm 13 = .ok (.getfield 93, 3) := by decide +kernel
theorem dX10_addForm_16 : decode cX10_addForm 16 = .ok (.istore 4, 2) := by decide +kernel
theorem dX10_addForm_18 : decode cX10_addForm 18 = .ok (.aload_n 0, 1) := by decide +kernel
theorem dX10_addForm_19 : decode cX10_addForm 19 = .ok (.getfield 30, 3) := by decide +kernel
theorem dX10_addForm_22 : decode cX10_addForm 22 = .ok (.iload 4, 2) := by decide +kernel
theorem dX10_addForm_24 : decode cX10_addForm 24 = .ok (.aaload, 1) := by decide +kernel
theorem dX10_addForm_25 : decode cX10_addForm 25 = .ok (.iload_n 1, 1) := by decide +kernel
theorem dX10_addForm_26 : decode cX10_addForm 26 = .ok (.iload_n 2, 1) := by decide +kernel
theorem dX10_addForm_27 : decode cX10_addForm 27 = .ok (.iload_n 3, 1) := by decide +kernel
theorem dX10_addForm_28 : decode cX10_addForm 28 = .ok (.aload_n 0, 1) := by decide +kernel
theorem dX10_addForm_29 : decode cX10_addForm 29 = .ok (.getfield 76, 3) := by decide +kernel
theorem dX10_addForm_32 : decode cX10_addForm 32 = .ok (.invokevirtual 173, 3) := by decide +kernel
theorem dX10_addForm_35 : decode cX10_addForm 35 = .ok (.aload_n 0, 1) := by decide +kernel
theorem dX10_addForm_36 : decode cX10_addForm 36 = .ok (.getfield 34, 3) := by decide +kernel
theorem dX10_addForm_39 : decode cX10_addForm 39 = .ok (.iload_n 2, 1) := by decide +kernel
theorem dX10_addForm_40 : decode cX10_addForm 40 = .ok (.bipush 6, 2) := by decide +kernel
theorem dX10_addForm_42 : decode cX10_addForm 42 = .ok (.imul, 1) := by decide +kernel
theorem dX10_addForm_43 : decode cX10_addForm 43 = .ok (.iload_n 3, 1) := by decide +kernel
theorem dX10_addForm_44 : decode cX10_addForm 44 = .ok (.iadd, 1) := by decide +kernel
theorem dX10_addForm_45 : decode cX10_addForm 45 = .ok (.iload 4, 2) := by decide +kernel
theorem dX10_addForm_47 : decode cX10_addForm 47 = .ok (.iastore, 1) := by decide +kernel
theorem dX10_addForm_48 : decode cX10_addForm 48 = .ok (.aload_n 0, 1) := by decide +kernel
theorem dX10_addForm_49 : decode cX10_addForm 49 = .ok (.dup, 1) := by decide +kernel
theorem dX10_addForm_50 : decode cX10_addForm 50 = .ok (.getfield 93, 3) := by decide +kernel
theorem dX10_addForm_53 : decode cX10_addForm 53 = .ok (.iconst 1, 1) := by decide +kernel
theorem dX10_addForm_54 : decode cX10_addForm 54 = .ok (.iadd, 1) := by decide +kernel
theorem dX10_addForm_55 : decode cX10_addForm 55 = .ok (.putfield 93, 3) := by decide +kernel
theorem dX10_addForm_58 : decode cX10_addForm 58 = .ok (.iload 4, 2) := by decide +kernel
theorem dX10_addForm_60 : decode cX10_addForm 60 = .ok (.ireturn, 1) := by decide +kernel
theorem dX10_ofForm_0 : decode cX10_ofForm 0 = .ok (.aload_n 0, 1) := by decide +kernel
theorem dX10_ofForm_1 : decode cX10_ofForm 1 = .ok (.iload_n 1, 1) := by decide +kernel
theorem dX10_ofForm_2 : decode cX10_ofForm 2 = .ok (.invokevirtual 176, 3) := by decide +kernel
theorem dX10_ofForm_5 : decode cX10_ofForm 5 = .ok (.ifCond .ne 5, 3) := by decide +kernel
theorem dX10_ofForm_8 : decode cX10_ofForm 8 = .ok (.iconst (-1), 1) := by decide +kernel
theorem dX10_ofForm_9 : decode cX10_ofForm 9 = .ok (.ireturn, 1) := by decide +kernel
theorem dX10_ofForm_10 : decode cX10_ofForm 10 = .ok (.aload_n 0, 1) := by decide +kernel
theorem dX10_ofForm_11 : decode cX10_ofForm 11 = .ok (.getfield 30, 3) := by decide +kernel
theorem dX10_ofForm_14 : decode cX10_ofForm 14 = .ok (.iload_n 1, 1) := by decide +kernel
theorem dX10_ofForm_15 : decode cX10_ofForm 15 = .ok (.aaload, 1) := by decide +kernel
theorem dX10_ofForm_16 : decode cX10_ofForm 16 = .ok (.astore_n 3, 1) := by decide +kernel
theorem dX10_ofForm_17 : decode cX10_ofForm 17 = .ok (.iload_n 2, 1) := by decide +kernel
theorem dX10_ofForm_18 : decode cX10_ofForm 18 = .ok (.tableswitch 53 0 3 #[30, 35, 40, 45], 30) := by decide +kernel
theorem dX10_ofForm_48 : decode cX10_ofForm 48 = .ok (.aload_n 3, 1) := by decide +kernel
theorem dX10_ofForm_49 : decode cX10_ofForm 49 = .ok (.getfield 179, 3) := by decide +kernel
theorem dX10_ofForm_52 : decode cX10_ofForm 52 = .ok (.ireturn, 1) := by decide +kernel
theorem dX10_ofForm_53 : decode cX10_ofForm 53 = .ok (.aload_n 3, 1) := by decide +kernel
theorem dX10_ofForm_54 : decode cX10_ofForm 54 = .ok (.getfield 182, 3) := by decide +kernel
theorem dX10_ofForm_57 : decode cX10_ofForm 57 = .ok (.ireturn, 1) := by decide +kernel
theorem dX10_ofForm_58 : decode cX10_ofForm 58 = .ok (.aload_n 3, 1) := by decide +kernel
theorem dX10_ofForm_59 : decode cX10_ofForm 59 = .ok (.getfield 185, 3) := by decide +kernel
theorem dX10_ofForm_62 : decode cX10_ofForm 62 = .ok (.ireturn, 1) := by decide +kernel
theorem dX10_ofForm_63 : decode cX10_ofForm 63 = .ok (.aload_n 3, 1) := by decide +kernel
theorem dX10_ofForm_64 : decode cX10_ofForm 64 = .ok (.getfield 188, 3) := by decide +kernel
theorem dX10_ofForm_67 : decode cX10_ofForm 67 = .ok (.getfield 191, 3) := by decide +kernel
theorem dX10_ofForm_70 : decode cX10_ofForm 70 = .ok (.ireturn, 1) := by decide +kernel
theorem dX10_ofForm_71 : decode cX10_ofForm 71 = .ok (.iload_n 2, 1) := by decide +kernel
theorem dX10_ofForm_72 : decode cX10_ofForm 72 = .ok (.bipush 10, 2) := by decide +kernel
theorem dX10_ofForm_74 : decode cX10_ofForm 74 = .ok (.if_icmp .lt 31, 3) := by decide +kernel
theorem dX10_ofForm_77 : decode cX10_ofForm 77 = .ok (.iload_n 2, 1) := by decide +kernel
theorem dX10_ofForm_78 : decode cX10_ofForm 78 = .ok (.bipush 10, 2) := by decide +kernel
theorem dX10_ofForm_80 : decode cX10_ofForm 80 = .ok (.isub, 1) := by decide +kernel
theorem dX10_ofForm_81 : decode cX10_ofForm 81 = .ok (.aload_n 3, 1) := by decide +kernel
theorem dX10_ofForm_82 : decode cX10_ofForm 82 = .ok (.getfield 188, 3) := by decide +kernel
theorem dX10_ofForm_85 : decode cX10_ofForm 85 = .ok (.getfield 191, 3) := by decide +kernel
theorem dX10_ofForm_88 : decode cX10_ofForm 88 = .ok (.if_icmp .ge 17, 3) := by decide +kernel
theorem dX10_ofForm_91 : decode cX10_ofForm 91 = .ok (.aload_n 3, 1) := by decide +kernel
theorem dX10_ofForm_92 : decode cX10_ofForm 92 = .ok (.getfield 188, 3) := by decide +kernel
theorem dX10_ofForm_95 : decode cX10_ofForm 95 = .ok (.iload_n 2, 1) := by decide +kernel
theorem dX10_ofForm_96 : decode cX10_ofForm 96 = .ok (.bipush 10, 2) := by decide +kernel
theorem dX10_ofForm_98 : decode cX10_ofForm 98 = .ok (.isub, 1) := by decide +kernel
theorem dX10_ofForm_99 : decode cX10_ofForm 99 = .ok (.invokevirtual 194, 3) := by decide +kernel
theorem dX10_ofForm_102 : decode cX10_ofForm 102 = .ok (.goto 5, 3) := by decide +kernel
theorem dX10_ofForm_105 : decode cX10_ofForm 105 = .ok (.bipush (-2), 2) := by decide +kernel
theorem dX10_ofForm_107 : decode cX10_ofForm 107 = .ok (.ireturn, 1) := by decide +kernel
theorem dX10_said_0 : decode cX10_said 0 = .ok (.aload_n 0, 1) := by decide +kernel
theorem dX10_said_1 : decode cX10_said 1 = .ok (.iload_n 1, 1) := by decide +kernel
theorem dX10_said_2 : decode cX10_said 2 = .ok (.invokevirtual 152, 3) := by decide +kernel
theorem dX10_said_5 : decode cX10_said 5 = .ok (.ifCond .eq 10, 3) := by decide +kernel
theorem dX10_said_8 : decode cX10_said 8 = .ok (.iload_n 2, 1) := by decide +kernel
theorem dX10_said_9 : decode cX10_said 9 = .ok (.invokestatic 156, 3) := by decide +kernel
theorem dX10_said_12 : decode cX10_said 12 = .ok (.ifCond .ne 5, 3) := by decide +kernel
theorem dX10_said_15 : decode cX10_said 15 = .ok (.iconst (-1), 1) := by decide +kernel
theorem dX10_said_16 : decode cX10_said 16 = .ok (.ireturn, 1) := by decide +kernel
theorem dX10_said_17 : decode cX10_said 17 = .ok (.aload_n 0, 1) := by decide +kernel
theorem dX10_said_18 : decode cX10_said 18 = .ok (.getfield 34, 3) := by decide +kernel
theorem dX10_said_21 : decode cX10_said 21 = .ok (.iload_n 1, 1) := by decide +kernel
theorem dX10_said_22 : decode cX10_said 22 = .ok (.bipush 6, 2) := by decide +kernel
theorem dX10_said_24 : decode cX10_said 24 = .ok (.imul, 1) := by decide +kernel
theorem dX10_said_25 : decode cX10_said 25 = .ok (.iload_n 2, 1) := by decide +kernel
theorem dX10_said_26 : decode cX10_said 26 = .ok (.iadd, 1) := by decide +kernel
theorem dX10_said_27 : decode cX10_said 27 = .ok (.iaload, 1) := by decide +kernel
theorem dX10_said_28 : decode cX10_said 28 = .ok (.ireturn, 1) := by decide +kernel
theorem dX10_root_0 : decode cX10_root 0 = .ok (.aload_n 0, 1) := by decide +kernel
theorem dX10_root_1 : decode cX10_root 1 = .ok (.iconst 0, 1) := by decide +kernel
theorem dX10_root_2 : decode cX10_root 2 = .ok (.putfield 102, 3) := by decide +kernel
theorem dX10_root_5 : decode cX10_root 5 = .ok (.iload_n 1, 1) := by decide +kernel
theorem dX10_root_6 : decode cX10_root 6 = .ok (.invokestatic 156, 3) := by decide +kernel
theorem dX10_root_9 : decode cX10_root 9 = .ok (.ifCond .eq 11, 3) := by decide +kernel
theorem dX10_root_12 : decode cX10_root 12 = .ok (.iload_n 2, 1) := by decide +kernel
theorem dX10_root_13 : decode cX10_root 13 = .ok (.iconst 4, 1) := by decide +kernel
theorem dX10_root_14 : decode cX10_root 14 = .ok (.invokestatic 114, 3) := by decide +kernel
theorem dX10_root_17 : decode cX10_root 17 = .ok (.ifCond .ne 5, 3) := by decide +kernel
theorem dX10_root_20 : decode cX10_root 20 = .ok (.iconst (-1), 1) := by decide +kernel
theorem dX10_root_21 : decode cX10_root 21 = .ok (.ireturn, 1) := by decide +kernel
theorem dX10_root_22 : decode cX10_root 22 = .ok (.iload_n 3, 1) := by decide +kernel
theorem dX10_root_23 : decode cX10_root 23 = .ok (.iconst 3, 1) := by decide +kernel
theorem dX10_root_24 : decode cX10_root 24 = .ok (.invokestatic 114, 3) := by decide +kernel
theorem dX10_root_27 : decode cX10_root 27 = .ok (.ifCond .ne 6, 3) := by decide +kernel
theorem dX10_root_30 : decode cX10_root 30 = .ok (.bipush (-2), 2) := by decide +kernel
theorem dX10_root_32 : decode cX10_root 32 = .ok (.ireturn, 1) := by decide +kernel
theorem dX10_root_33 : decode cX10_root 33 = .ok (.aload_n 0, 1) := by decide +kernel
theorem dX10_root_34 : decode cX10_root 34 = .ok (.iload_n 2, 1) := by decide +kernel
theorem dX10_root_35 : decode cX10_root 35 = .ok (.iload_n 3, 1) := by decide +kernel
theorem dX10_root_36 : decode cX10_root 36 = .ok (.iload 4, 2) := by decide +kernel
theorem dX10_root_38 : decode cX10_root 38 = .ok (.iload 5, 2) := by decide +kernel
theorem dX10_root_40 : decode cX10_root 40 = .ok (.invokevirtual 159, 3) := by decide +kernel
theorem dX10_root_43 : decode cX10_root 43 = .ok (.istore 6, 2) := by decide +kernel
theorem dX10_root_45 : decode cX10_root 45 = .ok (.iload 6, 2) := by decide +kernel
theorem dX10_root_47 : decode cX10_root 47 = .ok (.ifCond .eq 6, 3) := by decide +kernel
theorem dX10_root_50 : decode cX10_root 50 = .ok (.iload 6, 2) := by decide +kernel
theorem dX10_root_52 : decode cX10_root 52 = .ok (.ireturn, 1) := by decide +kernel
theorem dX10_root_53 : decode cX10_root 53 = .ok (.aload_n 0, 1) := by decide +kernel
theorem dX10_root_54 : decode cX10_root 54 = .ok (.getfield 39, 3) := by decide +kernel
theorem dX10_root_57 : decode cX10_root 57 = .ok (.iload_n 1, 1) := by decide +kernel
theorem dX10_root_58 : decode cX10_root 58 = .ok (.aaload, 1) := by decide +kernel
theorem dX10_root_59 : decode cX10_root 59 = .ok (.aload_n 0, 1) := by decide +kernel
theorem dX10_root_60 : decode cX10_root 60 = .ok (.getfield 72, 3) := by decide +kernel
theorem dX10_root_63 : decode cX10_root 63 = .ok (.iload 5, 2) := by decide +kernel
theorem dX10_root_65 : decode cX10_root 65 = .ok (.invokevirtual 162, 3) := by decide +kernel
theorem dX10_root_68 : decode cX10_root 68 = .ok (.aload_n 0, 1) := by decide +kernel
theorem dX10_root_69 : decode cX10_root 69 = .ok (.dup, 1) := by decide +kernel
theorem dX10_root_70 : decode cX10_root 70 = .ok (.getfield 96, 3) := by decide +kernel
theorem dX10_root_73 : decode cX10_root 73 = .ok (.iconst 1, 1) := by decide +kernel
theorem dX10_root_74 : decode cX10_root 74 = .ok (.iload_n 1, 1) := by decide +kernel
theorem dX10_root_75 : decode cX10_root 75 = .ok (.ishl, 1) := by decide +kernel
theorem dX10_root_76 : decode cX10_root 76 = .ok (.ior, 1) := by decide +kernel
theorem dX10_root_77 : decode cX10_root 77 = .ok (.putfield 96, 3) := by decide +kernel
theorem dX10_root_80 : decode cX10_root 80 = .ok (.iload 5, 2) := by decide +kernel
theorem dX10_root_82 : decode cX10_root 82 = .ok (.ireturn, 1) := by decide +kernel
theorem dX10_ofRoot_0 : decode cX10_ofRoot 0 = .ok (.iload_n 1, 1) := by decide +kernel
theorem dX10_ofRoot_1 : decode cX10_ofRoot 1 = .ok (.invokestatic 156, 3) := by decide +kernel
theorem dX10_ofRoot_4 : decode cX10_ofRoot 4 = .ok (.ifCond .eq 13, 3) := by decide +kernel
theorem dX10_ofRoot_7 : decode cX10_ofRoot 7 = .ok (.iload_n 2, 1) := by decide +kernel
theorem dX10_ofRoot_8 : decode cX10_ofRoot 8 = .ok (.iconst (-1), 1) := by decide +kernel
theorem dX10_ofRoot_9 : decode cX10_ofRoot 9 = .ok (.bipush 7, 2) := by decide +kernel
theorem dX10_ofRoot_11 : decode cX10_ofRoot 11 = .ok (.invokestatic 142, 3) := by decide +kernel
theorem dX10_ofRoot_14 : decode cX10_ofRoot 14 = .ok (.ifCond .ne 5, 3) := by decide +kernel
theorem dX10_ofRoot_17 : decode cX10_ofRoot 17 = .ok (.iconst (-1), 1) := by decide +kernel
theorem dX10_ofRoot_18 : decode cX10_ofRoot 18 = .ok (.ireturn, 1) := by decide +kernel
theorem dX10_ofRoot_19 : decode cX10_ofRoot 19 = .ok (.iload_n 1, 1) := by decide +kernel
theorem dX10_ofRoot_20 : decode cX10_ofRoot 20 = .ok (.aload_n 0, 1) := by decide +kernel
theorem dX10_ofRoot_21 : decode cX10_ofRoot 21 = .ok (.getfield 96, 3) := by decide +kernel
theorem dX10_ofRoot_24 : decode cX10_ofRoot 24 = .ok (.invokestatic 128, 3) := by decide +kernel
theorem dX10_ofRoot_27 : decode cX10_ofRoot 27 = .ok (.ifCond .eq 16, 3) := by decide +kernel
theorem dX10_ofRoot_30 : decode cX10_ofRoot 30 = .ok (.aload_n 0, 1) := by decide +kernel
theorem dX10_ofRoot_31 : decode cX10_ofRoot 31 = .ok (.getfield 39, 3) := by decide +kernel
theorem dX10_ofRoot_34 : decode cX10_ofRoot 34 = .ok (.iload_n 1, 1) := by decide +kernel
theorem dX10_ofRoot_35 : decode cX10_ofRoot 35 = .ok (.aaload, 1) := by decide +kernel
theorem dX10_ofRoot_36 : decode cX10_ofRoot 36 = .ok (.iload_n 2, 1) := by decide +kernel
theorem dX10_ofRoot_37 : decode cX10_ofRoot 37 = .ok (.invokevirtual 198, 3) := by decide +kernel
theorem dX10_ofRoot_40 : decode cX10_ofRoot 40 = .ok (.goto 5, 3) := by decide +kernel
theorem dX10_ofRoot_43 : decode cX10_ofRoot 43 = .ok (.bipush (-9), 2) := by decide +kernel
theorem dX10_ofRoot_45 : decode cX10_ofRoot 45 = .ok (.ireturn, 1) := by decide +kernel
theorem dX10_law_0 : decode cX10_law 0 = .ok (.aload_n 0, 1) := by decide +kernel
theorem dX10_law_1 : decode cX10_law 1 = .ok (.iconst 0, 1) := by decide +kernel
theorem dX10_law_2 : decode cX10_law 2 = .ok (.putfield 102, 3) := by decide +kernel
theorem dX10_law_5 : decode cX10_law 5 = .ok (.iload_n 2, 1) := by decide +kernel
theorem dX10_law_6 : decode cX10_law 6 = .ok (.iconst 4, 1) := by decide +kernel
theorem dX10_law_7 : decode cX10_law 7 = .ok (.invokestatic 114, 3) := by decide +kernel
theorem dX10_law_10 : decode cX10_law 10 = .ok (.ifCond .ne 5, 3) := by decide +kernel
theorem dX10_law_13 : decode cX10_law 13 = .ok (.iconst (-1), 1) := by decide +kernel
theorem dX10_law_14 : decode cX10_law 14 = .ok (.ireturn, 1) := by decide +kernel
theorem dX10_law_15 : decode cX10_law 15 = .ok (.iload_n 1, 1) := by decide +kernel
theorem dX10_law_16 : decode cX10_law 16 = .ok (.aload_n 0, 1) := by decide +kernel
theorem dX10_law_17 : decode cX10_law 17 = .ok (.getfield 89, 3) := by decide +kernel
theorem dX10_law_20 : decode cX10_law 20 = .ok (.invokestatic 118, 3) := by decide +kernel
theorem dX10_law_23 : decode cX10_law 23 = .ok (.ifCond .eq 11, 3) := by decide +kernel
theorem dX10_law_26 : decode cX10_law 26 = .ok (.iload_n 3, 1) := by decide +kernel
theorem dX10_law_27 : decode cX10_law 27 = .ok (.iconst 3, 1) := by decide +kernel
theorem dX10_law_28 : decode cX10_law 28 = .ok (.invokestatic 114, 3) := by decide +kernel
theorem dX10_law_31 : decode cX10_law 31 = .ok (.ifCond .ne 6, 3) := by decide +kernel
theorem dX10_law_34 : decode cX10_law 34 = .ok (.bipush (-2), 2) := by decide +kernel
theorem dX10_law_36 : decode cX10_law 36 = .ok (.ireturn, 1) := by decide +kernel
theorem dX10_law_37 : decode cX10_law 37 = .ok (.aload_n 0, 1) := by decide +kernel
theorem dX10_law_38 : decode cX10_law 38 = .ok (.iload_n 2, 1) := by decide +kernel
theorem dX10_law_39 : decode cX10_law 39 = .ok (.iload_n 3, 1) := by decide +kernel
theorem dX10_law_40 : decode cX10_law 40 = .ok (.iload 4, 2) := by decide +kernel
theorem dX10_law_42 : decode cX10_law 42 = .ok (.iload 5, 2) := by decide +kernel
theorem dX10_law_44 : decode cX10_law 44 = .ok (.invokevirtual 138, 3) := by decide +kernel
theorem dX10_law_47 : decode cX10_law 47 = .ok (.istore 6, 2) := by decide +kernel
theorem dX10_law_49 : decode cX10_law 49 = .ok (.iload 6, 2) := by decide +kernel
theorem dX10_law_51 : decode cX10_law 51 = .ok (.ifCond .eq 6, 3) := by decide +kernel
theorem dX10_law_54 : decode cX10_law 54 = .ok (.iload 6, 2) := by decide +kernel
theorem dX10_law_56 : decode cX10_law 56 = .ok (.ireturn, 1) := by decide +kernel
theorem dX10_law_57 : decode cX10_law 57 = .ok (.aload_n 0, 1) := by decide +kernel
theorem dX10_law_58 : decode cX10_law 58 = .ok (.getfield 48, 3) := by decide +kernel
theorem dX10_law_61 : decode cX10_law 61 = .ok (.aload_n 0, 1) := by decide +kernel
theorem dX10_law_62 : decode cX10_law 62 = .ok (.getfield 72, 3) := by decide +kernel
theorem dX10_law_65 : decode cX10_law 65 = .ok (.iload 5, 2) := by decide +kernel
theorem dX10_law_67 : decode cX10_law 67 = .ok (.invokevirtual 201, 3) := by decide +kernel
theorem dX10_law_70 : decode cX10_law 70 = .ok (.istore 7, 2) := by decide +kernel
theorem dX10_law_72 : decode cX10_law 72 = .ok (.iload 7, 2) := by decide +kernel
theorem dX10_law_74 : decode cX10_law 74 = .ok (.bipush (-9), 2) := by decide +kernel
theorem dX10_law_76 : decode cX10_law 76 = .ok (.if_icmp .eq 9, 3) := by decide +kernel
theorem dX10_law_79 : decode cX10_law 79 = .ok (.bipush (-100), 2) := by decide +kernel
theorem dX10_law_81 : decode cX10_law 81 = .ok (.iload 7, 2) := by decide +kernel
theorem dX10_law_83 : decode cX10_law 83 = .ok (.isub, 1) := by decide +kernel
theorem dX10_law_84 : decode cX10_law 84 = .ok (.ireturn, 1) := by decide +kernel
theorem dX10_law_85 : decode cX10_law 85 = .ok (.aload_n 0, 1) := by decide +kernel
theorem dX10_law_86 : decode cX10_law 86 = .ok (.getfield 48, 3) := by decide +kernel
theorem dX10_law_89 : decode cX10_law 89 = .ok (.iload_n 1, 1) := by decide +kernel
theorem dX10_law_90 : decode cX10_law 90 = .ok (.invokevirtual 205, 3) := by decide +kernel
theorem dX10_law_93 : decode cX10_law 93 = .ok (.ireturn, 1) := by decide +kernel
theorem dX10_force_0 : decode cX10_force 0 = .ok (.aload_n 0, 1) := by decide +kernel
theorem dX10_force_1 : decode cX10_force 1 = .ok (.iload_n 1, 1) := by decide +kernel
theorem dX10_force_2 : decode cX10_force 2 = .ok (.invokevirtual 208, 3) := by decide +kernel
theorem dX10_force_5 : decode cX10_force 5 = .ok (.ifCond .ne 5, 3) := by decide +kernel
theorem dX10_force_8 : decode cX10_force 8 = .ok (.iconst (-1), 1) := by decide +kernel
theorem dX10_force_9 : decode cX10_force 9 = .ok (.ireturn, 1) := by decide +kernel
theorem dX10_force_10 : decode cX10_force 10 = .ok (.iload_n 2, 1) := by decide +kernel
theorem dX10_force_11 : decode cX10_force 11 = .ok (.aload_n 0, 1) := by decide +kernel
theorem dX10_force_12 : decode cX10_force 12 = .ok (.getfield 89, 3) := by decide +kernel
theorem dX10_force_15 : decode cX10_force 15 = .ok (.invokestatic 118, 3) := by decide +kernel
theorem dX10_force_18 : decode cX10_force 18 = .ok (.ifCond .ne 6, 3) := by decide +kernel
theorem dX10_force_21 : decode cX10_force 21 = .ok (.bipush (-2), 2) := by decide +kernel
theorem dX10_force_23 : decode cX10_force 23 = .ok (.ireturn, 1) := by decide +kernel
theorem dX10_force_24 : decode cX10_force 24 = .ok (.aload_n 0, 1) := by decide +kernel
theorem dX10_force_25 : decode cX10_force 25 = .ok (.getfield 48, 3) := by decide +kernel
theorem dX10_force_28 : decode cX10_force 28 = .ok (.getfield 211, 3) := by decide +kernel
theorem dX10_force_31 : decode cX10_force 31 = .ok (.iload_n 1, 1) := by decide +kernel
theorem dX10_force_32 : decode cX10_force 32 = .ok (.aaload, 1) := by decide +kernel
theorem dX10_force_33 : decode cX10_force 33 = .ok (.getfield 215, 3) := by decide +kernel
theorem dX10_force_36 : decode cX10_force 36 = .ok (.istore_n 3, 1) := by decide +kernel
theorem dX10_force_37 : decode cX10_force 37 = .ok (.aload_n 0, 1) := by decide +kernel
theorem dX10_force_38 : decode cX10_force 38 = .ok (.getfield 48, 3) := by decide +kernel
theorem dX10_force_41 : decode cX10_force 41 = .ok (.getfield 211, 3) := by decide +kernel
theorem dX10_force_44 : decode cX10_force 44 = .ok (.iload_n 1, 1) := by decide +kernel
theorem dX10_force_45 : decode cX10_force 45 = .ok (.aaload, 1) := by decide +kernel
theorem dX10_force_46 : decode cX10_force 46 = .ok (.iload_n 2, 1) := by decide +kernel
theorem dX10_force_47 : decode cX10_force 47 = .ok (.putfield 215, 3) := by decide +kernel
theorem dX10_force_50 : decode cX10_force 50 = .ok (.iload_n 3, 1) := by decide +kernel
theorem dX10_force_51 : decode cX10_force 51 = .ok (.ireturn, 1) := by decide +kernel
theorem dX10_derived_0 : decode cX10_derived 0 = .ok (.aload_n 0, 1) := by decide +kernel
theorem dX10_derived_1 : decode cX10_derived 1 = .ok (.iload_n 1, 1) := by decide +kernel
theorem dX10_derived_2 : decode cX10_derived 2 = .ok (.invokevirtual 152, 3) := by decide +kernel
theorem dX10_derived_5 : decode cX10_derived 5 = .ok (.ifCond .eq 21, 3) := by decide +kernel
theorem dX10_derived_8 : decode cX10_derived 8 = .ok (.iload_n 2, 1) := by decide +kernel
theorem dX10_derived_9 : decode cX10_derived 9 = .ok (.invokestatic 156, 3) := by decide +kernel
theorem dX10_derived_12 : decode cX10_derived 12 = .ok (.ifCond .eq 14, 3) := by decide +kernel
theorem dX10_derived_15 : decode cX10_derived 15 = .ok (.iload 4, 2) := by decide +kernel
theorem dX10_derived_17 : decode cX10_derived 17 = .ok (.iconst (-1), 1) := by decide +kernel
theorem dX10_derived_18 : decode cX10_derived 18 = .ok (.bipush 7, 2) := by decide +kernel
theorem dX10_derived_20 : decode cX10_derived 20 = .ok (.invokestatic 142, 3) := by decide +kernel
theorem dX10_derived_23 : decode cX10_derived 23 = .ok (.ifCond .ne 5, 3) := by decide +kernel
theorem dX10_derived_26 : decode cX10_derived 26 = .ok (.iconst (-1), 1) := by decide +kernel
theorem dX10_derived_27 : decode cX10_derived 27 = .ok (.ireturn, 1) := by decide +kernel
theorem dX10_derived_28 : decode cX10_derived 28 = .ok (.iload_n 3, 1) := by decide +kernel
theorem dX10_derived_29 : decode cX10_derived 29 = .ok (.iconst 0, 1) := by decide +kernel
theorem dX10_derived_30 : decode cX10_derived 30 = .ok (.bipush 8, 2) := by decide +kernel
theorem dX10_derived_32 : decode cX10_derived 32 = .ok (.invokestatic 142, 3) := by decide +kernel
theorem dX10_derived_35 : decode cX10_derived 35 = .ok (.ifCond .ne 6, 3) := by decide +kernel
theorem dX10_derived_38 : decode cX10_derived 38 = .ok (.bipush (-2), 2) := by decide +kernel
theorem dX10_derived_40 : decode cX10_derived 40 = .ok (.ireturn, 1) := by decide +kernel
theorem dX10_derived_41 : decode cX10_derived 41 = .ok (.iload_n 2, 1) := by decide +kernel
theorem dX10_derived_42 : decode cX10_derived 42 = .ok (.aload_n 0, 1) := by decide +kernel
theorem dX10_derived_43 : decode cX10_derived 43 = .ok (.getfield 96, 3) := by decide +kernel
theorem dX10_derived_46 : decode cX10_derived 46 = .ok (.invokestatic 128, 3) := by decide +kernel
theorem dX10_derived_49 : decode cX10_derived 49 = .ok (.ifCond .ne 6, 3) := by decide +kernel
theorem dX10_derived_52 : decode cX10_derived 52 = .ok (.bipush (-3), 2) := by decide +kernel
theorem dX10_derived_54 : decode cX10_derived 54 = .ok (.ireturn, 1) := by decide +kernel
theorem dX10_derived_55 : decode cX10_derived 55 = .ok (.aload_n 0, 1) := by decide +kernel
theorem dX10_derived_56 : decode cX10_derived 56 = .ok (.getfield 76, 3) := by decide +kernel
theorem dX10_derived_59 : decode cX10_derived 59 = .ok (.aload_n 0, 1) := by decide +kernel
theorem dX10_derived_60 : decode cX10_derived 60 = .ok (.getfield 39, 3) := by decide +kernel
theorem dX10_derived_63 : decode cX10_derived 63 = .ok (.iload_n 2, 1) := by decide +kernel
theorem dX10_derived_64 : decode cX10_derived 64 = .ok (.aaload, 1) := by decide +kernel
theorem dX10_derived_65 : decode cX10_derived 65 = .ok (.invokevirtual 220, 3) := by decide +kernel
theorem dX10_derived_68 : decode cX10_derived 68 = .ok (.aload_n 0, 1) := by decide +kernel
theorem dX10_derived_69 : decode cX10_derived 69 = .ok (.getfield 48, 3) := by decide +kernel
theorem dX10_derived_72 : decode cX10_derived 72 = .ok (.iload_n 1, 1) := by decide +kernel
theorem dX10_derived_73 : decode cX10_derived 73 = .ok (.aload_n 0, 1) := by decide +kernel
theorem dX10_derived_74 : decode cX10_derived 74 = .ok (.getfield 76, 3) := by decide +kernel
theorem dX10_derived_77 : decode cX10_derived 77 = .ok (.iload_n 3, 1) := by decide +kernel
theorem dX10_derived_78 : decode cX10_derived 78 = .ok (.invokevirtual 223, 3) := by decide +kernel
theorem dX10_derived_81 : decode cX10_derived 81 = .ok (.pop, 1) := by decide +kernel
theorem dX10_derived_82 : decode cX10_derived 82 = .ok (.aload_n 0, 1) := by decide +kernel
theorem dX10_derived_83 : decode cX10_derived 83 = .ok (.getfield 76, 3) := by decide +kernel
theorem dX10_derived_86 : decode cX10_derived 86 = .ok (.iload 4, 2) := by decide +kernel
theorem dX10_derived_88 : decode cX10_derived 88 = .ok (.invokevirtual 198, 3) := by decide +kernel
theorem dX10_derived_91 : decode cX10_derived 91 = .ok (.ireturn, 1) := by decide +kernel
theorem dX10_latest_0 : decode cX10_latest 0 = .ok (.aload_n 0, 1) := by decide +kernel
theorem dX10_latest_1 : decode cX10_latest 1 = .ok (.iload_n 1, 1) := by decide +kernel
theorem dX10_latest_2 : decode cX10_latest 2 = .ok (.invokevirtual 152, 3) := by decide +kernel
theorem dX10_latest_5 : decode cX10_latest 5 = .ok (.ifCond .eq 10, 3) := by decide +kernel
theorem dX10_latest_8 : decode cX10_latest 8 = .ok (.iload_n 2, 1) := by decide +kernel
theorem dX10_latest_9 : decode cX10_latest 9 = .ok (.invokestatic 156, 3) := by decide +kernel
theorem dX10_latest_12 : decode cX10_latest 12 = .ok (.ifCond .ne 5, 3) := by decide +kernel
theorem dX10_latest_15 : decode cX10_latest 15 = .ok (.iconst (-1), 1) := by decide +kernel
theorem dX10_latest_16 : decode cX10_latest 16 = .ok (.ireturn, 1) := by decide +kernel
theorem dX10_latest_17 : decode cX10_latest 17 = .ok (.iload_n 2, 1) := by decide +kernel
theorem dX10_latest_18 : decode cX10_latest 18 = .ok (.aload_n 0, 1) := by decide +kernel
theorem dX10_latest_19 : decode cX10_latest 19 = .ok (.getfield 96, 3) := by decide +kernel
theorem dX10_latest_22 : decode cX10_latest 22 = .ok (.invokestatic 128, 3) := by decide +kernel
theorem dX10_latest_25 : decode cX10_latest 25 = .ok (.ifCond .ne 6, 3) := by decide +kernel
theorem dX10_latest_28 : decode cX10_latest 28 = .ok (.bipush (-3), 2) := by decide +kernel
theorem dX10_latest_30 : decode cX10_latest 30 = .ok (.ireturn, 1) := by decide +kernel
theorem dX10_latest_31 : decode cX10_latest 31 = .ok (.aload_n 0, 1) := by decide +kernel
theorem dX10_latest_32 : decode cX10_latest 32 = .ok (.getfield 76, 3) := by decide +kernel
theorem dX10_latest_35 : decode cX10_latest 35 = .ok (.aload_n 0, 1) := by decide +kernel
theorem dX10_latest_36 : decode cX10_latest 36 = .ok (.getfield 39, 3) := by decide +kernel
theorem dX10_latest_39 : decode cX10_latest 39 = .ok (.iload_n 2, 1) := by decide +kernel
theorem dX10_latest_40 : decode cX10_latest 40 = .ok (.aaload, 1) := by decide +kernel
theorem dX10_latest_41 : decode cX10_latest 41 = .ok (.invokevirtual 220, 3) := by decide +kernel
theorem dX10_latest_44 : decode cX10_latest 44 = .ok (.aload_n 0, 1) := by decide +kernel
theorem dX10_latest_45 : decode cX10_latest 45 = .ok (.getfield 48, 3) := by decide +kernel
theorem dX10_latest_48 : decode cX10_latest 48 = .ok (.iload_n 1, 1) := by decide +kernel
theorem dX10_latest_49 : decode cX10_latest 49 = .ok (.aload_n 0, 1) := by decide +kernel
theorem dX10_latest_50 : decode cX10_latest 50 = .ok (.getfield 76, 3) := by decide +kernel
theorem dX10_latest_53 : decode cX10_latest 53 = .ok (.bipush 8, 2) := by decide +kernel
theorem dX10_latest_55 : decode cX10_latest 55 = .ok (.invokevirtual 223, 3) := by decide +kernel
theorem dX10_latest_58 : decode cX10_latest 58 = .ok (.ireturn, 1) := by decide +kernel
theorem dX10_gap_0 : decode cX10_gap 0 = .ok (.iload_n 1, 1) := by decide +kernel
theorem dX10_gap_1 : decode cX10_gap 1 = .ok (.iconst 1, 1) := by decide +kernel
theorem dX10_gap_2 : decode cX10_gap 2 = .ok (.bipush 20, 2) := by decide +kernel
theorem dX10_gap_4 : decode cX10_gap 4 = .ok (.invokestatic 142, 3) := by decide +kernel
theorem dX10_gap_7 : decode cX10_gap 7 = .ok (.ifCond .ne 6, 3) := by decide +kernel
theorem dX10_gap_10 : decode cX10_gap 10 = .ok (.bipush (-2), 2) := by decide +kernel
theorem dX10_gap_12 : decode cX10_gap 12 = .ok (.ireturn, 1) := by decide +kernel
theorem dX10_gap_13 : decode cX10_gap 13 = .ok (.aload_n 0, 1) := by decide +kernel
theorem dX10_gap_14 : decode cX10_gap 14 = .ok (.getfield 55, 3) := by decide +kernel
theorem dX10_gap_17 : decode cX10_gap 17 = .ok (.getfield 227, 3) := by decide +kernel
theorem dX10_gap_20 : decode cX10_gap 20 = .ok (.istore_n 2, 1) := by decide +kernel
theorem dX10_gap_21 : decode cX10_gap 21 = .ok (.aload_n 0, 1) := by decide +kernel
theorem dX10_gap_22 : decode cX10_gap 22 = .ok (.getfield 55, 3) := by decide +kernel
theorem dX10_gap_25 : decode cX10_gap 25 = .ok (.iload_n 1, 1) := by decide +kernel
theorem dX10_gap_26 : decode cX10_gap 26 = .ok (.putfield 227, 3) := by decide +kernel
theorem dX10_gap_29 : decode cX10_gap 29 = .ok (.iload_n 2, 1) := by decide +kernel
theorem dX10_gap_30 : decode cX10_gap 30 = .ok (.ireturn, 1) := by decide +kernel
theorem dX10_cost_0 : decode cX10_cost 0 = .ok (.aload_n 0, 1) := by decide +kernel
theorem dX10_cost_1 : decode cX10_cost 1 = .ok (.iload_n 1, 1) := by decide +kernel
theorem dX10_cost_2 : decode cX10_cost 2 = .ok (.invokevirtual 176, 3) := by decide +kernel
theorem dX10_cost_5 : decode cX10_cost 5 = .ok (.ifCond .eq 11, 3) := by decide +kernel
theorem dX10_cost_8 : decode cX10_cost 8 = .ok (.aload_n 0, 1) := by decide +kernel
theorem dX10_cost_9 : decode cX10_cost 9 = .ok (.iload_n 2, 1) := by decide +kernel
theorem dX10_cost_10 : decode cX10_cost 10 = .ok (.invokevirtual 176, 3) := by decide +kernel
theorem dX10_cost_13 : decode cX10_cost 13 = .ok (.ifCond .ne 5, 3) := by decide +kernel
theorem dX10_cost_16 : decode cX10_cost 16 = .ok (.iconst (-1), 1) := by decide +kernel
theorem dX10_cost_17 : decode cX10_cost 17 = .ok (.ireturn, 1) := by decide +kernel
theorem dX10_cost_18 : decode cX10_cost 18 = .ok (.aload_n 0, 1) := by decide +kernel
theorem dX10_cost_19 : decode cX10_cost 19 = .ok (.getfield 55, 3) := by decide +kernel
theorem dX10_cost_22 : decode cX10_cost 22 = .ok (.aload_n 0, 1) := by decide +kernel
theorem dX10_cost_23 : decode cX10_cost 23 = .ok (.getfield 30, 3) := by decide +kernel
theorem dX10_cost_26 : decode cX10_cost 26 = .ok (.iload_n 1, 1) := by decide +kernel
theorem dX10_cost_27 : decode cX10_cost 27 = .ok (.aaload, 1) := by decide +kernel
theorem dX10_cost_28 : decode cX10_cost 28 = .ok (.getfield 188, 3) := by decide +kernel
theorem dX10_cost_31 : decode cX10_cost 31 = .ok (.aload_n 0, 1) := by decide +kernel
theorem dX10_cost_32 : decode cX10_cost 32 = .ok (.getfield 30, 3) := by decide +kernel
theorem dX10_cost_35 : decode cX10_cost 35 = .ok (.iload_n 2, 1) := by decide +kernel
theorem dX10_cost_36 : decode cX10_cost 36 = .ok (.aaload, 1) := by decide +kernel
theorem dX10_cost_37 : decode cX10_cost 37 = .ok (.getfield 188, 3) := by decide +kernel
theorem dX10_cost_40 : decode cX10_cost 40 = .ok (.invokevirtual 230, 3) := by decide +kernel
theorem dX10_cost_43 : decode cX10_cost 43 = .ok (.ireturn, 1) := by decide +kernel
theorem dX10_align_0 : decode cX10_align 0 = .ok (.aload_n 0, 1) := by decide +kernel
theorem dX10_align_1 : decode cX10_align 1 = .ok (.iload_n 1, 1) := by decide +kernel
theorem dX10_align_2 : decode cX10_align 2 = .ok (.invokevirtual 176, 3) := by decide +kernel
theorem dX10_align_5 : decode cX10_align 5 = .ok (.ifCond .eq 21, 3) := by decide +kernel
theorem dX10_align_8 : decode cX10_align 8 = .ok (.aload_n 0, 1) := by decide +kernel
theorem dX10_align_9 : decode cX10_align 9 = .ok (.iload_n 2, 1) := by decide +kernel
theorem dX10_align_10 : decode cX10_align 10 = .ok (.invokevirtual 176, 3) := by decide +kernel
theorem dX10_align_13 : decode cX10_align 13 = .ok (.ifCond .eq 13, 3) := by decide +kernel
theorem dX10_align_16 : decode cX10_align 16 = .ok (.iload_n 3, 1) := by decide +kernel
theorem dX10_align_17 : decode cX10_align 17 = .ok (.iconst (-1), 1) := by decide +kernel
theorem dX10_align_18 : decode cX10_align 18 = .ok (.bipush 15, 2) := by decide +kernel
theorem dX10_align_20 : decode cX10_align 20 = .ok (.invokestatic 142, 3) := by decide +kernel
theorem dX10_align_23 : decode cX10_align 23 = .ok (.ifCond .ne 5, 3) := by decide +kernel
theorem dX10_align_26 : decode cX10_align 26 = .ok (.iconst (-1), 1) := by decide +kernel
theorem dX10_align_27 : decode cX10_align 27 = .ok (.ireturn, 1) := by decide +kernel
theorem dX10_align_28 : decode cX10_align 28 = .ok (.aload_n 0, 1) := by decide +kernel
theorem dX10_align_29 : decode cX10_align 29 = .ok (.getfield 55, 3) := by decide +kernel
theorem dX10_align_32 : decode cX10_align 32 = .ok (.aload_n 0, 1) := by decide +kernel
theorem dX10_align_33 : decode cX10_align 33 = .ok (.getfield 30, 3) := by decide +kernel
theorem dX10_align_36 : decode cX10_align 36 = .ok (.iload_n 1, 1) := by decide +kernel
theorem dX10_align_37 : decode cX10_align 37 = .ok (.aaload, 1) := by decide +kernel
theorem dX10_align_38 : decode cX10_align 38 = .ok (.getfield 188, 3) := by decide +kernel
theorem dX10_align_41 : decode cX10_align 41 = .ok (.aload_n 0, 1) := by decide +kernel
theorem dX10_align_42 : decode cX10_align 42 = .ok (.getfield 30, 3) := by decide +kernel
theorem dX10_align_45 : decode cX10_align 45 = .ok (.iload_n 2, 1) := by decide +kernel
theorem dX10_align_46 : decode cX10_align 46 = .ok (.aaload, 1) := by decide +kernel
theorem dX10_align_47 : decode cX10_align 47 = .ok (.getfield 188, 3) := by decide +kernel
theorem dX10_align_50 : decode cX10_align 50 = .ok (.iload_n 3, 1) := by decide +kernel
theorem dX10_align_51 : decode cX10_align 51 = .ok (.invokevirtual 234, 3) := by decide +kernel
theorem dX10_align_54 : decode cX10_align 54 = .ok (.ireturn, 1) := by decide +kernel
theorem dX10_sought_0 : decode cX10_sought 0 = .ok (.iload_n 1, 1) := by decide +kernel
theorem dX10_sought_1 : decode cX10_sought 1 = .ok (.invokestatic 156, 3) := by decide +kernel
theorem dX10_sought_4 : decode cX10_sought 4 = .ok (.ifCond .eq 13, 3) := by decide +kernel
theorem dX10_sought_7 : decode cX10_sought 7 = .ok (.iload_n 3, 1) := by decide +kernel
theorem dX10_sought_8 : decode cX10_sought 8 = .ok (.bipush (-2), 2) := by decide +kernel
theorem dX10_sought_10 : decode cX10_sought 10 = .ok (.iconst 2, 1) := by decide +kernel
theorem dX10_sought_11 : decode cX10_sought 11 = .ok (.invokestatic 142, 3) := by decide +kernel
theorem dX10_sought_14 : decode cX10_sought 14 = .ok (.ifCond .ne 5, 3) := by decide +kernel
theorem dX10_sought_17 : decode cX10_sought 17 = .ok (.iconst (-1), 1) := by decide +kernel
theorem dX10_sought_18 : decode cX10_sought 18 = .ok (.ireturn, 1) := by decide +kernel
theorem dX10_sought_19 : decode cX10_sought 19 = .ok (.iload_n 2, 1) := by decide +kernel
theorem dX10_sought_20 : decode cX10_sought 20 = .ok (.invokestatic 238, 3) := by decide +kernel
theorem dX10_sought_23 : decode cX10_sought 23 = .ok (.ifCond .ne 6, 3) := by decide +kernel
theorem dX10_sought_26 : decode cX10_sought 26 = .ok (.bipush (-2), 2) := by decide +kernel
theorem dX10_sought_28 : decode cX10_sought 28 = .ok (.ireturn, 1) := by decide +kernel
theorem dX10_sought_29 : decode cX10_sought 29 = .ok (.aload_n 0, 1) := by decide +kernel
theorem dX10_sought_30 : decode cX10_sought 30 = .ok (.iload_n 1, 1) := by decide +kernel
theorem dX10_sought_31 : decode cX10_sought 31 = .ok (.invokevirtual 241, 3) := by decide +kernel
theorem dX10_sought_34 : decode cX10_sought 34 = .ok (.ifCond .ne 6, 3) := by decide +kernel
theorem dX10_sought_37 : decode cX10_sought 37 = .ok (.bipush (-3), 2) := by decide +kernel
theorem dX10_sought_39 : decode cX10_sought 39 = .ok (.ireturn, 1) := by decide +kernel
theorem dX10_sought_40 : decode cX10_sought 40 = .ok (.aload_n 0, 1) := by decide +kernel
theorem dX10_sought_41 : decode cX10_sought 41 = .ok (.iload_n 1, 1) := by decide +kernel
theorem dX10_sought_42 : decode cX10_sought 42 = .ok (.iload_n 2, 1) := by decide +kernel
theorem dX10_sought_43 : decode cX10_sought 43 = .ok (.invokevirtual 244, 3) := by decide +kernel
theorem dX10_sought_46 : decode cX10_sought 46 = .ok (.istore 4, 2) := by decide +kernel
theorem dX10_sought_48 : decode cX10_sought 48 = .ok (.iload_n 3, 1) := by decide +kernel
theorem dX10_sought_49 : decode cX10_sought 49 = .ok (.bipush (-2), 2) := by decide +kernel
theorem dX10_sought_51 : decode cX10_sought 51 = .ok (.if_icmp .ne 8, 3) := by decide +kernel
theorem dX10_sought_54 : decode cX10_sought 54 = .ok (.iload 4, 2) := by decide +kernel
theorem dX10_sought_56 : decode cX10_sought 56 = .ok (.goto 11, 3) := by decide +kernel
theorem dX10_sought_59 : decode cX10_sought 59 = .ok (.aload_n 0, 1) := by decide +kernel
theorem dX10_sought_60 : decode cX10_sought 60 = .ok (.getfield 83, 3) := by decide +kernel
theorem dX10_sought_63 : decode cX10_sought 63 = .ok (.iload_n 3, 1) := by decide +kernel
theorem dX10_sought_64 : decode cX10_sought 64 = .ok (.invokevirtual 198, 3) := by decide +kernel
theorem dX10_sought_67 : decode cX10_sought 67 = .ok (.ireturn, 1) := by decide +kernel
theorem dX10_seekBest_0 : decode cX10_seekBest 0 = .ok (.aload_n 0, 1) := by decide +kernel
theorem dX10_seekBest_1 : decode cX10_seekBest 1 = .ok (.getfield 62, 3) := by decide +kernel
theorem dX10_seekBest_4 : decode cX10_seekBest 4 = .ok (.iload_n 2, 1) := by decide +kernel
theorem dX10_seekBest_5 : decode cX10_seekBest 5 = .ok (.invokevirtual 247, 3) := by decide +kernel
theorem dX10_seekBest_8 : decode cX10_seekBest 8 = .ok (.ldc 253, 2) := by decide +kernel
theorem dX10_seekBest_10 : decode cX10_seekBest 10 = .ok (.istore_n 3, 1) := by decide +kernel
theorem dX10_seekBest_11 : decode cX10_seekBest 11 = .ok (.iconst 0, 1) := by decide +kernel
theorem dX10_seekBest_12 : decode cX10_seekBest 12 = .ok (.istore 4, 2) := by decide +kernel
theorem dX10_seekBest_14 : decode cX10_seekBest 14 = .ok (.iload 4, 2) := by decide +kernel
theorem dX10_seekBest_16 : decode cX10_seekBest 16 = .ok (.aload_n 0, 1) := by decide +kernel
theorem dX10_seekBest_17 : decode cX10_seekBest 17 = .ok (.getfield 62, 3) := by decide +kernel
theorem dX10_seekBest_20 : decode cX10_seekBest 20 = .ok (.getfield 254, 3) := by decide +kernel
theorem dX10_seekBest_23 : decode cX10_seekBest 23 = .ok (.if_icmp .ge 50, 3) := by decide +kernel
theorem dX10_seekBest_26 : decode cX10_seekBest 26 = .ok (.aload_n 0, 1) := by decide +kernel
theorem dX10_seekBest_27 : decode cX10_seekBest 27 = .ok (.getfield 62, 3) := by decide +kernel
theorem dX10_seekBest_30 : decode cX10_seekBest 30 = .ok (.aload_n 0, 1) := by decide +kernel
theorem dX10_seekBest_31 : decode cX10_seekBest 31 = .ok (.getfield 80, 3) := by decide +kernel
theorem dX10_seekBest_34 : decode cX10_seekBest 34 = .ok (.iload 4, 2) := by decide +kernel
theorem dX10_seekBest_36 : decode cX10_seekBest 36 = .ok (.invokevirtual 257, 3) := by decide +kernel
theorem dX10_seekBest_39 : decode cX10_seekBest 39 = .ok (.aload_n 0, 1) := by decide +kernel
theorem dX10_seekBest_40 : decode cX10_seekBest 40 = .ok (.iload_n 1, 1) := by decide +kernel
theorem dX10_seekBest_41 : decode cX10_seekBest 41 = .ok (.iload_n 3, 1) := by decide +kernel
theorem dX10_seekBest_42 : decode cX10_seekBest 42 = .ok (.invokevirtual 261, 3) := by decide +kernel
theorem dX10_seekBest_45 : decode cX10_seekBest 45 = .ok (.istore 5, 2) := by decide +kernel
theorem dX10_seekBest_47 : decode cX10_seekBest 47 = .ok (.iload 5, 2) := by decide +kernel
theorem dX10_seekBest_49 : decode cX10_seekBest 49 = .ok (.iload_n 3, 1) := by decide +kernel
theorem dX10_seekBest_50 : decode cX10_seekBest 50 = .ok (.if_icmp .ge 17, 3) := by decide +kernel
theorem dX10_seekBest_53 : decode cX10_seekBest 53 = .ok (.iload 5, 2) := by decide +kernel
theorem dX10_seekBest_55 : decode cX10_seekBest 55 = .ok (.istore_n 3, 1) := by decide +kernel
theorem dX10_seekBest_56 : decode cX10_seekBest 56 = .ok (.aload_n 0, 1) := by decide +kernel
theorem dX10_seekBest_57 : decode cX10_seekBest 57 = .ok (.getfield 83, 3) := by decide +kernel
theorem dX10_seekBest_60 : decode cX10_seekBest 60 = .ok (.aload_n 0, 1) := by decide +kernel
theorem dX10_seekBest_61 : decode cX10_seekBest 61 = .ok (.getfield 80, 3) := by decide +kernel
theorem dX10_seekBest_64 : decode cX10_seekBest 64 = .ok (.invokevirtual 220, 3) := by decide +kernel
theorem dX10_seekBest_67 : decode cX10_seekBest 67 = .ok (.iinc 4 1, 3) := by decide +kernel
theorem dX10_seekBest_70 : decode cX10_seekBest 70 = .ok (.goto (-56), 3) := by decide +kernel
theorem dX10_seekBest_73 : decode cX10_seekBest 73 = .ok (.iload_n 3, 1) := by decide +kernel
theorem dX10_seekBest_74 : decode cX10_seekBest 74 = .ok (.ireturn, 1) := by decide +kernel
theorem dX10_costsOfTrial_0 : decode cX10_costsOfTrial 0 = .ok (.iconst 0, 1) := by decide +kernel
theorem dX10_costsOfTrial_1 : decode cX10_costsOfTrial 1 = .ok (.istore_n 3, 1) := by decide +kernel
theorem dX10_costsOfTrial_2 : decode cX10_costsOfTrial 2 = .ok (.iconst 0, 1) := by decide +kernel
theorem dX10_costsOfTrial_3 : decode cX10_costsOfTrial 3 = .ok (.istore 4, 2) := by decide +kernel
theorem dX10_costsOfTrial_5 : decode cX10_costsOfTrial 5 = .ok (.iload 4, 2) := by decide +kernel
theorem dX10_costsOfTrial_7 : decode cX10_costsOfTrial 7 = .ok (.aload_n 0, 1) := by decide +kernel
theorem dX10_costsOfTrial_8 : decode cX10_costsOfTrial 8 = .ok (.getfield 89, 3) := by decide +kernel
theorem dX10_costsOfTrial_11 : decode cX10_costsOfTrial 11 = .ok (.if_icmp .ge 91, 3) := by decide +kernel
theorem dX10_costsOfTrial_14 : decode cX10_costsOfTrial 14 = .ok (.iload_n 3, 1) := by decide +kernel
theorem dX10_costsOfTrial_15 : decode cX10_costsOfTrial 15 = .ok (.iload_n 2, 1) := by decide +kernel
theorem dX10_costsOfTrial_16 : decode cX10_costsOfTrial 16 = .ok (.if_icmp .ge 86, 3) := by decide +kernel
theorem dX10_costsOfTrial_19 : decode cX10_costsOfTrial 19 = .ok (.aload_n 0, 1) := by decide +kernel
theorem dX10_costsOfTrial_20 : decode cX10_costsOfTrial 20 = .ok (.getfield 34, 3) := by decide +kernel
theorem dX10_costsOfTrial_23 : decode cX10_costsOfTrial 23 = .ok (.iload 4, 2) := by decide +kernel
theorem dX10_costsOfTrial_25 : decode cX10_costsOfTrial 25 = .ok (.bipush 6, 2) := by decide +kernel
theorem dX10_costsOfTrial_27 : decode cX10_costsOfTrial 27 = .ok (.imul, 1) := by decide +kernel
theorem dX10_costsOfTrial_28 : decode cX10_costsOfTrial 28 = .ok (.iload_n 1, 1) := by decide +kernel
theorem dX10_costsOfTrial_29 : decode cX10_costsOfTrial 29 = .ok (.iadd, 1) := by decide +kernel
theorem dX10_costsOfTrial_30 : decode cX10_costsOfTrial 30 = .ok (.iaload, 1) := by decide +kernel
theorem dX10_costsOfTrial_31 : decode cX10_costsOfTrial 31 = .ok (.istore 5, 2) := by decide +kernel
theorem dX10_costsOfTrial_33 : decode cX10_costsOfTrial 33 = .ok (.aload_n 0, 1) := by decide +kernel
theorem dX10_costsOfTrial_34 : decode cX10_costsOfTrial 34 = .ok (.iload 5, 2) := by decide +kernel
theorem dX10_costsOfTrial_36 : decode cX10_costsOfTrial 36 = .ok (.invokevirtual 176, 3) := by decide +kernel
theorem dX10_costsOfTrial_39 : decode cX10_costsOfTrial 39 = .ok (.ifCond .ne 6, 3) := by decide +kernel
theorem dX10_costsOfTrial_42 : decode cX10_costsOfTrial 42 = .ok (.goto 54, 3) := by decide +kernel
theorem dX10_costsOfTrial_45 : decode cX10_costsOfTrial 45 = .ok (.aload_n 0, 1) := by decide +kernel
theorem dX10_costsOfTrial_46 : decode cX10_costsOfTrial 46 = .ok (.getfield 76, 3) := by decide +kernel
theorem dX10_costsOfTrial_49 : decode cX10_costsOfTrial 49 = .ok (.aload_n 0, 1) := by decide +kernel
theorem dX10_costsOfTrial_50 : decode cX10_costsOfTrial 50 = .ok (.getfield 80, 3) := by decide +kernel
theorem dX10_costsOfTrial_53 : decode cX10_costsOfTrial 53 = .ok (.invokevirtual 220, 3) := by decide +kernel
theorem dX10_costsOfTrial_56 : decode cX10_costsOfTrial 56 = .ok (.aload_n 0, 1) := by decide +kernel
theorem dX10_costsOfTrial_57 : decode cX10_costsOfTrial 57 = .ok (.getfield 48, 3) := by decide +kernel
theorem dX10_costsOfTrial_60 : decode cX10_costsOfTrial 60 = .ok (.iload 4, 2) := by decide +kernel
theorem dX10_costsOfTrial_62 : decode cX10_costsOfTrial 62 = .ok (.aload_n 0, 1) := by decide +kernel
theorem dX10_costsOfTrial_63 : decode cX10_costsOfTrial 63 = .ok (.getfield 76, 3) := by decide +kernel
theorem dX10_costsOfTrial_66 : decode cX10_costsOfTrial 66 = .ok (.bipush 8, 2) := by decide +kernel
theorem dX10_costsOfTrial_68 : decode cX10_costsOfTrial 68 = .ok (.invokevirtual 223, 3) := by decide +kernel
theorem dX10_costsOfTrial_71 : decode cX10_costsOfTrial 71 = .ok (.pop, 1) := by decide +kernel
theorem dX10_costsOfTrial_72 : decode cX10_costsOfTrial 72 = .ok (.iload_n 3, 1) := by decide +kernel
theorem dX10_costsOfTrial_73 : decode cX10_costsOfTrial 73 = .ok (.aload_n 0, 1) := by decide +kernel
theorem dX10_costsOfTrial_74 : decode cX10_costsOfTrial 74 = .ok (.getfield 55, 3) := by decide +kernel
theorem dX10_costsOfTrial_77 : decode cX10_costsOfTrial 77 = .ok (.aload_n 0, 1) := by decide +kernel
theorem dX10_costsOfTrial_78 : decode cX10_costsOfTrial 78 = .ok (.getfield 76, 3) := by decide +kernel
theorem dX10_costsOfTrial_81 : decode cX10_costsOfTrial 81 = .ok (.aload_n 0, 1) := by decide +kernel
theorem dX10_costsOfTrial_82 : decode cX10_costsOfTrial 82 = .ok (.getfield 30, 3) := by decide +kernel
theorem dX10_costsOfTrial_85 : decode cX10_costsOfTrial 85 = .ok (.iload 5, 2) := by decide +kernel
theorem dX10_costsOfTrial_87 : decode cX10_costsOfTrial 87 = .ok (.aaload, 1) := by decide +kernel
theorem dX10_costsOfTrial_88 : decode cX10_costsOfTrial 88 = .ok (.getfield 188, 3) := by decide +kernel
theorem dX10_costsOfTrial_91 : decode cX10_costsOfTrial 91 = .ok (.invokevirtual 230, 3) := by decide +kernel
theorem dX10_costsOfTrial_94 : decode cX10_costsOfTrial 94 = .ok (.iadd, 1) := by decide +kernel
theorem dX10_costsOfTrial_95 : decode cX10_costsOfTrial 95 = .ok (.istore_n 3, 1) := by decide +kernel
theorem dX10_costsOfTrial_96 : decode cX10_costsOfTrial 96 = .ok (.iinc 4 1, 3) := by decide +kernel
theorem dX10_costsOfTrial_99 : decode cX10_costsOfTrial 99 = .ok (.goto (-94), 3) := by decide +kernel
theorem dX10_costsOfTrial_102 : decode cX10_costsOfTrial 102 = .ok (.iload_n 3, 1) := by decide +kernel
theorem dX10_costsOfTrial_103 : decode cX10_costsOfTrial 103 = .ok (.ireturn, 1) := by decide +kernel
theorem dX10_regular_0 : decode cX10_regular 0 = .ok (.aload_n 0, 1) := by decide +kernel
theorem dX10_regular_1 : decode cX10_regular 1 = .ok (.iload_n 1, 1) := by decide +kernel
theorem dX10_regular_2 : decode cX10_regular 2 = .ok (.invokevirtual 176, 3) := by decide +kernel
theorem dX10_regular_5 : decode cX10_regular 5 = .ok (.ifCond .ne 5, 3) := by decide +kernel
theorem dX10_regular_8 : decode cX10_regular 8 = .ok (.iconst (-1), 1) := by decide +kernel
theorem dX10_regular_9 : decode cX10_regular 9 = .ok (.ireturn, 1) := by decide +kernel
theorem dX10_regular_10 : decode cX10_regular 10 = .ok (.aload_n 0, 1) := by decide +kernel
theorem dX10_regular_11 : decode cX10_regular 11 = .ok (.getfield 30, 3) := by decide +kernel
theorem dX10_regular_14 : decode cX10_regular 14 = .ok (.iload_n 1, 1) := by decide +kernel
theorem dX10_regular_15 : decode cX10_regular 15 = .ok (.aaload, 1) := by decide +kernel
theorem dX10_regular_16 : decode cX10_regular 16 = .ok (.astore_n 2, 1) := by decide +kernel
theorem dX10_regular_17 : decode cX10_regular 17 = .ok (.aload_n 2, 1) := by decide +kernel
theorem dX10_regular_18 : decode cX10_regular 18 = .ok (.getfield 185, 3) := by decide +kernel
theorem dX10_regular_21 : decode cX10_regular 21 = .ok (.aload_n 0, 1) := by decide +kernel
theorem dX10_regular_22 : decode cX10_regular 22 = .ok (.getfield 96, 3) := by decide +kernel
theorem dX10_regular_25 : decode cX10_regular 25 = .ok (.invokestatic 128, 3) := by decide +kernel
theorem dX10_regular_28 : decode cX10_regular 28 = .ok (.ifCond .ne 6, 3) := by decide +kernel
theorem dX10_regular_31 : decode cX10_regular 31 = .ok (.bipush (-3), 2) := by decide +kernel
theorem dX10_regular_33 : decode cX10_regular 33 = .ok (.ireturn, 1) := by decide +kernel
theorem dX10_regular_34 : decode cX10_regular 34 = .ok (.aload_n 0, 1) := by decide +kernel
theorem dX10_regular_35 : decode cX10_regular 35 = .ok (.getfield 76, 3) := by decide +kernel
theorem dX10_regular_38 : decode cX10_regular 38 = .ok (.aload_n 0, 1) := by decide +kernel
theorem dX10_regular_39 : decode cX10_regular 39 = .ok (.getfield 39, 3) := by decide +kernel
theorem dX10_regular_42 : decode cX10_regular 42 = .ok (.aload_n 2, 1) := by decide +kernel
theorem dX10_regular_43 : decode cX10_regular 43 = .ok (.getfield 185, 3) := by decide +kernel
theorem dX10_regular_46 : decode cX10_regular 46 = .ok (.aaload, 1) := by decide +kernel
theorem dX10_regular_47 : decode cX10_regular 47 = .ok (.invokevirtual 220, 3) := by decide +kernel
theorem dX10_regular_50 : decode cX10_regular 50 = .ok (.aload_n 0, 1) := by decide +kernel
theorem dX10_regular_51 : decode cX10_regular 51 = .ok (.getfield 48, 3) := by decide +kernel
theorem dX10_regular_54 : decode cX10_regular 54 = .ok (.aload_n 2, 1) := by decide +kernel
theorem dX10_regular_55 : decode cX10_regular 55 = .ok (.getfield 182, 3) := by decide +kernel
theorem dX10_regular_58 : decode cX10_regular 58 = .ok (.aload_n 0, 1) := by decide +kernel
theorem dX10_regular_59 : decode cX10_regular 59 = .ok (.getfield 76, 3) := by decide +kernel
theorem dX10_regular_62 : decode cX10_regular 62 = .ok (.bipush 8, 2) := by decide +kernel
theorem dX10_regular_64 : decode cX10_regular 64 = .ok (.invokevirtual 223, 3) := by decide +kernel
theorem dX10_regular_67 : decode cX10_regular 67 = .ok (.pop, 1) := by decide +kernel
theorem dX10_regular_68 : decode cX10_regular 68 = .ok (.aload_n 0, 1) := by decide +kernel
theorem dX10_regular_69 : decode cX10_regular 69 = .ok (.getfield 76, 3) := by decide +kernel
theorem dX10_regular_72 : decode cX10_regular 72 = .ok (.aload_n 2, 1) := by decide +kernel
theorem dX10_regular_73 : decode cX10_regular 73 = .ok (.getfield 188, 3) := by decide +kernel
theorem dX10_regular_76 : decode cX10_regular 76 = .ok (.invokevirtual 264, 3) := by decide +kernel
theorem dX10_regular_79 : decode cX10_regular 79 = .ok (.ifCond .eq 7, 3) := by decide +kernel
theorem dX10_regular_82 : decode cX10_regular 82 = .ok (.iconst 1, 1) := by decide +kernel
theorem dX10_regular_83 : decode cX10_regular 83 = .ok (.goto 4, 3) := by decide +kernel
theorem dX10_regular_86 : decode cX10_regular 86 = .ok (.iconst 0, 1) := by decide +kernel
theorem dX10_regular_87 : decode cX10_regular 87 = .ok (.ireturn, 1) := by decide +kernel
theorem dX10_ways_0 : decode cX10_ways 0 = .ok (.aload_n 0, 1) := by decide +kernel
theorem dX10_ways_1 : decode cX10_ways 1 = .ok (.iload_n 1, 1) := by decide +kernel
theorem dX10_ways_2 : decode cX10_ways 2 = .ok (.invokevirtual 176, 3) := by decide +kernel
theorem dX10_ways_5 : decode cX10_ways 5 = .ok (.ifCond .ne 5, 3) := by decide +kernel
theorem dX10_ways_8 : decode cX10_ways 8 = .ok (.iconst (-1), 1) := by decide +kernel
theorem dX10_ways_9 : decode cX10_ways 9 = .ok (.ireturn, 1) := by decide +kernel
theorem dX10_ways_10 : decode cX10_ways 10 = .ok (.iload_n 2, 1) := by decide +kernel
theorem dX10_ways_11 : decode cX10_ways 11 = .ok (.invokestatic 238, 3) := by decide +kernel
theorem dX10_ways_14 : decode cX10_ways 14 = .ok (.ifCond .ne 6, 3) := by decide +kernel
theorem dX10_ways_17 : decode cX10_ways 17 = .ok (.bipush (-2), 2) := by decide +kernel
theorem dX10_ways_19 : decode cX10_ways 19 = .ok (.ireturn, 1) := by decide +kernel
theorem dX10_ways_20 : decode cX10_ways 20 = .ok (.aload_n 0, 1) := by decide +kernel
theorem dX10_ways_21 : decode cX10_ways 21 = .ok (.getfield 62, 3) := by decide +kernel
theorem dX10_ways_24 : decode cX10_ways 24 = .ok (.iload_n 2, 1) := by decide +kernel
theorem dX10_ways_25 : decode cX10_ways 25 = .ok (.invokevirtual 247, 3) := by decide +kernel
theorem dX10_ways_28 : decode cX10_ways 28 = .ok (.iconst 0, 1) := by decide +kernel
theorem dX10_ways_29 : decode cX10_ways 29 = .ok (.istore_n 3, 1) := by decide +kernel
theorem dX10_ways_30 : decode cX10_ways 30 = .ok (.iconst 0, 1) := by decide +kernel
theorem dX10_ways_31 : decode cX10_ways 31 = .ok (.istore 4, 2) := by decide +kernel
theorem dX10_ways_33 : decode cX10_ways 33 = .ok (.iload 4, 2) := by decide +kernel
theorem dX10_ways_35 : decode cX10_ways 35 = .ok (.aload_n 0, 1) := by decide +kernel
theorem dX10_ways_36 : decode cX10_ways 36 = .ok (.getfield 62, 3) := by decide +kernel
theorem dX10_ways_39 : decode cX10_ways 39 = .ok (.getfield 254, 3) := by decide +kernel
theorem dX10_ways_42 : decode cX10_ways 42 = .ok (.if_icmp .ge 67, 3) := by decide +kernel
theorem dX10_ways_45 : decode cX10_ways 45 = .ok (.aload_n 0, 1) := by decide +kernel
theorem dX10_ways_46 : decode cX10_ways 46 = .ok (.getfield 62, 3) := by decide +kernel
theorem dX10_ways_49 : decode cX10_ways 49 = .ok (.aload_n 0, 1) := by decide +kernel
theorem dX10_ways_50 : decode cX10_ways 50 = .ok (.getfield 76, 3) := by decide +kernel
theorem dX10_ways_53 : decode cX10_ways 53 = .ok (.iload 4, 2) := by decide +kernel
theorem dX10_ways_55 : decode cX10_ways 55 = .ok (.invokevirtual 257, 3) := by decide +kernel
theorem dX10_ways_58 : decode cX10_ways 58 = .ok (.aload_n 0, 1) := by decide +kernel
theorem dX10_ways_59 : decode cX10_ways 59 = .ok (.getfield 48, 3) := by decide +kernel
theorem dX10_ways_62 : decode cX10_ways 62 = .ok (.aload_n 0, 1) := by decide +kernel
theorem dX10_ways_63 : decode cX10_ways 63 = .ok (.getfield 30, 3) := by decide +kernel
theorem dX10_ways_66 : decode cX10_ways 66 = .ok (.iload_n 1, 1) := by decide +kernel
theorem dX10_ways_67 : decode cX10_ways 67 = .ok (.aaload, 1) := by decide +kernel
theorem dX10_ways_68 : decode cX10_ways 68 = .ok (.getfield 182, 3) := by decide +kernel
theorem dX10_ways_71 : decode cX10_ways 71 = .ok (.aload_n 0, 1) := by decide +kernel
theorem dX10_ways_72 : decode cX10_ways 72 = .ok (.getfield 76, 3) := by decide +kernel
theorem dX10_ways_75 : decode cX10_ways 75 = .ok (.bipush 8, 2) := by decide +kernel
theorem dX10_ways_77 : decode cX10_ways 77 = .ok (.invokevirtual 223, 3) := by decide +kernel
theorem dX10_ways_80 : decode cX10_ways 80 = .ok (.pop, 1) := by decide +kernel
theorem dX10_ways_81 : decode cX10_ways 81 = .ok (.aload_n 0, 1) := by decide +kernel
theorem dX10_ways_82 : decode cX10_ways 82 = .ok (.getfield 76, 3) := by decide +kernel
theorem dX10_ways_85 : decode cX10_ways 85 = .ok (.aload_n 0, 1) := by decide +kernel
theorem dX10_ways_86 : decode cX10_ways 86 = .ok (.getfield 30, 3) := by decide +kernel
theorem dX10_ways_89 : decode cX10_ways 89 = .ok (.iload_n 1, 1) := by decide +kernel
theorem dX10_ways_90 : decode cX10_ways 90 = .ok (.aaload, 1) := by decide +kernel
theorem dX10_ways_91 : decode cX10_ways 91 = .ok (.getfield 188, 3) := by decide +kernel
theorem dX10_ways_94 : decode cX10_ways 94 = .ok (.invokevirtual 264, 3) := by decide +kernel
theorem dX10_ways_97 : decode cX10_ways 97 = .ok (.ifCond .eq 6, 3) := by decide +kernel
theorem dX10_ways_100 : decode cX10_ways 100 = .ok (.iinc 3 1, 3) := by decide +kernel
theorem dX10_ways_103 : decode cX10_ways 103 = .ok (.iinc 4 1, 3) := by decide +kernel
theorem dX10_ways_106 : decode cX10_ways 106 = .ok (.goto (-73), 3) := by decide +kernel
theorem dX10_ways_109 : decode cX10_ways 109 = .ok (.iload_n 3, 1) := by decide +kernel
theorem dX10_ways_110 : decode cX10_ways 110 = .ok (.ireturn, 1) := by decide +kernel
theorem dX10_order_0 : decode cX10_order 0 = .ok (.aload_n 0, 1) := by decide +kernel
theorem dX10_order_1 : decode cX10_order 1 = .ok (.iload_n 1, 1) := by decide +kernel
theorem dX10_order_2 : decode cX10_order 2 = .ok (.invokevirtual 152, 3) := by decide +kernel
theorem dX10_order_5 : decode cX10_order 5 = .ok (.ifCond .eq 13, 3) := by decide +kernel
theorem dX10_order_8 : decode cX10_order 8 = .ok (.iload_n 2, 1) := by decide +kernel
theorem dX10_order_9 : decode cX10_order 9 = .ok (.iconst (-1), 1) := by decide +kernel
theorem dX10_order_10 : decode cX10_order 10 = .ok (.bipush 7, 2) := by decide +kernel
theorem dX10_order_12 : decode cX10_order 12 = .ok (.invokestatic 142, 3) := by decide +kernel
theorem dX10_order_15 : decode cX10_order 15 = .ok (.ifCond .ne 5, 3) := by decide +kernel
theorem dX10_order_18 : decode cX10_order 18 = .ok (.iconst (-1), 1) := by decide +kernel
theorem dX10_order_19 : decode cX10_order 19 = .ok (.ireturn, 1) := by decide +kernel
theorem dX10_order_20 : decode cX10_order 20 = .ok (.aload_n 0, 1) := by decide +kernel
theorem dX10_order_21 : decode cX10_order 21 = .ok (.getfield 48, 3) := by decide +kernel
theorem dX10_order_24 : decode cX10_order 24 = .ok (.iload_n 1, 1) := by decide +kernel
theorem dX10_order_25 : decode cX10_order 25 = .ok (.aload_n 0, 1) := by decide +kernel
theorem dX10_order_26 : decode cX10_order 26 = .ok (.getfield 80, 3) := by decide +kernel
theorem dX10_order_29 : decode cX10_order 29 = .ok (.invokevirtual 268, 3) := by decide +kernel
theorem dX10_order_32 : decode cX10_order 32 = .ok (.aload_n 0, 1) := by decide +kernel
theorem dX10_order_33 : decode cX10_order 33 = .ok (.getfield 80, 3) := by decide +kernel
theorem dX10_order_36 : decode cX10_order 36 = .ok (.getfield 191, 3) := by decide +kernel
theorem dX10_order_39 : decode cX10_order 39 = .ok (.bipush 6, 2) := by decide +kernel
theorem dX10_order_41 : decode cX10_order 41 = .ok (.if_icmp .le 6, 3) := by decide +kernel
theorem dX10_order_44 : decode cX10_order 44 = .ok (.bipush (-3), 2) := by decide +kernel
theorem dX10_order_46 : decode cX10_order 46 = .ok (.ireturn, 1) := by decide +kernel
theorem dX10_order_47 : decode cX10_order 47 = .ok (.aload_n 0, 1) := by decide +kernel
theorem dX10_order_48 : decode cX10_order 48 = .ok (.iload_n 1, 1) := by decide +kernel
theorem dX10_order_49 : decode cX10_order 49 = .ok (.invokevirtual 272, 3) := by decide +kernel
theorem dX10_order_52 : decode cX10_order 52 = .ok (.istore_n 3, 1) := by decide +kernel
theorem dX10_order_53 : decode cX10_order 53 = .ok (.iload_n 2, 1) := by decide +kernel
theorem dX10_order_54 : decode cX10_order 54 = .ok (.iconst (-1), 1) := by decide +kernel
theorem dX10_order_55 : decode cX10_order 55 = .ok (.if_icmp .ne 7, 3) := by decide +kernel
theorem dX10_order_58 : decode cX10_order 58 = .ok (.iload_n 3, 1) := by decide +kernel
theorem dX10_order_59 : decode cX10_order 59 = .ok (.goto 11, 3) := by decide +kernel
theorem dX10_order_62 : decode cX10_order 62 = .ok (.aload_n 0, 1) := by decide +kernel
theorem dX10_order_63 : decode cX10_order 63 = .ok (.getfield 83, 3) := by decide +kernel
theorem dX10_order_66 : decode cX10_order 66 = .ok (.iload_n 2, 1) := by decide +kernel
theorem dX10_order_67 : decode cX10_order 67 = .ok (.invokevirtual 194, 3) := by decide +kernel
theorem dX10_order_70 : decode cX10_order 70 = .ok (.ireturn, 1) := by decide +kernel
theorem dX10_orderBest_0 : decode cX10_orderBest 0 = .ok (.iconst (-1), 1) := by decide +kernel
theorem dX10_orderBest_1 : decode cX10_orderBest 1 = .ok (.istore_n 2, 1) := by decide +kernel
theorem dX10_orderBest_2 : decode cX10_orderBest 2 = .ok (.iconst 1, 1) := by decide +kernel
theorem dX10_orderBest_3 : decode cX10_orderBest 3 = .ok (.istore_n 3, 1) := by decide +kernel
theorem dX10_orderBest_4 : decode cX10_orderBest 4 = .ok (.iconst 0, 1) := by decide +kernel
theorem dX10_orderBest_5 : decode cX10_orderBest 5 = .ok (.istore 4, 2) := by decide +kernel
theorem dX10_orderBest_7 : decode cX10_orderBest 7 = .ok (.iload 4, 2) := by decide +kernel
theorem dX10_orderBest_9 : decode cX10_orderBest 9 = .ok (.sipush 720, 3) := by decide +kernel
theorem dX10_orderBest_12 : decode cX10_orderBest 12 = .ok (.if_icmp .ge 48, 3) := by decide +kernel
theorem dX10_orderBest_15 : decode cX10_orderBest 15 = .ok (.iload_n 3, 1) := by decide +kernel
theorem dX10_orderBest_16 : decode cX10_orderBest 16 = .ok (.ifCond .eq 44, 3) := by decide +kernel
theorem dX10_orderBest_19 : decode cX10_orderBest 19 = .ok (.aload_n 0, 1) := by decide +kernel
theorem dX10_orderBest_20 : decode cX10_orderBest 20 = .ok (.iload_n 1, 1) := by decide +kernel
theorem dX10_orderBest_21 : decode cX10_orderBest 21 = .ok (.invokevirtual 275, 3) := by decide +kernel
theorem dX10_orderBest_24 : decode cX10_orderBest 24 = .ok (.istore 5, 2) := by decide +kernel
theorem dX10_orderBest_26 : decode cX10_orderBest 26 = .ok (.iload 5, 2) := by decide +kernel
theorem dX10_orderBest_28 : decode cX10_orderBest 28 = .ok (.iload_n 2, 1) := by decide +kernel
theorem dX10_orderBest_29 : decode cX10_orderBest 29 = .ok (.if_icmp .le 17, 3) := by decide +kernel
theorem dX10_orderBest_32 : decode cX10_orderBest 32 = .ok (.iload 5, 2) := by decide +kernel
theorem dX10_orderBest_34 : decode cX10_orderBest 34 = .ok (.istore_n 2, 1) := by decide +kernel
theorem dX10_orderBest_35 : decode cX10_orderBest 35 = .ok (.aload_n 0, 1) := by decide +kernel
theorem dX10_orderBest_36 : decode cX10_orderBest 36 = .ok (.getfield 83, 3) := by decide +kernel
theorem dX10_orderBest_39 : decode cX10_orderBest 39 = .ok (.aload_n 0, 1) := by decide +kernel
theorem dX10_orderBest_40 : decode cX10_orderBest 40 = .ok (.getfield 80, 3) := by decide +kernel
theorem dX10_orderBest_43 : decode cX10_orderBest 43 = .ok (.invokevirtual 220, 3) := by decide +kernel
theorem dX10_orderBest_46 : decode cX10_orderBest 46 = .ok (.aload_n 0, 1) := by decide +kernel
theorem dX10_orderBest_47 : decode cX10_orderBest 47 = .ok (.getfield 80, 3) := by decide +kernel
theorem dX10_orderBest_50 : decode cX10_orderBest 50 = .ok (.invokevirtual 278, 3) := by decide +kernel
theorem dX10_orderBest_53 : decode cX10_orderBest 53 = .ok (.istore_n 3, 1) := by decide +kernel
theorem dX10_orderBest_54 : decode cX10_orderBest 54 = .ok (.iinc 4 1, 3) := by decide +kernel
theorem dX10_orderBest_57 : decode cX10_orderBest 57 = .ok (.goto (-50), 3) := by decide +kernel
theorem dX10_orderBest_60 : decode cX10_orderBest 60 = .ok (.iload_n 2, 1) := by decide +kernel
theorem dX10_orderBest_61 : decode cX10_orderBest 61 = .ok (.ireturn, 1) := by decide +kernel
theorem dX10_regularByTrial_0 : decode cX10_regularByTrial 0 = .ok (.iconst 0, 1) := by decide +kernel
theorem dX10_regularByTrial_1 : decode cX10_regularByTrial 1 = .ok (.istore_n 2, 1) := by decide +kernel
theorem dX10_regularByTrial_2 : decode cX10_regularByTrial 2 = .ok (.iconst 0, 1) := by decide +kernel
theorem dX10_regularByTrial_3 : decode cX10_regularByTrial 3 = .ok (.istore_n 3, 1) := by decide +kernel
theorem dX10_regularByTrial_4 : decode cX10_regularByTrial 4 = .ok (.iload_n 3, 1) := by decide +kernel
theorem dX10_regularByTrial_5 : decode cX10_regularByTrial 5 = .ok (.bipush 6, 2) := by decide +kernel
theorem dX10_regularByTrial_7 : decode cX10_regularByTrial 7 = .ok (.if_icmp .ge 96, 3) := by decide +kernel
theorem dX10_regularByTrial_10 : decode cX10_regularByTrial 10 = .ok (.aload_n 0, 1) := by decide +kernel
theorem dX10_regularByTrial_11 : decode cX10_regularByTrial 11 = .ok (.getfield 34, 3) := by decide +kernel
theorem dX10_regularByTrial_14 : decode cX10_regularByTrial 14 = .ok (.iload_n 1, 1) := by decide +kernel
theorem dX10_regularByTrial_15 : decode cX10_regularByTrial 15 = .ok (.bipush 6, 2) := by decide +kernel
theorem dX10_regularByTrial_17 : decode cX10_regularByTrial 17 = .ok (.imul, 1) := by decide +kernel
theorem dX10_regularByTrial_18 : decode cX10_regularByTrial 18 = .ok (.iload_n 3, 1) := by decide +kernel
theorem dX10_regularByTrial_19 : decode cX10_regularByTrial 19 = .ok (.iadd, 1) := by decide +kernel
theorem dX10_regularByTrial_20 : decode cX10_regularByTrial 20 = .ok (.iaload, 1) := by decide +kernel
theorem dX10_regularByTrial_21 : decode cX10_regularByTrial 21 = .ok (.istore 4, 2) := by decide +kernel
theorem dX10_regularByTrial_23 : decode cX10_regularByTrial 23 = .ok (.aload_n 0, 1) := by decide +kernel
theorem dX10_regularByTrial_24 : decode cX10_regularByTrial 24 = .ok (.iload 4, 2) := by decide +kernel
theorem dX10_regularByTrial_26 : decode cX10_regularByTrial 26 = .ok (.invokevirtual 176, 3) := by decide +kernel
theorem dX10_regularByTrial_29 : decode cX10_regularByTrial 29 = .ok (.ifCond .eq 68, 3) := by decide +kernel
theorem dX10_regularByTrial_32 : decode cX10_regularByTrial 32 = .ok (.iload_n 3, 1) := by decide +kernel
theorem dX10_regularByTrial_33 : decode cX10_regularByTrial 33 = .ok (.aload_n 0, 1) := by decide +kernel
theorem dX10_regularByTrial_34 : decode cX10_regularByTrial 34 = .ok (.getfield 96, 3) := by decide +kernel
theorem dX10_regularByTrial_37 : decode cX10_regularByTrial 37 = .ok (.invokestatic 128, 3) := by decide +kernel
theorem dX10_regularByTrial_40 : decode cX10_regularByTrial 40 = .ok (.ifCond .ne 6, 3) := by decide +kernel
theorem dX10_regularByTrial_43 : decode cX10_regularByTrial 43 = .ok (.goto 54, 3) := by decide +kernel
theorem dX10_regularByTrial_46 : decode cX10_regularByTrial 46 = .ok (.aload_n 0, 1) := by decide +kernel
theorem dX10_regularByTrial_47 : decode cX10_regularByTrial 47 = .ok (.getfield 76, 3) := by decide +kernel
theorem dX10_regularByTrial_50 : decode cX10_regularByTrial 50 = .ok (.aload_n 0, 1) := by decide +kernel
theorem dX10_regularByTrial_51 : decode cX10_regularByTrial 51 = .ok (.getfield 39, 3) := by decide +kernel
theorem dX10_regularByTrial_54 : decode cX10_regularByTrial 54 = .ok (.iload_n 3, 1) := by decide +kernel
theorem dX10_regularByTrial_55 : decode cX10_regularByTrial 55 = .ok (.aaload, 1) := by decide +kernel
theorem dX10_regularByTrial_56 : decode cX10_regularByTrial 56 = .ok (.invokevirtual 220, 3) := by decide +kernel
theorem dX10_regularByTrial_59 : decode cX10_regularByTrial 59 = .ok (.aload_n 0, 1) := by decide +kernel
theorem dX10_regularByTrial_60 : decode cX10_regularByTrial 60 = .ok (.getfield 48, 3) := by decide +kernel
theorem dX10_regularByTrial_63 : decode cX10_regularByTrial 63 = .ok (.aload_n 0, 1) := by decide +kernel
theorem dX10_regularByTrial_64 : decode cX10_regularByTrial 64 = .ok (.getfield 80, 3) := by decide +kernel
theorem dX10_regularByTrial_67 : decode cX10_regularByTrial 67 = .ok (.aload_n 0, 1) := by decide +kernel
theorem dX10_regularByTrial_68 : decode cX10_regularByTrial 68 = .ok (.getfield 76, 3) := by decide +kernel
theorem dX10_regularByTrial_71 : decode cX10_regularByTrial 71 = .ok (.invokevirtual 282, 3) := by decide +kernel
theorem dX10_regularByTrial_74 : decode cX10_regularByTrial 74 = .ok (.aload_n 0, 1) := by decide +kernel
theorem dX10_regularByTrial_75 : decode cX10_regularByTrial 75 = .ok (.getfield 76, 3) := by decide +kernel
theorem dX10_regularByTrial_78 : decode cX10_regularByTrial 78 = .ok (.aload_n 0, 1) := by decide +kernel
theorem dX10_regularByTrial_79 : decode cX10_regularByTrial 79 = .ok (.getfield 30, 3) := by decide +kernel
theorem dX10_regularByTrial_82 : decode cX10_regularByTrial 82 = .ok (.iload 4, 2) := by decide +kernel
theorem dX10_regularByTrial_84 : decode cX10_regularByTrial 84 = .ok (.aaload, 1) := by decide +kernel
theorem dX10_regularByTrial_85 : decode cX10_regularByTrial 85 = .ok (.getfield 188, 3) := by decide +kernel
theorem dX10_regularByTrial_88 : decode cX10_regularByTrial 88 = .ok (.invokevirtual 264, 3) := by decide +kernel
theorem dX10_regularByTrial_91 : decode cX10_regularByTrial 91 = .ok (.ifCond .eq 6, 3) := by decide +kernel
theorem dX10_regularByTrial_94 : decode cX10_regularByTrial 94 = .ok (.iinc 2 1, 3) := by decide +kernel
theorem dX10_regularByTrial_97 : decode cX10_regularByTrial 97 = .ok (.iinc 3 1, 3) := by decide +kernel
theorem dX10_regularByTrial_100 : decode cX10_regularByTrial 100 = .ok (.goto (-96), 3) := by decide +kernel
theorem dX10_regularByTrial_103 : decode cX10_regularByTrial 103 = .ok (.iload_n 2, 1) := by decide +kernel
theorem dX10_regularByTrial_104 : decode cX10_regularByTrial 104 = .ok (.ireturn, 1) := by decide +kernel
theorem dX10_limit_0 : decode cX10_limit 0 = .ok (.iload_n 1, 1) := by decide +kernel
theorem dX10_limit_1 : decode cX10_limit 1 = .ok (.iconst 0, 1) := by decide +kernel
theorem dX10_limit_2 : decode cX10_limit 2 = .ok (.bipush 99, 2) := by decide +kernel
theorem dX10_limit_4 : decode cX10_limit 4 = .ok (.invokestatic 142, 3) := by decide +kernel
theorem dX10_limit_7 : decode cX10_limit 7 = .ok (.ifCond .ne 6, 3) := by decide +kernel
theorem dX10_limit_10 : decode cX10_limit 10 = .ok (.bipush (-2), 2) := by decide +kernel
theorem dX10_limit_12 : decode cX10_limit 12 = .ok (.ireturn, 1) := by decide +kernel
theorem dX10_limit_13 : decode cX10_limit 13 = .ok (.aload_n 0, 1) := by decide +kernel
theorem dX10_limit_14 : decode cX10_limit 14 = .ok (.getfield 55, 3) := by decide +kernel
theorem dX10_limit_17 : decode cX10_limit 17 = .ok (.getfield 286, 3) := by decide +kernel
theorem dX10_limit_20 : decode cX10_limit 20 = .ok (.istore_n 2, 1) := by decide +kernel
theorem dX10_limit_21 : decode cX10_limit 21 = .ok (.aload_n 0, 1) := by decide +kernel
theorem dX10_limit_22 : decode cX10_limit 22 = .ok (.getfield 55, 3) := by decide +kernel
theorem dX10_limit_25 : decode cX10_limit 25 = .ok (.iload_n 1, 1) := by decide +kernel
theorem dX10_limit_26 : decode cX10_limit 26 = .ok (.putfield 286, 3) := by decide +kernel
theorem dX10_limit_29 : decode cX10_limit 29 = .ok (.iload_n 2, 1) := by decide +kernel
theorem dX10_limit_30 : decode cX10_limit 30 = .ok (.ireturn, 1) := by decide +kernel
theorem dX10_group_0 : decode cX10_group 0 = .ok (.iload_n 1, 1) := by decide +kernel
theorem dX10_group_1 : decode cX10_group 1 = .ok (.invokestatic 156, 3) := by decide +kernel
theorem dX10_group_4 : decode cX10_group 4 = .ok (.ifCond .eq 16, 3) := by decide +kernel
theorem dX10_group_7 : decode cX10_group 7 = .ok (.iload_n 2, 1) := by decide +kernel
theorem dX10_group_8 : decode cX10_group 8 = .ok (.iconst (-1), 1) := by decide +kernel
theorem dX10_group_9 : decode cX10_group 9 = .ok (.if_icmp .eq 13, 3) := by decide +kernel
theorem dX10_group_12 : decode cX10_group 12 = .ok (.aload_n 0, 1) := by decide +kernel
theorem dX10_group_13 : decode cX10_group 13 = .ok (.iload_n 2, 1) := by decide +kernel
theorem dX10_group_14 : decode cX10_group 14 = .ok (.invokevirtual 152, 3) := by decide +kernel
theorem dX10_group_17 : decode cX10_group 17 = .ok (.ifCond .ne 5, 3) := by decide +kernel
theorem dX10_group_20 : decode cX10_group 20 = .ok (.iconst (-1), 1) := by decide +kernel
theorem dX10_group_21 : decode cX10_group 21 = .ok (.ireturn, 1) := by decide +kernel
theorem dX10_group_22 : decode cX10_group 22 = .ok (.iconst 0, 1) := by decide +kernel
theorem dX10_group_23 : decode cX10_group 23 = .ok (.istore_n 3, 1) := by decide +kernel
theorem dX10_group_24 : decode cX10_group 24 = .ok (.iload_n 3, 1) := by decide +kernel
theorem dX10_group_25 : decode cX10_group 25 = .ok (.bipush 8, 2) := by decide +kernel
theorem dX10_group_27 : decode cX10_group 27 = .ok (.if_icmp .ge 21, 3) := by decide +kernel
theorem dX10_group_30 : decode cX10_group 30 = .ok (.aload_n 0, 1) := by decide +kernel
theorem dX10_group_31 : decode cX10_group 31 = .ok (.getfield 86, 3) := by decide +kernel
theorem dX10_group_34 : decode cX10_group 34 = .ok (.iload_n 3, 1) := by decide +kernel
theorem dX10_group_35 : decode cX10_group 35 = .ok (.aload_n 0, 1) := by decide +kernel
theorem dX10_group_36 : decode cX10_group 36 = .ok (.iload_n 3, 1) := by decide +kernel
theorem dX10_group_37 : decode cX10_group 37 = .ok (.iload_n 1, 1) := by decide +kernel
theorem dX10_group_38 : decode cX10_group 38 = .ok (.invokevirtual 289, 3) := by decide +kernel
theorem dX10_group_41 : decode cX10_group 41 = .ok (.iastore, 1) := by decide +kernel
theorem dX10_group_42 : decode cX10_group 42 = .ok (.iinc 3 1, 3) := by decide +kernel
theorem dX10_group_45 : decode cX10_group 45 = .ok (.goto (-21), 3) := by decide +kernel
theorem dX10_group_48 : decode cX10_group 48 = .ok (.aload_n 0, 1) := by decide +kernel
theorem dX10_group_49 : decode cX10_group 49 = .ok (.iload_n 1, 1) := by decide +kernel
theorem dX10_group_50 : decode cX10_group 50 = .ok (.invokevirtual 241, 3) := by decide +kernel
theorem dX10_group_53 : decode cX10_group 53 = .ok (.aload_n 0, 1) := by decide +kernel
theorem dX10_group_54 : decode cX10_group 54 = .ok (.getfield 86, 3) := by decide +kernel
theorem dX10_group_57 : decode cX10_group 57 = .ok (.iload_n 2, 1) := by decide +kernel
theorem dX10_group_58 : decode cX10_group 58 = .ok (.invokestatic 292, 3) := by decide +kernel
theorem dX10_group_61 : decode cX10_group 61 = .ok (.ireturn, 1) := by decide +kernel
theorem dX10_saidPlaces_0 : decode cX10_saidPlaces 0 = .ok (.iconst 0, 1) := by decide +kernel
theorem dX10_saidPlaces_1 : decode cX10_saidPlaces 1 = .ok (.istore_n 2, 1) := by decide +kernel
theorem dX10_saidPlaces_2 : decode cX10_saidPlaces 2 = .ok (.iconst 0, 1) := by decide +kernel
theorem dX10_saidPlaces_3 : decode cX10_saidPlaces 3 = .ok (.istore_n 3, 1) := by decide +kernel
theorem dX10_saidPlaces_4 : decode cX10_saidPlaces 4 = .ok (.iload_n 3, 1) := by decide +kernel
theorem dX10_saidPlaces_5 : decode cX10_saidPlaces 5 = .ok (.aload_n 0, 1) := by decide +kernel
theorem dX10_saidPlaces_6 : decode cX10_saidPlaces 6 = .ok (.getfield 89, 3) := by decide +kernel
theorem dX10_saidPlaces_9 : decode cX10_saidPlaces 9 = .ok (.if_icmp .ge 33, 3) := by decide +kernel
theorem dX10_saidPlaces_12 : decode cX10_saidPlaces 12 = .ok (.aload_n 0, 1) := by decide +kernel
theorem dX10_saidPlaces_13 : decode cX10_saidPlaces 13 = .ok (.aload_n 0, 1) := by decide +kernel
theorem dX10_saidPlaces_14 : decode cX10_saidPlaces 14 = .ok (.getfield 34, 3) := by decide +kernel
theorem dX10_saidPlaces_17 : decode cX10_saidPlaces 17 = .ok (.iload_n 3, 1) := by decide +kernel
theorem dX10_saidPlaces_18 : decode cX10_saidPlaces 18 = .ok (.bipush 6, 2) := by decide +kernel
theorem dX10_saidPlaces_20 : decode cX10_saidPlaces 20 = .ok (.imul, 1) := by decide +kernel
theorem dX10_saidPlaces_21 : decode cX10_saidPlaces 21 = .ok (.iload_n 1, 1) := by decide +kernel
theorem dX10_saidPlaces_22 : decode cX10_saidPlaces 22 = .ok (.iadd, 1) := by decide +kernel
theorem dX10_saidPlaces_23 : decode cX10_saidPlaces 23 = .ok (.iaload, 1) := by decide +kernel
theorem dX10_saidPlaces_24 : decode cX10_saidPlaces 24 = .ok (.invokevirtual 176, 3) := by decide +kernel
theorem dX10_saidPlaces_27 : decode cX10_saidPlaces 27 = .ok (.ifCond .eq 9, 3) := by decide +kernel
theorem dX10_saidPlaces_30 : decode cX10_saidPlaces 30 = .ok (.iload_n 2, 1) := by decide +kernel
theorem dX10_saidPlaces_31 : decode cX10_saidPlaces 31 = .ok (.iconst 1, 1) := by decide +kernel
theorem dX10_saidPlaces_32 : decode cX10_saidPlaces 32 = .ok (.iload_n 3, 1) := by decide +kernel
theorem dX10_saidPlaces_33 : decode cX10_saidPlaces 33 = .ok (.ishl, 1) := by decide +kernel
theorem dX10_saidPlaces_34 : decode cX10_saidPlaces 34 = .ok (.ior, 1) := by decide +kernel
theorem dX10_saidPlaces_35 : decode cX10_saidPlaces 35 = .ok (.istore_n 2, 1) := by decide +kernel
theorem dX10_saidPlaces_36 : decode cX10_saidPlaces 36 = .ok (.iinc 3 1, 3) := by decide +kernel
theorem dX10_saidPlaces_39 : decode cX10_saidPlaces 39 = .ok (.goto (-35), 3) := by decide +kernel
theorem dX10_saidPlaces_42 : decode cX10_saidPlaces 42 = .ok (.iload_n 2, 1) := by decide +kernel
theorem dX10_saidPlaces_43 : decode cX10_saidPlaces 43 = .ok (.ireturn, 1) := by decide +kernel
theorem dX10_likePlaces_0 : decode cX10_likePlaces 0 = .ok (.iconst 0, 1) := by decide +kernel
theorem dX10_likePlaces_1 : decode cX10_likePlaces 1 = .ok (.istore_n 3, 1) := by decide +kernel
theorem dX10_likePlaces_2 : decode cX10_likePlaces 2 = .ok (.iconst 0, 1) := by decide +kernel
theorem dX10_likePlaces_3 : decode cX10_likePlaces 3 = .ok (.istore 4, 2) := by decide +kernel
theorem dX10_likePlaces_5 : decode cX10_likePlaces 5 = .ok (.iload 4, 2) := by decide +kernel
theorem dX10_likePlaces_7 : decode cX10_likePlaces 7 = .ok (.aload_n 0, 1) := by decide +kernel
theorem dX10_likePlaces_8 : decode cX10_likePlaces 8 = .ok (.getfield 89, 3) := by decide +kernel
theorem dX10_likePlaces_11 : decode cX10_likePlaces 11 = .ok (.if_icmp .ge 38, 3) := by decide +kernel
theorem dX10_likePlaces_14 : decode cX10_likePlaces 14 = .ok (.aload_n 0, 1) := by decide +kernel
theorem dX10_likePlaces_15 : decode cX10_likePlaces 15 = .ok (.iload_n 1, 1) := by decide +kernel
theorem dX10_likePlaces_16 : decode cX10_likePlaces 16 = .ok (.iload 4, 2) := by decide +kernel
theorem dX10_likePlaces_18 : decode cX10_likePlaces 18 = .ok (.iload_n 2, 1) := by decide +kernel
theorem dX10_likePlaces_19 : decode cX10_likePlaces 19 = .ok (.invokevirtual 295, 3) := by decide +kernel
theorem dX10_likePlaces_22 : decode cX10_likePlaces 22 = .ok (.iconst 0, 1) := by decide +kernel
theorem dX10_likePlaces_23 : decode cX10_likePlaces 23 = .ok (.aload_n 0, 1) := by decide +kernel
theorem dX10_likePlaces_24 : decode cX10_likePlaces 24 = .ok (.getfield 55, 3) := by decide +kernel
theorem dX10_likePlaces_27 : decode cX10_likePlaces 27 = .ok (.getfield 286, 3) := by decide +kernel
theorem dX10_likePlaces_30 : decode cX10_likePlaces 30 = .ok (.invokestatic 142, 3) := by decide +kernel
theorem dX10_likePlaces_33 : decode cX10_likePlaces 33 = .ok (.ifCond .eq 10, 3) := by decide +kernel
theorem dX10_likePlaces_36 : decode cX10_likePlaces 36 = .ok (.iload_n 3, 1) := by decide +kernel
theorem dX10_likePlaces_37 : decode cX10_likePlaces 37 = .ok (.iconst 1, 1) := by decide +kernel
theorem dX10_likePlaces_38 : decode cX10_likePlaces 38 = .ok (.iload 4, 2) := by decide +kernel
theorem dX10_likePlaces_40 : decode cX10_likePlaces 40 = .ok (.ishl, 1) := by decide +kernel
theorem dX10_likePlaces_41 : decode cX10_likePlaces 41 = .ok (.ior, 1) := by decide +kernel
theorem dX10_likePlaces_42 : decode cX10_likePlaces 42 = .ok (.istore_n 3, 1) := by decide +kernel
theorem dX10_likePlaces_43 : decode cX10_likePlaces 43 = .ok (.iinc 4 1, 3) := by decide +kernel
theorem dX10_likePlaces_46 : decode cX10_likePlaces 46 = .ok (.goto (-41), 3) := by decide +kernel
theorem dX10_likePlaces_49 : decode cX10_likePlaces 49 = .ok (.iload_n 3, 1) := by decide +kernel
theorem dX10_likePlaces_50 : decode cX10_likePlaces 50 = .ok (.ireturn, 1) := by decide +kernel
theorem dX10_costBetween_0 : decode cX10_costBetween 0 = .ok (.aload_n 0, 1) := by decide +kernel
theorem dX10_costBetween_1 : decode cX10_costBetween 1 = .ok (.getfield 34, 3) := by decide +kernel
theorem dX10_costBetween_4 : decode cX10_costBetween 4 = .ok (.iload_n 1, 1) := by decide +kernel
theorem dX10_costBetween_5 : decode cX10_costBetween 5 = .ok (.bipush 6, 2) := by decide +kernel
theorem dX10_costBetween_7 : decode cX10_costBetween 7 = .ok (.imul, 1) := by decide +kernel
theorem dX10_costBetween_8 : decode cX10_costBetween 8 = .ok (.iload_n 3, 1) := by decide +kernel
theorem dX10_costBetween_9 : decode cX10_costBetween 9 = .ok (.iadd, 1) := by decide +kernel
theorem dX10_costBetween_10 : decode cX10_costBetween 10 = .ok (.iaload, 1) := by decide +kernel
theorem dX10_costBetween_11 : decode cX10_costBetween 11 = .ok (.istore 4, 2) := by decide +kernel
theorem dX10_costBetween_13 : decode cX10_costBetween 13 = .ok (.aload_n 0, 1) := by decide +kernel
theorem dX10_costBetween_14 : decode cX10_costBetween 14 = .ok (.getfield 34, 3) := by decide +kernel
theorem dX10_costBetween_17 : decode cX10_costBetween 17 = .ok (.iload_n 2, 1) := by decide +kernel
theorem dX10_costBetween_18 : decode cX10_costBetween 18 = .ok (.bipush 6, 2) := by decide +kernel
theorem dX10_costBetween_20 : decode cX10_costBetween 20 = .ok (.imul, 1) := by decide +kernel
theorem dX10_costBetween_21 : decode cX10_costBetween 21 = .ok (.iload_n 3, 1) := by decide +kernel
theorem dX10_costBetween_22 : decode cX10_costBetween 22 = .ok (.iadd, 1) := by decide +kernel
theorem dX10_costBetween_23 : decode cX10_costBetween 23 = .ok (.iaload, 1) := by decide +kernel
theorem dX10_costBetween_24 : decode cX10_costBetween 24 = .ok (.istore 5, 2) := by decide +kernel
theorem dX10_costBetween_26 : decode cX10_costBetween 26 = .ok (.aload_n 0, 1) := by decide +kernel
theorem dX10_costBetween_27 : decode cX10_costBetween 27 = .ok (.iload 4, 2) := by decide +kernel
theorem dX10_costBetween_29 : decode cX10_costBetween 29 = .ok (.invokevirtual 176, 3) := by decide +kernel
theorem dX10_costBetween_32 : decode cX10_costBetween 32 = .ok (.ifCond .eq 42, 3) := by decide +kernel
theorem dX10_costBetween_35 : decode cX10_costBetween 35 = .ok (.aload_n 0, 1) := by decide +kernel
theorem dX10_costBetween_36 : decode cX10_costBetween 36 = .ok (.iload 5, 2) := by decide +kernel
theorem dX10_costBetween_38 : decode cX10_costBetween 38 = .ok (.invokevirtual 176, 3) := by decide +kernel
theorem dX10_costBetween_41 : decode cX10_costBetween 41 = .ok (.ifCond .eq 33, 3) := by decide +kernel
theorem dX10_costBetween_44 : decode cX10_costBetween 44 = .ok (.aload_n 0, 1) := by decide +kernel
theorem dX10_costBetween_45 : decode cX10_costBetween 45 = .ok (.getfield 55, 3) := by decide +kernel
theorem dX10_costBetween_48 : decode cX10_costBetween 48 = .ok (.aload_n 0, 1) := by decide +kernel
theorem dX10_costBetween_49 : decode cX10_costBetween 49 = .ok (.getfield 30, 3) := by decide +kernel
theorem dX10_costBetween_52 : decode cX10_costBetween 52 = .ok (.iload 4, 2) := by decide +kernel
theorem dX10_costBetween_54 : decode cX10_costBetween 54 = .ok (.aaload, 1) := by decide +kernel
theorem dX10_costBetween_55 : decode cX10_costBetween 55 = .ok (.getfield 188, 3) := by decide +kernel
theorem dX10_costBetween_58 : decode cX10_costBetween 58 = .ok (.aload_n 0, 1) := by decide +kernel
theorem dX10_costBetween_59 : decode cX10_costBetween 59 = .ok (.getfield 30, 3) := by decide +kernel
theorem dX10_costBetween_62 : decode cX10_costBetween 62 = .ok (.iload 5, 2) := by decide +kernel
theorem dX10_costBetween_64 : decode cX10_costBetween 64 = .ok (.aaload, 1) := by decide +kernel
theorem dX10_costBetween_65 : decode cX10_costBetween 65 = .ok (.getfield 188, 3) := by decide +kernel
theorem dX10_costBetween_68 : decode cX10_costBetween 68 = .ok (.invokevirtual 230, 3) := by decide +kernel
theorem dX10_costBetween_71 : decode cX10_costBetween 71 = .ok (.goto 5, 3) := by decide +kernel
theorem dX10_costBetween_74 : decode cX10_costBetween 74 = .ok (.bipush (-9), 2) := by decide +kernel
theorem dX10_costBetween_76 : decode cX10_costBetween 76 = .ok (.ireturn, 1) := by decide +kernel
theorem dX10_countOrLeast_0 : decode cX10_countOrLeast 0 = .ok (.iload_n 2, 1) := by decide +kernel
theorem dX10_countOrLeast_1 : decode cX10_countOrLeast 1 = .ok (.iconst (-1), 1) := by decide +kernel
theorem dX10_countOrLeast_2 : decode cX10_countOrLeast 2 = .ok (.if_icmp .eq 23, 3) := by decide +kernel
theorem dX10_countOrLeast_5 : decode cX10_countOrLeast 5 = .ok (.iload_n 2, 1) := by decide +kernel
theorem dX10_countOrLeast_6 : decode cX10_countOrLeast 6 = .ok (.iload_n 0, 1) := by decide +kernel
theorem dX10_countOrLeast_7 : decode cX10_countOrLeast 7 = .ok (.invokestatic 128, 3) := by decide +kernel
theorem dX10_countOrLeast_10 : decode cX10_countOrLeast 10 = .ok (.ifCond .eq 12, 3) := by decide +kernel
theorem dX10_countOrLeast_13 : decode cX10_countOrLeast 13 = .ok (.iload_n 0, 1) := by decide +kernel
theorem dX10_countOrLeast_14 : decode cX10_countOrLeast 14 = .ok (.aload_n 1, 1) := by decide +kernel
theorem dX10_countOrLeast_15 : decode cX10_countOrLeast 15 = .ok (.iload_n 2, 1) := by decide +kernel
theorem dX10_countOrLeast_16 : decode cX10_countOrLeast 16 = .ok (.invokestatic 298, 3) := by decide +kernel
theorem dX10_countOrLeast_19 : decode cX10_countOrLeast 19 = .ok (.goto 5, 3) := by decide +kernel
theorem dX10_countOrLeast_22 : decode cX10_countOrLeast 22 = .ok (.bipush (-9), 2) := by decide +kernel
theorem dX10_countOrLeast_24 : decode cX10_countOrLeast 24 = .ok (.ireturn, 1) := by decide +kernel
theorem dX10_countOrLeast_25 : decode cX10_countOrLeast 25 = .ok (.iconst 0, 1) := by decide +kernel
theorem dX10_countOrLeast_26 : decode cX10_countOrLeast 26 = .ok (.istore_n 3, 1) := by decide +kernel
theorem dX10_countOrLeast_27 : decode cX10_countOrLeast 27 = .ok (.iconst 0, 1) := by decide +kernel
theorem dX10_countOrLeast_28 : decode cX10_countOrLeast 28 = .ok (.istore 4, 2) := by decide +kernel
theorem dX10_countOrLeast_30 : decode cX10_countOrLeast 30 = .ok (.iload 4, 2) := by decide +kernel
theorem dX10_countOrLeast_32 : decode cX10_countOrLeast 32 = .ok (.bipush 8, 2) := by decide +kernel
theorem dX10_countOrLeast_34 : decode cX10_countOrLeast 34 = .ok (.if_icmp .ge 33, 3) := by decide +kernel
theorem dX10_countOrLeast_37 : decode cX10_countOrLeast 37 = .ok (.iload 4, 2) := by decide +kernel
theorem dX10_countOrLeast_39 : decode cX10_countOrLeast 39 = .ok (.iload_n 0, 1) := by decide +kernel
theorem dX10_countOrLeast_40 : decode cX10_countOrLeast 40 = .ok (.invokestatic 128, 3) := by decide +kernel
theorem dX10_countOrLeast_43 : decode cX10_countOrLeast 43 = .ok (.ifCond .eq 18, 3) := by decide +kernel
theorem dX10_countOrLeast_46 : decode cX10_countOrLeast 46 = .ok (.iload_n 0, 1) := by decide +kernel
theorem dX10_countOrLeast_47 : decode cX10_countOrLeast 47 = .ok (.aload_n 1, 1) := by decide +kernel
theorem dX10_countOrLeast_48 : decode cX10_countOrLeast 48 = .ok (.iload 4, 2) := by decide +kernel
theorem dX10_countOrLeast_50 : decode cX10_countOrLeast 50 = .ok (.invokestatic 298, 3) := by decide +kernel
theorem dX10_countOrLeast_53 : decode cX10_countOrLeast 53 = .ok (.iload 4, 2) := by decide +kernel
theorem dX10_countOrLeast_55 : decode cX10_countOrLeast 55 = .ok (.if_icmp .ne 6, 3) := by decide +kernel
theorem dX10_countOrLeast_58 : decode cX10_countOrLeast 58 = .ok (.iinc 3 1, 3) := by decide +kernel
theorem dX10_countOrLeast_61 : decode cX10_countOrLeast 61 = .ok (.iinc 4 1, 3) := by decide +kernel
theorem dX10_countOrLeast_64 : decode cX10_countOrLeast 64 = .ok (.goto (-34), 3) := by decide +kernel
theorem dX10_countOrLeast_67 : decode cX10_countOrLeast 67 = .ok (.iload_n 3, 1) := by decide +kernel
theorem dX10_countOrLeast_68 : decode cX10_countOrLeast 68 = .ok (.ireturn, 1) := by decide +kernel
theorem dX10_leastJoined_0 : decode cX10_leastJoined 0 = .ok (.iconst 1, 1) := by decide +kernel
theorem dX10_leastJoined_1 : decode cX10_leastJoined 1 = .ok (.iload_n 2, 1) := by decide +kernel
theorem dX10_leastJoined_2 : decode cX10_leastJoined 2 = .ok (.ishl, 1) := by decide +kernel
theorem dX10_leastJoined_3 : decode cX10_leastJoined 3 = .ok (.istore_n 3, 1) := by decide +kernel
theorem dX10_leastJoined_4 : decode cX10_leastJoined 4 = .ok (.iconst 0, 1) := by decide +kernel
theorem dX10_leastJoined_5 : decode cX10_leastJoined 5 = .ok (.istore 4, 2) := by decide +kernel
theorem dX10_leastJoined_7 : decode cX10_leastJoined 7 = .ok (.iload 4, 2) := by decide +kernel
theorem dX10_leastJoined_9 : decode cX10_leastJoined 9 = .ok (.bipush 8, 2) := by decide +kernel
theorem dX10_leastJoined_11 : decode cX10_leastJoined 11 = .ok (.if_icmp .ge 43, 3) := by decide +kernel
theorem dX10_leastJoined_14 : decode cX10_leastJoined 14 = .ok (.iconst 0, 1) := by decide +kernel
theorem dX10_leastJoined_15 : decode cX10_leastJoined 15 = .ok (.istore 5, 2) := by decide +kernel
theorem dX10_leastJoined_17 : decode cX10_leastJoined 17 = .ok (.iload 5, 2) := by decide +kernel
theorem dX10_leastJoined_19 : decode cX10_leastJoined 19 = .ok (.bipush 8, 2) := by decide +kernel
theorem dX10_leastJoined_21 : decode cX10_leastJoined 21 = .ok (.if_icmp .ge 27, 3) := by decide +kernel
theorem dX10_leastJoined_24 : decode cX10_leastJoined 24 = .ok (.iload 5, 2) := by decide +kernel
theorem dX10_leastJoined_26 : decode cX10_leastJoined 26 = .ok (.iload_n 3, 1) := by decide +kernel
theorem dX10_leastJoined_27 : decode cX10_leastJoined 27 = .ok (.invokestatic 128, 3) := by decide +kernel
theorem dX10_leastJoined_30 : decode cX10_leastJoined 30 = .ok (.ifCond .eq 12, 3) := by decide +kernel
theorem dX10_leastJoined_33 : decode cX10_leastJoined 33 = .ok (.iload_n 3, 1) := by decide +kernel
theorem dX10_leastJoined_34 : decode cX10_leastJoined 34 = .ok (.aload_n 1, 1) := by decide +kernel
theorem dX10_leastJoined_35 : decode cX10_leastJoined 35 = .ok (.iload 5, 2) := by decide +kernel
theorem dX10_leastJoined_37 : decode cX10_leastJoined 37 = .ok (.iaload, 1) := by decide +kernel
theorem dX10_leastJoined_38 : decode cX10_leastJoined 38 = .ok (.iload_n 0, 1) := by decide +kernel
theorem dX10_leastJoined_39 : decode cX10_leastJoined 39 = .ok (.iand, 1) := by decide +kernel
theorem dX10_leastJoined_40 : decode cX10_leastJoined 40 = .ok (.ior, 1) := by decide +kernel
theorem dX10_leastJoined_41 : decode cX10_leastJoined 41 = .ok (.istore_n 3, 1) := by decide +kernel
theorem dX10_leastJoined_42 : decode cX10_leastJoined 42 = .ok (.iinc 5 1, 3) := by decide +kernel
theorem dX10_leastJoined_45 : decode cX10_leastJoined 45 = .ok (.goto (-28), 3) := by decide +kernel
theorem dX10_leastJoined_48 : decode cX10_leastJoined 48 = .ok (.iinc 4 1, 3) := by decide +kernel
theorem dX10_leastJoined_51 : decode cX10_leastJoined 51 = .ok (.goto (-44), 3) := by decide +kernel
theorem dX10_leastJoined_54 : decode cX10_leastJoined 54 = .ok (.iload_n 3, 1) := by decide +kernel
theorem dX10_leastJoined_55 : decode cX10_leastJoined 55 = .ok (.invokestatic 301, 3) := by decide +kernel
theorem dX10_leastJoined_58 : decode cX10_leastJoined 58 = .ok (.ireturn, 1) := by decide +kernel
theorem dX10_border_0 : decode cX10_border 0 = .ok (.iload_n 1, 1) := by decide +kernel
theorem dX10_border_1 : decode cX10_border 1 = .ok (.invokestatic 156, 3) := by decide +kernel
theorem dX10_border_4 : decode cX10_border 4 = .ok (.ifCond .eq 13, 3) := by decide +kernel
theorem dX10_border_7 : decode cX10_border 7 = .ok (.iload_n 2, 1) := by decide +kernel
theorem dX10_border_8 : decode cX10_border 8 = .ok (.iconst (-1), 1) := by decide +kernel
theorem dX10_border_9 : decode cX10_border 9 = .ok (.bipush 27, 2) := by decide +kernel
theorem dX10_border_11 : decode cX10_border 11 = .ok (.invokestatic 142, 3) := by decide +kernel
theorem dX10_border_14 : decode cX10_border 14 = .ok (.ifCond .ne 5, 3) := by decide +kernel
theorem dX10_border_17 : decode cX10_border 17 = .ok (.iconst (-1), 1) := by decide +kernel
theorem dX10_border_18 : decode cX10_border 18 = .ok (.ireturn, 1) := by decide +kernel
theorem dX10_border_19 : decode cX10_border 19 = .ok (.iconst 0, 1) := by decide +kernel
theorem dX10_border_20 : decode cX10_border 20 = .ok (.istore_n 3, 1) := by decide +kernel
theorem dX10_border_21 : decode cX10_border 21 = .ok (.iconst 0, 1) := by decide +kernel
theorem dX10_border_22 : decode cX10_border 22 = .ok (.istore 4, 2) := by decide +kernel
theorem dX10_border_24 : decode cX10_border 24 = .ok (.iload 4, 2) := by decide +kernel
theorem dX10_border_26 : decode cX10_border 26 = .ok (.aload_n 0, 1) := by decide +kernel
theorem dX10_border_27 : decode cX10_border 27 = .ok (.getfield 89, 3) := by decide +kernel
theorem dX10_border_30 : decode cX10_border 30 = .ok (.if_icmp .ge 84, 3) := by decide +kernel
theorem dX10_border_33 : decode cX10_border 33 = .ok (.iload 4, 2) := by decide +kernel
theorem dX10_border_35 : decode cX10_border 35 = .ok (.iconst 1, 1) := by decide +kernel
theorem dX10_border_36 : decode cX10_border 36 = .ok (.iadd, 1) := by decide +kernel
theorem dX10_border_37 : decode cX10_border 37 = .ok (.istore 5, 2) := by decide +kernel
theorem dX10_border_39 : decode cX10_border 39 = .ok (.iload 5, 2) := by decide +kernel
theorem dX10_border_41 : decode cX10_border 41 = .ok (.aload_n 0, 1) := by decide +kernel
theorem dX10_border_42 : decode cX10_border 42 = .ok (.getfield 89, 3) := by decide +kernel
theorem dX10_border_45 : decode cX10_border 45 = .ok (.if_icmp .ge 63, 3) := by decide +kernel
theorem dX10_border_48 : decode cX10_border 48 = .ok (.iload 5, 2) := by decide +kernel
theorem dX10_border_50 : decode cX10_border 50 = .ok (.aload_n 0, 1) := by decide +kernel
theorem dX10_border_51 : decode cX10_border 51 = .ok (.getfield 24, 3) := by decide +kernel
theorem dX10_border_54 : decode cX10_border 54 = .ok (.iload 4, 2) := by decide +kernel
theorem dX10_border_56 : decode cX10_border 56 = .ok (.iaload, 1) := by decide +kernel
theorem dX10_border_57 : decode cX10_border 57 = .ok (.invokestatic 128, 3) := by decide +kernel
theorem dX10_border_60 : decode cX10_border 60 = .ok (.ifCond .eq 42, 3) := by decide +kernel
theorem dX10_border_63 : decode cX10_border 63 = .ok (.aload_n 0, 1) := by decide +kernel
theorem dX10_border_64 : decode cX10_border 64 = .ok (.iload 4, 2) := by decide +kernel
theorem dX10_border_66 : decode cX10_border 66 = .ok (.iload 5, 2) := by decide +kernel
theorem dX10_border_68 : decode cX10_border 68 = .ok (.iload_n 1, 1) := by decide +kernel
theorem dX10_border_69 : decode cX10_border 69 = .ok (.invokevirtual 295, 3) := by decide +kernel
theorem dX10_border_72 : decode cX10_border 72 = .ok (.aload_n 0, 1) := by decide +kernel
theorem dX10_border_73 : decode cX10_border 73 = .ok (.getfield 55, 3) := by decide +kernel
theorem dX10_border_76 : decode cX10_border 76 = .ok (.getfield 286, 3) := by decide +kernel
theorem dX10_border_79 : decode cX10_border 79 = .ok (.if_icmp .gt 6, 3) := by decide +kernel
theorem dX10_border_82 : decode cX10_border 82 = .ok (.goto 20, 3) := by decide +kernel
theorem dX10_border_85 : decode cX10_border 85 = .ok (.iload_n 3, 1) := by decide +kernel
theorem dX10_border_86 : decode cX10_border 86 = .ok (.iload_n 2, 1) := by decide +kernel
theorem dX10_border_87 : decode cX10_border 87 = .ok (.if_icmp .ne 12, 3) := by decide +kernel
theorem dX10_border_90 : decode cX10_border 90 = .ok (.bipush 10, 2) := by decide +kernel
theorem dX10_border_92 : decode cX10_border 92 = .ok (.iload 4, 2) := by decide +kernel
theorem dX10_border_94 : decode cX10_border 94 = .ok (.imul, 1) := by decide +kernel
theorem dX10_border_95 : decode cX10_border 95 = .ok (.iload 5, 2) := by decide +kernel
theorem dX10_border_97 : decode cX10_border 97 = .ok (.iadd, 1) := by decide +kernel
theorem dX10_border_98 : decode cX10_border 98 = .ok (.ireturn, 1) := by decide +kernel
theorem dX10_border_99 : decode cX10_border 99 = .ok (.iinc 3 1, 3) := by decide +kernel
theorem dX10_border_102 : decode cX10_border 102 = .ok (.iinc 5 1, 3) := by decide +kernel
theorem dX10_border_105 : decode cX10_border 105 = .ok (.goto (-66), 3) := by decide +kernel
theorem dX10_border_108 : decode cX10_border 108 = .ok (.iinc 4 1, 3) := by decide +kernel
theorem dX10_border_111 : decode cX10_border 111 = .ok (.goto (-87), 3) := by decide +kernel
theorem dX10_border_114 : decode cX10_border 114 = .ok (.iload_n 2, 1) := by decide +kernel
theorem dX10_border_115 : decode cX10_border 115 = .ok (.iconst (-1), 1) := by decide +kernel
theorem dX10_border_116 : decode cX10_border 116 = .ok (.if_icmp .ne 7, 3) := by decide +kernel
theorem dX10_border_119 : decode cX10_border 119 = .ok (.iload_n 3, 1) := by decide +kernel
theorem dX10_border_120 : decode cX10_border 120 = .ok (.goto 5, 3) := by decide +kernel
theorem dX10_border_123 : decode cX10_border 123 = .ok (.bipush (-9), 2) := by decide +kernel
theorem dX10_border_125 : decode cX10_border 125 = .ok (.ireturn, 1) := by decide +kernel
theorem dX10_bundle_0 : decode cX10_bundle 0 = .ok (.aload_n 0, 1) := by decide +kernel
theorem dX10_bundle_1 : decode cX10_bundle 1 = .ok (.iload_n 1, 1) := by decide +kernel
theorem dX10_bundle_2 : decode cX10_bundle 2 = .ok (.invokevirtual 152, 3) := by decide +kernel
theorem dX10_bundle_5 : decode cX10_bundle 5 = .ok (.ifCond .eq 11, 3) := by decide +kernel
theorem dX10_bundle_8 : decode cX10_bundle 8 = .ok (.aload_n 0, 1) := by decide +kernel
theorem dX10_bundle_9 : decode cX10_bundle 9 = .ok (.iload_n 2, 1) := by decide +kernel
theorem dX10_bundle_10 : decode cX10_bundle 10 = .ok (.invokevirtual 152, 3) := by decide +kernel
theorem dX10_bundle_13 : decode cX10_bundle 13 = .ok (.ifCond .ne 5, 3) := by decide +kernel
theorem dX10_bundle_16 : decode cX10_bundle 16 = .ok (.iconst (-1), 1) := by decide +kernel
theorem dX10_bundle_17 : decode cX10_bundle 17 = .ok (.ireturn, 1) := by decide +kernel
theorem dX10_bundle_18 : decode cX10_bundle 18 = .ok (.iload_n 1, 1) := by decide +kernel
theorem dX10_bundle_19 : decode cX10_bundle 19 = .ok (.iload_n 2, 1) := by decide +kernel
theorem dX10_bundle_20 : decode cX10_bundle 20 = .ok (.if_icmp .ne 6, 3) := by decide +kernel
theorem dX10_bundle_23 : decode cX10_bundle 23 = .ok (.bipush (-2), 2) := by decide +kernel
theorem dX10_bundle_25 : decode cX10_bundle 25 = .ok (.ireturn, 1) := by decide +kernel
theorem dX10_bundle_26 : decode cX10_bundle 26 = .ok (.iconst 0, 1) := by decide +kernel
theorem dX10_bundle_27 : decode cX10_bundle 27 = .ok (.istore_n 3, 1) := by decide +kernel
theorem dX10_bundle_28 : decode cX10_bundle 28 = .ok (.iconst 0, 1) := by decide +kernel
theorem dX10_bundle_29 : decode cX10_bundle 29 = .ok (.istore 4, 2) := by decide +kernel
theorem dX10_bundle_31 : decode cX10_bundle 31 = .ok (.iload 4, 2) := by decide +kernel
theorem dX10_bundle_33 : decode cX10_bundle 33 = .ok (.bipush 6, 2) := by decide +kernel
theorem dX10_bundle_35 : decode cX10_bundle 35 = .ok (.if_icmp .ge 30, 3) := by decide +kernel
theorem dX10_bundle_38 : decode cX10_bundle 38 = .ok (.aload_n 0, 1) := by decide +kernel
theorem dX10_bundle_39 : decode cX10_bundle 39 = .ok (.iload_n 1, 1) := by decide +kernel
theorem dX10_bundle_40 : decode cX10_bundle 40 = .ok (.iload_n 2, 1) := by decide +kernel
theorem dX10_bundle_41 : decode cX10_bundle 41 = .ok (.iload 4, 2) := by decide +kernel
theorem dX10_bundle_43 : decode cX10_bundle 43 = .ok (.invokevirtual 295, 3) := by decide +kernel
theorem dX10_bundle_46 : decode cX10_bundle 46 = .ok (.aload_n 0, 1) := by decide +kernel
theorem dX10_bundle_47 : decode cX10_bundle 47 = .ok (.getfield 55, 3) := by decide +kernel
theorem dX10_bundle_50 : decode cX10_bundle 50 = .ok (.getfield 286, 3) := by decide +kernel
theorem dX10_bundle_53 : decode cX10_bundle 53 = .ok (.if_icmp .le 6, 3) := by decide +kernel
theorem dX10_bundle_56 : decode cX10_bundle 56 = .ok (.iinc 3 1, 3) := by decide +kernel
theorem dX10_bundle_59 : decode cX10_bundle 59 = .ok (.iinc 4 1, 3) := by decide +kernel
theorem dX10_bundle_62 : decode cX10_bundle 62 = .ok (.goto (-31), 3) := by decide +kernel
theorem dX10_bundle_65 : decode cX10_bundle 65 = .ok (.iload_n 3, 1) := by decide +kernel
theorem dX10_bundle_66 : decode cX10_bundle 66 = .ok (.ireturn, 1) := by decide +kernel
theorem dX10_area_0 : decode cX10_area 0 = .ok (.aload_n 0, 1) := by decide +kernel
theorem dX10_area_1 : decode cX10_area 1 = .ok (.iload_n 1, 1) := by decide +kernel
theorem dX10_area_2 : decode cX10_area 2 = .ok (.invokevirtual 208, 3) := by decide +kernel
theorem dX10_area_5 : decode cX10_area 5 = .ok (.ifCond .eq 16, 3) := by decide +kernel
theorem dX10_area_8 : decode cX10_area 8 = .ok (.iload_n 2, 1) := by decide +kernel
theorem dX10_area_9 : decode cX10_area 9 = .ok (.iconst (-1), 1) := by decide +kernel
theorem dX10_area_10 : decode cX10_area 10 = .ok (.if_icmp .eq 13, 3) := by decide +kernel
theorem dX10_area_13 : decode cX10_area 13 = .ok (.aload_n 0, 1) := by decide +kernel
theorem dX10_area_14 : decode cX10_area 14 = .ok (.iload_n 2, 1) := by decide +kernel
theorem dX10_area_15 : decode cX10_area 15 = .ok (.invokevirtual 152, 3) := by decide +kernel
theorem dX10_area_18 : decode cX10_area 18 = .ok (.ifCond .ne 5, 3) := by decide +kernel
theorem dX10_area_21 : decode cX10_area 21 = .ok (.iconst (-1), 1) := by decide +kernel
theorem dX10_area_22 : decode cX10_area 22 = .ok (.ireturn, 1) := by decide +kernel
theorem dX10_area_23 : decode cX10_area 23 = .ok (.aload_n 0, 1) := by decide +kernel
theorem dX10_area_24 : decode cX10_area 24 = .ok (.getfield 48, 3) := by decide +kernel
theorem dX10_area_27 : decode cX10_area 27 = .ok (.getfield 211, 3) := by decide +kernel
theorem dX10_area_30 : decode cX10_area 30 = .ok (.iload_n 1, 1) := by decide +kernel
theorem dX10_area_31 : decode cX10_area 31 = .ok (.aaload, 1) := by decide +kernel
theorem dX10_area_32 : decode cX10_area 32 = .ok (.getfield 215, 3) := by decide +kernel
theorem dX10_area_35 : decode cX10_area 35 = .ok (.aload_n 0, 1) := by decide +kernel
theorem dX10_area_36 : decode cX10_area 36 = .ok (.getfield 24, 3) := by decide +kernel
theorem dX10_area_39 : decode cX10_area 39 = .ok (.iload_n 2, 1) := by decide +kernel
theorem dX10_area_40 : decode cX10_area 40 = .ok (.invokestatic 292, 3) := by decide +kernel
theorem dX10_area_43 : decode cX10_area 43 = .ok (.ireturn, 1) := by decide +kernel
theorem dX10_sheet_0 : decode cX10_sheet 0 = .ok (.aload_n 0, 1) := by decide +kernel
theorem dX10_sheet_1 : decode cX10_sheet 1 = .ok (.iconst 0, 1) := by decide +kernel
theorem dX10_sheet_2 : decode cX10_sheet 2 = .ok (.putfield 102, 3) := by decide +kernel
theorem dX10_sheet_5 : decode cX10_sheet 5 = .ok (.iload_n 1, 1) := by decide +kernel
theorem dX10_sheet_6 : decode cX10_sheet 6 = .ok (.iconst 4, 1) := by decide +kernel
theorem dX10_sheet_7 : decode cX10_sheet 7 = .ok (.invokestatic 114, 3) := by decide +kernel
theorem dX10_sheet_10 : decode cX10_sheet 10 = .ok (.ifCond .ne 5, 3) := by decide +kernel
theorem dX10_sheet_13 : decode cX10_sheet 13 = .ok (.iconst (-1), 1) := by decide +kernel
theorem dX10_sheet_14 : decode cX10_sheet 14 = .ok (.ireturn, 1) := by decide +kernel
theorem dX10_sheet_15 : decode cX10_sheet 15 = .ok (.iload_n 2, 1) := by decide +kernel
theorem dX10_sheet_16 : decode cX10_sheet 16 = .ok (.iconst 3, 1) := by decide +kernel
theorem dX10_sheet_17 : decode cX10_sheet 17 = .ok (.invokestatic 114, 3) := by decide +kernel
theorem dX10_sheet_20 : decode cX10_sheet 20 = .ok (.ifCond .eq 9, 3) := by decide +kernel
theorem dX10_sheet_23 : decode cX10_sheet 23 = .ok (.iload_n 3, 1) := by decide +kernel
theorem dX10_sheet_24 : decode cX10_sheet 24 = .ok (.bipush 60, 2) := by decide +kernel
theorem dX10_sheet_26 : decode cX10_sheet 26 = .ok (.if_icmp .le 6, 3) := by decide +kernel
theorem dX10_sheet_29 : decode cX10_sheet 29 = .ok (.bipush (-2), 2) := by decide +kernel
theorem dX10_sheet_31 : decode cX10_sheet 31 = .ok (.ireturn, 1) := by decide +kernel
theorem dX10_sheet_32 : decode cX10_sheet 32 = .ok (.iload_n 3, 1) := by decide +kernel
theorem dX10_sheet_33 : decode cX10_sheet 33 = .ok (.ifCond .ge 9, 3) := by decide +kernel
theorem dX10_sheet_36 : decode cX10_sheet 36 = .ok (.aload_n 0, 1) := by decide +kernel
theorem dX10_sheet_37 : decode cX10_sheet 37 = .ok (.iconst 4, 1) := by decide +kernel
theorem dX10_sheet_38 : decode cX10_sheet 38 = .ok (.invokevirtual 304, 3) := by decide +kernel
theorem dX10_sheet_41 : decode cX10_sheet 41 = .ok (.ireturn, 1) := by decide +kernel
theorem dX10_sheet_42 : decode cX10_sheet 42 = .ok (.aload_n 0, 1) := by decide +kernel
theorem dX10_sheet_43 : decode cX10_sheet 43 = .ok (.getfield 68, 3) := by decide +kernel
theorem dX10_sheet_46 : decode cX10_sheet 46 = .ok (.iload_n 1, 1) := by decide +kernel
theorem dX10_sheet_47 : decode cX10_sheet 47 = .ok (.aaload, 1) := by decide +kernel
theorem dX10_sheet_48 : decode cX10_sheet 48 = .ok (.iload_n 2, 1) := by decide +kernel
theorem dX10_sheet_49 : decode cX10_sheet 49 = .ok (.iload_n 3, 1) := by decide +kernel
theorem dX10_sheet_50 : decode cX10_sheet 50 = .ok (.invokevirtual 307, 3) := by decide +kernel
theorem dX10_sheet_53 : decode cX10_sheet 53 = .ok (.iconst 1, 1) := by decide +kernel
theorem dX10_sheet_54 : decode cX10_sheet 54 = .ok (.ireturn, 1) := by decide +kernel
theorem dX10_lose_0 : decode cX10_lose 0 = .ok (.iload_n 1, 1) := by decide +kernel
theorem dX10_lose_1 : decode cX10_lose 1 = .ok (.iconst 4, 1) := by decide +kernel
theorem dX10_lose_2 : decode cX10_lose 2 = .ok (.invokestatic 114, 3) := by decide +kernel
theorem dX10_lose_5 : decode cX10_lose 5 = .ok (.ifCond .ne 5, 3) := by decide +kernel
theorem dX10_lose_8 : decode cX10_lose 8 = .ok (.iconst (-1), 1) := by decide +kernel
theorem dX10_lose_9 : decode cX10_lose 9 = .ok (.ireturn, 1) := by decide +kernel
theorem dX10_lose_10 : decode cX10_lose 10 = .ok (.aload_n 0, 1) := by decide +kernel
theorem dX10_lose_11 : decode cX10_lose 11 = .ok (.getfield 68, 3) := by decide +kernel
theorem dX10_lose_14 : decode cX10_lose 14 = .ok (.iload_n 1, 1) := by decide +kernel
theorem dX10_lose_15 : decode cX10_lose 15 = .ok (.aaload, 1) := by decide +kernel
theorem dX10_lose_16 : decode cX10_lose 16 = .ok (.invokevirtual 311, 3) := by decide +kernel
theorem dX10_lose_19 : decode cX10_lose 19 = .ok (.ifCond .eq 7, 3) := by decide +kernel
theorem dX10_lose_22 : decode cX10_lose 22 = .ok (.iconst 1, 1) := by decide +kernel
theorem dX10_lose_23 : decode cX10_lose 23 = .ok (.goto 4, 3) := by decide +kernel
theorem dX10_lose_26 : decode cX10_lose 26 = .ok (.iconst 0, 1) := by decide +kernel
theorem dX10_lose_27 : decode cX10_lose 27 = .ok (.ireturn, 1) := by decide +kernel
theorem dX10_put_0 : decode cX10_put 0 = .ok (.aload_n 0, 1) := by decide +kernel
theorem dX10_put_1 : decode cX10_put 1 = .ok (.iconst 0, 1) := by decide +kernel
theorem dX10_put_2 : decode cX10_put 2 = .ok (.putfield 102, 3) := by decide +kernel
theorem dX10_put_5 : decode cX10_put 5 = .ok (.iload_n 1, 1) := by decide +kernel
theorem dX10_put_6 : decode cX10_put 6 = .ok (.iconst 4, 1) := by decide +kernel
theorem dX10_put_7 : decode cX10_put 7 = .ok (.invokestatic 114, 3) := by decide +kernel
theorem dX10_put_10 : decode cX10_put 10 = .ok (.ifCond .ne 5, 3) := by decide +kernel
theorem dX10_put_13 : decode cX10_put 13 = .ok (.iconst (-1), 1) := by decide +kernel
theorem dX10_put_14 : decode cX10_put 14 = .ok (.ireturn, 1) := by decide +kernel
theorem dX10_put_15 : decode cX10_put 15 = .ok (.aload_n 0, 1) := by decide +kernel
theorem dX10_put_16 : decode cX10_put 16 = .ok (.getfield 68, 3) := by decide +kernel
theorem dX10_put_19 : decode cX10_put 19 = .ok (.iload_n 1, 1) := by decide +kernel
theorem dX10_put_20 : decode cX10_put 20 = .ok (.aaload, 1) := by decide +kernel
theorem dX10_put_21 : decode cX10_put 21 = .ok (.getfield 314, 3) := by decide +kernel
theorem dX10_put_24 : decode cX10_put 24 = .ok (.ifCond .ne 9, 3) := by decide +kernel
theorem dX10_put_27 : decode cX10_put 27 = .ok (.aload_n 0, 1) := by decide +kernel
theorem dX10_put_28 : decode cX10_put 28 = .ok (.iconst 1, 1) := by decide +kernel
theorem dX10_put_29 : decode cX10_put 29 = .ok (.invokevirtual 304, 3) := by decide +kernel
theorem dX10_put_32 : decode cX10_put 32 = .ok (.ireturn, 1) := by decide +kernel
theorem dX10_put_33 : decode cX10_put 33 = .ok (.iload_n 2, 1) := by decide +kernel
theorem dX10_put_34 : decode cX10_put 34 = .ok (.aload_n 0, 1) := by decide +kernel
theorem dX10_put_35 : decode cX10_put 35 = .ok (.getfield 68, 3) := by decide +kernel
theorem dX10_put_38 : decode cX10_put 38 = .ok (.iload_n 1, 1) := by decide +kernel
theorem dX10_put_39 : decode cX10_put 39 = .ok (.aaload, 1) := by decide +kernel
theorem dX10_put_40 : decode cX10_put 40 = .ok (.getfield 318, 3) := by decide +kernel
theorem dX10_put_43 : decode cX10_put 43 = .ok (.invokestatic 114, 3) := by decide +kernel
theorem dX10_put_46 : decode cX10_put 46 = .ok (.ifCond .ne 9, 3) := by decide +kernel
theorem dX10_put_49 : decode cX10_put 49 = .ok (.aload_n 0, 1) := by decide +kernel
theorem dX10_put_50 : decode cX10_put 50 = .ok (.iconst 3, 1) := by decide +kernel
theorem dX10_put_51 : decode cX10_put 51 = .ok (.invokevirtual 304, 3) := by decide +kernel
theorem dX10_put_54 : decode cX10_put 54 = .ok (.ireturn, 1) := by decide +kernel
theorem dX10_put_55 : decode cX10_put 55 = .ok (.aload_n 0, 1) := by decide +kernel
theorem dX10_put_56 : decode cX10_put 56 = .ok (.getfield 68, 3) := by decide +kernel
theorem dX10_put_59 : decode cX10_put 59 = .ok (.iload_n 1, 1) := by decide +kernel
theorem dX10_put_60 : decode cX10_put 60 = .ok (.aaload, 1) := by decide +kernel
theorem dX10_put_61 : decode cX10_put 61 = .ok (.iload_n 2, 1) := by decide +kernel
theorem dX10_put_62 : decode cX10_put 62 = .ok (.iload_n 3, 1) := by decide +kernel
theorem dX10_put_63 : decode cX10_put 63 = .ok (.invokevirtual 319, 3) := by decide +kernel
theorem dX10_put_66 : decode cX10_put 66 = .ok (.iconst 1, 1) := by decide +kernel
theorem dX10_put_67 : decode cX10_put 67 = .ok (.ireturn, 1) := by decide +kernel
theorem dX10_cell_0 : decode cX10_cell 0 = .ok (.aload_n 0, 1) := by decide +kernel
theorem dX10_cell_1 : decode cX10_cell 1 = .ok (.iconst 0, 1) := by decide +kernel
theorem dX10_cell_2 : decode cX10_cell 2 = .ok (.putfield 102, 3) := by decide +kernel
theorem dX10_cell_5 : decode cX10_cell 5 = .ok (.iload_n 1, 1) := by decide +kernel
theorem dX10_cell_6 : decode cX10_cell 6 = .ok (.iconst 4, 1) := by decide +kernel
theorem dX10_cell_7 : decode cX10_cell 7 = .ok (.invokestatic 114, 3) := by decide +kernel
theorem dX10_cell_10 : decode cX10_cell 10 = .ok (.ifCond .eq 11, 3) := by decide +kernel
theorem dX10_cell_13 : decode cX10_cell 13 = .ok (.iload_n 3, 1) := by decide +kernel
theorem dX10_cell_14 : decode cX10_cell 14 = .ok (.iconst 3, 1) := by decide +kernel
theorem dX10_cell_15 : decode cX10_cell 15 = .ok (.invokestatic 114, 3) := by decide +kernel
theorem dX10_cell_18 : decode cX10_cell 18 = .ok (.ifCond .ne 7, 3) := by decide +kernel
theorem dX10_cell_21 : decode cX10_cell 21 = .ok (.ldc2_w 322, 3) := by decide +kernel
theorem dX10_cell_24 : decode cX10_cell 24 = .ok (.lreturn, 1) := by decide +kernel
theorem dX10_cell_25 : decode cX10_cell 25 = .ok (.aload_n 0, 1) := by decide +kernel
theorem dX10_cell_26 : decode cX10_cell 26 = .ok (.aload_n 0, 1) := by decide +kernel
theorem dX10_cell_27 : decode cX10_cell 27 = .ok (.getfield 68, 3) := by decide +kernel
theorem dX10_cell_30 : decode cX10_cell 30 = .ok (.iload_n 1, 1) := by decide +kernel
theorem dX10_cell_31 : decode cX10_cell 31 = .ok (.aaload, 1) := by decide +kernel
theorem dX10_cell_32 : decode cX10_cell 32 = .ok (.iload_n 3, 1) := by decide +kernel
theorem dX10_cell_33 : decode cX10_cell 33 = .ok (.invokevirtual 324, 3) := by decide +kernel
theorem dX10_cell_36 : decode cX10_cell 36 = .ok (.putfield 102, 3) := by decide +kernel
theorem dX10_cell_39 : decode cX10_cell 39 = .ok (.aload_n 0, 1) := by decide +kernel
theorem dX10_cell_40 : decode cX10_cell 40 = .ok (.getfield 102, 3) := by decide +kernel
theorem dX10_cell_43 : decode cX10_cell 43 = .ok (.ifCond .ne 24, 3) := by decide +kernel
theorem dX10_cell_46 : decode cX10_cell 46 = .ok (.iload_n 2, 1) := by decide +kernel
theorem dX10_cell_47 : decode cX10_cell 47 = .ok (.aload_n 0, 1) := by decide +kernel
theorem dX10_cell_48 : decode cX10_cell 48 = .ok (.getfield 68, 3) := by decide +kernel
theorem dX10_cell_51 : decode cX10_cell 51 = .ok (.iload_n 1, 1) := by decide +kernel
theorem dX10_cell_52 : decode cX10_cell 52 = .ok (.aaload, 1) := by decide +kernel
theorem dX10_cell_53 : decode cX10_cell 53 = .ok (.getfield 318, 3) := by decide +kernel
theorem dX10_cell_56 : decode cX10_cell 56 = .ok (.invokestatic 114, 3) := by decide +kernel
theorem dX10_cell_59 : decode cX10_cell 59 = .ok (.ifCond .ne 8, 3) := by decide +kernel
theorem dX10_cell_62 : decode cX10_cell 62 = .ok (.aload_n 0, 1) := by decide +kernel
theorem dX10_cell_63 : decode cX10_cell 63 = .ok (.iconst 3, 1) := by decide +kernel
theorem dX10_cell_64 : decode cX10_cell 64 = .ok (.putfield 102, 3) := by decide +kernel
theorem dX10_cell_67 : decode cX10_cell 67 = .ok (.aload_n 0, 1) := by decide +kernel
theorem dX10_cell_68 : decode cX10_cell 68 = .ok (.getfield 102, 3) := by decide +kernel
theorem dX10_cell_71 : decode cX10_cell 71 = .ok (.ifCond .ne 18, 3) := by decide +kernel
theorem dX10_cell_74 : decode cX10_cell 74 = .ok (.aload_n 0, 1) := by decide +kernel
theorem dX10_cell_75 : decode cX10_cell 75 = .ok (.getfield 68, 3) := by decide +kernel
theorem dX10_cell_78 : decode cX10_cell 78 = .ok (.iload_n 1, 1) := by decide +kernel
theorem dX10_cell_79 : decode cX10_cell 79 = .ok (.aaload, 1) := by decide +kernel
theorem dX10_cell_80 : decode cX10_cell 80 = .ok (.getfield 327, 3) := by decide +kernel
theorem dX10_cell_83 : decode cX10_cell 83 = .ok (.iload_n 2, 1) := by decide +kernel
theorem dX10_cell_84 : decode cX10_cell 84 = .ok (.iaload, 1) := by decide +kernel
theorem dX10_cell_85 : decode cX10_cell 85 = .ok (.i2l, 1) := by decide +kernel
theorem dX10_cell_86 : decode cX10_cell 86 = .ok (.goto 6, 3) := by decide +kernel
theorem dX10_cell_89 : decode cX10_cell 89 = .ok (.ldc2_w 322, 3) := by decide +kernel
theorem dX10_cell_92 : decode cX10_cell 92 = .ok (.lreturn, 1) := by decide +kernel
theorem dX10_tell_0 : decode cX10_tell 0 = .ok (.aload_n 0, 1) := by decide +kernel
theorem dX10_tell_1 : decode cX10_tell 1 = .ok (.iload_n 1, 1) := by decide +kernel
theorem dX10_tell_2 : decode cX10_tell 2 = .ok (.invokevirtual 176, 3) := by decide +kernel
theorem dX10_tell_5 : decode cX10_tell 5 = .ok (.ifCond .ne 5, 3) := by decide +kernel
theorem dX10_tell_8 : decode cX10_tell 8 = .ok (.iconst (-1), 1) := by decide +kernel
theorem dX10_tell_9 : decode cX10_tell 9 = .ok (.ireturn, 1) := by decide +kernel
theorem dX10_tell_10 : decode cX10_tell 10 = .ok (.aload_n 0, 1) := by decide +kernel
theorem dX10_tell_11 : decode cX10_tell 11 = .ok (.getfield 30, 3) := by decide +kernel
theorem dX10_tell_14 : decode cX10_tell 14 = .ok (.iload_n 1, 1) := by decide +kernel
theorem dX10_tell_15 : decode cX10_tell 15 = .ok (.aaload, 1) := by decide +kernel
theorem dX10_tell_16 : decode cX10_tell 16 = .ok (.getfield 179, 3) := by decide +kernel
theorem dX10_tell_19 : decode cX10_tell 19 = .ok (.lookupswitch 47 #[(1, 36), (2, 25)], 25) := by decide +kernel
theorem dX10_tell_44 : decode cX10_tell 44 = .ok (.aload_n 0, 1) := by decide +kernel
theorem dX10_tell_45 : decode cX10_tell 45 = .ok (.aload_n 0, 1) := by decide +kernel
theorem dX10_tell_46 : decode cX10_tell 46 = .ok (.getfield 30, 3) := by decide +kernel
theorem dX10_tell_49 : decode cX10_tell 49 = .ok (.iload_n 1, 1) := by decide +kernel
theorem dX10_tell_50 : decode cX10_tell 50 = .ok (.aaload, 1) := by decide +kernel
theorem dX10_tell_51 : decode cX10_tell 51 = .ok (.invokevirtual 330, 3) := by decide +kernel
theorem dX10_tell_54 : decode cX10_tell 54 = .ok (.ireturn, 1) := by decide +kernel
theorem dX10_tell_55 : decode cX10_tell 55 = .ok (.aload_n 0, 1) := by decide +kernel
theorem dX10_tell_56 : decode cX10_tell 56 = .ok (.aload_n 0, 1) := by decide +kernel
theorem dX10_tell_57 : decode cX10_tell 57 = .ok (.getfield 30, 3) := by decide +kernel
theorem dX10_tell_60 : decode cX10_tell 60 = .ok (.iload_n 1, 1) := by decide +kernel
theorem dX10_tell_61 : decode cX10_tell 61 = .ok (.aaload, 1) := by decide +kernel
theorem dX10_tell_62 : decode cX10_tell 62 = .ok (.invokevirtual 334, 3) := by decide +kernel
theorem dX10_tell_65 : decode cX10_tell 65 = .ok (.ireturn, 1) := by decide +kernel
theorem dX10_tell_66 : decode cX10_tell 66 = .ok (.aload_n 0, 1) := by decide +kernel
theorem dX10_tell_67 : decode cX10_tell 67 = .ok (.aload_n 0, 1) := by decide +kernel
theorem dX10_tell_68 : decode cX10_tell 68 = .ok (.getfield 30, 3) := by decide +kernel
theorem dX10_tell_71 : decode cX10_tell 71 = .ok (.iload_n 1, 1) := by decide +kernel
theorem dX10_tell_72 : decode cX10_tell 72 = .ok (.aaload, 1) := by decide +kernel
theorem dX10_tell_73 : decode cX10_tell 73 = .ok (.invokevirtual 337, 3) := by decide +kernel
theorem dX10_tell_76 : decode cX10_tell 76 = .ok (.ireturn, 1) := by decide +kernel
theorem dX10_tellForm_0 : decode cX10_tellForm 0 = .ok (.aload_n 0, 1) := by decide +kernel
theorem dX10_tellForm_1 : decode cX10_tellForm 1 = .ok (.iconst 1, 1) := by decide +kernel
theorem dX10_tellForm_2 : decode cX10_tellForm 2 = .ok (.invokevirtual 340, 3) := by decide +kernel
theorem dX10_tellForm_5 : decode cX10_tellForm 5 = .ok (.aload_n 1, 1) := by decide +kernel
theorem dX10_tellForm_6 : decode cX10_tellForm 6 = .ok (.getfield 188, 3) := by decide +kernel
theorem dX10_tellForm_9 : decode cX10_tellForm 9 = .ok (.getfield 191, 3) := by decide +kernel
theorem dX10_tellForm_12 : decode cX10_tellForm 12 = .ok (.ireturn, 1) := by decide +kernel
theorem dX10_tellLoan_0 : decode cX10_tellLoan 0 = .ok (.aload_n 0, 1) := by decide +kernel
theorem dX10_tellLoan_1 : decode cX10_tellLoan 1 = .ok (.iconst 2, 1) := by decide +kernel
theorem dX10_tellLoan_2 : decode cX10_tellLoan 2 = .ok (.invokevirtual 340, 3) := by decide +kernel
theorem dX10_tellLoan_5 : decode cX10_tellLoan 5 = .ok (.aload_n 0, 1) := by decide +kernel
theorem dX10_tellLoan_6 : decode cX10_tellLoan 6 = .ok (.aload_n 1, 1) := by decide +kernel
theorem dX10_tellLoan_7 : decode cX10_tellLoan 7 = .ok (.invokevirtual 337, 3) := by decide +kernel
theorem dX10_tellLoan_10 : decode cX10_tellLoan 10 = .ok (.bipush 10, 2) := by decide +kernel
theorem dX10_tellLoan_12 : decode cX10_tellLoan 12 = .ok (.iadd, 1) := by decide +kernel
theorem dX10_tellLoan_13 : decode cX10_tellLoan 13 = .ok (.ireturn, 1) := by decide +kernel
theorem dX10_tellGuess_0 : decode cX10_tellGuess 0 = .ok (.aload_n 0, 1) := by decide +kernel
theorem dX10_tellGuess_1 : decode cX10_tellGuess 1 = .ok (.iconst 3, 1) := by decide +kernel
theorem dX10_tellGuess_2 : decode cX10_tellGuess 2 = .ok (.invokevirtual 340, 3) := by decide +kernel
theorem dX10_tellGuess_5 : decode cX10_tellGuess 5 = .ok (.aload_n 0, 1) := by decide +kernel
theorem dX10_tellGuess_6 : decode cX10_tellGuess 6 = .ok (.aload_n 1, 1) := by decide +kernel
theorem dX10_tellGuess_7 : decode cX10_tellGuess 7 = .ok (.invokevirtual 334, 3) := by decide +kernel
theorem dX10_tellGuess_10 : decode cX10_tellGuess 10 = .ok (.aload_n 0, 1) := by decide +kernel
theorem dX10_tellGuess_11 : decode cX10_tellGuess 11 = .ok (.aload_n 1, 1) := by decide +kernel
theorem dX10_tellGuess_12 : decode cX10_tellGuess 12 = .ok (.invokevirtual 337, 3) := by decide +kernel
theorem dX10_tellGuess_15 : decode cX10_tellGuess 15 = .ok (.iadd, 1) := by decide +kernel
theorem dX10_tellGuess_16 : decode cX10_tellGuess 16 = .ok (.ireturn, 1) := by decide +kernel
theorem dX10_name_0 : decode cX10_name 0 = .ok (.aload_n 0, 1) := by decide +kernel
theorem dX10_name_1 : decode cX10_name 1 = .ok (.iload_n 1, 1) := by decide +kernel
theorem dX10_name_2 : decode cX10_name 2 = .ok (.invokevirtual 176, 3) := by decide +kernel
theorem dX10_name_5 : decode cX10_name 5 = .ok (.ifCond .ne 5, 3) := by decide +kernel
theorem dX10_name_8 : decode cX10_name 8 = .ok (.iconst (-1), 1) := by decide +kernel
theorem dX10_name_9 : decode cX10_name 9 = .ok (.ireturn, 1) := by decide +kernel
theorem dX10_name_10 : decode cX10_name 10 = .ok (.aload_n 0, 1) := by decide +kernel
theorem dX10_name_11 : decode cX10_name 11 = .ok (.getfield 30, 3) := by decide +kernel
theorem dX10_name_14 : decode cX10_name 14 = .ok (.iload_n 1, 1) := by decide +kernel
theorem dX10_name_15 : decode cX10_name 15 = .ok (.aaload, 1) := by decide +kernel
theorem dX10_name_16 : decode cX10_name 16 = .ok (.getfield 179, 3) := by decide +kernel
theorem dX10_name_19 : decode cX10_name 19 = .ok (.iconst 2, 1) := by decide +kernel
theorem dX10_name_20 : decode cX10_name 20 = .ok (.if_icmp .ne 11, 3) := by decide +kernel
theorem dX10_name_23 : decode cX10_name 23 = .ok (.aload_n 0, 1) := by decide +kernel
theorem dX10_name_24 : decode cX10_name 24 = .ok (.iconst 5, 1) := by decide +kernel
theorem dX10_name_25 : decode cX10_name 25 = .ok (.invokevirtual 340, 3) := by decide +kernel
theorem dX10_name_28 : decode cX10_name 28 = .ok (.bipush 70, 2) := by decide +kernel
theorem dX10_name_30 : decode cX10_name 30 = .ok (.ireturn, 1) := by decide +kernel
theorem dX10_name_31 : decode cX10_name 31 = .ok (.aload_n 0, 1) := by decide +kernel
theorem dX10_name_32 : decode cX10_name 32 = .ok (.iconst 4, 1) := by decide +kernel
theorem dX10_name_33 : decode cX10_name 33 = .ok (.invokevirtual 340, 3) := by decide +kernel
theorem dX10_name_36 : decode cX10_name 36 = .ok (.iload_n 1, 1) := by decide +kernel
theorem dX10_name_37 : decode cX10_name 37 = .ok (.ireturn, 1) := by decide +kernel
theorem dX10_leaveTrace_0 : decode cX10_leaveTrace 0 = .ok (.aload_n 0, 1) := by decide +kernel
theorem dX10_leaveTrace_1 : decode cX10_leaveTrace 1 = .ok (.bipush 31, 2) := by decide +kernel
theorem dX10_leaveTrace_3 : decode cX10_leaveTrace 3 = .ok (.aload_n 0, 1) := by decide +kernel
theorem dX10_leaveTrace_4 : decode cX10_leaveTrace 4 = .ok (.getfield 99, 3) := by decide +kernel
theorem dX10_leaveTrace_7 : decode cX10_leaveTrace 7 = .ok (.imul, 1) := by decide +kernel
theorem dX10_leaveTrace_8 : decode cX10_leaveTrace 8 = .ok (.iload_n 1, 1) := by decide +kernel
theorem dX10_leaveTrace_9 : decode cX10_leaveTrace 9 = .ok (.iadd, 1) := by decide +kernel
theorem dX10_leaveTrace_10 : decode cX10_leaveTrace 10 = .ok (.putfield 99, 3) := by decide +kernel
theorem dX10_leaveTrace_13 : decode cX10_leaveTrace 13 = .ok (.return_, 1) := by decide +kernel
theorem dX10_as_0 : decode cX10_as 0 = .ok (.aload_n 0, 1) := by decide +kernel
theorem dX10_as_1 : decode cX10_as 1 = .ok (.iconst 0, 1) := by decide +kernel
theorem dX10_as_2 : decode cX10_as 2 = .ok (.putfield 102, 3) := by decide +kernel
theorem dX10_as_5 : decode cX10_as 5 = .ok (.aload_n 0, 1) := by decide +kernel
theorem dX10_as_6 : decode cX10_as 6 = .ok (.iload_n 1, 1) := by decide +kernel
theorem dX10_as_7 : decode cX10_as 7 = .ok (.invokevirtual 176, 3) := by decide +kernel
theorem dX10_as_10 : decode cX10_as 10 = .ok (.ifCond .ne 5, 3) := by decide +kernel
theorem dX10_as_13 : decode cX10_as 13 = .ok (.iconst (-1), 1) := by decide +kernel
theorem dX10_as_14 : decode cX10_as 14 = .ok (.ireturn, 1) := by decide +kernel
theorem dX10_as_15 : decode cX10_as 15 = .ok (.iload_n 2, 1) := by decide +kernel
theorem dX10_as_16 : decode cX10_as 16 = .ok (.iconst 0, 1) := by decide +kernel
theorem dX10_as_17 : decode cX10_as 17 = .ok (.iconst 2, 1) := by decide +kernel
theorem dX10_as_18 : decode cX10_as 18 = .ok (.invokestatic 142, 3) := by decide +kernel
theorem dX10_as_21 : decode cX10_as 21 = .ok (.ifCond .ne 6, 3) := by decide +kernel
theorem dX10_as_24 : decode cX10_as 24 = .ok (.bipush (-2), 2) := by decide +kernel
theorem dX10_as_26 : decode cX10_as 26 = .ok (.ireturn, 1) := by decide +kernel
theorem dX10_as_27 : decode cX10_as 27 = .ok (.aload_n 0, 1) := by decide +kernel
theorem dX10_as_28 : decode cX10_as 28 = .ok (.getfield 30, 3) := by decide +kernel
theorem dX10_as_31 : decode cX10_as 31 = .ok (.iload_n 1, 1) := by decide +kernel
theorem dX10_as_32 : decode cX10_as 32 = .ok (.aaload, 1) := by decide +kernel
theorem dX10_as_33 : decode cX10_as 33 = .ok (.getfield 179, 3) := by decide +kernel
theorem dX10_as_36 : decode cX10_as 36 = .ok (.iload_n 2, 1) := by decide +kernel
theorem dX10_as_37 : decode cX10_as 37 = .ok (.if_icmp .lt 7, 3) := by decide +kernel
theorem dX10_as_40 : decode cX10_as 40 = .ok (.iconst 1, 1) := by decide +kernel
theorem dX10_as_41 : decode cX10_as 41 = .ok (.goto 8, 3) := by decide +kernel
theorem dX10_as_44 : decode cX10_as 44 = .ok (.aload_n 0, 1) := by decide +kernel
theorem dX10_as_45 : decode cX10_as 45 = .ok (.iconst 2, 1) := by decide +kernel
theorem dX10_as_46 : decode cX10_as 46 = .ok (.invokevirtual 304, 3) := by decide +kernel
theorem dX10_as_49 : decode cX10_as 49 = .ok (.ireturn, 1) := by decide +kernel
theorem dX10_trace_0 : decode cX10_trace 0 = .ok (.aload_n 0, 1) := by decide +kernel
theorem dX10_trace_1 : decode cX10_trace 1 = .ok (.getfield 99, 3) := by decide +kernel
theorem dX10_trace_4 : decode cX10_trace 4 = .ok (.ireturn, 1) := by decide +kernel
theorem dX10_fault_0 : decode cX10_fault 0 = .ok (.aload_n 0, 1) := by decide +kernel
theorem dX10_fault_1 : decode cX10_fault 1 = .ok (.getfield 102, 3) := by decide +kernel
theorem dX10_fault_4 : decode cX10_fault 4 = .ok (.ireturn, 1) := by decide +kernel
theorem dX10_many_0 : decode cX10_many 0 = .ok (.iload_n 1, 1) := by decide +kernel
theorem dX10_many_1 : decode cX10_many 1 = .ok (.tableswitch 57 0 3 #[31, 36, 41, 49], 31) := by decide +kernel
theorem dX10_many_32 : decode cX10_many 32 = .ok (.aload_n 0, 1) := by decide +kernel
theorem dX10_many_33 : decode cX10_many 33 = .ok (.getfield 89, 3) := by decide +kernel
theorem dX10_many_36 : decode cX10_many 36 = .ok (.ireturn, 1) := by decide +kernel
theorem dX10_many_37 : decode cX10_many 37 = .ok (.aload_n 0, 1) := by decide +kernel
theorem dX10_many_38 : decode cX10_many 38 = .ok (.getfield 93, 3) := by decide +kernel
theorem dX10_many_41 : decode cX10_many 41 = .ok (.ireturn, 1) := by decide +kernel
theorem dX10_many_42 : decode cX10_many 42 = .ok (.aload_n 0, 1) := by decide +kernel
theorem dX10_many_43 : decode cX10_many 43 = .ok (.getfield 48, 3) := by decide +kernel
theorem dX10_many_46 : decode cX10_many 46 = .ok (.getfield 343, 3) := by decide +kernel
theorem dX10_many_49 : decode cX10_many 49 = .ok (.ireturn, 1) := by decide +kernel
theorem dX10_many_50 : decode cX10_many 50 = .ok (.aload_n 0, 1) := by decide +kernel
theorem dX10_many_51 : decode cX10_many 51 = .ok (.getfield 96, 3) := by decide +kernel
theorem dX10_many_54 : decode cX10_many 54 = .ok (.invokestatic 346, 3) := by decide +kernel
theorem dX10_many_57 : decode cX10_many 57 = .ok (.ireturn, 1) := by decide +kernel
theorem dX10_many_58 : decode cX10_many 58 = .ok (.bipush (-2), 2) := by decide +kernel
theorem dX10_many_60 : decode cX10_many 60 = .ok (.ireturn, 1) := by decide +kernel
theorem dX10_isBelow_0 : decode cX10_isBelow 0 = .ok (.iload_n 0, 1) := by decide +kernel
theorem dX10_isBelow_1 : decode cX10_isBelow 1 = .ok (.ifCond .lt 12, 3) := by decide +kernel
theorem dX10_isBelow_4 : decode cX10_isBelow 4 = .ok (.iload_n 0, 1) := by decide +kernel
theorem dX10_isBelow_5 : decode cX10_isBelow 5 = .ok (.iload_n 1, 1) := by decide +kernel
theorem dX10_isBelow_6 : decode cX10_isBelow 6 = .ok (.if_icmp .ge 7, 3) := by decide +kernel
theorem dX10_isBelow_9 : decode cX10_isBelow 9 = .ok (.iconst 1, 1) := by decide +kernel
theorem dX10_isBelow_10 : decode cX10_isBelow 10 = .ok (.goto 4, 3) := by decide +kernel
theorem dX10_isBelow_13 : decode cX10_isBelow 13 = .ok (.iconst 0, 1) := by decide +kernel
theorem dX10_isBelow_14 : decode cX10_isBelow 14 = .ok (.ireturn, 1) := by decide +kernel
theorem dX10_isWithin_0 : decode cX10_isWithin 0 = .ok (.iload_n 0, 1) := by decide +kernel
theorem dX10_isWithin_1 : decode cX10_isWithin 1 = .ok (.iload_n 1, 1) := by decide +kernel
theorem dX10_isWithin_2 : decode cX10_isWithin 2 = .ok (.if_icmp .lt 12, 3) := by decide +kernel
theorem dX10_isWithin_5 : decode cX10_isWithin 5 = .ok (.iload_n 0, 1) := by decide +kernel
theorem dX10_isWithin_6 : decode cX10_isWithin 6 = .ok (.iload_n 2, 1) := by decide +kernel
theorem dX10_isWithin_7 : decode cX10_isWithin 7 = .ok (.if_icmp .gt 7, 3) := by decide +kernel
theorem dX10_isWithin_10 : decode cX10_isWithin 10 = .ok (.iconst 1, 1) := by decide +kernel
theorem dX10_isWithin_11 : decode cX10_isWithin 11 = .ok (.goto 4, 3) := by decide +kernel
theorem dX10_isWithin_14 : decode cX10_isWithin 14 = .ok (.iconst 0, 1) := by decide +kernel
theorem dX10_isWithin_15 : decode cX10_isWithin 15 = .ok (.ireturn, 1) := by decide +kernel
theorem dX10_isSetBelow_0 : decode cX10_isSetBelow 0 = .ok (.iload_n 0, 1) := by decide +kernel
theorem dX10_isSetBelow_1 : decode cX10_isSetBelow 1 = .ok (.iload_n 1, 1) := by decide +kernel
theorem dX10_isSetBelow_2 : decode cX10_isSetBelow 2 = .ok (.iushr, 1) := by decide +kernel
theorem dX10_isSetBelow_3 : decode cX10_isSetBelow 3 = .ok (.ifCond .ne 7, 3) := by decide +kernel
theorem dX10_isSetBelow_6 : decode cX10_isSetBelow 6 = .ok (.iconst 1, 1) := by decide +kernel
theorem dX10_isSetBelow_7 : decode cX10_isSetBelow 7 = .ok (.goto 4, 3) := by decide +kernel
theorem dX10_isSetBelow_10 : decode cX10_isSetBelow 10 = .ok (.iconst 0, 1) := by decide +kernel
theorem dX10_isSetBelow_11 : decode cX10_isSetBelow 11 = .ok (.ireturn, 1) := by decide +kernel
theorem dX10_isIn_0 : decode cX10_isIn 0 = .ok (.iload_n 1, 1) := by decide +kernel
theorem dX10_isIn_1 : decode cX10_isIn 1 = .ok (.iload_n 0, 1) := by decide +kernel
theorem dX10_isIn_2 : decode cX10_isIn 2 = .ok (.ishr, 1) := by decide +kernel
theorem dX10_isIn_3 : decode cX10_isIn 3 = .ok (.iconst 1, 1) := by decide +kernel
theorem dX10_isIn_4 : decode cX10_isIn 4 = .ok (.iand, 1) := by decide +kernel
theorem dX10_isIn_5 : decode cX10_isIn 5 = .ok (.iconst 1, 1) := by decide +kernel
theorem dX10_isIn_6 : decode cX10_isIn 6 = .ok (.if_icmp .ne 7, 3) := by decide +kernel
theorem dX10_isIn_9 : decode cX10_isIn 9 = .ok (.iconst 1, 1) := by decide +kernel
theorem dX10_isIn_10 : decode cX10_isIn 10 = .ok (.goto 4, 3) := by decide +kernel
theorem dX10_isIn_13 : decode cX10_isIn 13 = .ok (.iconst 0, 1) := by decide +kernel
theorem dX10_isIn_14 : decode cX10_isIn 14 = .ok (.ireturn, 1) := by decide +kernel
theorem dX10_isMeaning_0 : decode cX10_isMeaning 0 = .ok (.iload_n 0, 1) := by decide +kernel
theorem dX10_isMeaning_1 : decode cX10_isMeaning 1 = .ok (.bipush 6, 2) := by decide +kernel
theorem dX10_isMeaning_3 : decode cX10_isMeaning 3 = .ok (.invokestatic 114, 3) := by decide +kernel
theorem dX10_isMeaning_6 : decode cX10_isMeaning 6 = .ok (.ireturn, 1) := by decide +kernel
theorem dX10_isSoughtSet_0 : decode cX10_isSoughtSet 0 = .ok (.iload_n 0, 1) := by decide +kernel
theorem dX10_isSoughtSet_1 : decode cX10_isSoughtSet 1 = .ok (.bipush 16, 2) := by decide +kernel
theorem dX10_isSoughtSet_3 : decode cX10_isSoughtSet 3 = .ok (.invokestatic 118, 3) := by decide +kernel
theorem dX10_isSoughtSet_6 : decode cX10_isSoughtSet 6 = .ok (.ifCond .eq 19, 3) := by decide +kernel
theorem dX10_isSoughtSet_9 : decode cX10_isSoughtSet 9 = .ok (.iload_n 0, 1) := by decide +kernel
theorem dX10_isSoughtSet_10 : decode cX10_isSoughtSet 10 = .ok (.invokestatic 346, 3) := by decide +kernel
theorem dX10_isSoughtSet_13 : decode cX10_isSoughtSet 13 = .ok (.iconst 1, 1) := by decide +kernel
theorem dX10_isSoughtSet_14 : decode cX10_isSoughtSet 14 = .ok (.iconst 5, 1) := by decide +kernel
theorem dX10_isSoughtSet_15 : decode cX10_isSoughtSet 15 = .ok (.invokestatic 142, 3) := by decide +kernel
theorem dX10_isSoughtSet_18 : decode cX10_isSoughtSet 18 = .ok (.ifCond .eq 7, 3) := by decide +kernel
theorem dX10_isSoughtSet_21 : decode cX10_isSoughtSet 21 = .ok (.iconst 1, 1) := by decide +kernel
theorem dX10_isSoughtSet_22 : decode cX10_isSoughtSet 22 = .ok (.goto 4, 3) := by decide +kernel
theorem dX10_isSoughtSet_25 : decode cX10_isSoughtSet 25 = .ok (.iconst 0, 1) := by decide +kernel
theorem dX10_isSoughtSet_26 : decode cX10_isSoughtSet 26 = .ok (.ireturn, 1) := by decide +kernel
theorem dX10_isPlace_0 : decode cX10_isPlace 0 = .ok (.iload_n 1, 1) := by decide +kernel
theorem dX10_isPlace_1 : decode cX10_isPlace 1 = .ok (.aload_n 0, 1) := by decide +kernel
theorem dX10_isPlace_2 : decode cX10_isPlace 2 = .ok (.getfield 89, 3) := by decide +kernel
theorem dX10_isPlace_5 : decode cX10_isPlace 5 = .ok (.invokestatic 114, 3) := by decide +kernel
theorem dX10_isPlace_8 : decode cX10_isPlace 8 = .ok (.ireturn, 1) := by decide +kernel
theorem dX10_isForm_0 : decode cX10_isForm 0 = .ok (.iload_n 1, 1) := by decide +kernel
theorem dX10_isForm_1 : decode cX10_isForm 1 = .ok (.aload_n 0, 1) := by decide +kernel
theorem dX10_isForm_2 : decode cX10_isForm 2 = .ok (.getfield 93, 3) := by decide +kernel
theorem dX10_isForm_5 : decode cX10_isForm 5 = .ok (.invokestatic 114, 3) := by decide +kernel
theorem dX10_isForm_8 : decode cX10_isForm 8 = .ok (.ireturn, 1) := by decide +kernel
theorem dX10_isLaw_0 : decode cX10_isLaw 0 = .ok (.iload_n 1, 1) := by decide +kernel
theorem dX10_isLaw_1 : decode cX10_isLaw 1 = .ok (.aload_n 0, 1) := by decide +kernel
theorem dX10_isLaw_2 : decode cX10_isLaw 2 = .ok (.getfield 48, 3) := by decide +kernel
theorem dX10_isLaw_5 : decode cX10_isLaw 5 = .ok (.getfield 343, 3) := by decide +kernel
theorem dX10_isLaw_8 : decode cX10_isLaw 8 = .ok (.invokestatic 114, 3) := by decide +kernel
theorem dX10_isLaw_11 : decode cX10_isLaw 11 = .ok (.ireturn, 1) := by decide +kernel
theorem dX10_failBy_0 : decode cX10_failBy 0 = .ok (.aload_n 0, 1) := by decide +kernel
theorem dX10_failBy_1 : decode cX10_failBy 1 = .ok (.iload_n 1, 1) := by decide +kernel
theorem dX10_failBy_2 : decode cX10_failBy 2 = .ok (.putfield 102, 3) := by decide +kernel
theorem dX10_failBy_5 : decode cX10_failBy 5 = .ok (.bipush (-10), 2) := by decide +kernel
theorem dX10_failBy_7 : decode cX10_failBy 7 = .ok (.iload_n 1, 1) := by decide +kernel
theorem dX10_failBy_8 : decode cX10_failBy 8 = .ok (.isub, 1) := by decide +kernel
theorem dX10_failBy_9 : decode cX10_failBy 9 = .ok (.ireturn, 1) := by decide +kernel
theorem dX10_takeCells_0 : decode cX10_takeCells 0 = .ok (.aload_n 0, 1) := by decide +kernel
theorem dX10_takeCells_1 : decode cX10_takeCells 1 = .ok (.getfield 68, 3) := by decide +kernel
theorem dX10_takeCells_4 : decode cX10_takeCells 4 = .ok (.iload_n 1, 1) := by decide +kernel
theorem dX10_takeCells_5 : decode cX10_takeCells 5 = .ok (.aaload, 1) := by decide +kernel
theorem dX10_takeCells_6 : decode cX10_takeCells 6 = .ok (.iload_n 2, 1) := by decide +kernel
theorem dX10_takeCells_7 : decode cX10_takeCells 7 = .ok (.iload_n 3, 1) := by decide +kernel
theorem dX10_takeCells_8 : decode cX10_takeCells 8 = .ok (.iload 4, 2) := by decide +kernel
theorem dX10_takeCells_10 : decode cX10_takeCells 10 = .ok (.invokevirtual 349, 3) := by decide +kernel
theorem dX10_takeCells_13 : decode cX10_takeCells 13 = .ok (.istore 5, 2) := by decide +kernel
theorem dX10_takeCells_15 : decode cX10_takeCells 15 = .ok (.iload 5, 2) := by decide +kernel
theorem dX10_takeCells_17 : decode cX10_takeCells 17 = .ok (.ifCond .eq 10, 3) := by decide +kernel
theorem dX10_takeCells_20 : decode cX10_takeCells 20 = .ok (.aload_n 0, 1) := by decide +kernel
theorem dX10_takeCells_21 : decode cX10_takeCells 21 = .ok (.iload 5, 2) := by decide +kernel
theorem dX10_takeCells_23 : decode cX10_takeCells 23 = .ok (.invokevirtual 304, 3) := by decide +kernel
theorem dX10_takeCells_26 : decode cX10_takeCells 26 = .ok (.ireturn, 1) := by decide +kernel
theorem dX10_takeCells_27 : decode cX10_takeCells 27 = .ok (.aload_n 0, 1) := by decide +kernel
theorem dX10_takeCells_28 : decode cX10_takeCells 28 = .ok (.getfield 68, 3) := by decide +kernel
theorem dX10_takeCells_31 : decode cX10_takeCells 31 = .ok (.iload_n 1, 1) := by decide +kernel
theorem dX10_takeCells_32 : decode cX10_takeCells 32 = .ok (.aaload, 1) := by decide +kernel
theorem dX10_takeCells_33 : decode cX10_takeCells 33 = .ok (.getfield 327, 3) := by decide +kernel
theorem dX10_takeCells_36 : decode cX10_takeCells 36 = .ok (.iload_n 3, 1) := by decide +kernel
theorem dX10_takeCells_37 : decode cX10_takeCells 37 = .ok (.aload_n 0, 1) := by decide +kernel
theorem dX10_takeCells_38 : decode cX10_takeCells 38 = .ok (.getfield 72, 3) := by decide +kernel
theorem dX10_takeCells_41 : decode cX10_takeCells 41 = .ok (.iconst 0, 1) := by decide +kernel
theorem dX10_takeCells_42 : decode cX10_takeCells 42 = .ok (.iload 4, 2) := by decide +kernel
theorem dX10_takeCells_44 : decode cX10_takeCells 44 = .ok (.invokestatic 352, 3) := by decide +kernel
theorem dX10_takeCells_47 : decode cX10_takeCells 47 = .ok (.iconst 0, 1) := by decide +kernel
theorem dX10_takeCells_48 : decode cX10_takeCells 48 = .ok (.ireturn, 1) := by decide +kernel
theorem dX10_takeSounds_0 : decode cX10_takeSounds 0 = .ok (.aload_n 0, 1) := by decide +kernel
theorem dX10_takeSounds_1 : decode cX10_takeSounds 1 = .ok (.iload_n 1, 1) := by decide +kernel
theorem dX10_takeSounds_2 : decode cX10_takeSounds 2 = .ok (.iload_n 2, 1) := by decide +kernel
theorem dX10_takeSounds_3 : decode cX10_takeSounds 3 = .ok (.iload_n 3, 1) := by decide +kernel
theorem dX10_takeSounds_4 : decode cX10_takeSounds 4 = .ok (.iload 4, 2) := by decide +kernel
theorem dX10_takeSounds_6 : decode cX10_takeSounds 6 = .ok (.invokevirtual 138, 3) := by decide +kernel
theorem dX10_takeSounds_9 : decode cX10_takeSounds 9 = .ok (.istore 5, 2) := by decide +kernel
theorem dX10_takeSounds_11 : decode cX10_takeSounds 11 = .ok (.iload 5, 2) := by decide +kernel
theorem dX10_takeSounds_13 : decode cX10_takeSounds 13 = .ok (.ifCond .eq 6, 3) := by decide +kernel
theorem dX10_takeSounds_16 : decode cX10_takeSounds 16 = .ok (.iload 5, 2) := by decide +kernel
theorem dX10_takeSounds_18 : decode cX10_takeSounds 18 = .ok (.ireturn, 1) := by decide +kernel
theorem dX10_takeSounds_19 : decode cX10_takeSounds 19 = .ok (.iload 4, 2) := by decide +kernel
theorem dX10_takeSounds_21 : decode cX10_takeSounds 21 = .ok (.bipush 8, 2) := by decide +kernel
theorem dX10_takeSounds_23 : decode cX10_takeSounds 23 = .ok (.if_icmp .le 6, 3) := by decide +kernel
theorem dX10_takeSounds_26 : decode cX10_takeSounds 26 = .ok (.bipush (-2), 2) := by decide +kernel
theorem dX10_takeSounds_28 : decode cX10_takeSounds 28 = .ok (.ireturn, 1) := by decide +kernel
theorem dX10_takeSounds_29 : decode cX10_takeSounds 29 = .ok (.aload_n 0, 1) := by decide +kernel
theorem dX10_takeSounds_30 : decode cX10_takeSounds 30 = .ok (.bipush 16, 2) := by decide +kernel
theorem dX10_takeSounds_32 : decode cX10_takeSounds 32 = .ok (.iload 4, 2) := by decide +kernel
theorem dX10_takeSounds_34 : decode cX10_takeSounds 34 = .ok (.invokevirtual 145, 3) := by decide +kernel
theorem dX10_takeSounds_37 : decode cX10_takeSounds 37 = .ok (.ifCond .eq 7, 3) := by decide +kernel
theorem dX10_takeSounds_40 : decode cX10_takeSounds 40 = .ok (.iconst 0, 1) := by decide +kernel
theorem dX10_takeSounds_41 : decode cX10_takeSounds 41 = .ok (.goto 4, 3) := by decide +kernel
theorem dX10_takeSounds_44 : decode cX10_takeSounds 44 = .ok (.iconst (-1), 1) := by decide +kernel
theorem dX10_takeSounds_45 : decode cX10_takeSounds 45 = .ok (.ireturn, 1) := by decide +kernel
theorem dX10_areTakenBelow_0 : decode cX10_areTakenBelow 0 = .ok (.iconst 0, 1) := by decide +kernel
theorem dX10_areTakenBelow_1 : decode cX10_areTakenBelow 1 = .ok (.istore_n 3, 1) := by decide +kernel
theorem dX10_areTakenBelow_2 : decode cX10_areTakenBelow 2 = .ok (.iload_n 3, 1) := by decide +kernel
theorem dX10_areTakenBelow_3 : decode cX10_areTakenBelow 3 = .ok (.iload_n 2, 1) := by decide +kernel
theorem dX10_areTakenBelow_4 : decode cX10_areTakenBelow 4 = .ok (.if_icmp .ge 24, 3) := by decide +kernel
theorem dX10_areTakenBelow_7 : decode cX10_areTakenBelow 7 = .ok (.aload_n 0, 1) := by decide +kernel
theorem dX10_areTakenBelow_8 : decode cX10_areTakenBelow 8 = .ok (.getfield 72, 3) := by decide +kernel
theorem dX10_areTakenBelow_11 : decode cX10_areTakenBelow 11 = .ok (.iload_n 3, 1) := by decide +kernel
theorem dX10_areTakenBelow_12 : decode cX10_areTakenBelow 12 = .ok (.iaload, 1) := by decide +kernel
theorem dX10_areTakenBelow_13 : decode cX10_areTakenBelow 13 = .ok (.iload_n 1, 1) := by decide +kernel
theorem dX10_areTakenBelow_14 : decode cX10_areTakenBelow 14 = .ok (.invokestatic 114, 3) := by decide +kernel
theorem dX10_areTakenBelow_17 : decode cX10_areTakenBelow 17 = .ok (.ifCond .ne 5, 3) := by decide +kernel
theorem dX10_areTakenBelow_20 : decode cX10_areTakenBelow 20 = .ok (.iconst 0, 1) := by decide +kernel
theorem dX10_areTakenBelow_21 : decode cX10_areTakenBelow 21 = .ok (.ireturn, 1) := by decide +kernel
theorem dX10_areTakenBelow_22 : decode cX10_areTakenBelow 22 = .ok (.iinc 3 1, 3) := by decide +kernel
theorem dX10_areTakenBelow_25 : decode cX10_areTakenBelow 25 = .ok (.goto (-23), 3) := by decide +kernel
theorem dX10_areTakenBelow_28 : decode cX10_areTakenBelow 28 = .ok (.iconst 1, 1) := by decide +kernel
theorem dX10_areTakenBelow_29 : decode cX10_areTakenBelow 29 = .ok (.ireturn, 1) := by decide +kernel
end
section
theorem dX11_init_0 : decode cX11_init 0 = .ok (.aload_n 0, 1) := by decide +kernel
theorem dX11_init_1 : decode cX11_init 1 = .ok (.invokespecial 1, 3) := by decide +kernel
theorem dX11_init_4 : decode cX11_init 4 = .ok (.aload_n 0, 1) := by decide +kernel
theorem dX11_init_5 : decode cX11_init 5 = .ok (.iconst 4, 1) := by decide +kernel
theorem dX11_init_6 : decode cX11_init 6 = .ok (.newarray .int, 2) := by decide +kernel
theorem dX11_init_8 : decode cX11_init 8 = .ok (.dup, 1) := by decide +kernel
theorem dX11_init_9 : decode cX11_init 9 = .ok (.iconst 0, 1) := by decide +kernel
theorem dX11_init_10 : decode cX11_init 10 = .ok (.bipush (-9), 2) := by decide +kernel
theorem dX11_init_12 : decode cX11_init 12 = .ok (.iastore, 1) := by decide +kernel
theorem dX11_init_13 : decode cX11_init 13 = .ok (.dup, 1) := by decide +kernel
theorem dX11_init_14 : decode cX11_init 14 = .ok (.iconst 1, 1) := by decide +kernel
theorem dX11_init_15 : decode cX11_init 15 = .ok (.bipush (-9), 2) := by decide +kernel
theorem dX11_init_17 : decode cX11_init 17 = .ok (.iastore, 1) := by decide +kernel
theorem dX11_init_18 : decode cX11_init 18 = .ok (.dup, 1) := by decide +kernel
theorem dX11_init_19 : decode cX11_init 19 = .ok (.iconst 2, 1) := by decide +kernel
theorem dX11_init_20 : decode cX11_init 20 = .ok (.bipush (-9), 2) := by decide +kernel
theorem dX11_init_22 : decode cX11_init 22 = .ok (.iastore, 1) := by decide +kernel
theorem dX11_init_23 : decode cX11_init 23 = .ok (.dup, 1) := by decide +kernel
theorem dX11_init_24 : decode cX11_init 24 = .ok (.iconst 3, 1) := by decide +kernel
theorem dX11_init_25 : decode cX11_init 25 = .ok (.bipush (-9), 2) := by decide +kernel
theorem dX11_init_27 : decode cX11_init 27 = .ok (.iastore, 1) := by decide +kernel
theorem dX11_init_28 : decode cX11_init 28 = .ok (.putfield 9, 3) := by decide +kernel
theorem dX11_init_31 : decode cX11_init 31 = .ok (.aload_n 0, 1) := by decide +kernel
theorem dX11_init_32 : decode cX11_init 32 = .ok (.iconst 4, 1) := by decide +kernel
theorem dX11_init_33 : decode cX11_init 33 = .ok (.newarray .int, 2) := by decide +kernel
theorem dX11_init_35 : decode cX11_init 35 = .ok (.putfield 13, 3) := by decide +kernel
theorem dX11_init_38 : decode cX11_init 38 = .ok (.aload_n 0, 1) := by decide +kernel
theorem dX11_init_39 : decode cX11_init 39 = .ok (.sipush 240, 3) := by decide +kernel
theorem dX11_init_42 : decode cX11_init 42 = .ok (.newarray .int, 2) := by decide +kernel
theorem dX11_init_44 : decode cX11_init 44 = .ok (.putfield 16, 3) := by decide +kernel
theorem dX11_init_47 : decode cX11_init 47 = .ok (.aload_n 0, 1) := by decide +kernel
theorem dX11_init_48 : decode cX11_init 48 = .ok (.bipush 16, 2) := by decide +kernel
theorem dX11_init_50 : decode cX11_init 50 = .ok (.newarray .int, 2) := by decide +kernel
theorem dX11_init_52 : decode cX11_init 52 = .ok (.putfield 19, 3) := by decide +kernel
theorem dX11_init_55 : decode cX11_init 55 = .ok (.aload_n 0, 1) := by decide +kernel
theorem dX11_init_56 : decode cX11_init 56 = .ok (.bipush 16, 2) := by decide +kernel
theorem dX11_init_58 : decode cX11_init 58 = .ok (.newarray .int, 2) := by decide +kernel
theorem dX11_init_60 : decode cX11_init 60 = .ok (.putfield 22, 3) := by decide +kernel
theorem dX11_init_63 : decode cX11_init 63 = .ok (.aload_n 0, 1) := by decide +kernel
theorem dX11_init_64 : decode cX11_init 64 = .ok (.iconst 3, 1) := by decide +kernel
theorem dX11_init_65 : decode cX11_init 65 = .ok (.newarray .int, 2) := by decide +kernel
theorem dX11_init_67 : decode cX11_init 67 = .ok (.putfield 25, 3) := by decide +kernel
theorem dX11_init_70 : decode cX11_init 70 = .ok (.aload_n 0, 1) := by decide +kernel
theorem dX11_init_71 : decode cX11_init 71 = .ok (.bipush 30, 2) := by decide +kernel
theorem dX11_init_73 : decode cX11_init 73 = .ok (.newarray .int, 2) := by decide +kernel
theorem dX11_init_75 : decode cX11_init 75 = .ok (.putfield 28, 3) := by decide +kernel
theorem dX11_init_78 : decode cX11_init 78 = .ok (.aload_n 0, 1) := by decide +kernel
theorem dX11_init_79 : decode cX11_init 79 = .ok (.bipush 30, 2) := by decide +kernel
theorem dX11_init_81 : decode cX11_init 81 = .ok (.newarray .int, 2) := by decide +kernel
theorem dX11_init_83 : decode cX11_init 83 = .ok (.putfield 31, 3) := by decide +kernel
theorem dX11_init_86 : decode cX11_init 86 = .ok (.aload_n 0, 1) := by decide +kernel
theorem dX11_init_87 : decode cX11_init 87 = .ok (.bipush 90, 2) := by decide +kernel
theorem dX11_init_89 : decode cX11_init 89 = .ok (.newarray .int, 2) := by decide +kernel
theorem dX11_init_91 : decode cX11_init 91 = .ok (.putfield 34, 3) := by decide +kernel
theorem dX11_init_94 : decode cX11_init 94 = .ok (.aload_n 0, 1) := by decide +kernel
theorem dX11_init_95 : decode cX11_init 95 = .ok (.bipush 8, 2) := by decide +kernel
theorem dX11_init_97 : decode cX11_init 97 = .ok (.newarray .int, 2) := by decide +kernel
theorem dX11_init_99 : decode cX11_init 99 = .ok (.putfield 37, 3) := by decide +kernel
theorem dX11_init_102 : decode cX11_init 102 = .ok (.aload_n 0, 1) := by decide +kernel
theorem dX11_init_103 : decode cX11_init 103 = .ok (.bipush 40, 2) := by decide +kernel
theorem dX11_init_105 : decode cX11_init 105 = .ok (.newarray .int, 2) := by decide +kernel
theorem dX11_init_107 : decode cX11_init 107 = .ok (.putfield 40, 3) := by decide +kernel
theorem dX11_init_110 : decode cX11_init 110 = .ok (.aload_n 0, 1) := by decide +kernel
theorem dX11_init_111 : decode cX11_init 111 = .ok (.bipush 40, 2) := by decide +kernel
theorem dX11_init_113 : decode cX11_init 113 = .ok (.newarray .int, 2) := by decide +kernel
theorem dX11_init_115 : decode cX11_init 115 = .ok (.putfield 43, 3) := by decide +kernel
theorem dX11_init_118 : decode cX11_init 118 = .ok (.aload_n 0, 1) := by decide +kernel
theorem dX11_init_119 : decode cX11_init 119 = .ok (.bipush 40, 2) := by decide +kernel
theorem dX11_init_121 : decode cX11_init 121 = .ok (.newarray .int, 2) := by decide +kernel
theorem dX11_init_123 : decode cX11_init 123 = .ok (.putfield 46, 3) := by decide +kernel
theorem dX11_init_126 : decode cX11_init 126 = .ok (.aload_n 0, 1) := by decide +kernel
theorem dX11_init_127 : decode cX11_init 127 = .ok (.bipush 40, 2) := by decide +kernel
theorem dX11_init_129 : decode cX11_init 129 = .ok (.newarray .int, 2) := by decide +kernel
theorem dX11_init_131 : decode cX11_init 131 = .ok (.putfield 49, 3) := by decide +kernel
theorem dX11_init_134 : decode cX11_init 134 = .ok (.aload_n 0, 1) := by decide +kernel
theorem dX11_init_135 : decode cX11_init 135 = .ok (.sipush 320, 3) := by decide +kernel
theorem dX11_init_138 : decode cX11_init 138 = .ok (.newarray .int, 2) := by decide +kernel
theorem dX11_init_140 : decode cX11_init 140 = .ok (.putfield 52, 3) := by decide +kernel
theorem dX11_init_143 : decode cX11_init 143 = .ok (.aload_n 0, 1) := by decide +kernel
theorem dX11_init_144 : decode cX11_init 144 = .ok (.bipush 8, 2) := by decide +kernel
theorem dX11_init_146 : decode cX11_init 146 = .ok (.newarray .int, 2) := by decide +kernel
theorem dX11_init_148 : decode cX11_init 148 = .ok (.putfield 55, 3) := by decide +kernel
theorem dX11_init_151 : decode cX11_init 151 = .ok (.aload_n 0, 1) := by decide +kernel
theorem dX11_init_152 : decode cX11_init 152 = .ok (.bipush 6, 2) := by decide +kernel
theorem dX11_init_154 : decode cX11_init 154 = .ok (.newarray .int, 2) := by decide +kernel
theorem dX11_init_156 : decode cX11_init 156 = .ok (.dup, 1) := by decide +kernel
theorem dX11_init_157 : decode cX11_init 157 = .ok (.iconst 0, 1) := by decide +kernel
theorem dX11_init_158 : decode cX11_init 158 = .ok (.bipush (-9), 2) := by decide +kernel
theorem dX11_init_160 : decode cX11_init 160 = .ok (.iastore, 1) := by decide +kernel
theorem dX11_init_161 : decode cX11_init 161 = .ok (.dup, 1) := by decide +kernel
theorem dX11_init_162 : decode cX11_init 162 = .ok (.iconst 1, 1) := by decide +kernel
theorem dX11_init_163 : decode cX11_init 163 = .ok (.bipush (-9), 2) := by decide +kernel
theorem dX11_init_165 : decode cX11_init 165 = .ok (.iastore, 1) := by decide +kernel
theorem dX11_init_166 : decode cX11_init 166 = .ok (.dup, 1) := by decide +kernel
theorem dX11_init_167 : decode cX11_init 167 = .ok (.iconst 2, 1) := by decide +kernel
theorem dX11_init_168 : decode cX11_init 168 = .ok (.bipush (-9), 2) := by decide +kernel
theorem dX11_init_170 : decode cX11_init 170 = .ok (.iastore, 1) := by decide +kernel
theorem dX11_init_171 : decode cX11_init 171 = .ok (.dup, 1) := by decide +kernel
theorem dX11_init_172 : decode cX11_init 172 = .ok (.iconst 3, 1) := by decide +kernel
theorem dX11_init_173 : decode cX11_init 173 = .ok (.bipush (-9), 2) := by decide +kernel
theorem dX11_init_175 : decode cX11_init 175 = .ok (.iastore, 1) := by decide +kernel
theorem dX11_init_176 : decode cX11_init 176 = .ok (.dup, 1) := by decide +kernel
theorem dX11_init_177 : decode cX11_init 177 = .ok (.iconst 4, 1) := by decide +kernel
theorem dX11_init_178 : decode cX11_init 178 = .ok (.bipush (-9), 2) := by decide +kernel
theorem dX11_init_180 : decode cX11_init 180 = .ok (.iastore, 1) := by decide +kernel
theorem dX11_init_181 : decode cX11_init 181 = .ok (.dup, 1) := by decide +kernel
theorem dX11_init_182 : decode cX11_init 182 = .ok (.iconst 5, 1) := by decide +kernel
theorem dX11_init_183 : decode cX11_init 183 = .ok (.bipush (-9), 2) := by decide +kernel
theorem dX11_init_185 : decode cX11_init 185 = .ok (.iastore, 1) := by decide +kernel
theorem dX11_init_186 : decode cX11_init 186 = .ok (.putfield 58, 3) := by decide +kernel
theorem dX11_init_189 : decode cX11_init 189 = .ok (.aload_n 0, 1) := by decide +kernel
theorem dX11_init_190 : decode cX11_init 190 = .ok (.bipush 48, 2) := by decide +kernel
theorem dX11_init_192 : decode cX11_init 192 = .ok (.newarray .int, 2) := by decide +kernel
theorem dX11_init_194 : decode cX11_init 194 = .ok (.putfield 61, 3) := by decide +kernel
theorem dX11_init_197 : decode cX11_init 197 = .ok (.aload_n 0, 1) := by decide +kernel
theorem dX11_init_198 : decode cX11_init 198 = .ok (.bipush 8, 2) := by decide +kernel
theorem dX11_init_200 : decode cX11_init 200 = .ok (.newarray .int, 2) := by decide +kernel
theorem dX11_init_202 : decode cX11_init 202 = .ok (.putfield 64, 3) := by decide +kernel
theorem dX11_init_205 : decode cX11_init 205 = .ok (.aload_n 0, 1) := by decide +kernel
theorem dX11_init_206 : decode cX11_init 206 = .ok (.bipush 8, 2) := by decide +kernel
theorem dX11_init_208 : decode cX11_init 208 = .ok (.newarray .int, 2) := by decide +kernel
theorem dX11_init_210 : decode cX11_init 210 = .ok (.putfield 67, 3) := by decide +kernel
theorem dX11_init_213 : decode cX11_init 213 = .ok (.aload_n 0, 1) := by decide +kernel
theorem dX11_init_214 : decode cX11_init 214 = .ok (.bipush 8, 2) := by decide +kernel
theorem dX11_init_216 : decode cX11_init 216 = .ok (.newarray .int, 2) := by decide +kernel
theorem dX11_init_218 : decode cX11_init 218 = .ok (.putfield 70, 3) := by decide +kernel
theorem dX11_init_221 : decode cX11_init 221 = .ok (.aload_n 0, 1) := by decide +kernel
theorem dX11_init_222 : decode cX11_init 222 = .ok (.bipush 8, 2) := by decide +kernel
theorem dX11_init_224 : decode cX11_init 224 = .ok (.newarray .int, 2) := by decide +kernel
theorem dX11_init_226 : decode cX11_init 226 = .ok (.putfield 73, 3) := by decide +kernel
theorem dX11_init_229 : decode cX11_init 229 = .ok (.aload_n 0, 1) := by decide +kernel
theorem dX11_init_230 : decode cX11_init 230 = .ok (.bipush 8, 2) := by decide +kernel
theorem dX11_init_232 : decode cX11_init 232 = .ok (.newarray .int, 2) := by decide +kernel
theorem dX11_init_234 : decode cX11_init 234 = .ok (.putfield 76, 3) := by decide +kernel
theorem dX11_init_237 : decode cX11_init 237 = .ok (.aload_n 0, 1) := by decide +kernel
theorem dX11_init_238 : decode cX11_init 238 = .ok (.iconst 4, 1) := by decide +kernel
theorem dX11_init_239 : decode cX11_init 239 = .ok (.newarray .int, 2) := by decide +kernel
theorem dX11_init_241 : decode cX11_init 241 = .ok (.putfield 79, 3) := by decide +kernel
theorem dX11_init_244 : decode cX11_init 244 = .ok (.aload_n 0, 1) := by decide +kernel
theorem dX11_init_245 : decode cX11_init 245 = .ok (.bipush 8, 2) := by decide +kernel
theorem dX11_init_247 : decode cX11_init 247 = .ok (.newarray .int, 2) := by decide +kernel
theorem dX11_init_249 : decode cX11_init 249 = .ok (.putfield 82, 3) := by decide +kernel
theorem dX11_init_252 : decode cX11_init 252 = .ok (.aload_n 0, 1) := by decide +kernel
theorem dX11_init_253 : decode cX11_init 253 = .ok (.bipush 8, 2) := by decide +kernel
theorem dX11_init_255 : decode cX11_init 255 = .ok (.newarray .int, 2) := by decide +kernel
theorem dX11_init_257 : decode cX11_init 257 = .ok (.putfield 85, 3) := by decide +kernel
theorem dX11_init_260 : decode cX11_init 260 = .ok (.aload_n 0, 1) := by decide +kernel
theorem dX11_init_261 : decode cX11_init 261 = .ok (.bipush 6, 2) := by decide +kernel
theorem dX11_init_263 : decode cX11_init 263 = .ok (.putfield 88, 3) := by decide +kernel
theorem dX11_init_266 : decode cX11_init 266 = .ok (.aload_n 0, 1) := by decide +kernel
theorem dX11_init_267 : decode cX11_init 267 = .ok (.bipush 81, 2) := by decide +kernel
theorem dX11_init_269 : decode cX11_init 269 = .ok (.newarray .int, 2) := by decide +kernel
theorem dX11_init_271 : decode cX11_init 271 = .ok (.putfield 92, 3) := by decide +kernel
theorem dX11_init_274 : decode cX11_init 274 = .ok (.aload_n 0, 1) := by decide +kernel
theorem dX11_init_275 : decode cX11_init 275 = .ok (.bipush 8, 2) := by decide +kernel
theorem dX11_init_277 : decode cX11_init 277 = .ok (.newarray .int, 2) := by decide +kernel
theorem dX11_init_279 : decode cX11_init 279 = .ok (.putfield 95, 3) := by decide +kernel
theorem dX11_init_282 : decode cX11_init 282 = .ok (.aload_n 0, 1) := by decide +kernel
theorem dX11_init_283 : decode cX11_init 283 = .ok (.bipush 8, 2) := by decide +kernel
theorem dX11_init_285 : decode cX11_init 285 = .ok (.newarray .int, 2) := by decide +kernel
theorem dX11_init_287 : decode cX11_init 287 = .ok (.putfield 98, 3) := by decide +kernel
theorem dX11_init_290 : decode cX11_init 290 = .ok (.aload_n 0, 1) := by decide +kernel
theorem dX11_init_291 : decode cX11_init 291 = .ok (.iconst 3, 1) := by decide +kernel
theorem dX11_init_292 : decode cX11_init 292 = .ok (.newarray .int, 2) := by decide +kernel
theorem dX11_init_294 : decode cX11_init 294 = .ok (.putfield 101, 3) := by decide +kernel
theorem dX11_init_297 : decode cX11_init 297 = .ok (.aload_n 0, 1) := by decide +kernel
theorem dX11_init_298 : decode cX11_init 298 = .ok (.iconst 5, 1) := by decide +kernel
theorem dX11_init_299 : decode cX11_init 299 = .ok (.newarray .int, 2) := by decide +kernel
theorem dX11_init_301 : decode cX11_init 301 = .ok (.putfield 104, 3) := by decide +kernel
theorem dX11_init_304 : decode cX11_init 304 = .ok (.aload_n 0, 1) := by decide +kernel
theorem dX11_init_305 : decode cX11_init 305 = .ok (.bipush 6, 2) := by decide +kernel
theorem dX11_init_307 : decode cX11_init 307 = .ok (.newarray .int, 2) := by decide +kernel
theorem dX11_init_309 : decode cX11_init 309 = .ok (.putfield 107, 3) := by decide +kernel
theorem dX11_init_312 : decode cX11_init 312 = .ok (.aload_n 0, 1) := by decide +kernel
theorem dX11_init_313 : decode cX11_init 313 = .ok (.bipush 6, 2) := by decide +kernel
theorem dX11_init_315 : decode cX11_init 315 = .ok (.newarray .int, 2) := by decide +kernel
theorem dX11_init_317 : decode cX11_init 317 = .ok (.putfield 110, 3) := by decide +kernel
theorem dX11_init_320 : decode cX11_init 320 = .ok (.aload_n 0, 1) := by decide +kernel
theorem dX11_init_321 : decode cX11_init 321 = .ok (.iconst 3, 1) := by decide +kernel
theorem dX11_init_322 : decode cX11_init 322 = .ok (.putfield 113, 3) := by decide +kernel
theorem dX11_init_325 : decode cX11_init 325 = .ok (.aload_n 0, 1) := by decide +kernel
theorem dX11_init_326 : decode cX11_init 326 = .ok (.bipush 8, 2) := by decide +kernel
theorem dX11_init_328 : decode cX11_init 328 = .ok (.newarray .int, 2) := by decide +kernel
theorem dX11_init_330 : decode cX11_init 330 = .ok (.putfield 116, 3) := by decide +kernel
theorem dX11_init_333 : decode cX11_init 333 = .ok (.return_, 1) := by decide +kernel
theorem dX11_fails_0 : decode cX11_fails 0 = .ok (.aload_n 0, 1) := by decide +kernel
theorem dX11_fails_1 : decode cX11_fails 1 = .ok (.iload_n 1, 1) := by decide +kernel
theorem dX11_fails_2 : decode cX11_fails 2 = .ok (.putfield 119, 3) := by decide +kernel
theorem dX11_fails_5 : decode cX11_fails 5 = .ok (.bipush (-10), 2) := by decide +kernel
theorem dX11_fails_7 : decode cX11_fails 7 = .ok (.iload_n 1, 1) := by decide +kernel
theorem dX11_fails_8 : decode cX11_fails 8 = .ok (.isub, 1) := by decide +kernel
theorem dX11_fails_9 : decode cX11_fails 9 = .ok (.ireturn, 1) := by decide +kernel
theorem dX11_lost_0 : decode cX11_lost 0 = .ok (.aload_n 0, 1) := by decide +kernel
theorem dX11_lost_1 : decode cX11_lost 1 = .ok (.iload_n 1, 1) := by decide +kernel
theorem dX11_lost_2 : decode cX11_lost 2 = .ok (.putfield 119, 3) := by decide +kernel
theorem dX11_lost_5 : decode cX11_lost 5 = .ok (.ldc2_w 122, 3) := by decide +kernel
theorem dX11_lost_8 : decode cX11_lost 8 = .ok (.lreturn, 1) := by decide +kernel
theorem dX11_within_0 : decode cX11_within 0 = .ok (.iload_n 0, 1) := by decide +kernel
theorem dX11_within_1 : decode cX11_within 1 = .ok (.iload_n 1, 1) := by decide +kernel
theorem dX11_within_2 : decode cX11_within 2 = .ok (.if_icmp .lt 12, 3) := by decide +kernel
theorem dX11_within_5 : decode cX11_within 5 = .ok (.iload_n 0, 1) := by decide +kernel
theorem dX11_within_6 : decode cX11_within 6 = .ok (.iload_n 2, 1) := by decide +kernel
theorem dX11_within_7 : decode cX11_within 7 = .ok (.if_icmp .gt 7, 3) := by decide +kernel
theorem dX11_within_10 : decode cX11_within 10 = .ok (.iconst 1, 1) := by decide +kernel
theorem dX11_within_11 : decode cX11_within 11 = .ok (.goto 4, 3) := by decide +kernel
theorem dX11_within_14 : decode cX11_within 14 = .ok (.iconst 0, 1) := by decide +kernel
theorem dX11_within_15 : decode cX11_within 15 = .ok (.ireturn, 1) := by decide +kernel
theorem dX11_has_0 : decode cX11_has 0 = .ok (.iload_n 0, 1) := by decide +kernel
theorem dX11_has_1 : decode cX11_has 1 = .ok (.iload_n 1, 1) := by decide +kernel
theorem dX11_has_2 : decode cX11_has 2 = .ok (.ishr, 1) := by decide +kernel
theorem dX11_has_3 : decode cX11_has 3 = .ok (.iconst 1, 1) := by decide +kernel
theorem dX11_has_4 : decode cX11_has 4 = .ok (.iand, 1) := by decide +kernel
theorem dX11_has_5 : decode cX11_has 5 = .ok (.iconst 1, 1) := by decide +kernel
theorem dX11_has_6 : decode cX11_has 6 = .ok (.if_icmp .ne 7, 3) := by decide +kernel
theorem dX11_has_9 : decode cX11_has 9 = .ok (.iconst 1, 1) := by decide +kernel
theorem dX11_has_10 : decode cX11_has 10 = .ok (.goto 4, 3) := by decide +kernel
theorem dX11_has_13 : decode cX11_has 13 = .ok (.iconst 0, 1) := by decide +kernel
theorem dX11_has_14 : decode cX11_has 14 = .ok (.ireturn, 1) := by decide +kernel
theorem dX11_isSheet_0 : decode cX11_isSheet 0 = .ok (.iload_n 0, 1) := by decide +kernel
theorem dX11_isSheet_1 : decode cX11_isSheet 1 = .ok (.iconst 0, 1) := by decide +kernel
theorem dX11_isSheet_2 : decode cX11_isSheet 2 = .ok (.iconst 3, 1) := by decide +kernel
theorem dX11_isSheet_3 : decode cX11_isSheet 3 = .ok (.invokestatic 124, 3) := by decide +kernel
theorem dX11_isSheet_6 : decode cX11_isSheet 6 = .ok (.ireturn, 1) := by decide +kernel
theorem dX11_isLane_0 : decode cX11_isLane 0 = .ok (.iload_n 0, 1) := by decide +kernel
theorem dX11_isLane_1 : decode cX11_isLane 1 = .ok (.iconst 0, 1) := by decide +kernel
theorem dX11_isLane_2 : decode cX11_isLane 2 = .ok (.iconst 2, 1) := by decide +kernel
theorem dX11_isLane_3 : decode cX11_isLane 3 = .ok (.invokestatic 124, 3) := by decide +kernel
theorem dX11_isLane_6 : decode cX11_isLane 6 = .ok (.ireturn, 1) := by decide +kernel
theorem dX11_against_0 : decode cX11_against 0 = .ok (.aload_n 0, 1) := by decide +kernel
theorem dX11_against_1 : decode cX11_against 1 = .ok (.getfield 9, 3) := by decide +kernel
theorem dX11_against_4 : decode cX11_against 4 = .ok (.iload_n 1, 1) := by decide +kernel
theorem dX11_against_5 : decode cX11_against 5 = .ok (.iaload, 1) := by decide +kernel
theorem dX11_against_6 : decode cX11_against 6 = .ok (.bipush (-9), 2) := by decide +kernel
theorem dX11_against_8 : decode cX11_against 8 = .ok (.if_icmp .eq 15, 3) := by decide +kernel
theorem dX11_against_11 : decode cX11_against 11 = .ok (.aload_n 0, 1) := by decide +kernel
theorem dX11_against_12 : decode cX11_against 12 = .ok (.getfield 9, 3) := by decide +kernel
theorem dX11_against_15 : decode cX11_against 15 = .ok (.iload_n 1, 1) := by decide +kernel
theorem dX11_against_16 : decode cX11_against 16 = .ok (.iaload, 1) := by decide +kernel
theorem dX11_against_17 : decode cX11_against 17 = .ok (.iload_n 2, 1) := by decide +kernel
theorem dX11_against_18 : decode cX11_against 18 = .ok (.if_icmp .eq 5, 3) := by decide +kernel
theorem dX11_against_21 : decode cX11_against 21 = .ok (.iconst 2, 1) := by decide +kernel
theorem dX11_against_22 : decode cX11_against 22 = .ok (.ireturn, 1) := by decide +kernel
theorem dX11_against_23 : decode cX11_against 23 = .ok (.aload_n 0, 1) := by decide +kernel
theorem dX11_against_24 : decode cX11_against 24 = .ok (.getfield 9, 3) := by decide +kernel
theorem dX11_against_27 : decode cX11_against 27 = .ok (.iload_n 1, 1) := by decide +kernel
theorem dX11_against_28 : decode cX11_against 28 = .ok (.iaload, 1) := by decide +kernel
theorem dX11_against_29 : decode cX11_against 29 = .ok (.bipush (-9), 2) := by decide +kernel
theorem dX11_against_31 : decode cX11_against 31 = .ok (.if_icmp .ne 5, 3) := by decide +kernel
theorem dX11_against_34 : decode cX11_against 34 = .ok (.iconst 1, 1) := by decide +kernel
theorem dX11_against_35 : decode cX11_against 35 = .ok (.ireturn, 1) := by decide +kernel
theorem dX11_against_36 : decode cX11_against 36 = .ok (.iload 4, 2) := by decide +kernel
theorem dX11_against_38 : decode cX11_against 38 = .ok (.ifCond .ge 5, 3) := by decide +kernel
theorem dX11_against_41 : decode cX11_against 41 = .ok (.iconst 4, 1) := by decide +kernel
theorem dX11_against_42 : decode cX11_against 42 = .ok (.ireturn, 1) := by decide +kernel
theorem dX11_against_43 : decode cX11_against 43 = .ok (.iload_n 3, 1) := by decide +kernel
theorem dX11_against_44 : decode cX11_against 44 = .ok (.ifCond .lt 26, 3) := by decide +kernel
theorem dX11_against_47 : decode cX11_against 47 = .ok (.iload_n 3, 1) := by decide +kernel
theorem dX11_against_48 : decode cX11_against 48 = .ok (.aload_n 0, 1) := by decide +kernel
theorem dX11_against_49 : decode cX11_against 49 = .ok (.getfield 13, 3) := by decide +kernel
theorem dX11_against_52 : decode cX11_against 52 = .ok (.iload_n 1, 1) := by decide +kernel
theorem dX11_against_53 : decode cX11_against 53 = .ok (.iaload, 1) := by decide +kernel
theorem dX11_against_54 : decode cX11_against 54 = .ok (.if_icmp .gt 16, 3) := by decide +kernel
theorem dX11_against_57 : decode cX11_against 57 = .ok (.iload 4, 2) := by decide +kernel
theorem dX11_against_59 : decode cX11_against 59 = .ok (.aload_n 0, 1) := by decide +kernel
theorem dX11_against_60 : decode cX11_against 60 = .ok (.getfield 13, 3) := by decide +kernel
theorem dX11_against_63 : decode cX11_against 63 = .ok (.iload_n 1, 1) := by decide +kernel
theorem dX11_against_64 : decode cX11_against 64 = .ok (.iaload, 1) := by decide +kernel
theorem dX11_against_65 : decode cX11_against 65 = .ok (.iload_n 3, 1) := by decide +kernel
theorem dX11_against_66 : decode cX11_against 66 = .ok (.isub, 1) := by decide +kernel
theorem dX11_against_67 : decode cX11_against 67 = .ok (.if_icmp .le 5, 3) := by decide +kernel
theorem dX11_against_70 : decode cX11_against 70 = .ok (.iconst 3, 1) := by decide +kernel
theorem dX11_against_71 : decode cX11_against 71 = .ok (.ireturn, 1) := by decide +kernel
theorem dX11_against_72 : decode cX11_against 72 = .ok (.iconst 0, 1) := by decide +kernel
theorem dX11_against_73 : decode cX11_against 73 = .ok (.ireturn, 1) := by decide +kernel
theorem dX11_areCells_0 : decode cX11_areCells 0 = .ok (.iconst 0, 1) := by decide +kernel
theorem dX11_areCells_1 : decode cX11_areCells 1 = .ok (.istore 5, 2) := by decide +kernel
theorem dX11_areCells_3 : decode cX11_areCells 3 = .ok (.iload 5, 2) := by decide +kernel
theorem dX11_areCells_5 : decode cX11_areCells 5 = .ok (.iload_n 2, 1) := by decide +kernel
theorem dX11_areCells_6 : decode cX11_areCells 6 = .ok (.if_icmp .ge 29, 3) := by decide +kernel
theorem dX11_areCells_9 : decode cX11_areCells 9 = .ok (.aload_n 0, 1) := by decide +kernel
theorem dX11_areCells_10 : decode cX11_areCells 10 = .ok (.getfield 16, 3) := by decide +kernel
theorem dX11_areCells_13 : decode cX11_areCells 13 = .ok (.iload_n 1, 1) := by decide +kernel
theorem dX11_areCells_14 : decode cX11_areCells 14 = .ok (.iload 5, 2) := by decide +kernel
theorem dX11_areCells_16 : decode cX11_areCells 16 = .ok (.iadd, 1) := by decide +kernel
theorem dX11_areCells_17 : decode cX11_areCells 17 = .ok (.iaload, 1) := by decide +kernel
theorem dX11_areCells_18 : decode cX11_areCells 18 = .ok (.iload_n 3, 1) := by decide +kernel
theorem dX11_areCells_19 : decode cX11_areCells 19 = .ok (.iload 4, 2) := by decide +kernel
theorem dX11_areCells_21 : decode cX11_areCells 21 = .ok (.invokestatic 124, 3) := by decide +kernel
theorem dX11_areCells_24 : decode cX11_areCells 24 = .ok (.ifCond .ne 5, 3) := by decide +kernel
theorem dX11_areCells_27 : decode cX11_areCells 27 = .ok (.iconst 0, 1) := by decide +kernel
theorem dX11_areCells_28 : decode cX11_areCells 28 = .ok (.ireturn, 1) := by decide +kernel
theorem dX11_areCells_29 : decode cX11_areCells 29 = .ok (.iinc 5 1, 3) := by decide +kernel
theorem dX11_areCells_32 : decode cX11_areCells 32 = .ok (.goto (-29), 3) := by decide +kernel
theorem dX11_areCells_35 : decode cX11_areCells 35 = .ok (.iconst 1, 1) := by decide +kernel
theorem dX11_areCells_36 : decode cX11_areCells 36 = .ok (.ireturn, 1) := by decide +kernel
theorem dX11_isSound_0 : decode cX11_isSound 0 = .ok (.iload_n 0, 1) := by decide +kernel
theorem dX11_isSound_1 : decode cX11_isSound 1 = .ok (.iconst 0, 1) := by decide +kernel
theorem dX11_isSound_2 : decode cX11_isSound 2 = .ok (.bipush 15, 2) := by decide +kernel
theorem dX11_isSound_4 : decode cX11_isSound 4 = .ok (.invokestatic 124, 3) := by decide +kernel
theorem dX11_isSound_7 : decode cX11_isSound 7 = .ok (.ireturn, 1) := by decide +kernel
theorem dX11_sound_0 : decode cX11_sound 0 = .ok (.iload_n 1, 1) := by decide +kernel
theorem dX11_sound_1 : decode cX11_sound 1 = .ok (.invokestatic 128, 3) := by decide +kernel
theorem dX11_sound_4 : decode cX11_sound 4 = .ok (.ifCond .ne 5, 3) := by decide +kernel
theorem dX11_sound_7 : decode cX11_sound 7 = .ok (.iconst (-1), 1) := by decide +kernel
theorem dX11_sound_8 : decode cX11_sound 8 = .ok (.ireturn, 1) := by decide +kernel
theorem dX11_sound_9 : decode cX11_sound 9 = .ok (.iload_n 2, 1) := by decide +kernel
theorem dX11_sound_10 : decode cX11_sound 10 = .ok (.iconst 0, 1) := by decide +kernel
theorem dX11_sound_11 : decode cX11_sound 11 = .ok (.bipush 63, 2) := by decide +kernel
theorem dX11_sound_13 : decode cX11_sound 13 = .ok (.invokestatic 124, 3) := by decide +kernel
theorem dX11_sound_16 : decode cX11_sound 16 = .ok (.ifCond .eq 19, 3) := by decide +kernel
theorem dX11_sound_19 : decode cX11_sound 19 = .ok (.iload_n 3, 1) := by decide +kernel
theorem dX11_sound_20 : decode cX11_sound 20 = .ok (.iconst 0, 1) := by decide +kernel
theorem dX11_sound_21 : decode cX11_sound 21 = .ok (.bipush 63, 2) := by decide +kernel
theorem dX11_sound_23 : decode cX11_sound 23 = .ok (.invokestatic 124, 3) := by decide +kernel
theorem dX11_sound_26 : decode cX11_sound 26 = .ok (.ifCond .eq 9, 3) := by decide +kernel
theorem dX11_sound_29 : decode cX11_sound 29 = .ok (.iload_n 2, 1) := by decide +kernel
theorem dX11_sound_30 : decode cX11_sound 30 = .ok (.iload_n 3, 1) := by decide +kernel
theorem dX11_sound_31 : decode cX11_sound 31 = .ok (.iand, 1) := by decide +kernel
theorem dX11_sound_32 : decode cX11_sound 32 = .ok (.ifCond .eq 6, 3) := by decide +kernel
theorem dX11_sound_35 : decode cX11_sound 35 = .ok (.bipush (-2), 2) := by decide +kernel
theorem dX11_sound_37 : decode cX11_sound 37 = .ok (.ireturn, 1) := by decide +kernel
theorem dX11_sound_38 : decode cX11_sound 38 = .ok (.aload_n 0, 1) := by decide +kernel
theorem dX11_sound_39 : decode cX11_sound 39 = .ok (.getfield 19, 3) := by decide +kernel
theorem dX11_sound_42 : decode cX11_sound 42 = .ok (.iload_n 1, 1) := by decide +kernel
theorem dX11_sound_43 : decode cX11_sound 43 = .ok (.iaload, 1) := by decide +kernel
theorem dX11_sound_44 : decode cX11_sound 44 = .ok (.iload_n 2, 1) := by decide +kernel
theorem dX11_sound_45 : decode cX11_sound 45 = .ok (.if_icmp .ne 17, 3) := by decide +kernel
theorem dX11_sound_48 : decode cX11_sound 48 = .ok (.aload_n 0, 1) := by decide +kernel
theorem dX11_sound_49 : decode cX11_sound 49 = .ok (.getfield 22, 3) := by decide +kernel
theorem dX11_sound_52 : decode cX11_sound 52 = .ok (.iload_n 1, 1) := by decide +kernel
theorem dX11_sound_53 : decode cX11_sound 53 = .ok (.iaload, 1) := by decide +kernel
theorem dX11_sound_54 : decode cX11_sound 54 = .ok (.iload_n 3, 1) := by decide +kernel
theorem dX11_sound_55 : decode cX11_sound 55 = .ok (.if_icmp .ne 7, 3) := by decide +kernel
theorem dX11_sound_58 : decode cX11_sound 58 = .ok (.iconst 0, 1) := by decide +kernel
theorem dX11_sound_59 : decode cX11_sound 59 = .ok (.goto 4, 3) := by decide +kernel
theorem dX11_sound_62 : decode cX11_sound 62 = .ok (.iconst 1, 1) := by decide +kernel
theorem dX11_sound_63 : decode cX11_sound 63 = .ok (.istore 4, 2) := by decide +kernel
theorem dX11_sound_65 : decode cX11_sound 65 = .ok (.aload_n 0, 1) := by decide +kernel
theorem dX11_sound_66 : decode cX11_sound 66 = .ok (.getfield 19, 3) := by decide +kernel
theorem dX11_sound_69 : decode cX11_sound 69 = .ok (.iload_n 1, 1) := by decide +kernel
theorem dX11_sound_70 : decode cX11_sound 70 = .ok (.iload_n 2, 1) := by decide +kernel
theorem dX11_sound_71 : decode cX11_sound 71 = .ok (.iastore, 1) := by decide +kernel
theorem dX11_sound_72 : decode cX11_sound 72 = .ok (.aload_n 0, 1) := by decide +kernel
theorem dX11_sound_73 : decode cX11_sound 73 = .ok (.getfield 22, 3) := by decide +kernel
theorem dX11_sound_76 : decode cX11_sound 76 = .ok (.iload_n 1, 1) := by decide +kernel
theorem dX11_sound_77 : decode cX11_sound 77 = .ok (.iload_n 3, 1) := by decide +kernel
theorem dX11_sound_78 : decode cX11_sound 78 = .ok (.iastore, 1) := by decide +kernel
theorem dX11_sound_79 : decode cX11_sound 79 = .ok (.iload 4, 2) := by decide +kernel
theorem dX11_sound_81 : decode cX11_sound 81 = .ok (.ireturn, 1) := by decide +kernel
theorem dX11_feature_0 : decode cX11_feature 0 = .ok (.iload_n 1, 1) := by decide +kernel
theorem dX11_feature_1 : decode cX11_feature 1 = .ok (.invokestatic 128, 3) := by decide +kernel
theorem dX11_feature_4 : decode cX11_feature 4 = .ok (.ifCond .ne 5, 3) := by decide +kernel
theorem dX11_feature_7 : decode cX11_feature 7 = .ok (.iconst (-1), 1) := by decide +kernel
theorem dX11_feature_8 : decode cX11_feature 8 = .ok (.ireturn, 1) := by decide +kernel
theorem dX11_feature_9 : decode cX11_feature 9 = .ok (.iload_n 2, 1) := by decide +kernel
theorem dX11_feature_10 : decode cX11_feature 10 = .ok (.iconst 0, 1) := by decide +kernel
theorem dX11_feature_11 : decode cX11_feature 11 = .ok (.iconst 5, 1) := by decide +kernel
theorem dX11_feature_12 : decode cX11_feature 12 = .ok (.invokestatic 124, 3) := by decide +kernel
theorem dX11_feature_15 : decode cX11_feature 15 = .ok (.ifCond .ne 6, 3) := by decide +kernel
theorem dX11_feature_18 : decode cX11_feature 18 = .ok (.bipush (-2), 2) := by decide +kernel
theorem dX11_feature_20 : decode cX11_feature 20 = .ok (.ireturn, 1) := by decide +kernel
theorem dX11_feature_21 : decode cX11_feature 21 = .ok (.aload_n 0, 1) := by decide +kernel
theorem dX11_feature_22 : decode cX11_feature 22 = .ok (.getfield 19, 3) := by decide +kernel
theorem dX11_feature_25 : decode cX11_feature 25 = .ok (.iload_n 1, 1) := by decide +kernel
theorem dX11_feature_26 : decode cX11_feature 26 = .ok (.iaload, 1) := by decide +kernel
theorem dX11_feature_27 : decode cX11_feature 27 = .ok (.iload_n 2, 1) := by decide +kernel
theorem dX11_feature_28 : decode cX11_feature 28 = .ok (.invokestatic 132, 3) := by decide +kernel
theorem dX11_feature_31 : decode cX11_feature 31 = .ok (.ifCond .eq 7, 3) := by decide +kernel
theorem dX11_feature_34 : decode cX11_feature 34 = .ok (.iconst 1, 1) := by decide +kernel
theorem dX11_feature_35 : decode cX11_feature 35 = .ok (.goto 22, 3) := by decide +kernel
theorem dX11_feature_38 : decode cX11_feature 38 = .ok (.aload_n 0, 1) := by decide +kernel
theorem dX11_feature_39 : decode cX11_feature 39 = .ok (.getfield 22, 3) := by decide +kernel
theorem dX11_feature_42 : decode cX11_feature 42 = .ok (.iload_n 1, 1) := by decide +kernel
theorem dX11_feature_43 : decode cX11_feature 43 = .ok (.iaload, 1) := by decide +kernel
theorem dX11_feature_44 : decode cX11_feature 44 = .ok (.iload_n 2, 1) := by decide +kernel
theorem dX11_feature_45 : decode cX11_feature 45 = .ok (.invokestatic 132, 3) := by decide +kernel
theorem dX11_feature_48 : decode cX11_feature 48 = .ok (.ifCond .eq 7, 3) := by decide +kernel
theorem dX11_feature_51 : decode cX11_feature 51 = .ok (.iconst 0, 1) := by decide +kernel
theorem dX11_feature_52 : decode cX11_feature 52 = .ok (.goto 5, 3) := by decide +kernel
theorem dX11_feature_55 : decode cX11_feature 55 = .ok (.bipush (-9), 2) := by decide +kernel
theorem dX11_feature_57 : decode cX11_feature 57 = .ok (.ireturn, 1) := by decide +kernel
theorem dX11_differOf_0 : decode cX11_differOf 0 = .ok (.iconst 0, 1) := by decide +kernel
theorem dX11_differOf_1 : decode cX11_differOf 1 = .ok (.istore_n 3, 1) := by decide +kernel
theorem dX11_differOf_2 : decode cX11_differOf 2 = .ok (.iconst 0, 1) := by decide +kernel
theorem dX11_differOf_3 : decode cX11_differOf 3 = .ok (.istore 4, 2) := by decide +kernel
theorem dX11_differOf_5 : decode cX11_differOf 5 = .ok (.iload 4, 2) := by decide +kernel
theorem dX11_differOf_7 : decode cX11_differOf 7 = .ok (.bipush 6, 2) := by decide +kernel
theorem dX11_differOf_9 : decode cX11_differOf 9 = .ok (.if_icmp .ge 108, 3) := by decide +kernel
theorem dX11_differOf_12 : decode cX11_differOf 12 = .ok (.aload_n 0, 1) := by decide +kernel
theorem dX11_differOf_13 : decode cX11_differOf 13 = .ok (.getfield 19, 3) := by decide +kernel
theorem dX11_differOf_16 : decode cX11_differOf 16 = .ok (.iload_n 1, 1) := by decide +kernel
theorem dX11_differOf_17 : decode cX11_differOf 17 = .ok (.iaload, 1) := by decide +kernel
theorem dX11_differOf_18 : decode cX11_differOf 18 = .ok (.aload_n 0, 1) := by decide +kernel
theorem dX11_differOf_19 : decode cX11_differOf 19 = .ok (.getfield 22, 3) := by decide +kernel
theorem dX11_differOf_22 : decode cX11_differOf 22 = .ok (.iload_n 1, 1) := by decide +kernel
theorem dX11_differOf_23 : decode cX11_differOf 23 = .ok (.iaload, 1) := by decide +kernel
theorem dX11_differOf_24 : decode cX11_differOf 24 = .ok (.ior, 1) := by decide +kernel
theorem dX11_differOf_25 : decode cX11_differOf 25 = .ok (.iload 4, 2) := by decide +kernel
theorem dX11_differOf_27 : decode cX11_differOf 27 = .ok (.invokestatic 132, 3) := by decide +kernel
theorem dX11_differOf_30 : decode cX11_differOf 30 = .ok (.istore 5, 2) := by decide +kernel
theorem dX11_differOf_32 : decode cX11_differOf 32 = .ok (.aload_n 0, 1) := by decide +kernel
theorem dX11_differOf_33 : decode cX11_differOf 33 = .ok (.getfield 19, 3) := by decide +kernel
theorem dX11_differOf_36 : decode cX11_differOf 36 = .ok (.iload_n 2, 1) := by decide +kernel
theorem dX11_differOf_37 : decode cX11_differOf 37 = .ok (.iaload, 1) := by decide +kernel
theorem dX11_differOf_38 : decode cX11_differOf 38 = .ok (.aload_n 0, 1) := by decide +kernel
theorem dX11_differOf_39 : decode cX11_differOf 39 = .ok (.getfield 22, 3) := by decide +kernel
theorem dX11_differOf_42 : decode cX11_differOf 42 = .ok (.iload_n 2, 1) := by decide +kernel
theorem dX11_differOf_43 : decode cX11_differOf 43 = .ok (.iaload, 1) := by decide +kernel
theorem dX11_differOf_44 : decode cX11_differOf 44 = .ok (.ior, 1) := by decide +kernel
theorem dX11_differOf_45 : decode cX11_differOf 45 = .ok (.iload 4, 2) := by decide +kernel
theorem dX11_differOf_47 : decode cX11_differOf 47 = .ok (.invokestatic 132, 3) := by decide +kernel
theorem dX11_differOf_50 : decode cX11_differOf 50 = .ok (.istore 6, 2) := by decide +kernel
theorem dX11_differOf_52 : decode cX11_differOf 52 = .ok (.iload 5, 2) := by decide +kernel
theorem dX11_differOf_54 : decode cX11_differOf 54 = .ok (.ifCond .eq 44, 3) := by decide +kernel
theorem dX11_differOf_57 : decode cX11_differOf 57 = .ok (.iload 6, 2) := by decide +kernel
theorem dX11_differOf_59 : decode cX11_differOf 59 = .ok (.ifCond .eq 39, 3) := by decide +kernel
theorem dX11_differOf_62 : decode cX11_differOf 62 = .ok (.iload_n 3, 1) := by decide +kernel
theorem dX11_differOf_63 : decode cX11_differOf 63 = .ok (.aload_n 0, 1) := by decide +kernel
theorem dX11_differOf_64 : decode cX11_differOf 64 = .ok (.getfield 19, 3) := by decide +kernel
theorem dX11_differOf_67 : decode cX11_differOf 67 = .ok (.iload_n 1, 1) := by decide +kernel
theorem dX11_differOf_68 : decode cX11_differOf 68 = .ok (.iaload, 1) := by decide +kernel
theorem dX11_differOf_69 : decode cX11_differOf 69 = .ok (.iload 4, 2) := by decide +kernel
theorem dX11_differOf_71 : decode cX11_differOf 71 = .ok (.invokestatic 132, 3) := by decide +kernel
theorem dX11_differOf_74 : decode cX11_differOf 74 = .ok (.aload_n 0, 1) := by decide +kernel
theorem dX11_differOf_75 : decode cX11_differOf 75 = .ok (.getfield 19, 3) := by decide +kernel
theorem dX11_differOf_78 : decode cX11_differOf 78 = .ok (.iload_n 2, 1) := by decide +kernel
theorem dX11_differOf_79 : decode cX11_differOf 79 = .ok (.iaload, 1) := by decide +kernel
theorem dX11_differOf_80 : decode cX11_differOf 80 = .ok (.iload 4, 2) := by decide +kernel
theorem dX11_differOf_82 : decode cX11_differOf 82 = .ok (.invokestatic 132, 3) := by decide +kernel
theorem dX11_differOf_85 : decode cX11_differOf 85 = .ok (.if_icmp .ne 7, 3) := by decide +kernel
theorem dX11_differOf_88 : decode cX11_differOf 88 = .ok (.iconst 0, 1) := by decide +kernel
theorem dX11_differOf_89 : decode cX11_differOf 89 = .ok (.goto 4, 3) := by decide +kernel
theorem dX11_differOf_92 : decode cX11_differOf 92 = .ok (.iconst 2, 1) := by decide +kernel
theorem dX11_differOf_93 : decode cX11_differOf 93 = .ok (.iadd, 1) := by decide +kernel
theorem dX11_differOf_94 : decode cX11_differOf 94 = .ok (.istore_n 3, 1) := by decide +kernel
theorem dX11_differOf_95 : decode cX11_differOf 95 = .ok (.goto 16, 3) := by decide +kernel
theorem dX11_differOf_98 : decode cX11_differOf 98 = .ok (.iload 5, 2) := by decide +kernel
theorem dX11_differOf_100 : decode cX11_differOf 100 = .ok (.ifCond .ne 8, 3) := by decide +kernel
theorem dX11_differOf_103 : decode cX11_differOf 103 = .ok (.iload 6, 2) := by decide +kernel
theorem dX11_differOf_105 : decode cX11_differOf 105 = .ok (.ifCond .eq 6, 3) := by decide +kernel
theorem dX11_differOf_108 : decode cX11_differOf 108 = .ok (.iinc 3 1, 3) := by decide +kernel
theorem dX11_differOf_111 : decode cX11_differOf 111 = .ok (.iinc 4 1, 3) := by decide +kernel
theorem dX11_differOf_114 : decode cX11_differOf 114 = .ok (.goto (-109), 3) := by decide +kernel
theorem dX11_differOf_117 : decode cX11_differOf 117 = .ok (.iload_n 3, 1) := by decide +kernel
theorem dX11_differOf_118 : decode cX11_differOf 118 = .ok (.ireturn, 1) := by decide +kernel
theorem dX11_differ_0 : decode cX11_differ 0 = .ok (.iload_n 1, 1) := by decide +kernel
theorem dX11_differ_1 : decode cX11_differ 1 = .ok (.invokestatic 128, 3) := by decide +kernel
theorem dX11_differ_4 : decode cX11_differ 4 = .ok (.ifCond .eq 19, 3) := by decide +kernel
theorem dX11_differ_7 : decode cX11_differ 7 = .ok (.iload_n 2, 1) := by decide +kernel
theorem dX11_differ_8 : decode cX11_differ 8 = .ok (.invokestatic 128, 3) := by decide +kernel
theorem dX11_differ_11 : decode cX11_differ 11 = .ok (.ifCond .eq 12, 3) := by decide +kernel
theorem dX11_differ_14 : decode cX11_differ 14 = .ok (.aload_n 0, 1) := by decide +kernel
theorem dX11_differ_15 : decode cX11_differ 15 = .ok (.iload_n 1, 1) := by decide +kernel
theorem dX11_differ_16 : decode cX11_differ 16 = .ok (.iload_n 2, 1) := by decide +kernel
theorem dX11_differ_17 : decode cX11_differ 17 = .ok (.invokevirtual 136, 3) := by decide +kernel
theorem dX11_differ_20 : decode cX11_differ 20 = .ok (.goto 4, 3) := by decide +kernel
theorem dX11_differ_23 : decode cX11_differ 23 = .ok (.iconst (-1), 1) := by decide +kernel
theorem dX11_differ_24 : decode cX11_differ 24 = .ok (.ireturn, 1) := by decide +kernel
theorem dX11_isCollector_0 : decode cX11_isCollector 0 = .ok (.iload_n 0, 1) := by decide +kernel
theorem dX11_isCollector_1 : decode cX11_isCollector 1 = .ok (.iconst 0, 1) := by decide +kernel
theorem dX11_isCollector_2 : decode cX11_isCollector 2 = .ok (.iconst 2, 1) := by decide +kernel
theorem dX11_isCollector_3 : decode cX11_isCollector 3 = .ok (.invokestatic 124, 3) := by decide +kernel
theorem dX11_isCollector_6 : decode cX11_isCollector 6 = .ok (.ireturn, 1) := by decide +kernel
theorem dX11_entry_0 : decode cX11_entry 0 = .ok (.aload_n 0, 1) := by decide +kernel
theorem dX11_entry_1 : decode cX11_entry 1 = .ok (.iconst 0, 1) := by decide +kernel
theorem dX11_entry_2 : decode cX11_entry 2 = .ok (.putfield 119, 3) := by decide +kernel
theorem dX11_entry_5 : decode cX11_entry 5 = .ok (.iload_n 1, 1) := by decide +kernel
theorem dX11_entry_6 : decode cX11_entry 6 = .ok (.invokestatic 140, 3) := by decide +kernel
theorem dX11_entry_9 : decode cX11_entry 9 = .ok (.ifCond .eq 17, 3) := by decide +kernel
theorem dX11_entry_12 : decode cX11_entry 12 = .ok (.iload_n 2, 1) := by decide +kernel
theorem dX11_entry_13 : decode cX11_entry 13 = .ok (.invokestatic 128, 3) := by decide +kernel
theorem dX11_entry_16 : decode cX11_entry 16 = .ok (.ifCond .eq 10, 3) := by decide +kernel
theorem dX11_entry_19 : decode cX11_entry 19 = .ok (.iload_n 3, 1) := by decide +kernel
theorem dX11_entry_20 : decode cX11_entry 20 = .ok (.invokestatic 143, 3) := by decide +kernel
theorem dX11_entry_23 : decode cX11_entry 23 = .ok (.ifCond .ne 5, 3) := by decide +kernel
theorem dX11_entry_26 : decode cX11_entry 26 = .ok (.iconst (-1), 1) := by decide +kernel
theorem dX11_entry_27 : decode cX11_entry 27 = .ok (.ireturn, 1) := by decide +kernel
theorem dX11_entry_28 : decode cX11_entry 28 = .ok (.iload 4, 2) := by decide +kernel
theorem dX11_entry_30 : decode cX11_entry 30 = .ok (.invokestatic 146, 3) := by decide +kernel
theorem dX11_entry_33 : decode cX11_entry 33 = .ok (.ifCond .ne 6, 3) := by decide +kernel
theorem dX11_entry_36 : decode cX11_entry 36 = .ok (.bipush (-2), 2) := by decide +kernel
theorem dX11_entry_38 : decode cX11_entry 38 = .ok (.ireturn, 1) := by decide +kernel
theorem dX11_entry_39 : decode cX11_entry 39 = .ok (.aload_n 0, 1) := by decide +kernel
theorem dX11_entry_40 : decode cX11_entry 40 = .ok (.iload_n 3, 1) := by decide +kernel
theorem dX11_entry_41 : decode cX11_entry 41 = .ok (.iload 4, 2) := by decide +kernel
theorem dX11_entry_43 : decode cX11_entry 43 = .ok (.iload 5, 2) := by decide +kernel
theorem dX11_entry_45 : decode cX11_entry 45 = .ok (.iload 6, 2) := by decide +kernel
theorem dX11_entry_47 : decode cX11_entry 47 = .ok (.invokevirtual 149, 3) := by decide +kernel
theorem dX11_entry_50 : decode cX11_entry 50 = .ok (.istore 7, 2) := by decide +kernel
theorem dX11_entry_52 : decode cX11_entry 52 = .ok (.iload 7, 2) := by decide +kernel
theorem dX11_entry_54 : decode cX11_entry 54 = .ok (.ifCond .eq 10, 3) := by decide +kernel
theorem dX11_entry_57 : decode cX11_entry 57 = .ok (.aload_n 0, 1) := by decide +kernel
theorem dX11_entry_58 : decode cX11_entry 58 = .ok (.iload 7, 2) := by decide +kernel
theorem dX11_entry_60 : decode cX11_entry 60 = .ok (.invokevirtual 153, 3) := by decide +kernel
theorem dX11_entry_63 : decode cX11_entry 63 = .ok (.ireturn, 1) := by decide +kernel
theorem dX11_entry_64 : decode cX11_entry 64 = .ok (.bipush 60, 2) := by decide +kernel
theorem dX11_entry_66 : decode cX11_entry 66 = .ok (.iload_n 3, 1) := by decide +kernel
theorem dX11_entry_67 : decode cX11_entry 67 = .ok (.imul, 1) := by decide +kernel
theorem dX11_entry_68 : decode cX11_entry 68 = .ok (.iload 5, 2) := by decide +kernel
theorem dX11_entry_70 : decode cX11_entry 70 = .ok (.iadd, 1) := by decide +kernel
theorem dX11_entry_71 : decode cX11_entry 71 = .ok (.istore 8, 2) := by decide +kernel
theorem dX11_entry_73 : decode cX11_entry 73 = .ok (.iload 6, 2) := by decide +kernel
theorem dX11_entry_75 : decode cX11_entry 75 = .ok (.iconst 1, 1) := by decide +kernel
theorem dX11_entry_76 : decode cX11_entry 76 = .ok (.iconst 3, 1) := by decide +kernel
theorem dX11_entry_77 : decode cX11_entry 77 = .ok (.invokestatic 124, 3) := by decide +kernel
theorem dX11_entry_80 : decode cX11_entry 80 = .ok (.ifCond .eq 17, 3) := by decide +kernel
theorem dX11_entry_83 : decode cX11_entry 83 = .ok (.aload_n 0, 1) := by decide +kernel
theorem dX11_entry_84 : decode cX11_entry 84 = .ok (.iload 8, 2) := by decide +kernel
theorem dX11_entry_86 : decode cX11_entry 86 = .ok (.iload 6, 2) := by decide +kernel
theorem dX11_entry_88 : decode cX11_entry 88 = .ok (.iconst 0, 1) := by decide +kernel
theorem dX11_entry_89 : decode cX11_entry 89 = .ok (.bipush 127, 2) := by decide +kernel
theorem dX11_entry_91 : decode cX11_entry 91 = .ok (.invokevirtual 157, 3) := by decide +kernel
theorem dX11_entry_94 : decode cX11_entry 94 = .ok (.ifCond .ne 6, 3) := by decide +kernel
theorem dX11_entry_97 : decode cX11_entry 97 = .ok (.bipush (-2), 2) := by decide +kernel
theorem dX11_entry_99 : decode cX11_entry 99 = .ok (.ireturn, 1) := by decide +kernel
theorem dX11_entry_100 : decode cX11_entry 100 = .ok (.aload_n 0, 1) := by decide +kernel
theorem dX11_entry_101 : decode cX11_entry 101 = .ok (.getfield 25, 3) := by decide +kernel
theorem dX11_entry_104 : decode cX11_entry 104 = .ok (.iload_n 1, 1) := by decide +kernel
theorem dX11_entry_105 : decode cX11_entry 105 = .ok (.iaload, 1) := by decide +kernel
theorem dX11_entry_106 : decode cX11_entry 106 = .ok (.bipush 10, 2) := by decide +kernel
theorem dX11_entry_108 : decode cX11_entry 108 = .ok (.if_icmp .ne 6, 3) := by decide +kernel
theorem dX11_entry_111 : decode cX11_entry 111 = .ok (.bipush (-4), 2) := by decide +kernel
theorem dX11_entry_113 : decode cX11_entry 113 = .ok (.ireturn, 1) := by decide +kernel
theorem dX11_entry_114 : decode cX11_entry 114 = .ok (.bipush 10, 2) := by decide +kernel
theorem dX11_entry_116 : decode cX11_entry 116 = .ok (.iload_n 1, 1) := by decide +kernel
theorem dX11_entry_117 : decode cX11_entry 117 = .ok (.imul, 1) := by decide +kernel
theorem dX11_entry_118 : decode cX11_entry 118 = .ok (.aload_n 0, 1) := by decide +kernel
theorem dX11_entry_119 : decode cX11_entry 119 = .ok (.getfield 25, 3) := by decide +kernel
theorem dX11_entry_122 : decode cX11_entry 122 = .ok (.iload_n 1, 1) := by decide +kernel
theorem dX11_entry_123 : decode cX11_entry 123 = .ok (.iaload, 1) := by decide +kernel
theorem dX11_entry_124 : decode cX11_entry 124 = .ok (.iadd, 1) := by decide +kernel
theorem dX11_entry_125 : decode cX11_entry 125 = .ok (.istore 9, 2) := by decide +kernel
theorem dX11_entry_127 : decode cX11_entry 127 = .ok (.aload_n 0, 1) := by decide +kernel
theorem dX11_entry_128 : decode cX11_entry 128 = .ok (.getfield 28, 3) := by decide +kernel
theorem dX11_entry_131 : decode cX11_entry 131 = .ok (.iload 9, 2) := by decide +kernel
theorem dX11_entry_133 : decode cX11_entry 133 = .ok (.iload_n 2, 1) := by decide +kernel
theorem dX11_entry_134 : decode cX11_entry 134 = .ok (.iastore, 1) := by decide +kernel
theorem dX11_entry_135 : decode cX11_entry 135 = .ok (.aload_n 0, 1) := by decide +kernel
theorem dX11_entry_136 : decode cX11_entry 136 = .ok (.getfield 31, 3) := by decide +kernel
theorem dX11_entry_139 : decode cX11_entry 139 = .ok (.iload 9, 2) := by decide +kernel
theorem dX11_entry_141 : decode cX11_entry 141 = .ok (.iload 6, 2) := by decide +kernel
theorem dX11_entry_143 : decode cX11_entry 143 = .ok (.iastore, 1) := by decide +kernel
theorem dX11_entry_144 : decode cX11_entry 144 = .ok (.iconst 0, 1) := by decide +kernel
theorem dX11_entry_145 : decode cX11_entry 145 = .ok (.istore 10, 2) := by decide +kernel
theorem dX11_entry_147 : decode cX11_entry 147 = .ok (.iload 10, 2) := by decide +kernel
theorem dX11_entry_149 : decode cX11_entry 149 = .ok (.iload 6, 2) := by decide +kernel
theorem dX11_entry_151 : decode cX11_entry 151 = .ok (.if_icmp .ge 31, 3) := by decide +kernel
theorem dX11_entry_154 : decode cX11_entry 154 = .ok (.aload_n 0, 1) := by decide +kernel
theorem dX11_entry_155 : decode cX11_entry 155 = .ok (.getfield 34, 3) := by decide +kernel
theorem dX11_entry_158 : decode cX11_entry 158 = .ok (.iconst 3, 1) := by decide +kernel
theorem dX11_entry_159 : decode cX11_entry 159 = .ok (.iload 9, 2) := by decide +kernel
theorem dX11_entry_161 : decode cX11_entry 161 = .ok (.imul, 1) := by decide +kernel
theorem dX11_entry_162 : decode cX11_entry 162 = .ok (.iload 10, 2) := by decide +kernel
theorem dX11_entry_164 : decode cX11_entry 164 = .ok (.iadd, 1) := by decide +kernel
theorem dX11_entry_165 : decode cX11_entry 165 = .ok (.aload_n 0, 1) := by decide +kernel
theorem dX11_entry_166 : decode cX11_entry 166 = .ok (.getfield 16, 3) := by decide +kernel
theorem dX11_entry_169 : decode cX11_entry 169 = .ok (.iload 8, 2) := by decide +kernel
theorem dX11_entry_171 : decode cX11_entry 171 = .ok (.iload 10, 2) := by decide +kernel
theorem dX11_entry_173 : decode cX11_entry 173 = .ok (.iadd, 1) := by decide +kernel
theorem dX11_entry_174 : decode cX11_entry 174 = .ok (.iaload, 1) := by decide +kernel
theorem dX11_entry_175 : decode cX11_entry 175 = .ok (.iastore, 1) := by decide +kernel
theorem dX11_entry_176 : decode cX11_entry 176 = .ok (.iinc 10 1, 3) := by decide +kernel
theorem dX11_entry_179 : decode cX11_entry 179 = .ok (.goto (-32), 3) := by decide +kernel
theorem dX11_entry_182 : decode cX11_entry 182 = .ok (.aload_n 0, 1) := by decide +kernel
theorem dX11_entry_183 : decode cX11_entry 183 = .ok (.getfield 25, 3) := by decide +kernel
theorem dX11_entry_186 : decode cX11_entry 186 = .ok (.iload_n 1, 1) := by decide +kernel
theorem dX11_entry_187 : decode cX11_entry 187 = .ok (.dup2, 1) := by decide +kernel
theorem dX11_entry_188 : decode cX11_entry 188 = .ok (.iaload, 1) := by decide +kernel
theorem dX11_entry_189 : decode cX11_entry 189 = .ok (.iconst 1, 1) := by decide +kernel
theorem dX11_entry_190 : decode cX11_entry 190 = .ok (.iadd, 1) := by decide +kernel
theorem dX11_entry_191 : decode cX11_entry 191 = .ok (.iastore, 1) := by decide +kernel
theorem dX11_entry_192 : decode cX11_entry 192 = .ok (.aload_n 0, 1) := by decide +kernel
theorem dX11_entry_193 : decode cX11_entry 193 = .ok (.getfield 25, 3) := by decide +kernel
theorem dX11_entry_196 : decode cX11_entry 196 = .ok (.iload_n 1, 1) := by decide +kernel
theorem dX11_entry_197 : decode cX11_entry 197 = .ok (.iaload, 1) := by decide +kernel
theorem dX11_entry_198 : decode cX11_entry 198 = .ok (.ireturn, 1) := by decide +kernel
theorem dX11_stands_0 : decode cX11_stands 0 = .ok (.aload_n 0, 1) := by decide +kernel
theorem dX11_stands_1 : decode cX11_stands 1 = .ok (.getfield 31, 3) := by decide +kernel
theorem dX11_stands_4 : decode cX11_stands 4 = .ok (.iload_n 1, 1) := by decide +kernel
theorem dX11_stands_5 : decode cX11_stands 5 = .ok (.iaload, 1) := by decide +kernel
theorem dX11_stands_6 : decode cX11_stands 6 = .ok (.iload_n 3, 1) := by decide +kernel
theorem dX11_stands_7 : decode cX11_stands 7 = .ok (.iload_n 2, 1) := by decide +kernel
theorem dX11_stands_8 : decode cX11_stands 8 = .ok (.isub, 1) := by decide +kernel
theorem dX11_stands_9 : decode cX11_stands 9 = .ok (.if_icmp .le 5, 3) := by decide +kernel
theorem dX11_stands_12 : decode cX11_stands 12 = .ok (.iconst 0, 1) := by decide +kernel
theorem dX11_stands_13 : decode cX11_stands 13 = .ok (.ireturn, 1) := by decide +kernel
theorem dX11_stands_14 : decode cX11_stands 14 = .ok (.iconst 0, 1) := by decide +kernel
theorem dX11_stands_15 : decode cX11_stands 15 = .ok (.istore 4, 2) := by decide +kernel
theorem dX11_stands_17 : decode cX11_stands 17 = .ok (.iload 4, 2) := by decide +kernel
theorem dX11_stands_19 : decode cX11_stands 19 = .ok (.aload_n 0, 1) := by decide +kernel
theorem dX11_stands_20 : decode cX11_stands 20 = .ok (.getfield 31, 3) := by decide +kernel
theorem dX11_stands_23 : decode cX11_stands 23 = .ok (.iload_n 1, 1) := by decide +kernel
theorem dX11_stands_24 : decode cX11_stands 24 = .ok (.iaload, 1) := by decide +kernel
theorem dX11_stands_25 : decode cX11_stands 25 = .ok (.if_icmp .ge 34, 3) := by decide +kernel
theorem dX11_stands_28 : decode cX11_stands 28 = .ok (.aload_n 0, 1) := by decide +kernel
theorem dX11_stands_29 : decode cX11_stands 29 = .ok (.getfield 16, 3) := by decide +kernel
theorem dX11_stands_32 : decode cX11_stands 32 = .ok (.iload_n 2, 1) := by decide +kernel
theorem dX11_stands_33 : decode cX11_stands 33 = .ok (.iload 4, 2) := by decide +kernel
theorem dX11_stands_35 : decode cX11_stands 35 = .ok (.iadd, 1) := by decide +kernel
theorem dX11_stands_36 : decode cX11_stands 36 = .ok (.iaload, 1) := by decide +kernel
theorem dX11_stands_37 : decode cX11_stands 37 = .ok (.aload_n 0, 1) := by decide +kernel
theorem dX11_stands_38 : decode cX11_stands 38 = .ok (.getfield 34, 3) := by decide +kernel
theorem dX11_stands_41 : decode cX11_stands 41 = .ok (.iconst 3, 1) := by decide +kernel
theorem dX11_stands_42 : decode cX11_stands 42 = .ok (.iload_n 1, 1) := by decide +kernel
theorem dX11_stands_43 : decode cX11_stands 43 = .ok (.imul, 1) := by decide +kernel
theorem dX11_stands_44 : decode cX11_stands 44 = .ok (.iload 4, 2) := by decide +kernel
theorem dX11_stands_46 : decode cX11_stands 46 = .ok (.iadd, 1) := by decide +kernel
theorem dX11_stands_47 : decode cX11_stands 47 = .ok (.iaload, 1) := by decide +kernel
theorem dX11_stands_48 : decode cX11_stands 48 = .ok (.if_icmp .eq 5, 3) := by decide +kernel
theorem dX11_stands_51 : decode cX11_stands 51 = .ok (.iconst 0, 1) := by decide +kernel
theorem dX11_stands_52 : decode cX11_stands 52 = .ok (.ireturn, 1) := by decide +kernel
theorem dX11_stands_53 : decode cX11_stands 53 = .ok (.iinc 4 1, 3) := by decide +kernel
theorem dX11_stands_56 : decode cX11_stands 56 = .ok (.goto (-39), 3) := by decide +kernel
theorem dX11_stands_59 : decode cX11_stands 59 = .ok (.iconst 1, 1) := by decide +kernel
theorem dX11_stands_60 : decode cX11_stands 60 = .ok (.ireturn, 1) := by decide +kernel
theorem dX11_entryAt_0 : decode cX11_entryAt 0 = .ok (.bipush (-9), 2) := by decide +kernel
theorem dX11_entryAt_2 : decode cX11_entryAt 2 = .ok (.istore 4, 2) := by decide +kernel
theorem dX11_entryAt_4 : decode cX11_entryAt 4 = .ok (.bipush 10, 2) := by decide +kernel
theorem dX11_entryAt_6 : decode cX11_entryAt 6 = .ok (.iload_n 1, 1) := by decide +kernel
theorem dX11_entryAt_7 : decode cX11_entryAt 7 = .ok (.imul, 1) := by decide +kernel
theorem dX11_entryAt_8 : decode cX11_entryAt 8 = .ok (.istore 5, 2) := by decide +kernel
theorem dX11_entryAt_10 : decode cX11_entryAt 10 = .ok (.iload 5, 2) := by decide +kernel
theorem dX11_entryAt_12 : decode cX11_entryAt 12 = .ok (.bipush 10, 2) := by decide +kernel
theorem dX11_entryAt_14 : decode cX11_entryAt 14 = .ok (.iload_n 1, 1) := by decide +kernel
theorem dX11_entryAt_15 : decode cX11_entryAt 15 = .ok (.imul, 1) := by decide +kernel
theorem dX11_entryAt_16 : decode cX11_entryAt 16 = .ok (.aload_n 0, 1) := by decide +kernel
theorem dX11_entryAt_17 : decode cX11_entryAt 17 = .ok (.getfield 25, 3) := by decide +kernel
theorem dX11_entryAt_20 : decode cX11_entryAt 20 = .ok (.iload_n 1, 1) := by decide +kernel
theorem dX11_entryAt_21 : decode cX11_entryAt 21 = .ok (.iaload, 1) := by decide +kernel
theorem dX11_entryAt_22 : decode cX11_entryAt 22 = .ok (.iadd, 1) := by decide +kernel
theorem dX11_entryAt_23 : decode cX11_entryAt 23 = .ok (.if_icmp .ge 48, 3) := by decide +kernel
theorem dX11_entryAt_26 : decode cX11_entryAt 26 = .ok (.aload_n 0, 1) := by decide +kernel
theorem dX11_entryAt_27 : decode cX11_entryAt 27 = .ok (.iload 5, 2) := by decide +kernel
theorem dX11_entryAt_29 : decode cX11_entryAt 29 = .ok (.iload_n 2, 1) := by decide +kernel
theorem dX11_entryAt_30 : decode cX11_entryAt 30 = .ok (.iload_n 3, 1) := by decide +kernel
theorem dX11_entryAt_31 : decode cX11_entryAt 31 = .ok (.invokevirtual 161, 3) := by decide +kernel
theorem dX11_entryAt_34 : decode cX11_entryAt 34 = .ok (.ifCond .eq 31, 3) := by decide +kernel
theorem dX11_entryAt_37 : decode cX11_entryAt 37 = .ok (.iload 4, 2) := by decide +kernel
theorem dX11_entryAt_39 : decode cX11_entryAt 39 = .ok (.bipush (-9), 2) := by decide +kernel
theorem dX11_entryAt_41 : decode cX11_entryAt 41 = .ok (.if_icmp .eq 20, 3) := by decide +kernel
theorem dX11_entryAt_44 : decode cX11_entryAt 44 = .ok (.aload_n 0, 1) := by decide +kernel
theorem dX11_entryAt_45 : decode cX11_entryAt 45 = .ok (.getfield 31, 3) := by decide +kernel
theorem dX11_entryAt_48 : decode cX11_entryAt 48 = .ok (.iload 5, 2) := by decide +kernel
theorem dX11_entryAt_50 : decode cX11_entryAt 50 = .ok (.iaload, 1) := by decide +kernel
theorem dX11_entryAt_51 : decode cX11_entryAt 51 = .ok (.aload_n 0, 1) := by decide +kernel
theorem dX11_entryAt_52 : decode cX11_entryAt 52 = .ok (.getfield 31, 3) := by decide +kernel
theorem dX11_entryAt_55 : decode cX11_entryAt 55 = .ok (.iload 4, 2) := by decide +kernel
theorem dX11_entryAt_57 : decode cX11_entryAt 57 = .ok (.iaload, 1) := by decide +kernel
theorem dX11_entryAt_58 : decode cX11_entryAt 58 = .ok (.if_icmp .lt 7, 3) := by decide +kernel
theorem dX11_entryAt_61 : decode cX11_entryAt 61 = .ok (.iload 5, 2) := by decide +kernel
theorem dX11_entryAt_63 : decode cX11_entryAt 63 = .ok (.istore 4, 2) := by decide +kernel
theorem dX11_entryAt_65 : decode cX11_entryAt 65 = .ok (.iinc 5 1, 3) := by decide +kernel
theorem dX11_entryAt_68 : decode cX11_entryAt 68 = .ok (.goto (-58), 3) := by decide +kernel
theorem dX11_entryAt_71 : decode cX11_entryAt 71 = .ok (.iload 4, 2) := by decide +kernel
theorem dX11_entryAt_73 : decode cX11_entryAt 73 = .ok (.ireturn, 1) := by decide +kernel
theorem dX11_isPlace_0 : decode cX11_isPlace 0 = .ok (.iload_n 1, 1) := by decide +kernel
theorem dX11_isPlace_1 : decode cX11_isPlace 1 = .ok (.ifCond .lt 15, 3) := by decide +kernel
theorem dX11_isPlace_4 : decode cX11_isPlace 4 = .ok (.iload_n 1, 1) := by decide +kernel
theorem dX11_isPlace_5 : decode cX11_isPlace 5 = .ok (.aload_n 0, 1) := by decide +kernel
theorem dX11_isPlace_6 : decode cX11_isPlace 6 = .ok (.getfield 164, 3) := by decide +kernel
theorem dX11_isPlace_9 : decode cX11_isPlace 9 = .ok (.if_icmp .ge 7, 3) := by decide +kernel
theorem dX11_isPlace_12 : decode cX11_isPlace 12 = .ok (.iconst 1, 1) := by decide +kernel
theorem dX11_isPlace_13 : decode cX11_isPlace 13 = .ok (.goto 4, 3) := by decide +kernel
theorem dX11_isPlace_16 : decode cX11_isPlace 16 = .ok (.iconst 0, 1) := by decide +kernel
theorem dX11_isPlace_17 : decode cX11_isPlace 17 = .ok (.ireturn, 1) := by decide +kernel
theorem dX11_isMeaning_0 : decode cX11_isMeaning 0 = .ok (.iload_n 0, 1) := by decide +kernel
theorem dX11_isMeaning_1 : decode cX11_isMeaning 1 = .ok (.iconst 0, 1) := by decide +kernel
theorem dX11_isMeaning_2 : decode cX11_isMeaning 2 = .ok (.iconst 5, 1) := by decide +kernel
theorem dX11_isMeaning_3 : decode cX11_isMeaning 3 = .ok (.invokestatic 124, 3) := by decide +kernel
theorem dX11_isMeaning_6 : decode cX11_isMeaning 6 = .ok (.ireturn, 1) := by decide +kernel
theorem dX11_place_0 : decode cX11_place 0 = .ok (.aload_n 0, 1) := by decide +kernel
theorem dX11_place_1 : decode cX11_place 1 = .ok (.getfield 164, 3) := by decide +kernel
theorem dX11_place_4 : decode cX11_place 4 = .ok (.bipush 8, 2) := by decide +kernel
theorem dX11_place_6 : decode cX11_place 6 = .ok (.if_icmp .ne 6, 3) := by decide +kernel
theorem dX11_place_9 : decode cX11_place 9 = .ok (.bipush (-4), 2) := by decide +kernel
theorem dX11_place_11 : decode cX11_place 11 = .ok (.ireturn, 1) := by decide +kernel
theorem dX11_place_12 : decode cX11_place 12 = .ok (.aload_n 0, 1) := by decide +kernel
theorem dX11_place_13 : decode cX11_place 13 = .ok (.dup, 1) := by decide +kernel
theorem dX11_place_14 : decode cX11_place 14 = .ok (.getfield 164, 3) := by decide +kernel
theorem dX11_place_17 : decode cX11_place 17 = .ok (.iconst 1, 1) := by decide +kernel
theorem dX11_place_18 : decode cX11_place 18 = .ok (.iadd, 1) := by decide +kernel
theorem dX11_place_19 : decode cX11_place 19 = .ok (.putfield 164, 3) := by decide +kernel
theorem dX11_place_22 : decode cX11_place 22 = .ok (.aload_n 0, 1) := by decide +kernel
theorem dX11_place_23 : decode cX11_place 23 = .ok (.getfield 164, 3) := by decide +kernel
theorem dX11_place_26 : decode cX11_place 26 = .ok (.iconst 1, 1) := by decide +kernel
theorem dX11_place_27 : decode cX11_place 27 = .ok (.isub, 1) := by decide +kernel
theorem dX11_place_28 : decode cX11_place 28 = .ok (.ireturn, 1) := by decide +kernel
theorem dX11_near_0 : decode cX11_near 0 = .ok (.aload_n 0, 1) := by decide +kernel
theorem dX11_near_1 : decode cX11_near 1 = .ok (.iload_n 1, 1) := by decide +kernel
theorem dX11_near_2 : decode cX11_near 2 = .ok (.invokevirtual 167, 3) := by decide +kernel
theorem dX11_near_5 : decode cX11_near 5 = .ok (.ifCond .eq 11, 3) := by decide +kernel
theorem dX11_near_8 : decode cX11_near 8 = .ok (.aload_n 0, 1) := by decide +kernel
theorem dX11_near_9 : decode cX11_near 9 = .ok (.iload_n 2, 1) := by decide +kernel
theorem dX11_near_10 : decode cX11_near 10 = .ok (.invokevirtual 167, 3) := by decide +kernel
theorem dX11_near_13 : decode cX11_near 13 = .ok (.ifCond .ne 5, 3) := by decide +kernel
theorem dX11_near_16 : decode cX11_near 16 = .ok (.iconst (-1), 1) := by decide +kernel
theorem dX11_near_17 : decode cX11_near 17 = .ok (.ireturn, 1) := by decide +kernel
theorem dX11_near_18 : decode cX11_near 18 = .ok (.iload_n 1, 1) := by decide +kernel
theorem dX11_near_19 : decode cX11_near 19 = .ok (.iload_n 2, 1) := by decide +kernel
theorem dX11_near_20 : decode cX11_near 20 = .ok (.if_icmp .ne 6, 3) := by decide +kernel
theorem dX11_near_23 : decode cX11_near 23 = .ok (.bipush (-2), 2) := by decide +kernel
theorem dX11_near_25 : decode cX11_near 25 = .ok (.ireturn, 1) := by decide +kernel
theorem dX11_near_26 : decode cX11_near 26 = .ok (.aload_n 0, 1) := by decide +kernel
theorem dX11_near_27 : decode cX11_near 27 = .ok (.getfield 37, 3) := by decide +kernel
theorem dX11_near_30 : decode cX11_near 30 = .ok (.iload_n 1, 1) := by decide +kernel
theorem dX11_near_31 : decode cX11_near 31 = .ok (.iaload, 1) := by decide +kernel
theorem dX11_near_32 : decode cX11_near 32 = .ok (.iload_n 2, 1) := by decide +kernel
theorem dX11_near_33 : decode cX11_near 33 = .ok (.invokestatic 132, 3) := by decide +kernel
theorem dX11_near_36 : decode cX11_near 36 = .ok (.iload_n 3, 1) := by decide +kernel
theorem dX11_near_37 : decode cX11_near 37 = .ok (.if_icmp .ne 5, 3) := by decide +kernel
theorem dX11_near_40 : decode cX11_near 40 = .ok (.iconst 0, 1) := by decide +kernel
theorem dX11_near_41 : decode cX11_near 41 = .ok (.ireturn, 1) := by decide +kernel
theorem dX11_near_42 : decode cX11_near 42 = .ok (.aload_n 0, 1) := by decide +kernel
theorem dX11_near_43 : decode cX11_near 43 = .ok (.getfield 37, 3) := by decide +kernel
theorem dX11_near_46 : decode cX11_near 46 = .ok (.iload_n 1, 1) := by decide +kernel
theorem dX11_near_47 : decode cX11_near 47 = .ok (.iload_n 3, 1) := by decide +kernel
theorem dX11_near_48 : decode cX11_near 48 = .ok (.ifCond .eq 16, 3) := by decide +kernel
theorem dX11_near_51 : decode cX11_near 51 = .ok (.aload_n 0, 1) := by decide +kernel
theorem dX11_near_52 : decode cX11_near 52 = .ok (.getfield 37, 3) := by decide +kernel
theorem dX11_near_55 : decode cX11_near 55 = .ok (.iload_n 1, 1) := by decide +kernel
theorem dX11_near_56 : decode cX11_near 56 = .ok (.iaload, 1) := by decide +kernel
theorem dX11_near_57 : decode cX11_near 57 = .ok (.iconst 1, 1) := by decide +kernel
theorem dX11_near_58 : decode cX11_near 58 = .ok (.iload_n 2, 1) := by decide +kernel
theorem dX11_near_59 : decode cX11_near 59 = .ok (.ishl, 1) := by decide +kernel
theorem dX11_near_60 : decode cX11_near 60 = .ok (.ior, 1) := by decide +kernel
theorem dX11_near_61 : decode cX11_near 61 = .ok (.goto 15, 3) := by decide +kernel
theorem dX11_near_64 : decode cX11_near 64 = .ok (.aload_n 0, 1) := by decide +kernel
theorem dX11_near_65 : decode cX11_near 65 = .ok (.getfield 37, 3) := by decide +kernel
theorem dX11_near_68 : decode cX11_near 68 = .ok (.iload_n 1, 1) := by decide +kernel
theorem dX11_near_69 : decode cX11_near 69 = .ok (.iaload, 1) := by decide +kernel
theorem dX11_near_70 : decode cX11_near 70 = .ok (.iconst 1, 1) := by decide +kernel
theorem dX11_near_71 : decode cX11_near 71 = .ok (.iload_n 2, 1) := by decide +kernel
theorem dX11_near_72 : decode cX11_near 72 = .ok (.ishl, 1) := by decide +kernel
theorem dX11_near_73 : decode cX11_near 73 = .ok (.iconst (-1), 1) := by decide +kernel
theorem dX11_near_74 : decode cX11_near 74 = .ok (.ixor, 1) := by decide +kernel
theorem dX11_near_75 : decode cX11_near 75 = .ok (.iand, 1) := by decide +kernel
theorem dX11_near_76 : decode cX11_near 76 = .ok (.iastore, 1) := by decide +kernel
theorem dX11_near_77 : decode cX11_near 77 = .ok (.aload_n 0, 1) := by decide +kernel
theorem dX11_near_78 : decode cX11_near 78 = .ok (.getfield 37, 3) := by decide +kernel
theorem dX11_near_81 : decode cX11_near 81 = .ok (.iload_n 2, 1) := by decide +kernel
theorem dX11_near_82 : decode cX11_near 82 = .ok (.iload_n 3, 1) := by decide +kernel
theorem dX11_near_83 : decode cX11_near 83 = .ok (.ifCond .eq 16, 3) := by decide +kernel
theorem dX11_near_86 : decode cX11_near 86 = .ok (.aload_n 0, 1) := by decide +kernel
theorem dX11_near_87 : decode cX11_near 87 = .ok (.getfield 37, 3) := by decide +kernel
theorem dX11_near_90 : decode cX11_near 90 = .ok (.iload_n 2, 1) := by decide +kernel
theorem dX11_near_91 : decode cX11_near 91 = .ok (.iaload, 1) := by decide +kernel
theorem dX11_near_92 : decode cX11_near 92 = .ok (.iconst 1, 1) := by decide +kernel
theorem dX11_near_93 : decode cX11_near 93 = .ok (.iload_n 1, 1) := by decide +kernel
theorem dX11_near_94 : decode cX11_near 94 = .ok (.ishl, 1) := by decide +kernel
theorem dX11_near_95 : decode cX11_near 95 = .ok (.ior, 1) := by decide +kernel
theorem dX11_near_96 : decode cX11_near 96 = .ok (.goto 15, 3) := by decide +kernel
theorem dX11_near_99 : decode cX11_near 99 = .ok (.aload_n 0, 1) := by decide +kernel
theorem dX11_near_100 : decode cX11_near 100 = .ok (.getfield 37, 3) := by decide +kernel
theorem dX11_near_103 : decode cX11_near 103 = .ok (.iload_n 2, 1) := by decide +kernel
theorem dX11_near_104 : decode cX11_near 104 = .ok (.iaload, 1) := by decide +kernel
theorem dX11_near_105 : decode cX11_near 105 = .ok (.iconst 1, 1) := by decide +kernel
theorem dX11_near_106 : decode cX11_near 106 = .ok (.iload_n 1, 1) := by decide +kernel
theorem dX11_near_107 : decode cX11_near 107 = .ok (.ishl, 1) := by decide +kernel
theorem dX11_near_108 : decode cX11_near 108 = .ok (.iconst (-1), 1) := by decide +kernel
theorem dX11_near_109 : decode cX11_near 109 = .ok (.ixor, 1) := by decide +kernel
theorem dX11_near_110 : decode cX11_near 110 = .ok (.iand, 1) := by decide +kernel
theorem dX11_near_111 : decode cX11_near 111 = .ok (.iastore, 1) := by decide +kernel
theorem dX11_near_112 : decode cX11_near 112 = .ok (.iconst 1, 1) := by decide +kernel
theorem dX11_near_113 : decode cX11_near 113 = .ok (.ireturn, 1) := by decide +kernel
theorem dX11_isForm_0 : decode cX11_isForm 0 = .ok (.iload_n 1, 1) := by decide +kernel
theorem dX11_isForm_1 : decode cX11_isForm 1 = .ok (.ifCond .lt 15, 3) := by decide +kernel
theorem dX11_isForm_4 : decode cX11_isForm 4 = .ok (.iload_n 1, 1) := by decide +kernel
theorem dX11_isForm_5 : decode cX11_isForm 5 = .ok (.aload_n 0, 1) := by decide +kernel
theorem dX11_isForm_6 : decode cX11_isForm 6 = .ok (.getfield 170, 3) := by decide +kernel
theorem dX11_isForm_9 : decode cX11_isForm 9 = .ok (.if_icmp .ge 7, 3) := by decide +kernel
theorem dX11_isForm_12 : decode cX11_isForm 12 = .ok (.iconst 1, 1) := by decide +kernel
theorem dX11_isForm_13 : decode cX11_isForm 13 = .ok (.goto 4, 3) := by decide +kernel
theorem dX11_isForm_16 : decode cX11_isForm 16 = .ok (.iconst 0, 1) := by decide +kernel
theorem dX11_isForm_17 : decode cX11_isForm 17 = .ok (.ireturn, 1) := by decide +kernel
theorem dX11_form_0 : decode cX11_form 0 = .ok (.aload_n 0, 1) := by decide +kernel
theorem dX11_form_1 : decode cX11_form 1 = .ok (.iconst 0, 1) := by decide +kernel
theorem dX11_form_2 : decode cX11_form 2 = .ok (.putfield 119, 3) := by decide +kernel
theorem dX11_form_5 : decode cX11_form 5 = .ok (.aload_n 0, 1) := by decide +kernel
theorem dX11_form_6 : decode cX11_form 6 = .ok (.iload_n 2, 1) := by decide +kernel
theorem dX11_form_7 : decode cX11_form 7 = .ok (.invokevirtual 167, 3) := by decide +kernel
theorem dX11_form_10 : decode cX11_form 10 = .ok (.ifCond .eq 18, 3) := by decide +kernel
theorem dX11_form_13 : decode cX11_form 13 = .ok (.iload_n 3, 1) := by decide +kernel
theorem dX11_form_14 : decode cX11_form 14 = .ok (.invokestatic 173, 3) := by decide +kernel
theorem dX11_form_17 : decode cX11_form 17 = .ok (.ifCond .eq 11, 3) := by decide +kernel
theorem dX11_form_20 : decode cX11_form 20 = .ok (.iload 4, 2) := by decide +kernel
theorem dX11_form_22 : decode cX11_form 22 = .ok (.invokestatic 143, 3) := by decide +kernel
theorem dX11_form_25 : decode cX11_form 25 = .ok (.ifCond .ne 5, 3) := by decide +kernel
theorem dX11_form_28 : decode cX11_form 28 = .ok (.iconst (-1), 1) := by decide +kernel
theorem dX11_form_29 : decode cX11_form 29 = .ok (.ireturn, 1) := by decide +kernel
theorem dX11_form_30 : decode cX11_form 30 = .ok (.iload_n 1, 1) := by decide +kernel
theorem dX11_form_31 : decode cX11_form 31 = .ok (.iconst 0, 1) := by decide +kernel
theorem dX11_form_32 : decode cX11_form 32 = .ok (.iconst 2, 1) := by decide +kernel
theorem dX11_form_33 : decode cX11_form 33 = .ok (.invokestatic 124, 3) := by decide +kernel
theorem dX11_form_36 : decode cX11_form 36 = .ok (.ifCond .eq 11, 3) := by decide +kernel
theorem dX11_form_39 : decode cX11_form 39 = .ok (.iload 5, 2) := by decide +kernel
theorem dX11_form_41 : decode cX11_form 41 = .ok (.invokestatic 146, 3) := by decide +kernel
theorem dX11_form_44 : decode cX11_form 44 = .ok (.ifCond .ne 6, 3) := by decide +kernel
theorem dX11_form_47 : decode cX11_form 47 = .ok (.bipush (-2), 2) := by decide +kernel
theorem dX11_form_49 : decode cX11_form 49 = .ok (.ireturn, 1) := by decide +kernel
theorem dX11_form_50 : decode cX11_form 50 = .ok (.aload_n 0, 1) := by decide +kernel
theorem dX11_form_51 : decode cX11_form 51 = .ok (.iload 4, 2) := by decide +kernel
theorem dX11_form_53 : decode cX11_form 53 = .ok (.iload 5, 2) := by decide +kernel
theorem dX11_form_55 : decode cX11_form 55 = .ok (.iload 6, 2) := by decide +kernel
theorem dX11_form_57 : decode cX11_form 57 = .ok (.iload 7, 2) := by decide +kernel
theorem dX11_form_59 : decode cX11_form 59 = .ok (.invokevirtual 149, 3) := by decide +kernel
theorem dX11_form_62 : decode cX11_form 62 = .ok (.istore 8, 2) := by decide +kernel
theorem dX11_form_64 : decode cX11_form 64 = .ok (.iload 8, 2) := by decide +kernel
theorem dX11_form_66 : decode cX11_form 66 = .ok (.ifCond .eq 10, 3) := by decide +kernel
theorem dX11_form_69 : decode cX11_form 69 = .ok (.aload_n 0, 1) := by decide +kernel
theorem dX11_form_70 : decode cX11_form 70 = .ok (.iload 8, 2) := by decide +kernel
theorem dX11_form_72 : decode cX11_form 72 = .ok (.invokevirtual 153, 3) := by decide +kernel
theorem dX11_form_75 : decode cX11_form 75 = .ok (.ireturn, 1) := by decide +kernel
theorem dX11_form_76 : decode cX11_form 76 = .ok (.bipush 60, 2) := by decide +kernel
theorem dX11_form_78 : decode cX11_form 78 = .ok (.iload 4, 2) := by decide +kernel
theorem dX11_form_80 : decode cX11_form 80 = .ok (.imul, 1) := by decide +kernel
theorem dX11_form_81 : decode cX11_form 81 = .ok (.iload 6, 2) := by decide +kernel
theorem dX11_form_83 : decode cX11_form 83 = .ok (.iadd, 1) := by decide +kernel
theorem dX11_form_84 : decode cX11_form 84 = .ok (.istore 9, 2) := by decide +kernel
theorem dX11_form_86 : decode cX11_form 86 = .ok (.iload 7, 2) := by decide +kernel
theorem dX11_form_88 : decode cX11_form 88 = .ok (.bipush 8, 2) := by decide +kernel
theorem dX11_form_90 : decode cX11_form 90 = .ok (.if_icmp .le 6, 3) := by decide +kernel
theorem dX11_form_93 : decode cX11_form 93 = .ok (.bipush (-2), 2) := by decide +kernel
theorem dX11_form_95 : decode cX11_form 95 = .ok (.ireturn, 1) := by decide +kernel
theorem dX11_form_96 : decode cX11_form 96 = .ok (.aload_n 0, 1) := by decide +kernel
theorem dX11_form_97 : decode cX11_form 97 = .ok (.iload 9, 2) := by decide +kernel
theorem dX11_form_99 : decode cX11_form 99 = .ok (.iload 7, 2) := by decide +kernel
theorem dX11_form_101 : decode cX11_form 101 = .ok (.iconst 0, 1) := by decide +kernel
theorem dX11_form_102 : decode cX11_form 102 = .ok (.bipush 15, 2) := by decide +kernel
theorem dX11_form_104 : decode cX11_form 104 = .ok (.invokevirtual 157, 3) := by decide +kernel
theorem dX11_form_107 : decode cX11_form 107 = .ok (.ifCond .ne 5, 3) := by decide +kernel
theorem dX11_form_110 : decode cX11_form 110 = .ok (.iconst (-1), 1) := by decide +kernel
theorem dX11_form_111 : decode cX11_form 111 = .ok (.ireturn, 1) := by decide +kernel
theorem dX11_form_112 : decode cX11_form 112 = .ok (.aload_n 0, 1) := by decide +kernel
theorem dX11_form_113 : decode cX11_form 113 = .ok (.getfield 170, 3) := by decide +kernel
theorem dX11_form_116 : decode cX11_form 116 = .ok (.bipush 40, 2) := by decide +kernel
theorem dX11_form_118 : decode cX11_form 118 = .ok (.if_icmp .ne 6, 3) := by decide +kernel
theorem dX11_form_121 : decode cX11_form 121 = .ok (.bipush (-4), 2) := by decide +kernel
theorem dX11_form_123 : decode cX11_form 123 = .ok (.ireturn, 1) := by decide +kernel
theorem dX11_form_124 : decode cX11_form 124 = .ok (.iconst 0, 1) := by decide +kernel
theorem dX11_form_125 : decode cX11_form 125 = .ok (.istore 10, 2) := by decide +kernel
theorem dX11_form_127 : decode cX11_form 127 = .ok (.iload 10, 2) := by decide +kernel
theorem dX11_form_129 : decode cX11_form 129 = .ok (.iload 7, 2) := by decide +kernel
theorem dX11_form_131 : decode cX11_form 131 = .ok (.if_icmp .ge 34, 3) := by decide +kernel
theorem dX11_form_134 : decode cX11_form 134 = .ok (.aload_n 0, 1) := by decide +kernel
theorem dX11_form_135 : decode cX11_form 135 = .ok (.getfield 52, 3) := by decide +kernel
theorem dX11_form_138 : decode cX11_form 138 = .ok (.bipush 8, 2) := by decide +kernel
theorem dX11_form_140 : decode cX11_form 140 = .ok (.aload_n 0, 1) := by decide +kernel
theorem dX11_form_141 : decode cX11_form 141 = .ok (.getfield 170, 3) := by decide +kernel
theorem dX11_form_144 : decode cX11_form 144 = .ok (.imul, 1) := by decide +kernel
theorem dX11_form_145 : decode cX11_form 145 = .ok (.iload 10, 2) := by decide +kernel
theorem dX11_form_147 : decode cX11_form 147 = .ok (.iadd, 1) := by decide +kernel
theorem dX11_form_148 : decode cX11_form 148 = .ok (.aload_n 0, 1) := by decide +kernel
theorem dX11_form_149 : decode cX11_form 149 = .ok (.getfield 16, 3) := by decide +kernel
theorem dX11_form_152 : decode cX11_form 152 = .ok (.iload 9, 2) := by decide +kernel
theorem dX11_form_154 : decode cX11_form 154 = .ok (.iload 10, 2) := by decide +kernel
theorem dX11_form_156 : decode cX11_form 156 = .ok (.iadd, 1) := by decide +kernel
theorem dX11_form_157 : decode cX11_form 157 = .ok (.iaload, 1) := by decide +kernel
theorem dX11_form_158 : decode cX11_form 158 = .ok (.iastore, 1) := by decide +kernel
theorem dX11_form_159 : decode cX11_form 159 = .ok (.iinc 10 1, 3) := by decide +kernel
theorem dX11_form_162 : decode cX11_form 162 = .ok (.goto (-35), 3) := by decide +kernel
theorem dX11_form_165 : decode cX11_form 165 = .ok (.aload_n 0, 1) := by decide +kernel
theorem dX11_form_166 : decode cX11_form 166 = .ok (.iload_n 1, 1) := by decide +kernel
theorem dX11_form_167 : decode cX11_form 167 = .ok (.iload_n 2, 1) := by decide +kernel
theorem dX11_form_168 : decode cX11_form 168 = .ok (.iload_n 3, 1) := by decide +kernel
theorem dX11_form_169 : decode cX11_form 169 = .ok (.iload 7, 2) := by decide +kernel
theorem dX11_form_171 : decode cX11_form 171 = .ok (.invokevirtual 176, 3) := by decide +kernel
theorem dX11_form_174 : decode cX11_form 174 = .ok (.ireturn, 1) := by decide +kernel
theorem dX11_formComes_0 : decode cX11_formComes 0 = .ok (.aload_n 0, 1) := by decide +kernel
theorem dX11_formComes_1 : decode cX11_formComes 1 = .ok (.getfield 40, 3) := by decide +kernel
theorem dX11_formComes_4 : decode cX11_formComes 4 = .ok (.aload_n 0, 1) := by decide +kernel
theorem dX11_formComes_5 : decode cX11_formComes 5 = .ok (.getfield 170, 3) := by decide +kernel
theorem dX11_formComes_8 : decode cX11_formComes 8 = .ok (.iload_n 1, 1) := by decide +kernel
theorem dX11_formComes_9 : decode cX11_formComes 9 = .ok (.iastore, 1) := by decide +kernel
theorem dX11_formComes_10 : decode cX11_formComes 10 = .ok (.aload_n 0, 1) := by decide +kernel
theorem dX11_formComes_11 : decode cX11_formComes 11 = .ok (.getfield 43, 3) := by decide +kernel
theorem dX11_formComes_14 : decode cX11_formComes 14 = .ok (.aload_n 0, 1) := by decide +kernel
theorem dX11_formComes_15 : decode cX11_formComes 15 = .ok (.getfield 170, 3) := by decide +kernel
theorem dX11_formComes_18 : decode cX11_formComes 18 = .ok (.iload_n 2, 1) := by decide +kernel
theorem dX11_formComes_19 : decode cX11_formComes 19 = .ok (.iastore, 1) := by decide +kernel
theorem dX11_formComes_20 : decode cX11_formComes 20 = .ok (.aload_n 0, 1) := by decide +kernel
theorem dX11_formComes_21 : decode cX11_formComes 21 = .ok (.getfield 46, 3) := by decide +kernel
theorem dX11_formComes_24 : decode cX11_formComes 24 = .ok (.aload_n 0, 1) := by decide +kernel
theorem dX11_formComes_25 : decode cX11_formComes 25 = .ok (.getfield 170, 3) := by decide +kernel
theorem dX11_formComes_28 : decode cX11_formComes 28 = .ok (.iload_n 3, 1) := by decide +kernel
theorem dX11_formComes_29 : decode cX11_formComes 29 = .ok (.iastore, 1) := by decide +kernel
theorem dX11_formComes_30 : decode cX11_formComes 30 = .ok (.aload_n 0, 1) := by decide +kernel
theorem dX11_formComes_31 : decode cX11_formComes 31 = .ok (.getfield 49, 3) := by decide +kernel
theorem dX11_formComes_34 : decode cX11_formComes 34 = .ok (.aload_n 0, 1) := by decide +kernel
theorem dX11_formComes_35 : decode cX11_formComes 35 = .ok (.getfield 170, 3) := by decide +kernel
theorem dX11_formComes_38 : decode cX11_formComes 38 = .ok (.iload 4, 2) := by decide +kernel
theorem dX11_formComes_40 : decode cX11_formComes 40 = .ok (.iastore, 1) := by decide +kernel
theorem dX11_formComes_41 : decode cX11_formComes 41 = .ok (.aload_n 0, 1) := by decide +kernel
theorem dX11_formComes_42 : decode cX11_formComes 42 = .ok (.dup, 1) := by decide +kernel
theorem dX11_formComes_43 : decode cX11_formComes 43 = .ok (.getfield 170, 3) := by decide +kernel
theorem dX11_formComes_46 : decode cX11_formComes 46 = .ok (.iconst 1, 1) := by decide +kernel
theorem dX11_formComes_47 : decode cX11_formComes 47 = .ok (.iadd, 1) := by decide +kernel
theorem dX11_formComes_48 : decode cX11_formComes 48 = .ok (.putfield 170, 3) := by decide +kernel
theorem dX11_formComes_51 : decode cX11_formComes 51 = .ok (.aload_n 0, 1) := by decide +kernel
theorem dX11_formComes_52 : decode cX11_formComes 52 = .ok (.getfield 170, 3) := by decide +kernel
theorem dX11_formComes_55 : decode cX11_formComes 55 = .ok (.iconst 1, 1) := by decide +kernel
theorem dX11_formComes_56 : decode cX11_formComes 56 = .ok (.isub, 1) := by decide +kernel
theorem dX11_formComes_57 : decode cX11_formComes 57 = .ok (.ireturn, 1) := by decide +kernel
theorem dX11_read_0 : decode cX11_read 0 = .ok (.aload_n 0, 1) := by decide +kernel
theorem dX11_read_1 : decode cX11_read 1 = .ok (.iconst 0, 1) := by decide +kernel
theorem dX11_read_2 : decode cX11_read 2 = .ok (.putfield 119, 3) := by decide +kernel
theorem dX11_read_5 : decode cX11_read 5 = .ok (.iload_n 1, 1) := by decide +kernel
theorem dX11_read_6 : decode cX11_read 6 = .ok (.invokestatic 140, 3) := by decide +kernel
theorem dX11_read_9 : decode cX11_read 9 = .ok (.ifCond .eq 26, 3) := by decide +kernel
theorem dX11_read_12 : decode cX11_read 12 = .ok (.aload_n 0, 1) := by decide +kernel
theorem dX11_read_13 : decode cX11_read 13 = .ok (.iload_n 2, 1) := by decide +kernel
theorem dX11_read_14 : decode cX11_read 14 = .ok (.invokevirtual 167, 3) := by decide +kernel
theorem dX11_read_17 : decode cX11_read 17 = .ok (.ifCond .eq 18, 3) := by decide +kernel
theorem dX11_read_20 : decode cX11_read 20 = .ok (.iload_n 3, 1) := by decide +kernel
theorem dX11_read_21 : decode cX11_read 21 = .ok (.invokestatic 173, 3) := by decide +kernel
theorem dX11_read_24 : decode cX11_read 24 = .ok (.ifCond .eq 11, 3) := by decide +kernel
theorem dX11_read_27 : decode cX11_read 27 = .ok (.iload 4, 2) := by decide +kernel
theorem dX11_read_29 : decode cX11_read 29 = .ok (.invokestatic 143, 3) := by decide +kernel
theorem dX11_read_32 : decode cX11_read 32 = .ok (.ifCond .ne 5, 3) := by decide +kernel
theorem dX11_read_35 : decode cX11_read 35 = .ok (.iconst (-1), 1) := by decide +kernel
theorem dX11_read_36 : decode cX11_read 36 = .ok (.ireturn, 1) := by decide +kernel
theorem dX11_read_37 : decode cX11_read 37 = .ok (.iload 5, 2) := by decide +kernel
theorem dX11_read_39 : decode cX11_read 39 = .ok (.invokestatic 146, 3) := by decide +kernel
theorem dX11_read_42 : decode cX11_read 42 = .ok (.ifCond .ne 6, 3) := by decide +kernel
theorem dX11_read_45 : decode cX11_read 45 = .ok (.bipush (-2), 2) := by decide +kernel
theorem dX11_read_47 : decode cX11_read 47 = .ok (.ireturn, 1) := by decide +kernel
theorem dX11_read_48 : decode cX11_read 48 = .ok (.aload_n 0, 1) := by decide +kernel
theorem dX11_read_49 : decode cX11_read 49 = .ok (.iload 4, 2) := by decide +kernel
theorem dX11_read_51 : decode cX11_read 51 = .ok (.iload 5, 2) := by decide +kernel
theorem dX11_read_53 : decode cX11_read 53 = .ok (.iload 6, 2) := by decide +kernel
theorem dX11_read_55 : decode cX11_read 55 = .ok (.iload 7, 2) := by decide +kernel
theorem dX11_read_57 : decode cX11_read 57 = .ok (.invokevirtual 149, 3) := by decide +kernel
theorem dX11_read_60 : decode cX11_read 60 = .ok (.istore 8, 2) := by decide +kernel
theorem dX11_read_62 : decode cX11_read 62 = .ok (.iload 8, 2) := by decide +kernel
theorem dX11_read_64 : decode cX11_read 64 = .ok (.ifCond .eq 10, 3) := by decide +kernel
theorem dX11_read_67 : decode cX11_read 67 = .ok (.aload_n 0, 1) := by decide +kernel
theorem dX11_read_68 : decode cX11_read 68 = .ok (.iload 8, 2) := by decide +kernel
theorem dX11_read_70 : decode cX11_read 70 = .ok (.invokevirtual 153, 3) := by decide +kernel
theorem dX11_read_73 : decode cX11_read 73 = .ok (.ireturn, 1) := by decide +kernel
theorem dX11_read_74 : decode cX11_read 74 = .ok (.bipush 60, 2) := by decide +kernel
theorem dX11_read_76 : decode cX11_read 76 = .ok (.iload 4, 2) := by decide +kernel
theorem dX11_read_78 : decode cX11_read 78 = .ok (.imul, 1) := by decide +kernel
theorem dX11_read_79 : decode cX11_read 79 = .ok (.iload 6, 2) := by decide +kernel
theorem dX11_read_81 : decode cX11_read 81 = .ok (.iadd, 1) := by decide +kernel
theorem dX11_read_82 : decode cX11_read 82 = .ok (.istore 9, 2) := by decide +kernel
theorem dX11_read_84 : decode cX11_read 84 = .ok (.iload 9, 2) := by decide +kernel
theorem dX11_read_86 : decode cX11_read 86 = .ok (.istore 10, 2) := by decide +kernel
theorem dX11_read_88 : decode cX11_read 88 = .ok (.iconst 0, 1) := by decide +kernel
theorem dX11_read_89 : decode cX11_read 89 = .ok (.istore 11, 2) := by decide +kernel
theorem dX11_read_91 : decode cX11_read 91 = .ok (.iload 10, 2) := by decide +kernel
theorem dX11_read_93 : decode cX11_read 93 = .ok (.iload 9, 2) := by decide +kernel
theorem dX11_read_95 : decode cX11_read 95 = .ok (.iload 7, 2) := by decide +kernel
theorem dX11_read_97 : decode cX11_read 97 = .ok (.iadd, 1) := by decide +kernel
theorem dX11_read_98 : decode cX11_read 98 = .ok (.if_icmp .ge 72, 3) := by decide +kernel
theorem dX11_read_101 : decode cX11_read 101 = .ok (.aload_n 0, 1) := by decide +kernel
theorem dX11_read_102 : decode cX11_read 102 = .ok (.iload_n 1, 1) := by decide +kernel
theorem dX11_read_103 : decode cX11_read 103 = .ok (.iload 10, 2) := by decide +kernel
theorem dX11_read_105 : decode cX11_read 105 = .ok (.iload 9, 2) := by decide +kernel
theorem dX11_read_107 : decode cX11_read 107 = .ok (.iload 7, 2) := by decide +kernel
theorem dX11_read_109 : decode cX11_read 109 = .ok (.iadd, 1) := by decide +kernel
theorem dX11_read_110 : decode cX11_read 110 = .ok (.invokevirtual 179, 3) := by decide +kernel
theorem dX11_read_113 : decode cX11_read 113 = .ok (.istore 12, 2) := by decide +kernel
theorem dX11_read_115 : decode cX11_read 115 = .ok (.iload 12, 2) := by decide +kernel
theorem dX11_read_117 : decode cX11_read 117 = .ok (.bipush (-9), 2) := by decide +kernel
theorem dX11_read_119 : decode cX11_read 119 = .ok (.if_icmp .eq 10, 3) := by decide +kernel
theorem dX11_read_122 : decode cX11_read 122 = .ok (.iload 11, 2) := by decide +kernel
theorem dX11_read_124 : decode cX11_read 124 = .ok (.bipush 8, 2) := by decide +kernel
theorem dX11_read_126 : decode cX11_read 126 = .ok (.if_icmp .ne 12, 3) := by decide +kernel
theorem dX11_read_129 : decode cX11_read 129 = .ok (.bipush (-100), 2) := by decide +kernel
theorem dX11_read_131 : decode cX11_read 131 = .ok (.iload 10, 2) := by decide +kernel
theorem dX11_read_133 : decode cX11_read 133 = .ok (.iload 9, 2) := by decide +kernel
theorem dX11_read_135 : decode cX11_read 135 = .ok (.isub, 1) := by decide +kernel
theorem dX11_read_136 : decode cX11_read 136 = .ok (.isub, 1) := by decide +kernel
theorem dX11_read_137 : decode cX11_read 137 = .ok (.ireturn, 1) := by decide +kernel
theorem dX11_read_138 : decode cX11_read 138 = .ok (.aload_n 0, 1) := by decide +kernel
theorem dX11_read_139 : decode cX11_read 139 = .ok (.getfield 55, 3) := by decide +kernel
theorem dX11_read_142 : decode cX11_read 142 = .ok (.iload 11, 2) := by decide +kernel
theorem dX11_read_144 : decode cX11_read 144 = .ok (.aload_n 0, 1) := by decide +kernel
theorem dX11_read_145 : decode cX11_read 145 = .ok (.getfield 28, 3) := by decide +kernel
theorem dX11_read_148 : decode cX11_read 148 = .ok (.iload 12, 2) := by decide +kernel
theorem dX11_read_150 : decode cX11_read 150 = .ok (.iaload, 1) := by decide +kernel
theorem dX11_read_151 : decode cX11_read 151 = .ok (.iastore, 1) := by decide +kernel
theorem dX11_read_152 : decode cX11_read 152 = .ok (.iinc 11 1, 3) := by decide +kernel
theorem dX11_read_155 : decode cX11_read 155 = .ok (.iload 10, 2) := by decide +kernel
theorem dX11_read_157 : decode cX11_read 157 = .ok (.aload_n 0, 1) := by decide +kernel
theorem dX11_read_158 : decode cX11_read 158 = .ok (.getfield 31, 3) := by decide +kernel
theorem dX11_read_161 : decode cX11_read 161 = .ok (.iload 12, 2) := by decide +kernel
theorem dX11_read_163 : decode cX11_read 163 = .ok (.iaload, 1) := by decide +kernel
theorem dX11_read_164 : decode cX11_read 164 = .ok (.iadd, 1) := by decide +kernel
theorem dX11_read_165 : decode cX11_read 165 = .ok (.istore 10, 2) := by decide +kernel
theorem dX11_read_167 : decode cX11_read 167 = .ok (.goto (-76), 3) := by decide +kernel
theorem dX11_read_170 : decode cX11_read 170 = .ok (.aload_n 0, 1) := by decide +kernel
theorem dX11_read_171 : decode cX11_read 171 = .ok (.getfield 170, 3) := by decide +kernel
theorem dX11_read_174 : decode cX11_read 174 = .ok (.bipush 40, 2) := by decide +kernel
theorem dX11_read_176 : decode cX11_read 176 = .ok (.if_icmp .ne 6, 3) := by decide +kernel
theorem dX11_read_179 : decode cX11_read 179 = .ok (.bipush (-4), 2) := by decide +kernel
theorem dX11_read_181 : decode cX11_read 181 = .ok (.ireturn, 1) := by decide +kernel
theorem dX11_read_182 : decode cX11_read 182 = .ok (.iconst 0, 1) := by decide +kernel
theorem dX11_read_183 : decode cX11_read 183 = .ok (.istore 12, 2) := by decide +kernel
theorem dX11_read_185 : decode cX11_read 185 = .ok (.iload 12, 2) := by decide +kernel
theorem dX11_read_187 : decode cX11_read 187 = .ok (.iload 11, 2) := by decide +kernel
theorem dX11_read_189 : decode cX11_read 189 = .ok (.if_icmp .ge 31, 3) := by decide +kernel
theorem dX11_read_192 : decode cX11_read 192 = .ok (.aload_n 0, 1) := by decide +kernel
theorem dX11_read_193 : decode cX11_read 193 = .ok (.getfield 52, 3) := by decide +kernel
theorem dX11_read_196 : decode cX11_read 196 = .ok (.bipush 8, 2) := by decide +kernel
theorem dX11_read_198 : decode cX11_read 198 = .ok (.aload_n 0, 1) := by decide +kernel
theorem dX11_read_199 : decode cX11_read 199 = .ok (.getfield 170, 3) := by decide +kernel
theorem dX11_read_202 : decode cX11_read 202 = .ok (.imul, 1) := by decide +kernel
theorem dX11_read_203 : decode cX11_read 203 = .ok (.iload 12, 2) := by decide +kernel
theorem dX11_read_205 : decode cX11_read 205 = .ok (.iadd, 1) := by decide +kernel
theorem dX11_read_206 : decode cX11_read 206 = .ok (.aload_n 0, 1) := by decide +kernel
theorem dX11_read_207 : decode cX11_read 207 = .ok (.getfield 55, 3) := by decide +kernel
theorem dX11_read_210 : decode cX11_read 210 = .ok (.iload 12, 2) := by decide +kernel
theorem dX11_read_212 : decode cX11_read 212 = .ok (.iaload, 1) := by decide +kernel
theorem dX11_read_213 : decode cX11_read 213 = .ok (.iastore, 1) := by decide +kernel
theorem dX11_read_214 : decode cX11_read 214 = .ok (.iinc 12 1, 3) := by decide +kernel
theorem dX11_read_217 : decode cX11_read 217 = .ok (.goto (-32), 3) := by decide +kernel
theorem dX11_read_220 : decode cX11_read 220 = .ok (.aload_n 0, 1) := by decide +kernel
theorem dX11_read_221 : decode cX11_read 221 = .ok (.iconst 0, 1) := by decide +kernel
theorem dX11_read_222 : decode cX11_read 222 = .ok (.iload_n 2, 1) := by decide +kernel
theorem dX11_read_223 : decode cX11_read 223 = .ok (.iload_n 3, 1) := by decide +kernel
theorem dX11_read_224 : decode cX11_read 224 = .ok (.iload 11, 2) := by decide +kernel
theorem dX11_read_226 : decode cX11_read 226 = .ok (.invokevirtual 176, 3) := by decide +kernel
theorem dX11_read_229 : decode cX11_read 229 = .ok (.ireturn, 1) := by decide +kernel
theorem dX11_ofForm_0 : decode cX11_ofForm 0 = .ok (.aload_n 0, 1) := by decide +kernel
theorem dX11_ofForm_1 : decode cX11_ofForm 1 = .ok (.iload_n 1, 1) := by decide +kernel
theorem dX11_ofForm_2 : decode cX11_ofForm 2 = .ok (.invokevirtual 183, 3) := by decide +kernel
theorem dX11_ofForm_5 : decode cX11_ofForm 5 = .ok (.ifCond .ne 5, 3) := by decide +kernel
theorem dX11_ofForm_8 : decode cX11_ofForm 8 = .ok (.iconst (-1), 1) := by decide +kernel
theorem dX11_ofForm_9 : decode cX11_ofForm 9 = .ok (.ireturn, 1) := by decide +kernel
theorem dX11_ofForm_10 : decode cX11_ofForm 10 = .ok (.iload_n 2, 1) := by decide +kernel
theorem dX11_ofForm_11 : decode cX11_ofForm 11 = .ok (.tableswitch 57 0 3 #[29, 36, 43, 50], 29) := by decide +kernel
theorem dX11_ofForm_40 : decode cX11_ofForm 40 = .ok (.aload_n 0, 1) := by decide +kernel
theorem dX11_ofForm_41 : decode cX11_ofForm 41 = .ok (.getfield 40, 3) := by decide +kernel
theorem dX11_ofForm_44 : decode cX11_ofForm 44 = .ok (.iload_n 1, 1) := by decide +kernel
theorem dX11_ofForm_45 : decode cX11_ofForm 45 = .ok (.iaload, 1) := by decide +kernel
theorem dX11_ofForm_46 : decode cX11_ofForm 46 = .ok (.ireturn, 1) := by decide +kernel
theorem dX11_ofForm_47 : decode cX11_ofForm 47 = .ok (.aload_n 0, 1) := by decide +kernel
theorem dX11_ofForm_48 : decode cX11_ofForm 48 = .ok (.getfield 43, 3) := by decide +kernel
theorem dX11_ofForm_51 : decode cX11_ofForm 51 = .ok (.iload_n 1, 1) := by decide +kernel
theorem dX11_ofForm_52 : decode cX11_ofForm 52 = .ok (.iaload, 1) := by decide +kernel
theorem dX11_ofForm_53 : decode cX11_ofForm 53 = .ok (.ireturn, 1) := by decide +kernel
theorem dX11_ofForm_54 : decode cX11_ofForm 54 = .ok (.aload_n 0, 1) := by decide +kernel
theorem dX11_ofForm_55 : decode cX11_ofForm 55 = .ok (.getfield 46, 3) := by decide +kernel
theorem dX11_ofForm_58 : decode cX11_ofForm 58 = .ok (.iload_n 1, 1) := by decide +kernel
theorem dX11_ofForm_59 : decode cX11_ofForm 59 = .ok (.iaload, 1) := by decide +kernel
theorem dX11_ofForm_60 : decode cX11_ofForm 60 = .ok (.ireturn, 1) := by decide +kernel
theorem dX11_ofForm_61 : decode cX11_ofForm 61 = .ok (.aload_n 0, 1) := by decide +kernel
theorem dX11_ofForm_62 : decode cX11_ofForm 62 = .ok (.getfield 49, 3) := by decide +kernel
theorem dX11_ofForm_65 : decode cX11_ofForm 65 = .ok (.iload_n 1, 1) := by decide +kernel
theorem dX11_ofForm_66 : decode cX11_ofForm 66 = .ok (.iaload, 1) := by decide +kernel
theorem dX11_ofForm_67 : decode cX11_ofForm 67 = .ok (.ireturn, 1) := by decide +kernel
theorem dX11_ofForm_68 : decode cX11_ofForm 68 = .ok (.iload_n 2, 1) := by decide +kernel
theorem dX11_ofForm_69 : decode cX11_ofForm 69 = .ok (.bipush 10, 2) := by decide +kernel
theorem dX11_ofForm_71 : decode cX11_ofForm 71 = .ok (.bipush 9, 2) := by decide +kernel
theorem dX11_ofForm_73 : decode cX11_ofForm 73 = .ok (.aload_n 0, 1) := by decide +kernel
theorem dX11_ofForm_74 : decode cX11_ofForm 74 = .ok (.getfield 49, 3) := by decide +kernel
theorem dX11_ofForm_77 : decode cX11_ofForm 77 = .ok (.iload_n 1, 1) := by decide +kernel
theorem dX11_ofForm_78 : decode cX11_ofForm 78 = .ok (.iaload, 1) := by decide +kernel
theorem dX11_ofForm_79 : decode cX11_ofForm 79 = .ok (.iadd, 1) := by decide +kernel
theorem dX11_ofForm_80 : decode cX11_ofForm 80 = .ok (.invokestatic 124, 3) := by decide +kernel
theorem dX11_ofForm_83 : decode cX11_ofForm 83 = .ok (.ifCond .eq 20, 3) := by decide +kernel
theorem dX11_ofForm_86 : decode cX11_ofForm 86 = .ok (.aload_n 0, 1) := by decide +kernel
theorem dX11_ofForm_87 : decode cX11_ofForm 87 = .ok (.getfield 52, 3) := by decide +kernel
theorem dX11_ofForm_90 : decode cX11_ofForm 90 = .ok (.bipush 8, 2) := by decide +kernel
theorem dX11_ofForm_92 : decode cX11_ofForm 92 = .ok (.iload_n 1, 1) := by decide +kernel
theorem dX11_ofForm_93 : decode cX11_ofForm 93 = .ok (.imul, 1) := by decide +kernel
theorem dX11_ofForm_94 : decode cX11_ofForm 94 = .ok (.iload_n 2, 1) := by decide +kernel
theorem dX11_ofForm_95 : decode cX11_ofForm 95 = .ok (.iadd, 1) := by decide +kernel
theorem dX11_ofForm_96 : decode cX11_ofForm 96 = .ok (.bipush 10, 2) := by decide +kernel
theorem dX11_ofForm_98 : decode cX11_ofForm 98 = .ok (.isub, 1) := by decide +kernel
theorem dX11_ofForm_99 : decode cX11_ofForm 99 = .ok (.iaload, 1) := by decide +kernel
theorem dX11_ofForm_100 : decode cX11_ofForm 100 = .ok (.goto 5, 3) := by decide +kernel
theorem dX11_ofForm_103 : decode cX11_ofForm 103 = .ok (.bipush (-2), 2) := by decide +kernel
theorem dX11_ofForm_105 : decode cX11_ofForm 105 = .ok (.ireturn, 1) := by decide +kernel
theorem dX11_saidAt_0 : decode cX11_saidAt 0 = .ok (.bipush (-9), 2) := by decide +kernel
theorem dX11_saidAt_2 : decode cX11_saidAt 2 = .ok (.istore_n 3, 1) := by decide +kernel
theorem dX11_saidAt_3 : decode cX11_saidAt 3 = .ok (.iconst 0, 1) := by decide +kernel
theorem dX11_saidAt_4 : decode cX11_saidAt 4 = .ok (.istore 4, 2) := by decide +kernel
theorem dX11_saidAt_6 : decode cX11_saidAt 6 = .ok (.iload 4, 2) := by decide +kernel
theorem dX11_saidAt_8 : decode cX11_saidAt 8 = .ok (.aload_n 0, 1) := by decide +kernel
theorem dX11_saidAt_9 : decode cX11_saidAt 9 = .ok (.getfield 170, 3) := by decide +kernel
theorem dX11_saidAt_12 : decode cX11_saidAt 12 = .ok (.if_icmp .ge 38, 3) := by decide +kernel
theorem dX11_saidAt_15 : decode cX11_saidAt 15 = .ok (.aload_n 0, 1) := by decide +kernel
theorem dX11_saidAt_16 : decode cX11_saidAt 16 = .ok (.getfield 43, 3) := by decide +kernel
theorem dX11_saidAt_19 : decode cX11_saidAt 19 = .ok (.iload 4, 2) := by decide +kernel
theorem dX11_saidAt_21 : decode cX11_saidAt 21 = .ok (.iaload, 1) := by decide +kernel
theorem dX11_saidAt_22 : decode cX11_saidAt 22 = .ok (.iload_n 1, 1) := by decide +kernel
theorem dX11_saidAt_23 : decode cX11_saidAt 23 = .ok (.if_icmp .ne 19, 3) := by decide +kernel
theorem dX11_saidAt_26 : decode cX11_saidAt 26 = .ok (.aload_n 0, 1) := by decide +kernel
theorem dX11_saidAt_27 : decode cX11_saidAt 27 = .ok (.getfield 46, 3) := by decide +kernel
theorem dX11_saidAt_30 : decode cX11_saidAt 30 = .ok (.iload 4, 2) := by decide +kernel
theorem dX11_saidAt_32 : decode cX11_saidAt 32 = .ok (.iaload, 1) := by decide +kernel
theorem dX11_saidAt_33 : decode cX11_saidAt 33 = .ok (.iload_n 2, 1) := by decide +kernel
theorem dX11_saidAt_34 : decode cX11_saidAt 34 = .ok (.if_icmp .ne 8, 3) := by decide +kernel
theorem dX11_saidAt_37 : decode cX11_saidAt 37 = .ok (.iload 4, 2) := by decide +kernel
theorem dX11_saidAt_39 : decode cX11_saidAt 39 = .ok (.goto 4, 3) := by decide +kernel
theorem dX11_saidAt_42 : decode cX11_saidAt 42 = .ok (.iload_n 3, 1) := by decide +kernel
theorem dX11_saidAt_43 : decode cX11_saidAt 43 = .ok (.istore_n 3, 1) := by decide +kernel
theorem dX11_saidAt_44 : decode cX11_saidAt 44 = .ok (.iinc 4 1, 3) := by decide +kernel
theorem dX11_saidAt_47 : decode cX11_saidAt 47 = .ok (.goto (-41), 3) := by decide +kernel
theorem dX11_saidAt_50 : decode cX11_saidAt 50 = .ok (.iload_n 3, 1) := by decide +kernel
theorem dX11_saidAt_51 : decode cX11_saidAt 51 = .ok (.ireturn, 1) := by decide +kernel
theorem dX11_said_0 : decode cX11_said 0 = .ok (.aload_n 0, 1) := by decide +kernel
theorem dX11_said_1 : decode cX11_said 1 = .ok (.iload_n 1, 1) := by decide +kernel
theorem dX11_said_2 : decode cX11_said 2 = .ok (.invokevirtual 167, 3) := by decide +kernel
theorem dX11_said_5 : decode cX11_said 5 = .ok (.ifCond .eq 19, 3) := by decide +kernel
theorem dX11_said_8 : decode cX11_said 8 = .ok (.iload_n 2, 1) := by decide +kernel
theorem dX11_said_9 : decode cX11_said 9 = .ok (.invokestatic 173, 3) := by decide +kernel
theorem dX11_said_12 : decode cX11_said 12 = .ok (.ifCond .eq 12, 3) := by decide +kernel
theorem dX11_said_15 : decode cX11_said 15 = .ok (.aload_n 0, 1) := by decide +kernel
theorem dX11_said_16 : decode cX11_said 16 = .ok (.iload_n 1, 1) := by decide +kernel
theorem dX11_said_17 : decode cX11_said 17 = .ok (.iload_n 2, 1) := by decide +kernel
theorem dX11_said_18 : decode cX11_said 18 = .ok (.invokevirtual 186, 3) := by decide +kernel
theorem dX11_said_21 : decode cX11_said 21 = .ok (.goto 4, 3) := by decide +kernel
theorem dX11_said_24 : decode cX11_said 24 = .ok (.iconst (-1), 1) := by decide +kernel
theorem dX11_said_25 : decode cX11_said 25 = .ok (.ireturn, 1) := by decide +kernel
theorem dX11_root_0 : decode cX11_root 0 = .ok (.aload_n 0, 1) := by decide +kernel
theorem dX11_root_1 : decode cX11_root 1 = .ok (.iconst 0, 1) := by decide +kernel
theorem dX11_root_2 : decode cX11_root 2 = .ok (.putfield 119, 3) := by decide +kernel
theorem dX11_root_5 : decode cX11_root 5 = .ok (.iload_n 1, 1) := by decide +kernel
theorem dX11_root_6 : decode cX11_root 6 = .ok (.invokestatic 173, 3) := by decide +kernel
theorem dX11_root_9 : decode cX11_root 9 = .ok (.ifCond .eq 10, 3) := by decide +kernel
theorem dX11_root_12 : decode cX11_root 12 = .ok (.iload_n 2, 1) := by decide +kernel
theorem dX11_root_13 : decode cX11_root 13 = .ok (.invokestatic 143, 3) := by decide +kernel
theorem dX11_root_16 : decode cX11_root 16 = .ok (.ifCond .ne 5, 3) := by decide +kernel
theorem dX11_root_19 : decode cX11_root 19 = .ok (.iconst (-1), 1) := by decide +kernel
theorem dX11_root_20 : decode cX11_root 20 = .ok (.ireturn, 1) := by decide +kernel
theorem dX11_root_21 : decode cX11_root 21 = .ok (.iload_n 3, 1) := by decide +kernel
theorem dX11_root_22 : decode cX11_root 22 = .ok (.invokestatic 146, 3) := by decide +kernel
theorem dX11_root_25 : decode cX11_root 25 = .ok (.ifCond .ne 6, 3) := by decide +kernel
theorem dX11_root_28 : decode cX11_root 28 = .ok (.bipush (-2), 2) := by decide +kernel
theorem dX11_root_30 : decode cX11_root 30 = .ok (.ireturn, 1) := by decide +kernel
theorem dX11_root_31 : decode cX11_root 31 = .ok (.aload_n 0, 1) := by decide +kernel
theorem dX11_root_32 : decode cX11_root 32 = .ok (.iload_n 2, 1) := by decide +kernel
theorem dX11_root_33 : decode cX11_root 33 = .ok (.iload_n 3, 1) := by decide +kernel
theorem dX11_root_34 : decode cX11_root 34 = .ok (.iload 4, 2) := by decide +kernel
theorem dX11_root_36 : decode cX11_root 36 = .ok (.iload 5, 2) := by decide +kernel
theorem dX11_root_38 : decode cX11_root 38 = .ok (.invokevirtual 149, 3) := by decide +kernel
theorem dX11_root_41 : decode cX11_root 41 = .ok (.istore 6, 2) := by decide +kernel
theorem dX11_root_43 : decode cX11_root 43 = .ok (.iload 6, 2) := by decide +kernel
theorem dX11_root_45 : decode cX11_root 45 = .ok (.ifCond .eq 10, 3) := by decide +kernel
theorem dX11_root_48 : decode cX11_root 48 = .ok (.aload_n 0, 1) := by decide +kernel
theorem dX11_root_49 : decode cX11_root 49 = .ok (.iload 6, 2) := by decide +kernel
theorem dX11_root_51 : decode cX11_root 51 = .ok (.invokevirtual 153, 3) := by decide +kernel
theorem dX11_root_54 : decode cX11_root 54 = .ok (.ireturn, 1) := by decide +kernel
theorem dX11_root_55 : decode cX11_root 55 = .ok (.bipush 60, 2) := by decide +kernel
theorem dX11_root_57 : decode cX11_root 57 = .ok (.iload_n 2, 1) := by decide +kernel
theorem dX11_root_58 : decode cX11_root 58 = .ok (.imul, 1) := by decide +kernel
theorem dX11_root_59 : decode cX11_root 59 = .ok (.iload 4, 2) := by decide +kernel
theorem dX11_root_61 : decode cX11_root 61 = .ok (.iadd, 1) := by decide +kernel
theorem dX11_root_62 : decode cX11_root 62 = .ok (.istore 7, 2) := by decide +kernel
theorem dX11_root_64 : decode cX11_root 64 = .ok (.iload 5, 2) := by decide +kernel
theorem dX11_root_66 : decode cX11_root 66 = .ok (.bipush 8, 2) := by decide +kernel
theorem dX11_root_68 : decode cX11_root 68 = .ok (.if_icmp .le 6, 3) := by decide +kernel
theorem dX11_root_71 : decode cX11_root 71 = .ok (.bipush (-2), 2) := by decide +kernel
theorem dX11_root_73 : decode cX11_root 73 = .ok (.ireturn, 1) := by decide +kernel
theorem dX11_root_74 : decode cX11_root 74 = .ok (.aload_n 0, 1) := by decide +kernel
theorem dX11_root_75 : decode cX11_root 75 = .ok (.iload 7, 2) := by decide +kernel
theorem dX11_root_77 : decode cX11_root 77 = .ok (.iload 5, 2) := by decide +kernel
theorem dX11_root_79 : decode cX11_root 79 = .ok (.iconst 0, 1) := by decide +kernel
theorem dX11_root_80 : decode cX11_root 80 = .ok (.bipush 15, 2) := by decide +kernel
theorem dX11_root_82 : decode cX11_root 82 = .ok (.invokevirtual 157, 3) := by decide +kernel
theorem dX11_root_85 : decode cX11_root 85 = .ok (.ifCond .ne 5, 3) := by decide +kernel
theorem dX11_root_88 : decode cX11_root 88 = .ok (.iconst (-1), 1) := by decide +kernel
theorem dX11_root_89 : decode cX11_root 89 = .ok (.ireturn, 1) := by decide +kernel
theorem dX11_root_90 : decode cX11_root 90 = .ok (.aload_n 0, 1) := by decide +kernel
theorem dX11_root_91 : decode cX11_root 91 = .ok (.getfield 58, 3) := by decide +kernel
theorem dX11_root_94 : decode cX11_root 94 = .ok (.iload_n 1, 1) := by decide +kernel
theorem dX11_root_95 : decode cX11_root 95 = .ok (.iload 5, 2) := by decide +kernel
theorem dX11_root_97 : decode cX11_root 97 = .ok (.iastore, 1) := by decide +kernel
theorem dX11_root_98 : decode cX11_root 98 = .ok (.iconst 0, 1) := by decide +kernel
theorem dX11_root_99 : decode cX11_root 99 = .ok (.istore 8, 2) := by decide +kernel
theorem dX11_root_101 : decode cX11_root 101 = .ok (.iload 8, 2) := by decide +kernel
theorem dX11_root_103 : decode cX11_root 103 = .ok (.iload 5, 2) := by decide +kernel
theorem dX11_root_105 : decode cX11_root 105 = .ok (.if_icmp .ge 31, 3) := by decide +kernel
theorem dX11_root_108 : decode cX11_root 108 = .ok (.aload_n 0, 1) := by decide +kernel
theorem dX11_root_109 : decode cX11_root 109 = .ok (.getfield 61, 3) := by decide +kernel
theorem dX11_root_112 : decode cX11_root 112 = .ok (.bipush 8, 2) := by decide +kernel
theorem dX11_root_114 : decode cX11_root 114 = .ok (.iload_n 1, 1) := by decide +kernel
theorem dX11_root_115 : decode cX11_root 115 = .ok (.imul, 1) := by decide +kernel
theorem dX11_root_116 : decode cX11_root 116 = .ok (.iload 8, 2) := by decide +kernel
theorem dX11_root_118 : decode cX11_root 118 = .ok (.iadd, 1) := by decide +kernel
theorem dX11_root_119 : decode cX11_root 119 = .ok (.aload_n 0, 1) := by decide +kernel
theorem dX11_root_120 : decode cX11_root 120 = .ok (.getfield 16, 3) := by decide +kernel
theorem dX11_root_123 : decode cX11_root 123 = .ok (.iload 7, 2) := by decide +kernel
theorem dX11_root_125 : decode cX11_root 125 = .ok (.iload 8, 2) := by decide +kernel
theorem dX11_root_127 : decode cX11_root 127 = .ok (.iadd, 1) := by decide +kernel
theorem dX11_root_128 : decode cX11_root 128 = .ok (.iaload, 1) := by decide +kernel
theorem dX11_root_129 : decode cX11_root 129 = .ok (.iastore, 1) := by decide +kernel
theorem dX11_root_130 : decode cX11_root 130 = .ok (.iinc 8 1, 3) := by decide +kernel
theorem dX11_root_133 : decode cX11_root 133 = .ok (.goto (-32), 3) := by decide +kernel
theorem dX11_root_136 : decode cX11_root 136 = .ok (.iload 5, 2) := by decide +kernel
theorem dX11_root_138 : decode cX11_root 138 = .ok (.ireturn, 1) := by decide +kernel
theorem dX11_ofRoot_0 : decode cX11_ofRoot 0 = .ok (.iload_n 1, 1) := by decide +kernel
theorem dX11_ofRoot_1 : decode cX11_ofRoot 1 = .ok (.invokestatic 173, 3) := by decide +kernel
theorem dX11_ofRoot_4 : decode cX11_ofRoot 4 = .ok (.ifCond .eq 13, 3) := by decide +kernel
theorem dX11_ofRoot_7 : decode cX11_ofRoot 7 = .ok (.iload_n 2, 1) := by decide +kernel
theorem dX11_ofRoot_8 : decode cX11_ofRoot 8 = .ok (.iconst (-1), 1) := by decide +kernel
theorem dX11_ofRoot_9 : decode cX11_ofRoot 9 = .ok (.bipush 7, 2) := by decide +kernel
theorem dX11_ofRoot_11 : decode cX11_ofRoot 11 = .ok (.invokestatic 124, 3) := by decide +kernel
theorem dX11_ofRoot_14 : decode cX11_ofRoot 14 = .ok (.ifCond .ne 5, 3) := by decide +kernel
theorem dX11_ofRoot_17 : decode cX11_ofRoot 17 = .ok (.iconst (-1), 1) := by decide +kernel
theorem dX11_ofRoot_18 : decode cX11_ofRoot 18 = .ok (.ireturn, 1) := by decide +kernel
theorem dX11_ofRoot_19 : decode cX11_ofRoot 19 = .ok (.iload_n 2, 1) := by decide +kernel
theorem dX11_ofRoot_20 : decode cX11_ofRoot 20 = .ok (.iconst (-1), 1) := by decide +kernel
theorem dX11_ofRoot_21 : decode cX11_ofRoot 21 = .ok (.if_icmp .ne 12, 3) := by decide +kernel
theorem dX11_ofRoot_24 : decode cX11_ofRoot 24 = .ok (.aload_n 0, 1) := by decide +kernel
theorem dX11_ofRoot_25 : decode cX11_ofRoot 25 = .ok (.getfield 58, 3) := by decide +kernel
theorem dX11_ofRoot_28 : decode cX11_ofRoot 28 = .ok (.iload_n 1, 1) := by decide +kernel
theorem dX11_ofRoot_29 : decode cX11_ofRoot 29 = .ok (.iaload, 1) := by decide +kernel
theorem dX11_ofRoot_30 : decode cX11_ofRoot 30 = .ok (.goto 29, 3) := by decide +kernel
theorem dX11_ofRoot_33 : decode cX11_ofRoot 33 = .ok (.iload_n 2, 1) := by decide +kernel
theorem dX11_ofRoot_34 : decode cX11_ofRoot 34 = .ok (.aload_n 0, 1) := by decide +kernel
theorem dX11_ofRoot_35 : decode cX11_ofRoot 35 = .ok (.getfield 58, 3) := by decide +kernel
theorem dX11_ofRoot_38 : decode cX11_ofRoot 38 = .ok (.iload_n 1, 1) := by decide +kernel
theorem dX11_ofRoot_39 : decode cX11_ofRoot 39 = .ok (.iaload, 1) := by decide +kernel
theorem dX11_ofRoot_40 : decode cX11_ofRoot 40 = .ok (.if_icmp .ge 17, 3) := by decide +kernel
theorem dX11_ofRoot_43 : decode cX11_ofRoot 43 = .ok (.aload_n 0, 1) := by decide +kernel
theorem dX11_ofRoot_44 : decode cX11_ofRoot 44 = .ok (.getfield 61, 3) := by decide +kernel
theorem dX11_ofRoot_47 : decode cX11_ofRoot 47 = .ok (.bipush 8, 2) := by decide +kernel
theorem dX11_ofRoot_49 : decode cX11_ofRoot 49 = .ok (.iload_n 1, 1) := by decide +kernel
theorem dX11_ofRoot_50 : decode cX11_ofRoot 50 = .ok (.imul, 1) := by decide +kernel
theorem dX11_ofRoot_51 : decode cX11_ofRoot 51 = .ok (.iload_n 2, 1) := by decide +kernel
theorem dX11_ofRoot_52 : decode cX11_ofRoot 52 = .ok (.iadd, 1) := by decide +kernel
theorem dX11_ofRoot_53 : decode cX11_ofRoot 53 = .ok (.iaload, 1) := by decide +kernel
theorem dX11_ofRoot_54 : decode cX11_ofRoot 54 = .ok (.goto 5, 3) := by decide +kernel
theorem dX11_ofRoot_57 : decode cX11_ofRoot 57 = .ok (.bipush (-9), 2) := by decide +kernel
theorem dX11_ofRoot_59 : decode cX11_ofRoot 59 = .ok (.ireturn, 1) := by decide +kernel
theorem dX11_codeAt_0 : decode cX11_codeAt 0 = .ok (.aload_n 0, 1) := by decide +kernel
theorem dX11_codeAt_1 : decode cX11_codeAt 1 = .ok (.getfield 189, 3) := by decide +kernel
theorem dX11_codeAt_4 : decode cX11_codeAt 4 = .ok (.aload_n 0, 1) := by decide +kernel
theorem dX11_codeAt_5 : decode cX11_codeAt 5 = .ok (.getfield 192, 3) := by decide +kernel
theorem dX11_codeAt_8 : decode cX11_codeAt 8 = .ok (.if_icmp .ge 15, 3) := by decide +kernel
theorem dX11_codeAt_11 : decode cX11_codeAt 11 = .ok (.aload_n 0, 1) := by decide +kernel
theorem dX11_codeAt_12 : decode cX11_codeAt 12 = .ok (.getfield 16, 3) := by decide +kernel
theorem dX11_codeAt_15 : decode cX11_codeAt 15 = .ok (.aload_n 0, 1) := by decide +kernel
theorem dX11_codeAt_16 : decode cX11_codeAt 16 = .ok (.getfield 189, 3) := by decide +kernel
theorem dX11_codeAt_19 : decode cX11_codeAt 19 = .ok (.iaload, 1) := by decide +kernel
theorem dX11_codeAt_20 : decode cX11_codeAt 20 = .ok (.goto 5, 3) := by decide +kernel
theorem dX11_codeAt_23 : decode cX11_codeAt 23 = .ok (.bipush (-9), 2) := by decide +kernel
theorem dX11_codeAt_25 : decode cX11_codeAt 25 = .ok (.ireturn, 1) := by decide +kernel
theorem dX11_readsTarget_0 : decode cX11_readsTarget 0 = .ok (.aload_n 0, 1) := by decide +kernel
theorem dX11_readsTarget_1 : decode cX11_readsTarget 1 = .ok (.invokevirtual 195, 3) := by decide +kernel
theorem dX11_readsTarget_4 : decode cX11_readsTarget 4 = .ok (.istore_n 1, 1) := by decide +kernel
theorem dX11_readsTarget_5 : decode cX11_readsTarget 5 = .ok (.iload_n 1, 1) := by decide +kernel
theorem dX11_readsTarget_6 : decode cX11_readsTarget 6 = .ok (.bipush 97, 2) := by decide +kernel
theorem dX11_readsTarget_8 : decode cX11_readsTarget 8 = .ok (.bipush 112, 2) := by decide +kernel
theorem dX11_readsTarget_10 : decode cX11_readsTarget 10 = .ok (.invokestatic 124, 3) := by decide +kernel
theorem dX11_readsTarget_13 : decode cX11_readsTarget 13 = .ok (.ifCond .eq 18, 3) := by decide +kernel
theorem dX11_readsTarget_16 : decode cX11_readsTarget 16 = .ok (.aload_n 0, 1) := by decide +kernel
theorem dX11_readsTarget_17 : decode cX11_readsTarget 17 = .ok (.dup, 1) := by decide +kernel
theorem dX11_readsTarget_18 : decode cX11_readsTarget 18 = .ok (.getfield 189, 3) := by decide +kernel
theorem dX11_readsTarget_21 : decode cX11_readsTarget 21 = .ok (.iconst 1, 1) := by decide +kernel
theorem dX11_readsTarget_22 : decode cX11_readsTarget 22 = .ok (.iadd, 1) := by decide +kernel
theorem dX11_readsTarget_23 : decode cX11_readsTarget 23 = .ok (.putfield 189, 3) := by decide +kernel
theorem dX11_readsTarget_26 : decode cX11_readsTarget 26 = .ok (.iload_n 1, 1) := by decide +kernel
theorem dX11_readsTarget_27 : decode cX11_readsTarget 27 = .ok (.bipush 97, 2) := by decide +kernel
theorem dX11_readsTarget_29 : decode cX11_readsTarget 29 = .ok (.isub, 1) := by decide +kernel
theorem dX11_readsTarget_30 : decode cX11_readsTarget 30 = .ok (.ireturn, 1) := by decide +kernel
theorem dX11_readsTarget_31 : decode cX11_readsTarget 31 = .ok (.iload_n 1, 1) := by decide +kernel
theorem dX11_readsTarget_32 : decode cX11_readsTarget 32 = .ok (.bipush 43, 2) := by decide +kernel
theorem dX11_readsTarget_34 : decode cX11_readsTarget 34 = .ok (.if_icmp .eq 12, 3) := by decide +kernel
theorem dX11_readsTarget_37 : decode cX11_readsTarget 37 = .ok (.iload_n 1, 1) := by decide +kernel
theorem dX11_readsTarget_38 : decode cX11_readsTarget 38 = .ok (.bipush 45, 2) := by decide +kernel
theorem dX11_readsTarget_40 : decode cX11_readsTarget 40 = .ok (.if_icmp .eq 6, 3) := by decide +kernel
theorem dX11_readsTarget_43 : decode cX11_readsTarget 43 = .ok (.bipush (-9), 2) := by decide +kernel
theorem dX11_readsTarget_45 : decode cX11_readsTarget 45 = .ok (.ireturn, 1) := by decide +kernel
theorem dX11_readsTarget_46 : decode cX11_readsTarget 46 = .ok (.aload_n 0, 1) := by decide +kernel
theorem dX11_readsTarget_47 : decode cX11_readsTarget 47 = .ok (.dup, 1) := by decide +kernel
theorem dX11_readsTarget_48 : decode cX11_readsTarget 48 = .ok (.getfield 189, 3) := by decide +kernel
theorem dX11_readsTarget_51 : decode cX11_readsTarget 51 = .ok (.iconst 1, 1) := by decide +kernel
theorem dX11_readsTarget_52 : decode cX11_readsTarget 52 = .ok (.iadd, 1) := by decide +kernel
theorem dX11_readsTarget_53 : decode cX11_readsTarget 53 = .ok (.putfield 189, 3) := by decide +kernel
theorem dX11_readsTarget_56 : decode cX11_readsTarget 56 = .ok (.aload_n 0, 1) := by decide +kernel
theorem dX11_readsTarget_57 : decode cX11_readsTarget 57 = .ok (.invokevirtual 195, 3) := by decide +kernel
theorem dX11_readsTarget_60 : decode cX11_readsTarget 60 = .ok (.istore_n 2, 1) := by decide +kernel
theorem dX11_readsTarget_61 : decode cX11_readsTarget 61 = .ok (.iload_n 2, 1) := by decide +kernel
theorem dX11_readsTarget_62 : decode cX11_readsTarget 62 = .ok (.bipush 48, 2) := by decide +kernel
theorem dX11_readsTarget_64 : decode cX11_readsTarget 64 = .ok (.bipush 53, 2) := by decide +kernel
theorem dX11_readsTarget_66 : decode cX11_readsTarget 66 = .ok (.invokestatic 124, 3) := by decide +kernel
theorem dX11_readsTarget_69 : decode cX11_readsTarget 69 = .ok (.ifCond .ne 6, 3) := by decide +kernel
theorem dX11_readsTarget_72 : decode cX11_readsTarget 72 = .ok (.bipush (-9), 2) := by decide +kernel
theorem dX11_readsTarget_74 : decode cX11_readsTarget 74 = .ok (.ireturn, 1) := by decide +kernel
theorem dX11_readsTarget_75 : decode cX11_readsTarget 75 = .ok (.aload_n 0, 1) := by decide +kernel
theorem dX11_readsTarget_76 : decode cX11_readsTarget 76 = .ok (.dup, 1) := by decide +kernel
theorem dX11_readsTarget_77 : decode cX11_readsTarget 77 = .ok (.getfield 189, 3) := by decide +kernel
theorem dX11_readsTarget_80 : decode cX11_readsTarget 80 = .ok (.iconst 1, 1) := by decide +kernel
theorem dX11_readsTarget_81 : decode cX11_readsTarget 81 = .ok (.iadd, 1) := by decide +kernel
theorem dX11_readsTarget_82 : decode cX11_readsTarget 82 = .ok (.putfield 189, 3) := by decide +kernel
theorem dX11_readsTarget_85 : decode cX11_readsTarget 85 = .ok (.iload_n 1, 1) := by decide +kernel
theorem dX11_readsTarget_86 : decode cX11_readsTarget 86 = .ok (.bipush 43, 2) := by decide +kernel
theorem dX11_readsTarget_88 : decode cX11_readsTarget 88 = .ok (.if_icmp .ne 8, 3) := by decide +kernel
theorem dX11_readsTarget_91 : decode cX11_readsTarget 91 = .ok (.bipush 16, 2) := by decide +kernel
theorem dX11_readsTarget_93 : decode cX11_readsTarget 93 = .ok (.goto 5, 3) := by decide +kernel
theorem dX11_readsTarget_96 : decode cX11_readsTarget 96 = .ok (.bipush 24, 2) := by decide +kernel
theorem dX11_readsTarget_98 : decode cX11_readsTarget 98 = .ok (.iload_n 2, 1) := by decide +kernel
theorem dX11_readsTarget_99 : decode cX11_readsTarget 99 = .ok (.iadd, 1) := by decide +kernel
theorem dX11_readsTarget_100 : decode cX11_readsTarget 100 = .ok (.bipush 48, 2) := by decide +kernel
theorem dX11_readsTarget_102 : decode cX11_readsTarget 102 = .ok (.isub, 1) := by decide +kernel
theorem dX11_readsTarget_103 : decode cX11_readsTarget 103 = .ok (.ireturn, 1) := by decide +kernel
theorem dX11_readsSide_0 : decode cX11_readsSide 0 = .ok (.aload_n 0, 1) := by decide +kernel
theorem dX11_readsSide_1 : decode cX11_readsSide 1 = .ok (.invokevirtual 195, 3) := by decide +kernel
theorem dX11_readsSide_4 : decode cX11_readsSide 4 = .ok (.iload_n 1, 1) := by decide +kernel
theorem dX11_readsSide_5 : decode cX11_readsSide 5 = .ok (.if_icmp .ne 6, 3) := by decide +kernel
theorem dX11_readsSide_8 : decode cX11_readsSide 8 = .ok (.bipush 40, 2) := by decide +kernel
theorem dX11_readsSide_10 : decode cX11_readsSide 10 = .ok (.ireturn, 1) := by decide +kernel
theorem dX11_readsSide_11 : decode cX11_readsSide 11 = .ok (.aload_n 0, 1) := by decide +kernel
theorem dX11_readsSide_12 : decode cX11_readsSide 12 = .ok (.invokevirtual 195, 3) := by decide +kernel
theorem dX11_readsSide_15 : decode cX11_readsSide 15 = .ok (.bipush 35, 2) := by decide +kernel
theorem dX11_readsSide_17 : decode cX11_readsSide 17 = .ok (.if_icmp .ne 16, 3) := by decide +kernel
theorem dX11_readsSide_20 : decode cX11_readsSide 20 = .ok (.aload_n 0, 1) := by decide +kernel
theorem dX11_readsSide_21 : decode cX11_readsSide 21 = .ok (.dup, 1) := by decide +kernel
theorem dX11_readsSide_22 : decode cX11_readsSide 22 = .ok (.getfield 189, 3) := by decide +kernel
theorem dX11_readsSide_25 : decode cX11_readsSide 25 = .ok (.iconst 1, 1) := by decide +kernel
theorem dX11_readsSide_26 : decode cX11_readsSide 26 = .ok (.iadd, 1) := by decide +kernel
theorem dX11_readsSide_27 : decode cX11_readsSide 27 = .ok (.putfield 189, 3) := by decide +kernel
theorem dX11_readsSide_30 : decode cX11_readsSide 30 = .ok (.bipush 41, 2) := by decide +kernel
theorem dX11_readsSide_32 : decode cX11_readsSide 32 = .ok (.ireturn, 1) := by decide +kernel
theorem dX11_readsSide_33 : decode cX11_readsSide 33 = .ok (.aload_n 0, 1) := by decide +kernel
theorem dX11_readsSide_34 : decode cX11_readsSide 34 = .ok (.invokevirtual 199, 3) := by decide +kernel
theorem dX11_readsSide_37 : decode cX11_readsSide 37 = .ok (.ireturn, 1) := by decide +kernel
theorem dX11_readsLaw_0 : decode cX11_readsLaw 0 = .ok (.aload_n 1, 1) := by decide +kernel
theorem dX11_readsLaw_1 : decode cX11_readsLaw 1 = .ok (.iconst 0, 1) := by decide +kernel
theorem dX11_readsLaw_2 : decode cX11_readsLaw 2 = .ok (.aload_n 0, 1) := by decide +kernel
theorem dX11_readsLaw_3 : decode cX11_readsLaw 3 = .ok (.invokevirtual 199, 3) := by decide +kernel
theorem dX11_readsLaw_6 : decode cX11_readsLaw 6 = .ok (.iastore, 1) := by decide +kernel
theorem dX11_readsLaw_7 : decode cX11_readsLaw 7 = .ok (.aload_n 1, 1) := by decide +kernel
theorem dX11_readsLaw_8 : decode cX11_readsLaw 8 = .ok (.iconst 0, 1) := by decide +kernel
theorem dX11_readsLaw_9 : decode cX11_readsLaw 9 = .ok (.iaload, 1) := by decide +kernel
theorem dX11_readsLaw_10 : decode cX11_readsLaw 10 = .ok (.bipush (-9), 2) := by decide +kernel
theorem dX11_readsLaw_12 : decode cX11_readsLaw 12 = .ok (.if_icmp .eq 12, 3) := by decide +kernel
theorem dX11_readsLaw_15 : decode cX11_readsLaw 15 = .ok (.aload_n 0, 1) := by decide +kernel
theorem dX11_readsLaw_16 : decode cX11_readsLaw 16 = .ok (.invokevirtual 195, 3) := by decide +kernel
theorem dX11_readsLaw_19 : decode cX11_readsLaw 19 = .ok (.bipush 62, 2) := by decide +kernel
theorem dX11_readsLaw_21 : decode cX11_readsLaw 21 = .ok (.if_icmp .eq 5, 3) := by decide +kernel
theorem dX11_readsLaw_24 : decode cX11_readsLaw 24 = .ok (.iconst 0, 1) := by decide +kernel
theorem dX11_readsLaw_25 : decode cX11_readsLaw 25 = .ok (.ireturn, 1) := by decide +kernel
theorem dX11_readsLaw_26 : decode cX11_readsLaw 26 = .ok (.aload_n 0, 1) := by decide +kernel
theorem dX11_readsLaw_27 : decode cX11_readsLaw 27 = .ok (.dup, 1) := by decide +kernel
theorem dX11_readsLaw_28 : decode cX11_readsLaw 28 = .ok (.getfield 189, 3) := by decide +kernel
theorem dX11_readsLaw_31 : decode cX11_readsLaw 31 = .ok (.iconst 1, 1) := by decide +kernel
theorem dX11_readsLaw_32 : decode cX11_readsLaw 32 = .ok (.iadd, 1) := by decide +kernel
theorem dX11_readsLaw_33 : decode cX11_readsLaw 33 = .ok (.putfield 189, 3) := by decide +kernel
theorem dX11_readsLaw_36 : decode cX11_readsLaw 36 = .ok (.aload_n 0, 1) := by decide +kernel
theorem dX11_readsLaw_37 : decode cX11_readsLaw 37 = .ok (.invokevirtual 195, 3) := by decide +kernel
theorem dX11_readsLaw_40 : decode cX11_readsLaw 40 = .ok (.istore_n 2, 1) := by decide +kernel
theorem dX11_readsLaw_41 : decode cX11_readsLaw 41 = .ok (.iload_n 2, 1) := by decide +kernel
theorem dX11_readsLaw_42 : decode cX11_readsLaw 42 = .ok (.bipush 48, 2) := by decide +kernel
theorem dX11_readsLaw_44 : decode cX11_readsLaw 44 = .ok (.if_icmp .eq 16, 3) := by decide +kernel
theorem dX11_readsLaw_47 : decode cX11_readsLaw 47 = .ok (.iload_n 2, 1) := by decide +kernel
theorem dX11_readsLaw_48 : decode cX11_readsLaw 48 = .ok (.bipush 97, 2) := by decide +kernel
theorem dX11_readsLaw_50 : decode cX11_readsLaw 50 = .ok (.bipush 112, 2) := by decide +kernel
theorem dX11_readsLaw_52 : decode cX11_readsLaw 52 = .ok (.invokestatic 124, 3) := by decide +kernel
theorem dX11_readsLaw_55 : decode cX11_readsLaw 55 = .ok (.ifCond .ne 5, 3) := by decide +kernel
theorem dX11_readsLaw_58 : decode cX11_readsLaw 58 = .ok (.iconst 0, 1) := by decide +kernel
theorem dX11_readsLaw_59 : decode cX11_readsLaw 59 = .ok (.ireturn, 1) := by decide +kernel
theorem dX11_readsLaw_60 : decode cX11_readsLaw 60 = .ok (.aload_n 1, 1) := by decide +kernel
theorem dX11_readsLaw_61 : decode cX11_readsLaw 61 = .ok (.iconst 1, 1) := by decide +kernel
theorem dX11_readsLaw_62 : decode cX11_readsLaw 62 = .ok (.iload_n 2, 1) := by decide +kernel
theorem dX11_readsLaw_63 : decode cX11_readsLaw 63 = .ok (.bipush 48, 2) := by decide +kernel
theorem dX11_readsLaw_65 : decode cX11_readsLaw 65 = .ok (.if_icmp .ne 8, 3) := by decide +kernel
theorem dX11_readsLaw_68 : decode cX11_readsLaw 68 = .ok (.bipush 42, 2) := by decide +kernel
theorem dX11_readsLaw_70 : decode cX11_readsLaw 70 = .ok (.goto 7, 3) := by decide +kernel
theorem dX11_readsLaw_73 : decode cX11_readsLaw 73 = .ok (.iload_n 2, 1) := by decide +kernel
theorem dX11_readsLaw_74 : decode cX11_readsLaw 74 = .ok (.bipush 97, 2) := by decide +kernel
theorem dX11_readsLaw_76 : decode cX11_readsLaw 76 = .ok (.isub, 1) := by decide +kernel
theorem dX11_readsLaw_77 : decode cX11_readsLaw 77 = .ok (.iastore, 1) := by decide +kernel
theorem dX11_readsLaw_78 : decode cX11_readsLaw 78 = .ok (.aload_n 1, 1) := by decide +kernel
theorem dX11_readsLaw_79 : decode cX11_readsLaw 79 = .ok (.iconst 2, 1) := by decide +kernel
theorem dX11_readsLaw_80 : decode cX11_readsLaw 80 = .ok (.bipush 40, 2) := by decide +kernel
theorem dX11_readsLaw_82 : decode cX11_readsLaw 82 = .ok (.iastore, 1) := by decide +kernel
theorem dX11_readsLaw_83 : decode cX11_readsLaw 83 = .ok (.aload_n 1, 1) := by decide +kernel
theorem dX11_readsLaw_84 : decode cX11_readsLaw 84 = .ok (.iconst 3, 1) := by decide +kernel
theorem dX11_readsLaw_85 : decode cX11_readsLaw 85 = .ok (.bipush 40, 2) := by decide +kernel
theorem dX11_readsLaw_87 : decode cX11_readsLaw 87 = .ok (.iastore, 1) := by decide +kernel
theorem dX11_readsLaw_88 : decode cX11_readsLaw 88 = .ok (.aload_n 0, 1) := by decide +kernel
theorem dX11_readsLaw_89 : decode cX11_readsLaw 89 = .ok (.dup, 1) := by decide +kernel
theorem dX11_readsLaw_90 : decode cX11_readsLaw 90 = .ok (.getfield 189, 3) := by decide +kernel
theorem dX11_readsLaw_93 : decode cX11_readsLaw 93 = .ok (.iconst 1, 1) := by decide +kernel
theorem dX11_readsLaw_94 : decode cX11_readsLaw 94 = .ok (.iadd, 1) := by decide +kernel
theorem dX11_readsLaw_95 : decode cX11_readsLaw 95 = .ok (.putfield 189, 3) := by decide +kernel
theorem dX11_readsLaw_98 : decode cX11_readsLaw 98 = .ok (.aload_n 0, 1) := by decide +kernel
theorem dX11_readsLaw_99 : decode cX11_readsLaw 99 = .ok (.getfield 189, 3) := by decide +kernel
theorem dX11_readsLaw_102 : decode cX11_readsLaw 102 = .ok (.aload_n 0, 1) := by decide +kernel
theorem dX11_readsLaw_103 : decode cX11_readsLaw 103 = .ok (.getfield 192, 3) := by decide +kernel
theorem dX11_readsLaw_106 : decode cX11_readsLaw 106 = .ok (.if_icmp .ne 5, 3) := by decide +kernel
theorem dX11_readsLaw_109 : decode cX11_readsLaw 109 = .ok (.iconst 1, 1) := by decide +kernel
theorem dX11_readsLaw_110 : decode cX11_readsLaw 110 = .ok (.ireturn, 1) := by decide +kernel
theorem dX11_readsLaw_111 : decode cX11_readsLaw 111 = .ok (.aload_n 0, 1) := by decide +kernel
theorem dX11_readsLaw_112 : decode cX11_readsLaw 112 = .ok (.invokevirtual 195, 3) := by decide +kernel
theorem dX11_readsLaw_115 : decode cX11_readsLaw 115 = .ok (.bipush 47, 2) := by decide +kernel
theorem dX11_readsLaw_117 : decode cX11_readsLaw 117 = .ok (.if_icmp .eq 5, 3) := by decide +kernel
theorem dX11_readsLaw_120 : decode cX11_readsLaw 120 = .ok (.iconst 0, 1) := by decide +kernel
theorem dX11_readsLaw_121 : decode cX11_readsLaw 121 = .ok (.ireturn, 1) := by decide +kernel
theorem dX11_readsLaw_122 : decode cX11_readsLaw 122 = .ok (.aload_n 0, 1) := by decide +kernel
theorem dX11_readsLaw_123 : decode cX11_readsLaw 123 = .ok (.dup, 1) := by decide +kernel
theorem dX11_readsLaw_124 : decode cX11_readsLaw 124 = .ok (.getfield 189, 3) := by decide +kernel
theorem dX11_readsLaw_127 : decode cX11_readsLaw 127 = .ok (.iconst 1, 1) := by decide +kernel
theorem dX11_readsLaw_128 : decode cX11_readsLaw 128 = .ok (.iadd, 1) := by decide +kernel
theorem dX11_readsLaw_129 : decode cX11_readsLaw 129 = .ok (.putfield 189, 3) := by decide +kernel
theorem dX11_readsLaw_132 : decode cX11_readsLaw 132 = .ok (.aload_n 1, 1) := by decide +kernel
theorem dX11_readsLaw_133 : decode cX11_readsLaw 133 = .ok (.iconst 2, 1) := by decide +kernel
theorem dX11_readsLaw_134 : decode cX11_readsLaw 134 = .ok (.aload_n 0, 1) := by decide +kernel
theorem dX11_readsLaw_135 : decode cX11_readsLaw 135 = .ok (.bipush 95, 2) := by decide +kernel
theorem dX11_readsLaw_137 : decode cX11_readsLaw 137 = .ok (.invokevirtual 202, 3) := by decide +kernel
theorem dX11_readsLaw_140 : decode cX11_readsLaw 140 = .ok (.iastore, 1) := by decide +kernel
theorem dX11_readsLaw_141 : decode cX11_readsLaw 141 = .ok (.aload_n 1, 1) := by decide +kernel
theorem dX11_readsLaw_142 : decode cX11_readsLaw 142 = .ok (.iconst 2, 1) := by decide +kernel
theorem dX11_readsLaw_143 : decode cX11_readsLaw 143 = .ok (.iaload, 1) := by decide +kernel
theorem dX11_readsLaw_144 : decode cX11_readsLaw 144 = .ok (.bipush (-9), 2) := by decide +kernel
theorem dX11_readsLaw_146 : decode cX11_readsLaw 146 = .ok (.if_icmp .eq 12, 3) := by decide +kernel
theorem dX11_readsLaw_149 : decode cX11_readsLaw 149 = .ok (.aload_n 0, 1) := by decide +kernel
theorem dX11_readsLaw_150 : decode cX11_readsLaw 150 = .ok (.invokevirtual 195, 3) := by decide +kernel
theorem dX11_readsLaw_153 : decode cX11_readsLaw 153 = .ok (.bipush 95, 2) := by decide +kernel
theorem dX11_readsLaw_155 : decode cX11_readsLaw 155 = .ok (.if_icmp .eq 5, 3) := by decide +kernel
theorem dX11_readsLaw_158 : decode cX11_readsLaw 158 = .ok (.iconst 0, 1) := by decide +kernel
theorem dX11_readsLaw_159 : decode cX11_readsLaw 159 = .ok (.ireturn, 1) := by decide +kernel
theorem dX11_readsLaw_160 : decode cX11_readsLaw 160 = .ok (.aload_n 0, 1) := by decide +kernel
theorem dX11_readsLaw_161 : decode cX11_readsLaw 161 = .ok (.dup, 1) := by decide +kernel
theorem dX11_readsLaw_162 : decode cX11_readsLaw 162 = .ok (.getfield 189, 3) := by decide +kernel
theorem dX11_readsLaw_165 : decode cX11_readsLaw 165 = .ok (.iconst 1, 1) := by decide +kernel
theorem dX11_readsLaw_166 : decode cX11_readsLaw 166 = .ok (.iadd, 1) := by decide +kernel
theorem dX11_readsLaw_167 : decode cX11_readsLaw 167 = .ok (.putfield 189, 3) := by decide +kernel
theorem dX11_readsLaw_170 : decode cX11_readsLaw 170 = .ok (.aload_n 1, 1) := by decide +kernel
theorem dX11_readsLaw_171 : decode cX11_readsLaw 171 = .ok (.iconst 3, 1) := by decide +kernel
theorem dX11_readsLaw_172 : decode cX11_readsLaw 172 = .ok (.aload_n 0, 1) := by decide +kernel
theorem dX11_readsLaw_173 : decode cX11_readsLaw 173 = .ok (.bipush (-9), 2) := by decide +kernel
theorem dX11_readsLaw_175 : decode cX11_readsLaw 175 = .ok (.invokevirtual 202, 3) := by decide +kernel
theorem dX11_readsLaw_178 : decode cX11_readsLaw 178 = .ok (.iastore, 1) := by decide +kernel
theorem dX11_readsLaw_179 : decode cX11_readsLaw 179 = .ok (.aload_n 1, 1) := by decide +kernel
theorem dX11_readsLaw_180 : decode cX11_readsLaw 180 = .ok (.iconst 3, 1) := by decide +kernel
theorem dX11_readsLaw_181 : decode cX11_readsLaw 181 = .ok (.iaload, 1) := by decide +kernel
theorem dX11_readsLaw_182 : decode cX11_readsLaw 182 = .ok (.bipush (-9), 2) := by decide +kernel
theorem dX11_readsLaw_184 : decode cX11_readsLaw 184 = .ok (.if_icmp .eq 18, 3) := by decide +kernel
theorem dX11_readsLaw_187 : decode cX11_readsLaw 187 = .ok (.aload_n 0, 1) := by decide +kernel
theorem dX11_readsLaw_188 : decode cX11_readsLaw 188 = .ok (.getfield 189, 3) := by decide +kernel
theorem dX11_readsLaw_191 : decode cX11_readsLaw 191 = .ok (.aload_n 0, 1) := by decide +kernel
theorem dX11_readsLaw_192 : decode cX11_readsLaw 192 = .ok (.getfield 192, 3) := by decide +kernel
theorem dX11_readsLaw_195 : decode cX11_readsLaw 195 = .ok (.if_icmp .ne 7, 3) := by decide +kernel
theorem dX11_readsLaw_198 : decode cX11_readsLaw 198 = .ok (.iconst 1, 1) := by decide +kernel
theorem dX11_readsLaw_199 : decode cX11_readsLaw 199 = .ok (.goto 4, 3) := by decide +kernel
theorem dX11_readsLaw_202 : decode cX11_readsLaw 202 = .ok (.iconst 0, 1) := by decide +kernel
theorem dX11_readsLaw_203 : decode cX11_readsLaw 203 = .ok (.ireturn, 1) := by decide +kernel
theorem dX11_law_0 : decode cX11_law 0 = .ok (.aload_n 0, 1) := by decide +kernel
theorem dX11_law_1 : decode cX11_law 1 = .ok (.iconst 0, 1) := by decide +kernel
theorem dX11_law_2 : decode cX11_law 2 = .ok (.putfield 119, 3) := by decide +kernel
theorem dX11_law_5 : decode cX11_law 5 = .ok (.iload_n 2, 1) := by decide +kernel
theorem dX11_law_6 : decode cX11_law 6 = .ok (.invokestatic 143, 3) := by decide +kernel
theorem dX11_law_9 : decode cX11_law 9 = .ok (.ifCond .ne 5, 3) := by decide +kernel
theorem dX11_law_12 : decode cX11_law 12 = .ok (.iconst (-1), 1) := by decide +kernel
theorem dX11_law_13 : decode cX11_law 13 = .ok (.ireturn, 1) := by decide +kernel
theorem dX11_law_14 : decode cX11_law 14 = .ok (.iload_n 1, 1) := by decide +kernel
theorem dX11_law_15 : decode cX11_law 15 = .ok (.iconst 0, 1) := by decide +kernel
theorem dX11_law_16 : decode cX11_law 16 = .ok (.iconst 1, 1) := by decide +kernel
theorem dX11_law_17 : decode cX11_law 17 = .ok (.aload_n 0, 1) := by decide +kernel
theorem dX11_law_18 : decode cX11_law 18 = .ok (.getfield 164, 3) := by decide +kernel
theorem dX11_law_21 : decode cX11_law 21 = .ok (.ishl, 1) := by decide +kernel
theorem dX11_law_22 : decode cX11_law 22 = .ok (.iconst 1, 1) := by decide +kernel
theorem dX11_law_23 : decode cX11_law 23 = .ok (.isub, 1) := by decide +kernel
theorem dX11_law_24 : decode cX11_law 24 = .ok (.invokestatic 124, 3) := by decide +kernel
theorem dX11_law_27 : decode cX11_law 27 = .ok (.ifCond .eq 10, 3) := by decide +kernel
theorem dX11_law_30 : decode cX11_law 30 = .ok (.iload_n 3, 1) := by decide +kernel
theorem dX11_law_31 : decode cX11_law 31 = .ok (.invokestatic 146, 3) := by decide +kernel
theorem dX11_law_34 : decode cX11_law 34 = .ok (.ifCond .ne 6, 3) := by decide +kernel
theorem dX11_law_37 : decode cX11_law 37 = .ok (.bipush (-2), 2) := by decide +kernel
theorem dX11_law_39 : decode cX11_law 39 = .ok (.ireturn, 1) := by decide +kernel
theorem dX11_law_40 : decode cX11_law 40 = .ok (.aload_n 0, 1) := by decide +kernel
theorem dX11_law_41 : decode cX11_law 41 = .ok (.iload_n 2, 1) := by decide +kernel
theorem dX11_law_42 : decode cX11_law 42 = .ok (.iload_n 3, 1) := by decide +kernel
theorem dX11_law_43 : decode cX11_law 43 = .ok (.iload 4, 2) := by decide +kernel
theorem dX11_law_45 : decode cX11_law 45 = .ok (.iload 5, 2) := by decide +kernel
theorem dX11_law_47 : decode cX11_law 47 = .ok (.invokevirtual 149, 3) := by decide +kernel
theorem dX11_law_50 : decode cX11_law 50 = .ok (.istore 6, 2) := by decide +kernel
theorem dX11_law_52 : decode cX11_law 52 = .ok (.iload 6, 2) := by decide +kernel
theorem dX11_law_54 : decode cX11_law 54 = .ok (.ifCond .eq 10, 3) := by decide +kernel
theorem dX11_law_57 : decode cX11_law 57 = .ok (.aload_n 0, 1) := by decide +kernel
theorem dX11_law_58 : decode cX11_law 58 = .ok (.iload 6, 2) := by decide +kernel
theorem dX11_law_60 : decode cX11_law 60 = .ok (.invokevirtual 153, 3) := by decide +kernel
theorem dX11_law_63 : decode cX11_law 63 = .ok (.ireturn, 1) := by decide +kernel
theorem dX11_law_64 : decode cX11_law 64 = .ok (.bipush 60, 2) := by decide +kernel
theorem dX11_law_66 : decode cX11_law 66 = .ok (.iload_n 2, 1) := by decide +kernel
theorem dX11_law_67 : decode cX11_law 67 = .ok (.imul, 1) := by decide +kernel
theorem dX11_law_68 : decode cX11_law 68 = .ok (.iload 4, 2) := by decide +kernel
theorem dX11_law_70 : decode cX11_law 70 = .ok (.iadd, 1) := by decide +kernel
theorem dX11_law_71 : decode cX11_law 71 = .ok (.istore 7, 2) := by decide +kernel
theorem dX11_law_73 : decode cX11_law 73 = .ok (.aload_n 0, 1) := by decide +kernel
theorem dX11_law_74 : decode cX11_law 74 = .ok (.iload 7, 2) := by decide +kernel
theorem dX11_law_76 : decode cX11_law 76 = .ok (.putfield 189, 3) := by decide +kernel
theorem dX11_law_79 : decode cX11_law 79 = .ok (.aload_n 0, 1) := by decide +kernel
theorem dX11_law_80 : decode cX11_law 80 = .ok (.iload 7, 2) := by decide +kernel
theorem dX11_law_82 : decode cX11_law 82 = .ok (.iload 5, 2) := by decide +kernel
theorem dX11_law_84 : decode cX11_law 84 = .ok (.iadd, 1) := by decide +kernel
theorem dX11_law_85 : decode cX11_law 85 = .ok (.putfield 192, 3) := by decide +kernel
theorem dX11_law_88 : decode cX11_law 88 = .ok (.aload_n 0, 1) := by decide +kernel
theorem dX11_law_89 : decode cX11_law 89 = .ok (.aload_n 0, 1) := by decide +kernel
theorem dX11_law_90 : decode cX11_law 90 = .ok (.getfield 79, 3) := by decide +kernel
theorem dX11_law_93 : decode cX11_law 93 = .ok (.invokevirtual 205, 3) := by decide +kernel
theorem dX11_law_96 : decode cX11_law 96 = .ok (.ifCond .ne 14, 3) := by decide +kernel
theorem dX11_law_99 : decode cX11_law 99 = .ok (.bipush (-100), 2) := by decide +kernel
theorem dX11_law_101 : decode cX11_law 101 = .ok (.aload_n 0, 1) := by decide +kernel
theorem dX11_law_102 : decode cX11_law 102 = .ok (.getfield 189, 3) := by decide +kernel
theorem dX11_law_105 : decode cX11_law 105 = .ok (.iload 7, 2) := by decide +kernel
theorem dX11_law_107 : decode cX11_law 107 = .ok (.isub, 1) := by decide +kernel
theorem dX11_law_108 : decode cX11_law 108 = .ok (.isub, 1) := by decide +kernel
theorem dX11_law_109 : decode cX11_law 109 = .ok (.ireturn, 1) := by decide +kernel
theorem dX11_law_110 : decode cX11_law 110 = .ok (.aload_n 0, 1) := by decide +kernel
theorem dX11_law_111 : decode cX11_law 111 = .ok (.getfield 209, 3) := by decide +kernel
theorem dX11_law_114 : decode cX11_law 114 = .ok (.bipush 8, 2) := by decide +kernel
theorem dX11_law_116 : decode cX11_law 116 = .ok (.if_icmp .ne 6, 3) := by decide +kernel
theorem dX11_law_119 : decode cX11_law 119 = .ok (.bipush (-4), 2) := by decide +kernel
theorem dX11_law_121 : decode cX11_law 121 = .ok (.ireturn, 1) := by decide +kernel
theorem dX11_law_122 : decode cX11_law 122 = .ok (.aload_n 0, 1) := by decide +kernel
theorem dX11_law_123 : decode cX11_law 123 = .ok (.getfield 64, 3) := by decide +kernel
theorem dX11_law_126 : decode cX11_law 126 = .ok (.aload_n 0, 1) := by decide +kernel
theorem dX11_law_127 : decode cX11_law 127 = .ok (.getfield 209, 3) := by decide +kernel
theorem dX11_law_130 : decode cX11_law 130 = .ok (.iload_n 1, 1) := by decide +kernel
theorem dX11_law_131 : decode cX11_law 131 = .ok (.iastore, 1) := by decide +kernel
theorem dX11_law_132 : decode cX11_law 132 = .ok (.aload_n 0, 1) := by decide +kernel
theorem dX11_law_133 : decode cX11_law 133 = .ok (.getfield 67, 3) := by decide +kernel
theorem dX11_law_136 : decode cX11_law 136 = .ok (.aload_n 0, 1) := by decide +kernel
theorem dX11_law_137 : decode cX11_law 137 = .ok (.getfield 209, 3) := by decide +kernel
theorem dX11_law_140 : decode cX11_law 140 = .ok (.aload_n 0, 1) := by decide +kernel
theorem dX11_law_141 : decode cX11_law 141 = .ok (.getfield 79, 3) := by decide +kernel
theorem dX11_law_144 : decode cX11_law 144 = .ok (.iconst 0, 1) := by decide +kernel
theorem dX11_law_145 : decode cX11_law 145 = .ok (.iaload, 1) := by decide +kernel
theorem dX11_law_146 : decode cX11_law 146 = .ok (.iastore, 1) := by decide +kernel
theorem dX11_law_147 : decode cX11_law 147 = .ok (.aload_n 0, 1) := by decide +kernel
theorem dX11_law_148 : decode cX11_law 148 = .ok (.getfield 70, 3) := by decide +kernel
theorem dX11_law_151 : decode cX11_law 151 = .ok (.aload_n 0, 1) := by decide +kernel
theorem dX11_law_152 : decode cX11_law 152 = .ok (.getfield 209, 3) := by decide +kernel
theorem dX11_law_155 : decode cX11_law 155 = .ok (.aload_n 0, 1) := by decide +kernel
theorem dX11_law_156 : decode cX11_law 156 = .ok (.getfield 79, 3) := by decide +kernel
theorem dX11_law_159 : decode cX11_law 159 = .ok (.iconst 1, 1) := by decide +kernel
theorem dX11_law_160 : decode cX11_law 160 = .ok (.iaload, 1) := by decide +kernel
theorem dX11_law_161 : decode cX11_law 161 = .ok (.iastore, 1) := by decide +kernel
theorem dX11_law_162 : decode cX11_law 162 = .ok (.aload_n 0, 1) := by decide +kernel
theorem dX11_law_163 : decode cX11_law 163 = .ok (.getfield 73, 3) := by decide +kernel
theorem dX11_law_166 : decode cX11_law 166 = .ok (.aload_n 0, 1) := by decide +kernel
theorem dX11_law_167 : decode cX11_law 167 = .ok (.getfield 209, 3) := by decide +kernel
theorem dX11_law_170 : decode cX11_law 170 = .ok (.aload_n 0, 1) := by decide +kernel
theorem dX11_law_171 : decode cX11_law 171 = .ok (.getfield 79, 3) := by decide +kernel
theorem dX11_law_174 : decode cX11_law 174 = .ok (.iconst 2, 1) := by decide +kernel
theorem dX11_law_175 : decode cX11_law 175 = .ok (.iaload, 1) := by decide +kernel
theorem dX11_law_176 : decode cX11_law 176 = .ok (.iastore, 1) := by decide +kernel
theorem dX11_law_177 : decode cX11_law 177 = .ok (.aload_n 0, 1) := by decide +kernel
theorem dX11_law_178 : decode cX11_law 178 = .ok (.getfield 76, 3) := by decide +kernel
theorem dX11_law_181 : decode cX11_law 181 = .ok (.aload_n 0, 1) := by decide +kernel
theorem dX11_law_182 : decode cX11_law 182 = .ok (.getfield 209, 3) := by decide +kernel
theorem dX11_law_185 : decode cX11_law 185 = .ok (.aload_n 0, 1) := by decide +kernel
theorem dX11_law_186 : decode cX11_law 186 = .ok (.getfield 79, 3) := by decide +kernel
theorem dX11_law_189 : decode cX11_law 189 = .ok (.iconst 3, 1) := by decide +kernel
theorem dX11_law_190 : decode cX11_law 190 = .ok (.iaload, 1) := by decide +kernel
theorem dX11_law_191 : decode cX11_law 191 = .ok (.iastore, 1) := by decide +kernel
theorem dX11_law_192 : decode cX11_law 192 = .ok (.aload_n 0, 1) := by decide +kernel
theorem dX11_law_193 : decode cX11_law 193 = .ok (.dup, 1) := by decide +kernel
theorem dX11_law_194 : decode cX11_law 194 = .ok (.getfield 209, 3) := by decide +kernel
theorem dX11_law_197 : decode cX11_law 197 = .ok (.iconst 1, 1) := by decide +kernel
theorem dX11_law_198 : decode cX11_law 198 = .ok (.iadd, 1) := by decide +kernel
theorem dX11_law_199 : decode cX11_law 199 = .ok (.putfield 209, 3) := by decide +kernel
theorem dX11_law_202 : decode cX11_law 202 = .ok (.aload_n 0, 1) := by decide +kernel
theorem dX11_law_203 : decode cX11_law 203 = .ok (.getfield 209, 3) := by decide +kernel
theorem dX11_law_206 : decode cX11_law 206 = .ok (.iconst 1, 1) := by decide +kernel
theorem dX11_law_207 : decode cX11_law 207 = .ok (.isub, 1) := by decide +kernel
theorem dX11_law_208 : decode cX11_law 208 = .ok (.ireturn, 1) := by decide +kernel
theorem dX11_isLaw_0 : decode cX11_isLaw 0 = .ok (.iload_n 1, 1) := by decide +kernel
theorem dX11_isLaw_1 : decode cX11_isLaw 1 = .ok (.ifCond .lt 15, 3) := by decide +kernel
theorem dX11_isLaw_4 : decode cX11_isLaw 4 = .ok (.iload_n 1, 1) := by decide +kernel
theorem dX11_isLaw_5 : decode cX11_isLaw 5 = .ok (.aload_n 0, 1) := by decide +kernel
theorem dX11_isLaw_6 : decode cX11_isLaw 6 = .ok (.getfield 209, 3) := by decide +kernel
theorem dX11_isLaw_9 : decode cX11_isLaw 9 = .ok (.if_icmp .ge 7, 3) := by decide +kernel
theorem dX11_isLaw_12 : decode cX11_isLaw 12 = .ok (.iconst 1, 1) := by decide +kernel
theorem dX11_isLaw_13 : decode cX11_isLaw 13 = .ok (.goto 4, 3) := by decide +kernel
theorem dX11_isLaw_16 : decode cX11_isLaw 16 = .ok (.iconst 0, 1) := by decide +kernel
theorem dX11_isLaw_17 : decode cX11_isLaw 17 = .ok (.ireturn, 1) := by decide +kernel
theorem dX11_force_0 : decode cX11_force 0 = .ok (.aload_n 0, 1) := by decide +kernel
theorem dX11_force_1 : decode cX11_force 1 = .ok (.iload_n 1, 1) := by decide +kernel
theorem dX11_force_2 : decode cX11_force 2 = .ok (.invokevirtual 212, 3) := by decide +kernel
theorem dX11_force_5 : decode cX11_force 5 = .ok (.ifCond .ne 5, 3) := by decide +kernel
theorem dX11_force_8 : decode cX11_force 8 = .ok (.iconst (-1), 1) := by decide +kernel
theorem dX11_force_9 : decode cX11_force 9 = .ok (.ireturn, 1) := by decide +kernel
theorem dX11_force_10 : decode cX11_force 10 = .ok (.iload_n 2, 1) := by decide +kernel
theorem dX11_force_11 : decode cX11_force 11 = .ok (.iconst 0, 1) := by decide +kernel
theorem dX11_force_12 : decode cX11_force 12 = .ok (.iconst 1, 1) := by decide +kernel
theorem dX11_force_13 : decode cX11_force 13 = .ok (.aload_n 0, 1) := by decide +kernel
theorem dX11_force_14 : decode cX11_force 14 = .ok (.getfield 164, 3) := by decide +kernel
theorem dX11_force_17 : decode cX11_force 17 = .ok (.ishl, 1) := by decide +kernel
theorem dX11_force_18 : decode cX11_force 18 = .ok (.iconst 1, 1) := by decide +kernel
theorem dX11_force_19 : decode cX11_force 19 = .ok (.isub, 1) := by decide +kernel
theorem dX11_force_20 : decode cX11_force 20 = .ok (.invokestatic 124, 3) := by decide +kernel
theorem dX11_force_23 : decode cX11_force 23 = .ok (.ifCond .ne 6, 3) := by decide +kernel
theorem dX11_force_26 : decode cX11_force 26 = .ok (.bipush (-2), 2) := by decide +kernel
theorem dX11_force_28 : decode cX11_force 28 = .ok (.ireturn, 1) := by decide +kernel
theorem dX11_force_29 : decode cX11_force 29 = .ok (.aload_n 0, 1) := by decide +kernel
theorem dX11_force_30 : decode cX11_force 30 = .ok (.getfield 64, 3) := by decide +kernel
theorem dX11_force_33 : decode cX11_force 33 = .ok (.iload_n 1, 1) := by decide +kernel
theorem dX11_force_34 : decode cX11_force 34 = .ok (.iaload, 1) := by decide +kernel
theorem dX11_force_35 : decode cX11_force 35 = .ok (.istore_n 3, 1) := by decide +kernel
theorem dX11_force_36 : decode cX11_force 36 = .ok (.aload_n 0, 1) := by decide +kernel
theorem dX11_force_37 : decode cX11_force 37 = .ok (.getfield 64, 3) := by decide +kernel
theorem dX11_force_40 : decode cX11_force 40 = .ok (.iload_n 1, 1) := by decide +kernel
theorem dX11_force_41 : decode cX11_force 41 = .ok (.iload_n 2, 1) := by decide +kernel
theorem dX11_force_42 : decode cX11_force 42 = .ok (.iastore, 1) := by decide +kernel
theorem dX11_force_43 : decode cX11_force 43 = .ok (.iload_n 3, 1) := by decide +kernel
theorem dX11_force_44 : decode cX11_force 44 = .ok (.ireturn, 1) := by decide +kernel
theorem dX11_isOf_0 : decode cX11_isOf 0 = .ok (.iload_n 2, 1) := by decide +kernel
theorem dX11_isOf_1 : decode cX11_isOf 1 = .ok (.bipush 16, 2) := by decide +kernel
theorem dX11_isOf_3 : decode cX11_isOf 3 = .ok (.if_icmp .ge 16, 3) := by decide +kernel
theorem dX11_isOf_6 : decode cX11_isOf 6 = .ok (.iload_n 1, 1) := by decide +kernel
theorem dX11_isOf_7 : decode cX11_isOf 7 = .ok (.iload_n 2, 1) := by decide +kernel
theorem dX11_isOf_8 : decode cX11_isOf 8 = .ok (.if_icmp .ne 7, 3) := by decide +kernel
theorem dX11_isOf_11 : decode cX11_isOf 11 = .ok (.iconst 1, 1) := by decide +kernel
theorem dX11_isOf_12 : decode cX11_isOf 12 = .ok (.goto 42, 3) := by decide +kernel
theorem dX11_isOf_15 : decode cX11_isOf 15 = .ok (.iconst 0, 1) := by decide +kernel
theorem dX11_isOf_16 : decode cX11_isOf 16 = .ok (.goto 38, 3) := by decide +kernel
theorem dX11_isOf_19 : decode cX11_isOf 19 = .ok (.iload_n 2, 1) := by decide +kernel
theorem dX11_isOf_20 : decode cX11_isOf 20 = .ok (.bipush 24, 2) := by decide +kernel
theorem dX11_isOf_22 : decode cX11_isOf 22 = .ok (.if_icmp .ge 19, 3) := by decide +kernel
theorem dX11_isOf_25 : decode cX11_isOf 25 = .ok (.aload_n 0, 1) := by decide +kernel
theorem dX11_isOf_26 : decode cX11_isOf 26 = .ok (.getfield 19, 3) := by decide +kernel
theorem dX11_isOf_29 : decode cX11_isOf 29 = .ok (.iload_n 1, 1) := by decide +kernel
theorem dX11_isOf_30 : decode cX11_isOf 30 = .ok (.iaload, 1) := by decide +kernel
theorem dX11_isOf_31 : decode cX11_isOf 31 = .ok (.iload_n 2, 1) := by decide +kernel
theorem dX11_isOf_32 : decode cX11_isOf 32 = .ok (.bipush 16, 2) := by decide +kernel
theorem dX11_isOf_34 : decode cX11_isOf 34 = .ok (.isub, 1) := by decide +kernel
theorem dX11_isOf_35 : decode cX11_isOf 35 = .ok (.invokestatic 132, 3) := by decide +kernel
theorem dX11_isOf_38 : decode cX11_isOf 38 = .ok (.goto 16, 3) := by decide +kernel
theorem dX11_isOf_41 : decode cX11_isOf 41 = .ok (.aload_n 0, 1) := by decide +kernel
theorem dX11_isOf_42 : decode cX11_isOf 42 = .ok (.getfield 22, 3) := by decide +kernel
theorem dX11_isOf_45 : decode cX11_isOf 45 = .ok (.iload_n 1, 1) := by decide +kernel
theorem dX11_isOf_46 : decode cX11_isOf 46 = .ok (.iaload, 1) := by decide +kernel
theorem dX11_isOf_47 : decode cX11_isOf 47 = .ok (.iload_n 2, 1) := by decide +kernel
theorem dX11_isOf_48 : decode cX11_isOf 48 = .ok (.bipush 24, 2) := by decide +kernel
theorem dX11_isOf_50 : decode cX11_isOf 50 = .ok (.isub, 1) := by decide +kernel
theorem dX11_isOf_51 : decode cX11_isOf 51 = .ok (.invokestatic 132, 3) := by decide +kernel
theorem dX11_isOf_54 : decode cX11_isOf 54 = .ok (.ireturn, 1) := by decide +kernel
theorem dX11_holds_0 : decode cX11_holds 0 = .ok (.iload_n 2, 1) := by decide +kernel
theorem dX11_holds_1 : decode cX11_holds 1 = .ok (.bipush 40, 2) := by decide +kernel
theorem dX11_holds_3 : decode cX11_holds 3 = .ok (.if_icmp .ne 5, 3) := by decide +kernel
theorem dX11_holds_6 : decode cX11_holds 6 = .ok (.iconst 1, 1) := by decide +kernel
theorem dX11_holds_7 : decode cX11_holds 7 = .ok (.ireturn, 1) := by decide +kernel
theorem dX11_holds_8 : decode cX11_holds 8 = .ok (.iload_n 2, 1) := by decide +kernel
theorem dX11_holds_9 : decode cX11_holds 9 = .ok (.bipush 41, 2) := by decide +kernel
theorem dX11_holds_11 : decode cX11_holds 11 = .ok (.if_icmp .eq 9, 3) := by decide +kernel
theorem dX11_holds_14 : decode cX11_holds 14 = .ok (.iload_n 1, 1) := by decide +kernel
theorem dX11_holds_15 : decode cX11_holds 15 = .ok (.bipush (-9), 2) := by decide +kernel
theorem dX11_holds_17 : decode cX11_holds 17 = .ok (.if_icmp .ne 21, 3) := by decide +kernel
theorem dX11_holds_20 : decode cX11_holds 20 = .ok (.iload_n 2, 1) := by decide +kernel
theorem dX11_holds_21 : decode cX11_holds 21 = .ok (.bipush 41, 2) := by decide +kernel
theorem dX11_holds_23 : decode cX11_holds 23 = .ok (.if_icmp .ne 13, 3) := by decide +kernel
theorem dX11_holds_26 : decode cX11_holds 26 = .ok (.iload_n 1, 1) := by decide +kernel
theorem dX11_holds_27 : decode cX11_holds 27 = .ok (.bipush (-9), 2) := by decide +kernel
theorem dX11_holds_29 : decode cX11_holds 29 = .ok (.if_icmp .ne 7, 3) := by decide +kernel
theorem dX11_holds_32 : decode cX11_holds 32 = .ok (.iconst 1, 1) := by decide +kernel
theorem dX11_holds_33 : decode cX11_holds 33 = .ok (.goto 4, 3) := by decide +kernel
theorem dX11_holds_36 : decode cX11_holds 36 = .ok (.iconst 0, 1) := by decide +kernel
theorem dX11_holds_37 : decode cX11_holds 37 = .ok (.ireturn, 1) := by decide +kernel
theorem dX11_holds_38 : decode cX11_holds 38 = .ok (.aload_n 0, 1) := by decide +kernel
theorem dX11_holds_39 : decode cX11_holds 39 = .ok (.iload_n 1, 1) := by decide +kernel
theorem dX11_holds_40 : decode cX11_holds 40 = .ok (.iload_n 2, 1) := by decide +kernel
theorem dX11_holds_41 : decode cX11_holds 41 = .ok (.invokevirtual 215, 3) := by decide +kernel
theorem dX11_holds_44 : decode cX11_holds 44 = .ok (.ireturn, 1) := by decide +kernel
theorem dX11_doLaw_0 : decode cX11_doLaw 0 = .ok (.aload_n 0, 1) := by decide +kernel
theorem dX11_doLaw_1 : decode cX11_doLaw 1 = .ok (.getfield 218, 3) := by decide +kernel
theorem dX11_doLaw_4 : decode cX11_doLaw 4 = .ok (.istore_n 2, 1) := by decide +kernel
theorem dX11_doLaw_5 : decode cX11_doLaw 5 = .ok (.iconst 0, 1) := by decide +kernel
theorem dX11_doLaw_6 : decode cX11_doLaw 6 = .ok (.istore_n 3, 1) := by decide +kernel
theorem dX11_doLaw_7 : decode cX11_doLaw 7 = .ok (.iload_n 3, 1) := by decide +kernel
theorem dX11_doLaw_8 : decode cX11_doLaw 8 = .ok (.iload_n 2, 1) := by decide +kernel
theorem dX11_doLaw_9 : decode cX11_doLaw 9 = .ok (.if_icmp .ge 21, 3) := by decide +kernel
theorem dX11_doLaw_12 : decode cX11_doLaw 12 = .ok (.aload_n 0, 1) := by decide +kernel
theorem dX11_doLaw_13 : decode cX11_doLaw 13 = .ok (.getfield 85, 3) := by decide +kernel
theorem dX11_doLaw_16 : decode cX11_doLaw 16 = .ok (.iload_n 3, 1) := by decide +kernel
theorem dX11_doLaw_17 : decode cX11_doLaw 17 = .ok (.aload_n 0, 1) := by decide +kernel
theorem dX11_doLaw_18 : decode cX11_doLaw 18 = .ok (.getfield 82, 3) := by decide +kernel
theorem dX11_doLaw_21 : decode cX11_doLaw 21 = .ok (.iload_n 3, 1) := by decide +kernel
theorem dX11_doLaw_22 : decode cX11_doLaw 22 = .ok (.iaload, 1) := by decide +kernel
theorem dX11_doLaw_23 : decode cX11_doLaw 23 = .ok (.iastore, 1) := by decide +kernel
theorem dX11_doLaw_24 : decode cX11_doLaw 24 = .ok (.iinc 3 1, 3) := by decide +kernel
theorem dX11_doLaw_27 : decode cX11_doLaw 27 = .ok (.goto (-20), 3) := by decide +kernel
theorem dX11_doLaw_30 : decode cX11_doLaw 30 = .ok (.iconst 0, 1) := by decide +kernel
theorem dX11_doLaw_31 : decode cX11_doLaw 31 = .ok (.istore_n 3, 1) := by decide +kernel
theorem dX11_doLaw_32 : decode cX11_doLaw 32 = .ok (.aload_n 0, 1) := by decide +kernel
theorem dX11_doLaw_33 : decode cX11_doLaw 33 = .ok (.iconst 0, 1) := by decide +kernel
theorem dX11_doLaw_34 : decode cX11_doLaw 34 = .ok (.putfield 218, 3) := by decide +kernel
theorem dX11_doLaw_37 : decode cX11_doLaw 37 = .ok (.iconst 0, 1) := by decide +kernel
theorem dX11_doLaw_38 : decode cX11_doLaw 38 = .ok (.istore 4, 2) := by decide +kernel
theorem dX11_doLaw_40 : decode cX11_doLaw 40 = .ok (.iload 4, 2) := by decide +kernel
theorem dX11_doLaw_42 : decode cX11_doLaw 42 = .ok (.iload_n 2, 1) := by decide +kernel
theorem dX11_doLaw_43 : decode cX11_doLaw 43 = .ok (.if_icmp .ge 191, 3) := by decide +kernel
theorem dX11_doLaw_46 : decode cX11_doLaw 46 = .ok (.aload_n 0, 1) := by decide +kernel
theorem dX11_doLaw_47 : decode cX11_doLaw 47 = .ok (.aload_n 0, 1) := by decide +kernel
theorem dX11_doLaw_48 : decode cX11_doLaw 48 = .ok (.getfield 85, 3) := by decide +kernel
theorem dX11_doLaw_51 : decode cX11_doLaw 51 = .ok (.iload 4, 2) := by decide +kernel
theorem dX11_doLaw_53 : decode cX11_doLaw 53 = .ok (.iaload, 1) := by decide +kernel
theorem dX11_doLaw_54 : decode cX11_doLaw 54 = .ok (.aload_n 0, 1) := by decide +kernel
theorem dX11_doLaw_55 : decode cX11_doLaw 55 = .ok (.getfield 67, 3) := by decide +kernel
theorem dX11_doLaw_58 : decode cX11_doLaw 58 = .ok (.iload_n 1, 1) := by decide +kernel
theorem dX11_doLaw_59 : decode cX11_doLaw 59 = .ok (.iaload, 1) := by decide +kernel
theorem dX11_doLaw_60 : decode cX11_doLaw 60 = .ok (.invokevirtual 215, 3) := by decide +kernel
theorem dX11_doLaw_63 : decode cX11_doLaw 63 = .ok (.ifCond .eq 74, 3) := by decide +kernel
theorem dX11_doLaw_66 : decode cX11_doLaw 66 = .ok (.aload_n 0, 1) := by decide +kernel
theorem dX11_doLaw_67 : decode cX11_doLaw 67 = .ok (.iload 4, 2) := by decide +kernel
theorem dX11_doLaw_69 : decode cX11_doLaw 69 = .ok (.ifCond .ne 8, 3) := by decide +kernel
theorem dX11_doLaw_72 : decode cX11_doLaw 72 = .ok (.bipush (-9), 2) := by decide +kernel
theorem dX11_doLaw_74 : decode cX11_doLaw 74 = .ok (.goto 12, 3) := by decide +kernel
theorem dX11_doLaw_77 : decode cX11_doLaw 77 = .ok (.aload_n 0, 1) := by decide +kernel
theorem dX11_doLaw_78 : decode cX11_doLaw 78 = .ok (.getfield 85, 3) := by decide +kernel
theorem dX11_doLaw_81 : decode cX11_doLaw 81 = .ok (.iload 4, 2) := by decide +kernel
theorem dX11_doLaw_83 : decode cX11_doLaw 83 = .ok (.iconst 1, 1) := by decide +kernel
theorem dX11_doLaw_84 : decode cX11_doLaw 84 = .ok (.isub, 1) := by decide +kernel
theorem dX11_doLaw_85 : decode cX11_doLaw 85 = .ok (.iaload, 1) := by decide +kernel
theorem dX11_doLaw_86 : decode cX11_doLaw 86 = .ok (.aload_n 0, 1) := by decide +kernel
theorem dX11_doLaw_87 : decode cX11_doLaw 87 = .ok (.getfield 73, 3) := by decide +kernel
theorem dX11_doLaw_90 : decode cX11_doLaw 90 = .ok (.iload_n 1, 1) := by decide +kernel
theorem dX11_doLaw_91 : decode cX11_doLaw 91 = .ok (.iaload, 1) := by decide +kernel
theorem dX11_doLaw_92 : decode cX11_doLaw 92 = .ok (.invokevirtual 221, 3) := by decide +kernel
theorem dX11_doLaw_95 : decode cX11_doLaw 95 = .ok (.ifCond .eq 42, 3) := by decide +kernel
theorem dX11_doLaw_98 : decode cX11_doLaw 98 = .ok (.aload_n 0, 1) := by decide +kernel
theorem dX11_doLaw_99 : decode cX11_doLaw 99 = .ok (.iload 4, 2) := by decide +kernel
theorem dX11_doLaw_101 : decode cX11_doLaw 101 = .ok (.iload_n 2, 1) := by decide +kernel
theorem dX11_doLaw_102 : decode cX11_doLaw 102 = .ok (.iconst 1, 1) := by decide +kernel
theorem dX11_doLaw_103 : decode cX11_doLaw 103 = .ok (.isub, 1) := by decide +kernel
theorem dX11_doLaw_104 : decode cX11_doLaw 104 = .ok (.if_icmp .ne 8, 3) := by decide +kernel
theorem dX11_doLaw_107 : decode cX11_doLaw 107 = .ok (.bipush (-9), 2) := by decide +kernel
theorem dX11_doLaw_109 : decode cX11_doLaw 109 = .ok (.goto 12, 3) := by decide +kernel
theorem dX11_doLaw_112 : decode cX11_doLaw 112 = .ok (.aload_n 0, 1) := by decide +kernel
theorem dX11_doLaw_113 : decode cX11_doLaw 113 = .ok (.getfield 85, 3) := by decide +kernel
theorem dX11_doLaw_116 : decode cX11_doLaw 116 = .ok (.iload 4, 2) := by decide +kernel
theorem dX11_doLaw_118 : decode cX11_doLaw 118 = .ok (.iconst 1, 1) := by decide +kernel
theorem dX11_doLaw_119 : decode cX11_doLaw 119 = .ok (.iadd, 1) := by decide +kernel
theorem dX11_doLaw_120 : decode cX11_doLaw 120 = .ok (.iaload, 1) := by decide +kernel
theorem dX11_doLaw_121 : decode cX11_doLaw 121 = .ok (.aload_n 0, 1) := by decide +kernel
theorem dX11_doLaw_122 : decode cX11_doLaw 122 = .ok (.getfield 76, 3) := by decide +kernel
theorem dX11_doLaw_125 : decode cX11_doLaw 125 = .ok (.iload_n 1, 1) := by decide +kernel
theorem dX11_doLaw_126 : decode cX11_doLaw 126 = .ok (.iaload, 1) := by decide +kernel
theorem dX11_doLaw_127 : decode cX11_doLaw 127 = .ok (.invokevirtual 221, 3) := by decide +kernel
theorem dX11_doLaw_130 : decode cX11_doLaw 130 = .ok (.ifCond .eq 7, 3) := by decide +kernel
theorem dX11_doLaw_133 : decode cX11_doLaw 133 = .ok (.iconst 1, 1) := by decide +kernel
theorem dX11_doLaw_134 : decode cX11_doLaw 134 = .ok (.goto 4, 3) := by decide +kernel
theorem dX11_doLaw_137 : decode cX11_doLaw 137 = .ok (.iconst 0, 1) := by decide +kernel
theorem dX11_doLaw_138 : decode cX11_doLaw 138 = .ok (.istore 5, 2) := by decide +kernel
theorem dX11_doLaw_140 : decode cX11_doLaw 140 = .ok (.iload 5, 2) := by decide +kernel
theorem dX11_doLaw_142 : decode cX11_doLaw 142 = .ok (.ifCond .eq 19, 3) := by decide +kernel
theorem dX11_doLaw_145 : decode cX11_doLaw 145 = .ok (.aload_n 0, 1) := by decide +kernel
theorem dX11_doLaw_146 : decode cX11_doLaw 146 = .ok (.getfield 70, 3) := by decide +kernel
theorem dX11_doLaw_149 : decode cX11_doLaw 149 = .ok (.iload_n 1, 1) := by decide +kernel
theorem dX11_doLaw_150 : decode cX11_doLaw 150 = .ok (.iaload, 1) := by decide +kernel
theorem dX11_doLaw_151 : decode cX11_doLaw 151 = .ok (.bipush 42, 2) := by decide +kernel
theorem dX11_doLaw_153 : decode cX11_doLaw 153 = .ok (.if_icmp .ne 8, 3) := by decide +kernel
theorem dX11_doLaw_156 : decode cX11_doLaw 156 = .ok (.iconst 1, 1) := by decide +kernel
theorem dX11_doLaw_157 : decode cX11_doLaw 157 = .ok (.istore_n 3, 1) := by decide +kernel
theorem dX11_doLaw_158 : decode cX11_doLaw 158 = .ok (.goto 70, 3) := by decide +kernel
theorem dX11_doLaw_161 : decode cX11_doLaw 161 = .ok (.aload_n 0, 1) := by decide +kernel
theorem dX11_doLaw_162 : decode cX11_doLaw 162 = .ok (.getfield 82, 3) := by decide +kernel
theorem dX11_doLaw_165 : decode cX11_doLaw 165 = .ok (.aload_n 0, 1) := by decide +kernel
theorem dX11_doLaw_166 : decode cX11_doLaw 166 = .ok (.getfield 218, 3) := by decide +kernel
theorem dX11_doLaw_169 : decode cX11_doLaw 169 = .ok (.iload 5, 2) := by decide +kernel
theorem dX11_doLaw_171 : decode cX11_doLaw 171 = .ok (.ifCond .eq 12, 3) := by decide +kernel
theorem dX11_doLaw_174 : decode cX11_doLaw 174 = .ok (.aload_n 0, 1) := by decide +kernel
theorem dX11_doLaw_175 : decode cX11_doLaw 175 = .ok (.getfield 70, 3) := by decide +kernel
theorem dX11_doLaw_178 : decode cX11_doLaw 178 = .ok (.iload_n 1, 1) := by decide +kernel
theorem dX11_doLaw_179 : decode cX11_doLaw 179 = .ok (.iaload, 1) := by decide +kernel
theorem dX11_doLaw_180 : decode cX11_doLaw 180 = .ok (.goto 10, 3) := by decide +kernel
theorem dX11_doLaw_183 : decode cX11_doLaw 183 = .ok (.aload_n 0, 1) := by decide +kernel
theorem dX11_doLaw_184 : decode cX11_doLaw 184 = .ok (.getfield 85, 3) := by decide +kernel
theorem dX11_doLaw_187 : decode cX11_doLaw 187 = .ok (.iload 4, 2) := by decide +kernel
theorem dX11_doLaw_189 : decode cX11_doLaw 189 = .ok (.iaload, 1) := by decide +kernel
theorem dX11_doLaw_190 : decode cX11_doLaw 190 = .ok (.iastore, 1) := by decide +kernel
theorem dX11_doLaw_191 : decode cX11_doLaw 191 = .ok (.iload_n 3, 1) := by decide +kernel
theorem dX11_doLaw_192 : decode cX11_doLaw 192 = .ok (.aload_n 0, 1) := by decide +kernel
theorem dX11_doLaw_193 : decode cX11_doLaw 193 = .ok (.getfield 82, 3) := by decide +kernel
theorem dX11_doLaw_196 : decode cX11_doLaw 196 = .ok (.aload_n 0, 1) := by decide +kernel
theorem dX11_doLaw_197 : decode cX11_doLaw 197 = .ok (.getfield 218, 3) := by decide +kernel
theorem dX11_doLaw_200 : decode cX11_doLaw 200 = .ok (.iaload, 1) := by decide +kernel
theorem dX11_doLaw_201 : decode cX11_doLaw 201 = .ok (.aload_n 0, 1) := by decide +kernel
theorem dX11_doLaw_202 : decode cX11_doLaw 202 = .ok (.getfield 85, 3) := by decide +kernel
theorem dX11_doLaw_205 : decode cX11_doLaw 205 = .ok (.iload 4, 2) := by decide +kernel
theorem dX11_doLaw_207 : decode cX11_doLaw 207 = .ok (.iaload, 1) := by decide +kernel
theorem dX11_doLaw_208 : decode cX11_doLaw 208 = .ok (.if_icmp .eq 7, 3) := by decide +kernel
theorem dX11_doLaw_211 : decode cX11_doLaw 211 = .ok (.iconst 1, 1) := by decide +kernel
theorem dX11_doLaw_212 : decode cX11_doLaw 212 = .ok (.goto 4, 3) := by decide +kernel
theorem dX11_doLaw_215 : decode cX11_doLaw 215 = .ok (.iconst 0, 1) := by decide +kernel
theorem dX11_doLaw_216 : decode cX11_doLaw 216 = .ok (.ior, 1) := by decide +kernel
theorem dX11_doLaw_217 : decode cX11_doLaw 217 = .ok (.istore_n 3, 1) := by decide +kernel
theorem dX11_doLaw_218 : decode cX11_doLaw 218 = .ok (.aload_n 0, 1) := by decide +kernel
theorem dX11_doLaw_219 : decode cX11_doLaw 219 = .ok (.dup, 1) := by decide +kernel
theorem dX11_doLaw_220 : decode cX11_doLaw 220 = .ok (.getfield 218, 3) := by decide +kernel
theorem dX11_doLaw_223 : decode cX11_doLaw 223 = .ok (.iconst 1, 1) := by decide +kernel
theorem dX11_doLaw_224 : decode cX11_doLaw 224 = .ok (.iadd, 1) := by decide +kernel
theorem dX11_doLaw_225 : decode cX11_doLaw 225 = .ok (.putfield 218, 3) := by decide +kernel
theorem dX11_doLaw_228 : decode cX11_doLaw 228 = .ok (.iinc 4 1, 3) := by decide +kernel
theorem dX11_doLaw_231 : decode cX11_doLaw 231 = .ok (.goto (-191), 3) := by decide +kernel
theorem dX11_doLaw_234 : decode cX11_doLaw 234 = .ok (.iload_n 3, 1) := by decide +kernel
theorem dX11_doLaw_235 : decode cX11_doLaw 235 = .ok (.ireturn, 1) := by decide +kernel
theorem dX11_takeRoot_0 : decode cX11_takeRoot 0 = .ok (.aload_n 0, 1) := by decide +kernel
theorem dX11_takeRoot_1 : decode cX11_takeRoot 1 = .ok (.aload_n 0, 1) := by decide +kernel
theorem dX11_takeRoot_2 : decode cX11_takeRoot 2 = .ok (.getfield 58, 3) := by decide +kernel
theorem dX11_takeRoot_5 : decode cX11_takeRoot 5 = .ok (.iload_n 1, 1) := by decide +kernel
theorem dX11_takeRoot_6 : decode cX11_takeRoot 6 = .ok (.iaload, 1) := by decide +kernel
theorem dX11_takeRoot_7 : decode cX11_takeRoot 7 = .ok (.putfield 218, 3) := by decide +kernel
theorem dX11_takeRoot_10 : decode cX11_takeRoot 10 = .ok (.iconst 0, 1) := by decide +kernel
theorem dX11_takeRoot_11 : decode cX11_takeRoot 11 = .ok (.istore_n 2, 1) := by decide +kernel
theorem dX11_takeRoot_12 : decode cX11_takeRoot 12 = .ok (.iload_n 2, 1) := by decide +kernel
theorem dX11_takeRoot_13 : decode cX11_takeRoot 13 = .ok (.aload_n 0, 1) := by decide +kernel
theorem dX11_takeRoot_14 : decode cX11_takeRoot 14 = .ok (.getfield 218, 3) := by decide +kernel
theorem dX11_takeRoot_17 : decode cX11_takeRoot 17 = .ok (.if_icmp .ge 26, 3) := by decide +kernel
theorem dX11_takeRoot_20 : decode cX11_takeRoot 20 = .ok (.aload_n 0, 1) := by decide +kernel
theorem dX11_takeRoot_21 : decode cX11_takeRoot 21 = .ok (.getfield 82, 3) := by decide +kernel
theorem dX11_takeRoot_24 : decode cX11_takeRoot 24 = .ok (.iload_n 2, 1) := by decide +kernel
theorem dX11_takeRoot_25 : decode cX11_takeRoot 25 = .ok (.aload_n 0, 1) := by decide +kernel
theorem dX11_takeRoot_26 : decode cX11_takeRoot 26 = .ok (.getfield 61, 3) := by decide +kernel
theorem dX11_takeRoot_29 : decode cX11_takeRoot 29 = .ok (.bipush 8, 2) := by decide +kernel
theorem dX11_takeRoot_31 : decode cX11_takeRoot 31 = .ok (.iload_n 1, 1) := by decide +kernel
theorem dX11_takeRoot_32 : decode cX11_takeRoot 32 = .ok (.imul, 1) := by decide +kernel
theorem dX11_takeRoot_33 : decode cX11_takeRoot 33 = .ok (.iload_n 2, 1) := by decide +kernel
theorem dX11_takeRoot_34 : decode cX11_takeRoot 34 = .ok (.iadd, 1) := by decide +kernel
theorem dX11_takeRoot_35 : decode cX11_takeRoot 35 = .ok (.iaload, 1) := by decide +kernel
theorem dX11_takeRoot_36 : decode cX11_takeRoot 36 = .ok (.iastore, 1) := by decide +kernel
theorem dX11_takeRoot_37 : decode cX11_takeRoot 37 = .ok (.iinc 2 1, 3) := by decide +kernel
theorem dX11_takeRoot_40 : decode cX11_takeRoot 40 = .ok (.goto (-28), 3) := by decide +kernel
theorem dX11_takeRoot_43 : decode cX11_takeRoot 43 = .ok (.return_, 1) := by decide +kernel
theorem dX11_derive_0 : decode cX11_derive 0 = .ok (.bipush (-9), 2) := by decide +kernel
theorem dX11_derive_2 : decode cX11_derive 2 = .ok (.istore_n 3, 1) := by decide +kernel
theorem dX11_derive_3 : decode cX11_derive 3 = .ok (.iload_n 2, 1) := by decide +kernel
theorem dX11_derive_4 : decode cX11_derive 4 = .ok (.istore 4, 2) := by decide +kernel
theorem dX11_derive_6 : decode cX11_derive 6 = .ok (.iconst 0, 1) := by decide +kernel
theorem dX11_derive_7 : decode cX11_derive 7 = .ok (.istore 5, 2) := by decide +kernel
theorem dX11_derive_9 : decode cX11_derive 9 = .ok (.iload 5, 2) := by decide +kernel
theorem dX11_derive_11 : decode cX11_derive 11 = .ok (.aload_n 0, 1) := by decide +kernel
theorem dX11_derive_12 : decode cX11_derive 12 = .ok (.getfield 209, 3) := by decide +kernel
theorem dX11_derive_15 : decode cX11_derive 15 = .ok (.if_icmp .ge 47, 3) := by decide +kernel
theorem dX11_derive_18 : decode cX11_derive 18 = .ok (.iload 4, 2) := by decide +kernel
theorem dX11_derive_20 : decode cX11_derive 20 = .ok (.ifCond .le 42, 3) := by decide +kernel
theorem dX11_derive_23 : decode cX11_derive 23 = .ok (.aload_n 0, 1) := by decide +kernel
theorem dX11_derive_24 : decode cX11_derive 24 = .ok (.getfield 64, 3) := by decide +kernel
theorem dX11_derive_27 : decode cX11_derive 27 = .ok (.iload 5, 2) := by decide +kernel
theorem dX11_derive_29 : decode cX11_derive 29 = .ok (.iaload, 1) := by decide +kernel
theorem dX11_derive_30 : decode cX11_derive 30 = .ok (.iload_n 1, 1) := by decide +kernel
theorem dX11_derive_31 : decode cX11_derive 31 = .ok (.invokestatic 132, 3) := by decide +kernel
theorem dX11_derive_34 : decode cX11_derive 34 = .ok (.ifCond .eq 22, 3) := by decide +kernel
theorem dX11_derive_37 : decode cX11_derive 37 = .ok (.iinc 4 (-1), 3) := by decide +kernel
theorem dX11_derive_40 : decode cX11_derive 40 = .ok (.aload_n 0, 1) := by decide +kernel
theorem dX11_derive_41 : decode cX11_derive 41 = .ok (.iload 5, 2) := by decide +kernel
end
section
theorem dX11_derive_43 : decode cX11_derive 43 = .ok (.invokevirtual 224, 3) := by decide +kernel
theorem dX11_derive_46 : decode cX11_derive 46 = .ok (.ifCond .eq 8, 3) := by decide +kernel
theorem dX11_derive_49 : decode cX11_derive 49 = .ok (.iload 5, 2) := by decide +kernel
theorem dX11_derive_51 : decode cX11_derive 51 = .ok (.goto 4, 3) := by decide +kernel
theorem dX11_derive_54 : decode cX11_derive 54 = .ok (.iload_n 3, 1) := by decide +kernel
theorem dX11_derive_55 : decode cX11_derive 55 = .ok (.istore_n 3, 1) := by decide +kernel
theorem dX11_derive_56 : decode cX11_derive 56 = .ok (.iinc 5 1, 3) := by decide +kernel
theorem dX11_derive_59 : decode cX11_derive 59 = .ok (.goto (-50), 3) := by decide +kernel
theorem dX11_derive_62 : decode cX11_derive 62 = .ok (.iload_n 3, 1) := by decide +kernel
theorem dX11_derive_63 : decode cX11_derive 63 = .ok (.ireturn, 1) := by decide +kernel
theorem dX11_derived_0 : decode cX11_derived 0 = .ok (.aload_n 0, 1) := by decide +kernel
theorem dX11_derived_1 : decode cX11_derived 1 = .ok (.iload_n 1, 1) := by decide +kernel
theorem dX11_derived_2 : decode cX11_derived 2 = .ok (.invokevirtual 167, 3) := by decide +kernel
theorem dX11_derived_5 : decode cX11_derived 5 = .ok (.ifCond .eq 21, 3) := by decide +kernel
theorem dX11_derived_8 : decode cX11_derived 8 = .ok (.iload_n 2, 1) := by decide +kernel
theorem dX11_derived_9 : decode cX11_derived 9 = .ok (.invokestatic 173, 3) := by decide +kernel
theorem dX11_derived_12 : decode cX11_derived 12 = .ok (.ifCond .eq 14, 3) := by decide +kernel
theorem dX11_derived_15 : decode cX11_derived 15 = .ok (.iload 4, 2) := by decide +kernel
theorem dX11_derived_17 : decode cX11_derived 17 = .ok (.iconst (-1), 1) := by decide +kernel
theorem dX11_derived_18 : decode cX11_derived 18 = .ok (.bipush 7, 2) := by decide +kernel
theorem dX11_derived_20 : decode cX11_derived 20 = .ok (.invokestatic 124, 3) := by decide +kernel
theorem dX11_derived_23 : decode cX11_derived 23 = .ok (.ifCond .ne 5, 3) := by decide +kernel
theorem dX11_derived_26 : decode cX11_derived 26 = .ok (.iconst (-1), 1) := by decide +kernel
theorem dX11_derived_27 : decode cX11_derived 27 = .ok (.ireturn, 1) := by decide +kernel
theorem dX11_derived_28 : decode cX11_derived 28 = .ok (.iload_n 3, 1) := by decide +kernel
theorem dX11_derived_29 : decode cX11_derived 29 = .ok (.iconst 0, 1) := by decide +kernel
theorem dX11_derived_30 : decode cX11_derived 30 = .ok (.bipush 8, 2) := by decide +kernel
theorem dX11_derived_32 : decode cX11_derived 32 = .ok (.invokestatic 124, 3) := by decide +kernel
theorem dX11_derived_35 : decode cX11_derived 35 = .ok (.ifCond .ne 6, 3) := by decide +kernel
theorem dX11_derived_38 : decode cX11_derived 38 = .ok (.bipush (-2), 2) := by decide +kernel
theorem dX11_derived_40 : decode cX11_derived 40 = .ok (.ireturn, 1) := by decide +kernel
theorem dX11_derived_41 : decode cX11_derived 41 = .ok (.aload_n 0, 1) := by decide +kernel
theorem dX11_derived_42 : decode cX11_derived 42 = .ok (.getfield 58, 3) := by decide +kernel
theorem dX11_derived_45 : decode cX11_derived 45 = .ok (.iload_n 2, 1) := by decide +kernel
theorem dX11_derived_46 : decode cX11_derived 46 = .ok (.iaload, 1) := by decide +kernel
theorem dX11_derived_47 : decode cX11_derived 47 = .ok (.bipush (-9), 2) := by decide +kernel
theorem dX11_derived_49 : decode cX11_derived 49 = .ok (.if_icmp .ne 6, 3) := by decide +kernel
theorem dX11_derived_52 : decode cX11_derived 52 = .ok (.bipush (-3), 2) := by decide +kernel
theorem dX11_derived_54 : decode cX11_derived 54 = .ok (.ireturn, 1) := by decide +kernel
theorem dX11_derived_55 : decode cX11_derived 55 = .ok (.aload_n 0, 1) := by decide +kernel
theorem dX11_derived_56 : decode cX11_derived 56 = .ok (.iload_n 2, 1) := by decide +kernel
theorem dX11_derived_57 : decode cX11_derived 57 = .ok (.invokevirtual 227, 3) := by decide +kernel
theorem dX11_derived_60 : decode cX11_derived 60 = .ok (.aload_n 0, 1) := by decide +kernel
theorem dX11_derived_61 : decode cX11_derived 61 = .ok (.iload_n 1, 1) := by decide +kernel
theorem dX11_derived_62 : decode cX11_derived 62 = .ok (.iload_n 3, 1) := by decide +kernel
theorem dX11_derived_63 : decode cX11_derived 63 = .ok (.invokevirtual 231, 3) := by decide +kernel
theorem dX11_derived_66 : decode cX11_derived 66 = .ok (.pop, 1) := by decide +kernel
theorem dX11_derived_67 : decode cX11_derived 67 = .ok (.iload 4, 2) := by decide +kernel
theorem dX11_derived_69 : decode cX11_derived 69 = .ok (.iconst (-1), 1) := by decide +kernel
theorem dX11_derived_70 : decode cX11_derived 70 = .ok (.if_icmp .ne 10, 3) := by decide +kernel
theorem dX11_derived_73 : decode cX11_derived 73 = .ok (.aload_n 0, 1) := by decide +kernel
theorem dX11_derived_74 : decode cX11_derived 74 = .ok (.getfield 218, 3) := by decide +kernel
theorem dX11_derived_77 : decode cX11_derived 77 = .ok (.goto 24, 3) := by decide +kernel
theorem dX11_derived_80 : decode cX11_derived 80 = .ok (.iload 4, 2) := by decide +kernel
theorem dX11_derived_82 : decode cX11_derived 82 = .ok (.aload_n 0, 1) := by decide +kernel
theorem dX11_derived_83 : decode cX11_derived 83 = .ok (.getfield 218, 3) := by decide +kernel
theorem dX11_derived_86 : decode cX11_derived 86 = .ok (.if_icmp .ge 13, 3) := by decide +kernel
theorem dX11_derived_89 : decode cX11_derived 89 = .ok (.aload_n 0, 1) := by decide +kernel
theorem dX11_derived_90 : decode cX11_derived 90 = .ok (.getfield 82, 3) := by decide +kernel
theorem dX11_derived_93 : decode cX11_derived 93 = .ok (.iload 4, 2) := by decide +kernel
theorem dX11_derived_95 : decode cX11_derived 95 = .ok (.iaload, 1) := by decide +kernel
theorem dX11_derived_96 : decode cX11_derived 96 = .ok (.goto 5, 3) := by decide +kernel
theorem dX11_derived_99 : decode cX11_derived 99 = .ok (.bipush (-9), 2) := by decide +kernel
theorem dX11_derived_101 : decode cX11_derived 101 = .ok (.ireturn, 1) := by decide +kernel
theorem dX11_latest_0 : decode cX11_latest 0 = .ok (.aload_n 0, 1) := by decide +kernel
theorem dX11_latest_1 : decode cX11_latest 1 = .ok (.iload_n 1, 1) := by decide +kernel
theorem dX11_latest_2 : decode cX11_latest 2 = .ok (.invokevirtual 167, 3) := by decide +kernel
theorem dX11_latest_5 : decode cX11_latest 5 = .ok (.ifCond .eq 10, 3) := by decide +kernel
theorem dX11_latest_8 : decode cX11_latest 8 = .ok (.iload_n 2, 1) := by decide +kernel
theorem dX11_latest_9 : decode cX11_latest 9 = .ok (.invokestatic 173, 3) := by decide +kernel
theorem dX11_latest_12 : decode cX11_latest 12 = .ok (.ifCond .ne 5, 3) := by decide +kernel
theorem dX11_latest_15 : decode cX11_latest 15 = .ok (.iconst (-1), 1) := by decide +kernel
theorem dX11_latest_16 : decode cX11_latest 16 = .ok (.ireturn, 1) := by decide +kernel
theorem dX11_latest_17 : decode cX11_latest 17 = .ok (.aload_n 0, 1) := by decide +kernel
theorem dX11_latest_18 : decode cX11_latest 18 = .ok (.getfield 58, 3) := by decide +kernel
theorem dX11_latest_21 : decode cX11_latest 21 = .ok (.iload_n 2, 1) := by decide +kernel
theorem dX11_latest_22 : decode cX11_latest 22 = .ok (.iaload, 1) := by decide +kernel
theorem dX11_latest_23 : decode cX11_latest 23 = .ok (.bipush (-9), 2) := by decide +kernel
theorem dX11_latest_25 : decode cX11_latest 25 = .ok (.if_icmp .ne 6, 3) := by decide +kernel
theorem dX11_latest_28 : decode cX11_latest 28 = .ok (.bipush (-3), 2) := by decide +kernel
theorem dX11_latest_30 : decode cX11_latest 30 = .ok (.ireturn, 1) := by decide +kernel
theorem dX11_latest_31 : decode cX11_latest 31 = .ok (.aload_n 0, 1) := by decide +kernel
theorem dX11_latest_32 : decode cX11_latest 32 = .ok (.iload_n 2, 1) := by decide +kernel
theorem dX11_latest_33 : decode cX11_latest 33 = .ok (.invokevirtual 227, 3) := by decide +kernel
theorem dX11_latest_36 : decode cX11_latest 36 = .ok (.aload_n 0, 1) := by decide +kernel
theorem dX11_latest_37 : decode cX11_latest 37 = .ok (.iload_n 1, 1) := by decide +kernel
theorem dX11_latest_38 : decode cX11_latest 38 = .ok (.bipush 8, 2) := by decide +kernel
theorem dX11_latest_40 : decode cX11_latest 40 = .ok (.invokevirtual 231, 3) := by decide +kernel
theorem dX11_latest_43 : decode cX11_latest 43 = .ok (.ireturn, 1) := by decide +kernel
theorem dX11_gap_0 : decode cX11_gap 0 = .ok (.iload_n 1, 1) := by decide +kernel
theorem dX11_gap_1 : decode cX11_gap 1 = .ok (.iconst 1, 1) := by decide +kernel
theorem dX11_gap_2 : decode cX11_gap 2 = .ok (.bipush 20, 2) := by decide +kernel
theorem dX11_gap_4 : decode cX11_gap 4 = .ok (.invokestatic 124, 3) := by decide +kernel
theorem dX11_gap_7 : decode cX11_gap 7 = .ok (.ifCond .ne 6, 3) := by decide +kernel
theorem dX11_gap_10 : decode cX11_gap 10 = .ok (.bipush (-2), 2) := by decide +kernel
theorem dX11_gap_12 : decode cX11_gap 12 = .ok (.ireturn, 1) := by decide +kernel
theorem dX11_gap_13 : decode cX11_gap 13 = .ok (.aload_n 0, 1) := by decide +kernel
theorem dX11_gap_14 : decode cX11_gap 14 = .ok (.getfield 88, 3) := by decide +kernel
theorem dX11_gap_17 : decode cX11_gap 17 = .ok (.istore_n 2, 1) := by decide +kernel
theorem dX11_gap_18 : decode cX11_gap 18 = .ok (.aload_n 0, 1) := by decide +kernel
theorem dX11_gap_19 : decode cX11_gap 19 = .ok (.iload_n 1, 1) := by decide +kernel
theorem dX11_gap_20 : decode cX11_gap 20 = .ok (.putfield 88, 3) := by decide +kernel
theorem dX11_gap_23 : decode cX11_gap 23 = .ok (.iload_n 2, 1) := by decide +kernel
theorem dX11_gap_24 : decode cX11_gap 24 = .ok (.ireturn, 1) := by decide +kernel
theorem dX11_layCosts_0 : decode cX11_layCosts 0 = .ok (.iload_n 1, 1) := by decide +kernel
theorem dX11_layCosts_1 : decode cX11_layCosts 1 = .ok (.istore_n 3, 1) := by decide +kernel
theorem dX11_layCosts_2 : decode cX11_layCosts 2 = .ok (.iload_n 3, 1) := by decide +kernel
theorem dX11_layCosts_3 : decode cX11_layCosts 3 = .ok (.ifCond .lt 182, 3) := by decide +kernel
theorem dX11_layCosts_6 : decode cX11_layCosts 6 = .ok (.iload_n 2, 1) := by decide +kernel
theorem dX11_layCosts_7 : decode cX11_layCosts 7 = .ok (.istore 4, 2) := by decide +kernel
theorem dX11_layCosts_9 : decode cX11_layCosts 9 = .ok (.iload 4, 2) := by decide +kernel
theorem dX11_layCosts_11 : decode cX11_layCosts 11 = .ok (.ifCond .lt 168, 3) := by decide +kernel
theorem dX11_layCosts_14 : decode cX11_layCosts 14 = .ok (.iload_n 3, 1) := by decide +kernel
theorem dX11_layCosts_15 : decode cX11_layCosts 15 = .ok (.iload_n 1, 1) := by decide +kernel
theorem dX11_layCosts_16 : decode cX11_layCosts 16 = .ok (.if_icmp .eq 9, 3) := by decide +kernel
theorem dX11_layCosts_19 : decode cX11_layCosts 19 = .ok (.iload 4, 2) := by decide +kernel
theorem dX11_layCosts_21 : decode cX11_layCosts 21 = .ok (.iload_n 2, 1) := by decide +kernel
theorem dX11_layCosts_22 : decode cX11_layCosts 22 = .ok (.if_icmp .ne 31, 3) := by decide +kernel
theorem dX11_layCosts_25 : decode cX11_layCosts 25 = .ok (.aload_n 0, 1) := by decide +kernel
theorem dX11_layCosts_26 : decode cX11_layCosts 26 = .ok (.getfield 92, 3) := by decide +kernel
theorem dX11_layCosts_29 : decode cX11_layCosts 29 = .ok (.bipush 9, 2) := by decide +kernel
theorem dX11_layCosts_31 : decode cX11_layCosts 31 = .ok (.iload_n 3, 1) := by decide +kernel
theorem dX11_layCosts_32 : decode cX11_layCosts 32 = .ok (.imul, 1) := by decide +kernel
theorem dX11_layCosts_33 : decode cX11_layCosts 33 = .ok (.iload 4, 2) := by decide +kernel
theorem dX11_layCosts_35 : decode cX11_layCosts 35 = .ok (.iadd, 1) := by decide +kernel
theorem dX11_layCosts_36 : decode cX11_layCosts 36 = .ok (.aload_n 0, 1) := by decide +kernel
theorem dX11_layCosts_37 : decode cX11_layCosts 37 = .ok (.getfield 88, 3) := by decide +kernel
theorem dX11_layCosts_40 : decode cX11_layCosts 40 = .ok (.iload_n 1, 1) := by decide +kernel
theorem dX11_layCosts_41 : decode cX11_layCosts 41 = .ok (.iload_n 3, 1) := by decide +kernel
theorem dX11_layCosts_42 : decode cX11_layCosts 42 = .ok (.isub, 1) := by decide +kernel
theorem dX11_layCosts_43 : decode cX11_layCosts 43 = .ok (.iload_n 2, 1) := by decide +kernel
theorem dX11_layCosts_44 : decode cX11_layCosts 44 = .ok (.iadd, 1) := by decide +kernel
theorem dX11_layCosts_45 : decode cX11_layCosts 45 = .ok (.iload 4, 2) := by decide +kernel
theorem dX11_layCosts_47 : decode cX11_layCosts 47 = .ok (.isub, 1) := by decide +kernel
theorem dX11_layCosts_48 : decode cX11_layCosts 48 = .ok (.imul, 1) := by decide +kernel
theorem dX11_layCosts_49 : decode cX11_layCosts 49 = .ok (.iastore, 1) := by decide +kernel
theorem dX11_layCosts_50 : decode cX11_layCosts 50 = .ok (.goto 123, 3) := by decide +kernel
theorem dX11_layCosts_53 : decode cX11_layCosts 53 = .ok (.aload_n 0, 1) := by decide +kernel
theorem dX11_layCosts_54 : decode cX11_layCosts 54 = .ok (.aload_n 0, 1) := by decide +kernel
theorem dX11_layCosts_55 : decode cX11_layCosts 55 = .ok (.getfield 95, 3) := by decide +kernel
theorem dX11_layCosts_58 : decode cX11_layCosts 58 = .ok (.iload_n 3, 1) := by decide +kernel
theorem dX11_layCosts_59 : decode cX11_layCosts 59 = .ok (.iaload, 1) := by decide +kernel
theorem dX11_layCosts_60 : decode cX11_layCosts 60 = .ok (.aload_n 0, 1) := by decide +kernel
theorem dX11_layCosts_61 : decode cX11_layCosts 61 = .ok (.getfield 98, 3) := by decide +kernel
theorem dX11_layCosts_64 : decode cX11_layCosts 64 = .ok (.iload 4, 2) := by decide +kernel
theorem dX11_layCosts_66 : decode cX11_layCosts 66 = .ok (.iaload, 1) := by decide +kernel
theorem dX11_layCosts_67 : decode cX11_layCosts 67 = .ok (.invokevirtual 136, 3) := by decide +kernel
theorem dX11_layCosts_70 : decode cX11_layCosts 70 = .ok (.aload_n 0, 1) := by decide +kernel
theorem dX11_layCosts_71 : decode cX11_layCosts 71 = .ok (.getfield 92, 3) := by decide +kernel
theorem dX11_layCosts_74 : decode cX11_layCosts 74 = .ok (.bipush 9, 2) := by decide +kernel
theorem dX11_layCosts_76 : decode cX11_layCosts 76 = .ok (.iload_n 3, 1) := by decide +kernel
theorem dX11_layCosts_77 : decode cX11_layCosts 77 = .ok (.iconst 1, 1) := by decide +kernel
theorem dX11_layCosts_78 : decode cX11_layCosts 78 = .ok (.iadd, 1) := by decide +kernel
theorem dX11_layCosts_79 : decode cX11_layCosts 79 = .ok (.imul, 1) := by decide +kernel
theorem dX11_layCosts_80 : decode cX11_layCosts 80 = .ok (.iload 4, 2) := by decide +kernel
theorem dX11_layCosts_82 : decode cX11_layCosts 82 = .ok (.iadd, 1) := by decide +kernel
theorem dX11_layCosts_83 : decode cX11_layCosts 83 = .ok (.iconst 1, 1) := by decide +kernel
theorem dX11_layCosts_84 : decode cX11_layCosts 84 = .ok (.iadd, 1) := by decide +kernel
theorem dX11_layCosts_85 : decode cX11_layCosts 85 = .ok (.iaload, 1) := by decide +kernel
theorem dX11_layCosts_86 : decode cX11_layCosts 86 = .ok (.iadd, 1) := by decide +kernel
theorem dX11_layCosts_87 : decode cX11_layCosts 87 = .ok (.istore 5, 2) := by decide +kernel
theorem dX11_layCosts_89 : decode cX11_layCosts 89 = .ok (.aload_n 0, 1) := by decide +kernel
theorem dX11_layCosts_90 : decode cX11_layCosts 90 = .ok (.getfield 92, 3) := by decide +kernel
theorem dX11_layCosts_93 : decode cX11_layCosts 93 = .ok (.bipush 9, 2) := by decide +kernel
theorem dX11_layCosts_95 : decode cX11_layCosts 95 = .ok (.iload_n 3, 1) := by decide +kernel
theorem dX11_layCosts_96 : decode cX11_layCosts 96 = .ok (.iconst 1, 1) := by decide +kernel
theorem dX11_layCosts_97 : decode cX11_layCosts 97 = .ok (.iadd, 1) := by decide +kernel
theorem dX11_layCosts_98 : decode cX11_layCosts 98 = .ok (.imul, 1) := by decide +kernel
theorem dX11_layCosts_99 : decode cX11_layCosts 99 = .ok (.iload 4, 2) := by decide +kernel
theorem dX11_layCosts_101 : decode cX11_layCosts 101 = .ok (.iadd, 1) := by decide +kernel
theorem dX11_layCosts_102 : decode cX11_layCosts 102 = .ok (.iaload, 1) := by decide +kernel
theorem dX11_layCosts_103 : decode cX11_layCosts 103 = .ok (.aload_n 0, 1) := by decide +kernel
theorem dX11_layCosts_104 : decode cX11_layCosts 104 = .ok (.getfield 88, 3) := by decide +kernel
theorem dX11_layCosts_107 : decode cX11_layCosts 107 = .ok (.iadd, 1) := by decide +kernel
theorem dX11_layCosts_108 : decode cX11_layCosts 108 = .ok (.istore 6, 2) := by decide +kernel
theorem dX11_layCosts_110 : decode cX11_layCosts 110 = .ok (.aload_n 0, 1) := by decide +kernel
theorem dX11_layCosts_111 : decode cX11_layCosts 111 = .ok (.getfield 92, 3) := by decide +kernel
theorem dX11_layCosts_114 : decode cX11_layCosts 114 = .ok (.bipush 9, 2) := by decide +kernel
theorem dX11_layCosts_116 : decode cX11_layCosts 116 = .ok (.iload_n 3, 1) := by decide +kernel
theorem dX11_layCosts_117 : decode cX11_layCosts 117 = .ok (.imul, 1) := by decide +kernel
theorem dX11_layCosts_118 : decode cX11_layCosts 118 = .ok (.iload 4, 2) := by decide +kernel
theorem dX11_layCosts_120 : decode cX11_layCosts 120 = .ok (.iadd, 1) := by decide +kernel
theorem dX11_layCosts_121 : decode cX11_layCosts 121 = .ok (.iconst 1, 1) := by decide +kernel
theorem dX11_layCosts_122 : decode cX11_layCosts 122 = .ok (.iadd, 1) := by decide +kernel
theorem dX11_layCosts_123 : decode cX11_layCosts 123 = .ok (.iaload, 1) := by decide +kernel
theorem dX11_layCosts_124 : decode cX11_layCosts 124 = .ok (.aload_n 0, 1) := by decide +kernel
theorem dX11_layCosts_125 : decode cX11_layCosts 125 = .ok (.getfield 88, 3) := by decide +kernel
theorem dX11_layCosts_128 : decode cX11_layCosts 128 = .ok (.iadd, 1) := by decide +kernel
theorem dX11_layCosts_129 : decode cX11_layCosts 129 = .ok (.istore 7, 2) := by decide +kernel
theorem dX11_layCosts_131 : decode cX11_layCosts 131 = .ok (.iload 5, 2) := by decide +kernel
theorem dX11_layCosts_133 : decode cX11_layCosts 133 = .ok (.iload 6, 2) := by decide +kernel
theorem dX11_layCosts_135 : decode cX11_layCosts 135 = .ok (.if_icmp .ge 8, 3) := by decide +kernel
theorem dX11_layCosts_138 : decode cX11_layCosts 138 = .ok (.iload 5, 2) := by decide +kernel
theorem dX11_layCosts_140 : decode cX11_layCosts 140 = .ok (.goto 5, 3) := by decide +kernel
theorem dX11_layCosts_143 : decode cX11_layCosts 143 = .ok (.iload 6, 2) := by decide +kernel
theorem dX11_layCosts_145 : decode cX11_layCosts 145 = .ok (.istore 8, 2) := by decide +kernel
theorem dX11_layCosts_147 : decode cX11_layCosts 147 = .ok (.aload_n 0, 1) := by decide +kernel
theorem dX11_layCosts_148 : decode cX11_layCosts 148 = .ok (.getfield 92, 3) := by decide +kernel
theorem dX11_layCosts_151 : decode cX11_layCosts 151 = .ok (.bipush 9, 2) := by decide +kernel
theorem dX11_layCosts_153 : decode cX11_layCosts 153 = .ok (.iload_n 3, 1) := by decide +kernel
theorem dX11_layCosts_154 : decode cX11_layCosts 154 = .ok (.imul, 1) := by decide +kernel
theorem dX11_layCosts_155 : decode cX11_layCosts 155 = .ok (.iload 4, 2) := by decide +kernel
theorem dX11_layCosts_157 : decode cX11_layCosts 157 = .ok (.iadd, 1) := by decide +kernel
theorem dX11_layCosts_158 : decode cX11_layCosts 158 = .ok (.iload 8, 2) := by decide +kernel
theorem dX11_layCosts_160 : decode cX11_layCosts 160 = .ok (.iload 7, 2) := by decide +kernel
theorem dX11_layCosts_162 : decode cX11_layCosts 162 = .ok (.if_icmp .ge 8, 3) := by decide +kernel
theorem dX11_layCosts_165 : decode cX11_layCosts 165 = .ok (.iload 8, 2) := by decide +kernel
theorem dX11_layCosts_167 : decode cX11_layCosts 167 = .ok (.goto 5, 3) := by decide +kernel
theorem dX11_layCosts_170 : decode cX11_layCosts 170 = .ok (.iload 7, 2) := by decide +kernel
theorem dX11_layCosts_172 : decode cX11_layCosts 172 = .ok (.iastore, 1) := by decide +kernel
theorem dX11_layCosts_173 : decode cX11_layCosts 173 = .ok (.iinc 4 (-1), 3) := by decide +kernel
theorem dX11_layCosts_176 : decode cX11_layCosts 176 = .ok (.goto (-167), 3) := by decide +kernel
theorem dX11_layCosts_179 : decode cX11_layCosts 179 = .ok (.iinc 3 (-1), 3) := by decide +kernel
theorem dX11_layCosts_182 : decode cX11_layCosts 182 = .ok (.goto (-180), 3) := by decide +kernel
theorem dX11_layCosts_185 : decode cX11_layCosts 185 = .ok (.aload_n 0, 1) := by decide +kernel
theorem dX11_layCosts_186 : decode cX11_layCosts 186 = .ok (.getfield 92, 3) := by decide +kernel
theorem dX11_layCosts_189 : decode cX11_layCosts 189 = .ok (.iconst 0, 1) := by decide +kernel
theorem dX11_layCosts_190 : decode cX11_layCosts 190 = .ok (.iaload, 1) := by decide +kernel
theorem dX11_layCosts_191 : decode cX11_layCosts 191 = .ok (.ireturn, 1) := by decide +kernel
theorem dX11_takeForms_0 : decode cX11_takeForms 0 = .ok (.iconst 0, 1) := by decide +kernel
theorem dX11_takeForms_1 : decode cX11_takeForms 1 = .ok (.istore_n 3, 1) := by decide +kernel
theorem dX11_takeForms_2 : decode cX11_takeForms 2 = .ok (.iload_n 3, 1) := by decide +kernel
theorem dX11_takeForms_3 : decode cX11_takeForms 3 = .ok (.aload_n 0, 1) := by decide +kernel
theorem dX11_takeForms_4 : decode cX11_takeForms 4 = .ok (.getfield 49, 3) := by decide +kernel
theorem dX11_takeForms_7 : decode cX11_takeForms 7 = .ok (.iload_n 1, 1) := by decide +kernel
theorem dX11_takeForms_8 : decode cX11_takeForms 8 = .ok (.iaload, 1) := by decide +kernel
theorem dX11_takeForms_9 : decode cX11_takeForms 9 = .ok (.if_icmp .ge 26, 3) := by decide +kernel
theorem dX11_takeForms_12 : decode cX11_takeForms 12 = .ok (.aload_n 0, 1) := by decide +kernel
theorem dX11_takeForms_13 : decode cX11_takeForms 13 = .ok (.getfield 95, 3) := by decide +kernel
theorem dX11_takeForms_16 : decode cX11_takeForms 16 = .ok (.iload_n 3, 1) := by decide +kernel
theorem dX11_takeForms_17 : decode cX11_takeForms 17 = .ok (.aload_n 0, 1) := by decide +kernel
theorem dX11_takeForms_18 : decode cX11_takeForms 18 = .ok (.getfield 52, 3) := by decide +kernel
theorem dX11_takeForms_21 : decode cX11_takeForms 21 = .ok (.bipush 8, 2) := by decide +kernel
theorem dX11_takeForms_23 : decode cX11_takeForms 23 = .ok (.iload_n 1, 1) := by decide +kernel
theorem dX11_takeForms_24 : decode cX11_takeForms 24 = .ok (.imul, 1) := by decide +kernel
theorem dX11_takeForms_25 : decode cX11_takeForms 25 = .ok (.iload_n 3, 1) := by decide +kernel
theorem dX11_takeForms_26 : decode cX11_takeForms 26 = .ok (.iadd, 1) := by decide +kernel
theorem dX11_takeForms_27 : decode cX11_takeForms 27 = .ok (.iaload, 1) := by decide +kernel
theorem dX11_takeForms_28 : decode cX11_takeForms 28 = .ok (.iastore, 1) := by decide +kernel
theorem dX11_takeForms_29 : decode cX11_takeForms 29 = .ok (.iinc 3 1, 3) := by decide +kernel
theorem dX11_takeForms_32 : decode cX11_takeForms 32 = .ok (.goto (-30), 3) := by decide +kernel
theorem dX11_takeForms_35 : decode cX11_takeForms 35 = .ok (.iconst 0, 1) := by decide +kernel
theorem dX11_takeForms_36 : decode cX11_takeForms 36 = .ok (.istore_n 3, 1) := by decide +kernel
theorem dX11_takeForms_37 : decode cX11_takeForms 37 = .ok (.iload_n 3, 1) := by decide +kernel
theorem dX11_takeForms_38 : decode cX11_takeForms 38 = .ok (.aload_n 0, 1) := by decide +kernel
theorem dX11_takeForms_39 : decode cX11_takeForms 39 = .ok (.getfield 49, 3) := by decide +kernel
theorem dX11_takeForms_42 : decode cX11_takeForms 42 = .ok (.iload_n 2, 1) := by decide +kernel
theorem dX11_takeForms_43 : decode cX11_takeForms 43 = .ok (.iaload, 1) := by decide +kernel
theorem dX11_takeForms_44 : decode cX11_takeForms 44 = .ok (.if_icmp .ge 26, 3) := by decide +kernel
theorem dX11_takeForms_47 : decode cX11_takeForms 47 = .ok (.aload_n 0, 1) := by decide +kernel
theorem dX11_takeForms_48 : decode cX11_takeForms 48 = .ok (.getfield 98, 3) := by decide +kernel
theorem dX11_takeForms_51 : decode cX11_takeForms 51 = .ok (.iload_n 3, 1) := by decide +kernel
theorem dX11_takeForms_52 : decode cX11_takeForms 52 = .ok (.aload_n 0, 1) := by decide +kernel
theorem dX11_takeForms_53 : decode cX11_takeForms 53 = .ok (.getfield 52, 3) := by decide +kernel
theorem dX11_takeForms_56 : decode cX11_takeForms 56 = .ok (.bipush 8, 2) := by decide +kernel
theorem dX11_takeForms_58 : decode cX11_takeForms 58 = .ok (.iload_n 2, 1) := by decide +kernel
theorem dX11_takeForms_59 : decode cX11_takeForms 59 = .ok (.imul, 1) := by decide +kernel
theorem dX11_takeForms_60 : decode cX11_takeForms 60 = .ok (.iload_n 3, 1) := by decide +kernel
theorem dX11_takeForms_61 : decode cX11_takeForms 61 = .ok (.iadd, 1) := by decide +kernel
theorem dX11_takeForms_62 : decode cX11_takeForms 62 = .ok (.iaload, 1) := by decide +kernel
theorem dX11_takeForms_63 : decode cX11_takeForms 63 = .ok (.iastore, 1) := by decide +kernel
theorem dX11_takeForms_64 : decode cX11_takeForms 64 = .ok (.iinc 3 1, 3) := by decide +kernel
theorem dX11_takeForms_67 : decode cX11_takeForms 67 = .ok (.goto (-30), 3) := by decide +kernel
theorem dX11_takeForms_70 : decode cX11_takeForms 70 = .ok (.return_, 1) := by decide +kernel
theorem dX11_costOf_0 : decode cX11_costOf 0 = .ok (.aload_n 0, 1) := by decide +kernel
theorem dX11_costOf_1 : decode cX11_costOf 1 = .ok (.iload_n 1, 1) := by decide +kernel
theorem dX11_costOf_2 : decode cX11_costOf 2 = .ok (.iload_n 2, 1) := by decide +kernel
theorem dX11_costOf_3 : decode cX11_costOf 3 = .ok (.invokevirtual 234, 3) := by decide +kernel
theorem dX11_costOf_6 : decode cX11_costOf 6 = .ok (.aload_n 0, 1) := by decide +kernel
theorem dX11_costOf_7 : decode cX11_costOf 7 = .ok (.aload_n 0, 1) := by decide +kernel
theorem dX11_costOf_8 : decode cX11_costOf 8 = .ok (.getfield 49, 3) := by decide +kernel
theorem dX11_costOf_11 : decode cX11_costOf 11 = .ok (.iload_n 1, 1) := by decide +kernel
theorem dX11_costOf_12 : decode cX11_costOf 12 = .ok (.iaload, 1) := by decide +kernel
theorem dX11_costOf_13 : decode cX11_costOf 13 = .ok (.aload_n 0, 1) := by decide +kernel
theorem dX11_costOf_14 : decode cX11_costOf 14 = .ok (.getfield 49, 3) := by decide +kernel
theorem dX11_costOf_17 : decode cX11_costOf 17 = .ok (.iload_n 2, 1) := by decide +kernel
theorem dX11_costOf_18 : decode cX11_costOf 18 = .ok (.iaload, 1) := by decide +kernel
theorem dX11_costOf_19 : decode cX11_costOf 19 = .ok (.invokevirtual 238, 3) := by decide +kernel
theorem dX11_costOf_22 : decode cX11_costOf 22 = .ok (.ireturn, 1) := by decide +kernel
theorem dX11_cost_0 : decode cX11_cost 0 = .ok (.aload_n 0, 1) := by decide +kernel
theorem dX11_cost_1 : decode cX11_cost 1 = .ok (.iload_n 1, 1) := by decide +kernel
theorem dX11_cost_2 : decode cX11_cost 2 = .ok (.invokevirtual 183, 3) := by decide +kernel
theorem dX11_cost_5 : decode cX11_cost 5 = .ok (.ifCond .eq 20, 3) := by decide +kernel
theorem dX11_cost_8 : decode cX11_cost 8 = .ok (.aload_n 0, 1) := by decide +kernel
theorem dX11_cost_9 : decode cX11_cost 9 = .ok (.iload_n 2, 1) := by decide +kernel
theorem dX11_cost_10 : decode cX11_cost 10 = .ok (.invokevirtual 183, 3) := by decide +kernel
theorem dX11_cost_13 : decode cX11_cost 13 = .ok (.ifCond .eq 12, 3) := by decide +kernel
theorem dX11_cost_16 : decode cX11_cost 16 = .ok (.aload_n 0, 1) := by decide +kernel
theorem dX11_cost_17 : decode cX11_cost 17 = .ok (.iload_n 1, 1) := by decide +kernel
theorem dX11_cost_18 : decode cX11_cost 18 = .ok (.iload_n 2, 1) := by decide +kernel
theorem dX11_cost_19 : decode cX11_cost 19 = .ok (.invokevirtual 241, 3) := by decide +kernel
theorem dX11_cost_22 : decode cX11_cost 22 = .ok (.goto 4, 3) := by decide +kernel
theorem dX11_cost_25 : decode cX11_cost 25 = .ok (.iconst (-1), 1) := by decide +kernel
theorem dX11_cost_26 : decode cX11_cost 26 = .ok (.ireturn, 1) := by decide +kernel
theorem dX11_align_0 : decode cX11_align 0 = .ok (.aload_n 0, 1) := by decide +kernel
theorem dX11_align_1 : decode cX11_align 1 = .ok (.iload_n 1, 1) := by decide +kernel
theorem dX11_align_2 : decode cX11_align 2 = .ok (.invokevirtual 183, 3) := by decide +kernel
theorem dX11_align_5 : decode cX11_align 5 = .ok (.ifCond .eq 21, 3) := by decide +kernel
theorem dX11_align_8 : decode cX11_align 8 = .ok (.aload_n 0, 1) := by decide +kernel
theorem dX11_align_9 : decode cX11_align 9 = .ok (.iload_n 2, 1) := by decide +kernel
theorem dX11_align_10 : decode cX11_align 10 = .ok (.invokevirtual 183, 3) := by decide +kernel
theorem dX11_align_13 : decode cX11_align 13 = .ok (.ifCond .eq 13, 3) := by decide +kernel
theorem dX11_align_16 : decode cX11_align 16 = .ok (.iload_n 3, 1) := by decide +kernel
theorem dX11_align_17 : decode cX11_align 17 = .ok (.iconst (-1), 1) := by decide +kernel
theorem dX11_align_18 : decode cX11_align 18 = .ok (.bipush 15, 2) := by decide +kernel
theorem dX11_align_20 : decode cX11_align 20 = .ok (.invokestatic 124, 3) := by decide +kernel
theorem dX11_align_23 : decode cX11_align 23 = .ok (.ifCond .ne 5, 3) := by decide +kernel
theorem dX11_align_26 : decode cX11_align 26 = .ok (.iconst (-1), 1) := by decide +kernel
theorem dX11_align_27 : decode cX11_align 27 = .ok (.ireturn, 1) := by decide +kernel
theorem dX11_align_28 : decode cX11_align 28 = .ok (.aload_n 0, 1) := by decide +kernel
theorem dX11_align_29 : decode cX11_align 29 = .ok (.iload_n 1, 1) := by decide +kernel
theorem dX11_align_30 : decode cX11_align 30 = .ok (.iload_n 2, 1) := by decide +kernel
theorem dX11_align_31 : decode cX11_align 31 = .ok (.invokevirtual 241, 3) := by decide +kernel
theorem dX11_align_34 : decode cX11_align 34 = .ok (.pop, 1) := by decide +kernel
theorem dX11_align_35 : decode cX11_align 35 = .ok (.aload_n 0, 1) := by decide +kernel
theorem dX11_align_36 : decode cX11_align 36 = .ok (.getfield 49, 3) := by decide +kernel
theorem dX11_align_39 : decode cX11_align 39 = .ok (.iload_n 1, 1) := by decide +kernel
theorem dX11_align_40 : decode cX11_align 40 = .ok (.iaload, 1) := by decide +kernel
theorem dX11_align_41 : decode cX11_align 41 = .ok (.istore 4, 2) := by decide +kernel
theorem dX11_align_43 : decode cX11_align 43 = .ok (.aload_n 0, 1) := by decide +kernel
theorem dX11_align_44 : decode cX11_align 44 = .ok (.getfield 49, 3) := by decide +kernel
theorem dX11_align_47 : decode cX11_align 47 = .ok (.iload_n 2, 1) := by decide +kernel
theorem dX11_align_48 : decode cX11_align 48 = .ok (.iaload, 1) := by decide +kernel
theorem dX11_align_49 : decode cX11_align 49 = .ok (.istore 5, 2) := by decide +kernel
theorem dX11_align_51 : decode cX11_align 51 = .ok (.iconst 0, 1) := by decide +kernel
theorem dX11_align_52 : decode cX11_align 52 = .ok (.istore 6, 2) := by decide +kernel
theorem dX11_align_54 : decode cX11_align 54 = .ok (.iconst 0, 1) := by decide +kernel
theorem dX11_align_55 : decode cX11_align 55 = .ok (.istore 7, 2) := by decide +kernel
theorem dX11_align_57 : decode cX11_align 57 = .ok (.iconst 0, 1) := by decide +kernel
theorem dX11_align_58 : decode cX11_align 58 = .ok (.istore 8, 2) := by decide +kernel
theorem dX11_align_60 : decode cX11_align 60 = .ok (.iload 6, 2) := by decide +kernel
theorem dX11_align_62 : decode cX11_align 62 = .ok (.iload 4, 2) := by decide +kernel
theorem dX11_align_64 : decode cX11_align 64 = .ok (.if_icmp .lt 10, 3) := by decide +kernel
theorem dX11_align_67 : decode cX11_align 67 = .ok (.iload 7, 2) := by decide +kernel
theorem dX11_align_69 : decode cX11_align 69 = .ok (.iload 5, 2) := by decide +kernel
theorem dX11_align_71 : decode cX11_align 71 = .ok (.if_icmp .ge 187, 3) := by decide +kernel
theorem dX11_align_74 : decode cX11_align 74 = .ok (.aload_n 0, 1) := by decide +kernel
theorem dX11_align_75 : decode cX11_align 75 = .ok (.getfield 92, 3) := by decide +kernel
theorem dX11_align_78 : decode cX11_align 78 = .ok (.bipush 9, 2) := by decide +kernel
theorem dX11_align_80 : decode cX11_align 80 = .ok (.iload 6, 2) := by decide +kernel
theorem dX11_align_82 : decode cX11_align 82 = .ok (.imul, 1) := by decide +kernel
theorem dX11_align_83 : decode cX11_align 83 = .ok (.iload 7, 2) := by decide +kernel
theorem dX11_align_85 : decode cX11_align 85 = .ok (.iadd, 1) := by decide +kernel
theorem dX11_align_86 : decode cX11_align 86 = .ok (.iaload, 1) := by decide +kernel
theorem dX11_align_87 : decode cX11_align 87 = .ok (.istore 9, 2) := by decide +kernel
theorem dX11_align_89 : decode cX11_align 89 = .ok (.iload 6, 2) := by decide +kernel
theorem dX11_align_91 : decode cX11_align 91 = .ok (.iload 4, 2) := by decide +kernel
theorem dX11_align_93 : decode cX11_align 93 = .ok (.if_icmp .ge 84, 3) := by decide +kernel
theorem dX11_align_96 : decode cX11_align 96 = .ok (.iload 7, 2) := by decide +kernel
theorem dX11_align_98 : decode cX11_align 98 = .ok (.iload 5, 2) := by decide +kernel
theorem dX11_align_100 : decode cX11_align 100 = .ok (.if_icmp .ge 77, 3) := by decide +kernel
theorem dX11_align_103 : decode cX11_align 103 = .ok (.aload_n 0, 1) := by decide +kernel
theorem dX11_align_104 : decode cX11_align 104 = .ok (.aload_n 0, 1) := by decide +kernel
theorem dX11_align_105 : decode cX11_align 105 = .ok (.getfield 95, 3) := by decide +kernel
theorem dX11_align_108 : decode cX11_align 108 = .ok (.iload 6, 2) := by decide +kernel
theorem dX11_align_110 : decode cX11_align 110 = .ok (.iaload, 1) := by decide +kernel
theorem dX11_align_111 : decode cX11_align 111 = .ok (.aload_n 0, 1) := by decide +kernel
theorem dX11_align_112 : decode cX11_align 112 = .ok (.getfield 98, 3) := by decide +kernel
theorem dX11_align_115 : decode cX11_align 115 = .ok (.iload 7, 2) := by decide +kernel
theorem dX11_align_117 : decode cX11_align 117 = .ok (.iaload, 1) := by decide +kernel
theorem dX11_align_118 : decode cX11_align 118 = .ok (.invokevirtual 136, 3) := by decide +kernel
theorem dX11_align_121 : decode cX11_align 121 = .ok (.aload_n 0, 1) := by decide +kernel
theorem dX11_align_122 : decode cX11_align 122 = .ok (.getfield 92, 3) := by decide +kernel
theorem dX11_align_125 : decode cX11_align 125 = .ok (.bipush 9, 2) := by decide +kernel
theorem dX11_align_127 : decode cX11_align 127 = .ok (.iload 6, 2) := by decide +kernel
theorem dX11_align_129 : decode cX11_align 129 = .ok (.iconst 1, 1) := by decide +kernel
theorem dX11_align_130 : decode cX11_align 130 = .ok (.iadd, 1) := by decide +kernel
theorem dX11_align_131 : decode cX11_align 131 = .ok (.imul, 1) := by decide +kernel
theorem dX11_align_132 : decode cX11_align 132 = .ok (.iload 7, 2) := by decide +kernel
theorem dX11_align_134 : decode cX11_align 134 = .ok (.iadd, 1) := by decide +kernel
theorem dX11_align_135 : decode cX11_align 135 = .ok (.iconst 1, 1) := by decide +kernel
theorem dX11_align_136 : decode cX11_align 136 = .ok (.iadd, 1) := by decide +kernel
theorem dX11_align_137 : decode cX11_align 137 = .ok (.iaload, 1) := by decide +kernel
theorem dX11_align_138 : decode cX11_align 138 = .ok (.iadd, 1) := by decide +kernel
theorem dX11_align_139 : decode cX11_align 139 = .ok (.iload 9, 2) := by decide +kernel
theorem dX11_align_141 : decode cX11_align 141 = .ok (.if_icmp .ne 36, 3) := by decide +kernel
theorem dX11_align_144 : decode cX11_align 144 = .ok (.bipush 100, 2) := by decide +kernel
theorem dX11_align_146 : decode cX11_align 146 = .ok (.aload_n 0, 1) := by decide +kernel
theorem dX11_align_147 : decode cX11_align 147 = .ok (.getfield 95, 3) := by decide +kernel
theorem dX11_align_150 : decode cX11_align 150 = .ok (.iload 6, 2) := by decide +kernel
theorem dX11_align_152 : decode cX11_align 152 = .ok (.iaload, 1) := by decide +kernel
theorem dX11_align_153 : decode cX11_align 153 = .ok (.iconst 1, 1) := by decide +kernel
theorem dX11_align_154 : decode cX11_align 154 = .ok (.iadd, 1) := by decide +kernel
theorem dX11_align_155 : decode cX11_align 155 = .ok (.imul, 1) := by decide +kernel
theorem dX11_align_156 : decode cX11_align 156 = .ok (.aload_n 0, 1) := by decide +kernel
theorem dX11_align_157 : decode cX11_align 157 = .ok (.getfield 98, 3) := by decide +kernel
theorem dX11_align_160 : decode cX11_align 160 = .ok (.iload 7, 2) := by decide +kernel
theorem dX11_align_162 : decode cX11_align 162 = .ok (.iaload, 1) := by decide +kernel
theorem dX11_align_163 : decode cX11_align 163 = .ok (.iadd, 1) := by decide +kernel
theorem dX11_align_164 : decode cX11_align 164 = .ok (.iconst 1, 1) := by decide +kernel
theorem dX11_align_165 : decode cX11_align 165 = .ok (.iadd, 1) := by decide +kernel
theorem dX11_align_166 : decode cX11_align 166 = .ok (.istore 10, 2) := by decide +kernel
theorem dX11_align_168 : decode cX11_align 168 = .ok (.iinc 6 1, 3) := by decide +kernel
theorem dX11_align_171 : decode cX11_align 171 = .ok (.iinc 7 1, 3) := by decide +kernel
theorem dX11_align_174 : decode cX11_align 174 = .ok (.goto 69, 3) := by decide +kernel
theorem dX11_align_177 : decode cX11_align 177 = .ok (.iload 6, 2) := by decide +kernel
theorem dX11_align_179 : decode cX11_align 179 = .ok (.iload 4, 2) := by decide +kernel
theorem dX11_align_181 : decode cX11_align 181 = .ok (.if_icmp .ge 48, 3) := by decide +kernel
theorem dX11_align_184 : decode cX11_align 184 = .ok (.aload_n 0, 1) := by decide +kernel
theorem dX11_align_185 : decode cX11_align 185 = .ok (.getfield 92, 3) := by decide +kernel
theorem dX11_align_188 : decode cX11_align 188 = .ok (.bipush 9, 2) := by decide +kernel
theorem dX11_align_190 : decode cX11_align 190 = .ok (.iload 6, 2) := by decide +kernel
theorem dX11_align_192 : decode cX11_align 192 = .ok (.iconst 1, 1) := by decide +kernel
theorem dX11_align_193 : decode cX11_align 193 = .ok (.iadd, 1) := by decide +kernel
theorem dX11_align_194 : decode cX11_align 194 = .ok (.imul, 1) := by decide +kernel
theorem dX11_align_195 : decode cX11_align 195 = .ok (.iload 7, 2) := by decide +kernel
theorem dX11_align_197 : decode cX11_align 197 = .ok (.iadd, 1) := by decide +kernel
theorem dX11_align_198 : decode cX11_align 198 = .ok (.iaload, 1) := by decide +kernel
theorem dX11_align_199 : decode cX11_align 199 = .ok (.aload_n 0, 1) := by decide +kernel
theorem dX11_align_200 : decode cX11_align 200 = .ok (.getfield 88, 3) := by decide +kernel
theorem dX11_align_203 : decode cX11_align 203 = .ok (.iadd, 1) := by decide +kernel
theorem dX11_align_204 : decode cX11_align 204 = .ok (.iload 9, 2) := by decide +kernel
theorem dX11_align_206 : decode cX11_align 206 = .ok (.if_icmp .ne 23, 3) := by decide +kernel
theorem dX11_align_209 : decode cX11_align 209 = .ok (.bipush 100, 2) := by decide +kernel
theorem dX11_align_211 : decode cX11_align 211 = .ok (.aload_n 0, 1) := by decide +kernel
theorem dX11_align_212 : decode cX11_align 212 = .ok (.getfield 95, 3) := by decide +kernel
theorem dX11_align_215 : decode cX11_align 215 = .ok (.iload 6, 2) := by decide +kernel
theorem dX11_align_217 : decode cX11_align 217 = .ok (.iaload, 1) := by decide +kernel
theorem dX11_align_218 : decode cX11_align 218 = .ok (.iconst 1, 1) := by decide +kernel
theorem dX11_align_219 : decode cX11_align 219 = .ok (.iadd, 1) := by decide +kernel
theorem dX11_align_220 : decode cX11_align 220 = .ok (.imul, 1) := by decide +kernel
theorem dX11_align_221 : decode cX11_align 221 = .ok (.istore 10, 2) := by decide +kernel
theorem dX11_align_223 : decode cX11_align 223 = .ok (.iinc 6 1, 3) := by decide +kernel
theorem dX11_align_226 : decode cX11_align 226 = .ok (.goto 17, 3) := by decide +kernel
theorem dX11_align_229 : decode cX11_align 229 = .ok (.aload_n 0, 1) := by decide +kernel
theorem dX11_align_230 : decode cX11_align 230 = .ok (.getfield 98, 3) := by decide +kernel
theorem dX11_align_233 : decode cX11_align 233 = .ok (.iload 7, 2) := by decide +kernel
theorem dX11_align_235 : decode cX11_align 235 = .ok (.iaload, 1) := by decide +kernel
theorem dX11_align_236 : decode cX11_align 236 = .ok (.iconst 1, 1) := by decide +kernel
theorem dX11_align_237 : decode cX11_align 237 = .ok (.iadd, 1) := by decide +kernel
theorem dX11_align_238 : decode cX11_align 238 = .ok (.istore 10, 2) := by decide +kernel
theorem dX11_align_240 : decode cX11_align 240 = .ok (.iinc 7 1, 3) := by decide +kernel
theorem dX11_align_243 : decode cX11_align 243 = .ok (.iload 8, 2) := by decide +kernel
theorem dX11_align_245 : decode cX11_align 245 = .ok (.iload_n 3, 1) := by decide +kernel
theorem dX11_align_246 : decode cX11_align 246 = .ok (.if_icmp .ne 6, 3) := by decide +kernel
theorem dX11_align_249 : decode cX11_align 249 = .ok (.iload 10, 2) := by decide +kernel
theorem dX11_align_251 : decode cX11_align 251 = .ok (.ireturn, 1) := by decide +kernel
theorem dX11_align_252 : decode cX11_align 252 = .ok (.iinc 8 1, 3) := by decide +kernel
theorem dX11_align_255 : decode cX11_align 255 = .ok (.goto (-195), 3) := by decide +kernel
theorem dX11_align_258 : decode cX11_align 258 = .ok (.iload_n 3, 1) := by decide +kernel
theorem dX11_align_259 : decode cX11_align 259 = .ok (.iconst (-1), 1) := by decide +kernel
theorem dX11_align_260 : decode cX11_align 260 = .ok (.if_icmp .ne 8, 3) := by decide +kernel
theorem dX11_align_263 : decode cX11_align 263 = .ok (.iload 8, 2) := by decide +kernel
theorem dX11_align_265 : decode cX11_align 265 = .ok (.goto 5, 3) := by decide +kernel
theorem dX11_align_268 : decode cX11_align 268 = .ok (.bipush (-9), 2) := by decide +kernel
theorem dX11_align_270 : decode cX11_align 270 = .ok (.ireturn, 1) := by decide +kernel
theorem dX11_laySet_0 : decode cX11_laySet 0 = .ok (.aload_n 0, 1) := by decide +kernel
theorem dX11_laySet_1 : decode cX11_laySet 1 = .ok (.iconst 0, 1) := by decide +kernel
theorem dX11_laySet_2 : decode cX11_laySet 2 = .ok (.putfield 244, 3) := by decide +kernel
theorem dX11_laySet_5 : decode cX11_laySet 5 = .ok (.iload_n 1, 1) := by decide +kernel
theorem dX11_laySet_6 : decode cX11_laySet 6 = .ok (.iconst 1, 1) := by decide +kernel
theorem dX11_laySet_7 : decode cX11_laySet 7 = .ok (.if_icmp .lt 9, 3) := by decide +kernel
theorem dX11_laySet_10 : decode cX11_laySet 10 = .ok (.iload_n 1, 1) := by decide +kernel
theorem dX11_laySet_11 : decode cX11_laySet 11 = .ok (.ldc 247, 2) := by decide +kernel
theorem dX11_laySet_13 : decode cX11_laySet 13 = .ok (.if_icmp .le 5, 3) := by decide +kernel
theorem dX11_laySet_16 : decode cX11_laySet 16 = .ok (.iconst 0, 1) := by decide +kernel
theorem dX11_laySet_17 : decode cX11_laySet 17 = .ok (.ireturn, 1) := by decide +kernel
theorem dX11_laySet_18 : decode cX11_laySet 18 = .ok (.iconst 0, 1) := by decide +kernel
theorem dX11_laySet_19 : decode cX11_laySet 19 = .ok (.istore_n 2, 1) := by decide +kernel
theorem dX11_laySet_20 : decode cX11_laySet 20 = .ok (.iload_n 2, 1) := by decide +kernel
theorem dX11_laySet_21 : decode cX11_laySet 21 = .ok (.bipush 16, 2) := by decide +kernel
theorem dX11_laySet_23 : decode cX11_laySet 23 = .ok (.if_icmp .ge 47, 3) := by decide +kernel
theorem dX11_laySet_26 : decode cX11_laySet 26 = .ok (.iload_n 1, 1) := by decide +kernel
theorem dX11_laySet_27 : decode cX11_laySet 27 = .ok (.iload_n 2, 1) := by decide +kernel
theorem dX11_laySet_28 : decode cX11_laySet 28 = .ok (.invokestatic 132, 3) := by decide +kernel
theorem dX11_laySet_31 : decode cX11_laySet 31 = .ok (.ifCond .eq 33, 3) := by decide +kernel
theorem dX11_laySet_34 : decode cX11_laySet 34 = .ok (.aload_n 0, 1) := by decide +kernel
theorem dX11_laySet_35 : decode cX11_laySet 35 = .ok (.getfield 244, 3) := by decide +kernel
theorem dX11_laySet_38 : decode cX11_laySet 38 = .ok (.iconst 5, 1) := by decide +kernel
theorem dX11_laySet_39 : decode cX11_laySet 39 = .ok (.if_icmp .ne 5, 3) := by decide +kernel
theorem dX11_laySet_42 : decode cX11_laySet 42 = .ok (.iconst 0, 1) := by decide +kernel
theorem dX11_laySet_43 : decode cX11_laySet 43 = .ok (.ireturn, 1) := by decide +kernel
theorem dX11_laySet_44 : decode cX11_laySet 44 = .ok (.aload_n 0, 1) := by decide +kernel
theorem dX11_laySet_45 : decode cX11_laySet 45 = .ok (.getfield 104, 3) := by decide +kernel
theorem dX11_laySet_48 : decode cX11_laySet 48 = .ok (.aload_n 0, 1) := by decide +kernel
theorem dX11_laySet_49 : decode cX11_laySet 49 = .ok (.getfield 244, 3) := by decide +kernel
theorem dX11_laySet_52 : decode cX11_laySet 52 = .ok (.iload_n 2, 1) := by decide +kernel
theorem dX11_laySet_53 : decode cX11_laySet 53 = .ok (.iastore, 1) := by decide +kernel
theorem dX11_laySet_54 : decode cX11_laySet 54 = .ok (.aload_n 0, 1) := by decide +kernel
theorem dX11_laySet_55 : decode cX11_laySet 55 = .ok (.dup, 1) := by decide +kernel
theorem dX11_laySet_56 : decode cX11_laySet 56 = .ok (.getfield 244, 3) := by decide +kernel
theorem dX11_laySet_59 : decode cX11_laySet 59 = .ok (.iconst 1, 1) := by decide +kernel
theorem dX11_laySet_60 : decode cX11_laySet 60 = .ok (.iadd, 1) := by decide +kernel
theorem dX11_laySet_61 : decode cX11_laySet 61 = .ok (.putfield 244, 3) := by decide +kernel
theorem dX11_laySet_64 : decode cX11_laySet 64 = .ok (.iinc 2 1, 3) := by decide +kernel
theorem dX11_laySet_67 : decode cX11_laySet 67 = .ok (.goto (-47), 3) := by decide +kernel
theorem dX11_laySet_70 : decode cX11_laySet 70 = .ok (.iconst 1, 1) := by decide +kernel
theorem dX11_laySet_71 : decode cX11_laySet 71 = .ok (.ireturn, 1) := by decide +kernel
theorem dX11_manyCandidates_0 : decode cX11_manyCandidates 0 = .ok (.iconst 1, 1) := by decide +kernel
theorem dX11_manyCandidates_1 : decode cX11_manyCandidates 1 = .ok (.aload_n 0, 1) := by decide +kernel
theorem dX11_manyCandidates_2 : decode cX11_manyCandidates 2 = .ok (.getfield 244, 3) := by decide +kernel
theorem dX11_manyCandidates_5 : decode cX11_manyCandidates 5 = .ok (.iadd, 1) := by decide +kernel
theorem dX11_manyCandidates_6 : decode cX11_manyCandidates 6 = .ok (.aload_n 0, 1) := by decide +kernel
theorem dX11_manyCandidates_7 : decode cX11_manyCandidates 7 = .ok (.getfield 244, 3) := by decide +kernel
theorem dX11_manyCandidates_10 : decode cX11_manyCandidates 10 = .ok (.aload_n 0, 1) := by decide +kernel
theorem dX11_manyCandidates_11 : decode cX11_manyCandidates 11 = .ok (.getfield 244, 3) := by decide +kernel
theorem dX11_manyCandidates_14 : decode cX11_manyCandidates 14 = .ok (.imul, 1) := by decide +kernel
theorem dX11_manyCandidates_15 : decode cX11_manyCandidates 15 = .ok (.iadd, 1) := by decide +kernel
theorem dX11_manyCandidates_16 : decode cX11_manyCandidates 16 = .ok (.aload_n 0, 1) := by decide +kernel
theorem dX11_manyCandidates_17 : decode cX11_manyCandidates 17 = .ok (.getfield 244, 3) := by decide +kernel
theorem dX11_manyCandidates_20 : decode cX11_manyCandidates 20 = .ok (.aload_n 0, 1) := by decide +kernel
theorem dX11_manyCandidates_21 : decode cX11_manyCandidates 21 = .ok (.getfield 244, 3) := by decide +kernel
theorem dX11_manyCandidates_24 : decode cX11_manyCandidates 24 = .ok (.imul, 1) := by decide +kernel
theorem dX11_manyCandidates_25 : decode cX11_manyCandidates 25 = .ok (.aload_n 0, 1) := by decide +kernel
theorem dX11_manyCandidates_26 : decode cX11_manyCandidates 26 = .ok (.getfield 244, 3) := by decide +kernel
theorem dX11_manyCandidates_29 : decode cX11_manyCandidates 29 = .ok (.imul, 1) := by decide +kernel
theorem dX11_manyCandidates_30 : decode cX11_manyCandidates 30 = .ok (.iadd, 1) := by decide +kernel
theorem dX11_manyCandidates_31 : decode cX11_manyCandidates 31 = .ok (.ireturn, 1) := by decide +kernel
theorem dX11_layCandidate_0 : decode cX11_layCandidate 0 = .ok (.iload_n 1, 1) := by decide +kernel
theorem dX11_layCandidate_1 : decode cX11_layCandidate 1 = .ok (.istore_n 2, 1) := by decide +kernel
theorem dX11_layCandidate_2 : decode cX11_layCandidate 2 = .ok (.iconst 1, 1) := by decide +kernel
theorem dX11_layCandidate_3 : decode cX11_layCandidate 3 = .ok (.istore_n 3, 1) := by decide +kernel
theorem dX11_layCandidate_4 : decode cX11_layCandidate 4 = .ok (.aload_n 0, 1) := by decide +kernel
theorem dX11_layCandidate_5 : decode cX11_layCandidate 5 = .ok (.iconst 0, 1) := by decide +kernel
theorem dX11_layCandidate_6 : decode cX11_layCandidate 6 = .ok (.putfield 248, 3) := by decide +kernel
theorem dX11_layCandidate_9 : decode cX11_layCandidate 9 = .ok (.iload_n 2, 1) := by decide +kernel
theorem dX11_layCandidate_10 : decode cX11_layCandidate 10 = .ok (.iload_n 3, 1) := by decide +kernel
theorem dX11_layCandidate_11 : decode cX11_layCandidate 11 = .ok (.if_icmp .lt 27, 3) := by decide +kernel
theorem dX11_layCandidate_14 : decode cX11_layCandidate 14 = .ok (.iload_n 2, 1) := by decide +kernel
theorem dX11_layCandidate_15 : decode cX11_layCandidate 15 = .ok (.iload_n 3, 1) := by decide +kernel
theorem dX11_layCandidate_16 : decode cX11_layCandidate 16 = .ok (.isub, 1) := by decide +kernel
theorem dX11_layCandidate_17 : decode cX11_layCandidate 17 = .ok (.istore_n 2, 1) := by decide +kernel
theorem dX11_layCandidate_18 : decode cX11_layCandidate 18 = .ok (.iload_n 3, 1) := by decide +kernel
theorem dX11_layCandidate_19 : decode cX11_layCandidate 19 = .ok (.aload_n 0, 1) := by decide +kernel
theorem dX11_layCandidate_20 : decode cX11_layCandidate 20 = .ok (.getfield 244, 3) := by decide +kernel
theorem dX11_layCandidate_23 : decode cX11_layCandidate 23 = .ok (.imul, 1) := by decide +kernel
theorem dX11_layCandidate_24 : decode cX11_layCandidate 24 = .ok (.istore_n 3, 1) := by decide +kernel
theorem dX11_layCandidate_25 : decode cX11_layCandidate 25 = .ok (.aload_n 0, 1) := by decide +kernel
theorem dX11_layCandidate_26 : decode cX11_layCandidate 26 = .ok (.dup, 1) := by decide +kernel
theorem dX11_layCandidate_27 : decode cX11_layCandidate 27 = .ok (.getfield 248, 3) := by decide +kernel
theorem dX11_layCandidate_30 : decode cX11_layCandidate 30 = .ok (.iconst 1, 1) := by decide +kernel
theorem dX11_layCandidate_31 : decode cX11_layCandidate 31 = .ok (.iadd, 1) := by decide +kernel
theorem dX11_layCandidate_32 : decode cX11_layCandidate 32 = .ok (.putfield 248, 3) := by decide +kernel
theorem dX11_layCandidate_35 : decode cX11_layCandidate 35 = .ok (.goto (-26), 3) := by decide +kernel
theorem dX11_layCandidate_38 : decode cX11_layCandidate 38 = .ok (.aload_n 0, 1) := by decide +kernel
theorem dX11_layCandidate_39 : decode cX11_layCandidate 39 = .ok (.getfield 248, 3) := by decide +kernel
theorem dX11_layCandidate_42 : decode cX11_layCandidate 42 = .ok (.iconst 1, 1) := by decide +kernel
theorem dX11_layCandidate_43 : decode cX11_layCandidate 43 = .ok (.isub, 1) := by decide +kernel
theorem dX11_layCandidate_44 : decode cX11_layCandidate 44 = .ok (.istore 4, 2) := by decide +kernel
theorem dX11_layCandidate_46 : decode cX11_layCandidate 46 = .ok (.iload 4, 2) := by decide +kernel
theorem dX11_layCandidate_48 : decode cX11_layCandidate 48 = .ok (.ifCond .lt 34, 3) := by decide +kernel
theorem dX11_layCandidate_51 : decode cX11_layCandidate 51 = .ok (.aload_n 0, 1) := by decide +kernel
theorem dX11_layCandidate_52 : decode cX11_layCandidate 52 = .ok (.getfield 101, 3) := by decide +kernel
theorem dX11_layCandidate_55 : decode cX11_layCandidate 55 = .ok (.iload 4, 2) := by decide +kernel
theorem dX11_layCandidate_57 : decode cX11_layCandidate 57 = .ok (.aload_n 0, 1) := by decide +kernel
theorem dX11_layCandidate_58 : decode cX11_layCandidate 58 = .ok (.getfield 104, 3) := by decide +kernel
theorem dX11_layCandidate_61 : decode cX11_layCandidate 61 = .ok (.iload_n 2, 1) := by decide +kernel
theorem dX11_layCandidate_62 : decode cX11_layCandidate 62 = .ok (.aload_n 0, 1) := by decide +kernel
theorem dX11_layCandidate_63 : decode cX11_layCandidate 63 = .ok (.getfield 244, 3) := by decide +kernel
theorem dX11_layCandidate_66 : decode cX11_layCandidate 66 = .ok (.irem, 1) := by decide +kernel
theorem dX11_layCandidate_67 : decode cX11_layCandidate 67 = .ok (.iaload, 1) := by decide +kernel
theorem dX11_layCandidate_68 : decode cX11_layCandidate 68 = .ok (.iastore, 1) := by decide +kernel
theorem dX11_layCandidate_69 : decode cX11_layCandidate 69 = .ok (.iload_n 2, 1) := by decide +kernel
theorem dX11_layCandidate_70 : decode cX11_layCandidate 70 = .ok (.aload_n 0, 1) := by decide +kernel
theorem dX11_layCandidate_71 : decode cX11_layCandidate 71 = .ok (.getfield 244, 3) := by decide +kernel
theorem dX11_layCandidate_74 : decode cX11_layCandidate 74 = .ok (.idiv, 1) := by decide +kernel
theorem dX11_layCandidate_75 : decode cX11_layCandidate 75 = .ok (.istore_n 2, 1) := by decide +kernel
theorem dX11_layCandidate_76 : decode cX11_layCandidate 76 = .ok (.iinc 4 (-1), 3) := by decide +kernel
theorem dX11_layCandidate_79 : decode cX11_layCandidate 79 = .ok (.goto (-33), 3) := by decide +kernel
theorem dX11_layCandidate_82 : decode cX11_layCandidate 82 = .ok (.return_, 1) := by decide +kernel
theorem dX11_deriveCandidate_0 : decode cX11_deriveCandidate 0 = .ok (.aload_n 0, 1) := by decide +kernel
theorem dX11_deriveCandidate_1 : decode cX11_deriveCandidate 1 = .ok (.aload_n 0, 1) := by decide +kernel
theorem dX11_deriveCandidate_2 : decode cX11_deriveCandidate 2 = .ok (.getfield 248, 3) := by decide +kernel
theorem dX11_deriveCandidate_5 : decode cX11_deriveCandidate 5 = .ok (.putfield 218, 3) := by decide +kernel
theorem dX11_deriveCandidate_8 : decode cX11_deriveCandidate 8 = .ok (.iconst 0, 1) := by decide +kernel
theorem dX11_deriveCandidate_9 : decode cX11_deriveCandidate 9 = .ok (.istore_n 2, 1) := by decide +kernel
theorem dX11_deriveCandidate_10 : decode cX11_deriveCandidate 10 = .ok (.iload_n 2, 1) := by decide +kernel
theorem dX11_deriveCandidate_11 : decode cX11_deriveCandidate 11 = .ok (.aload_n 0, 1) := by decide +kernel
theorem dX11_deriveCandidate_12 : decode cX11_deriveCandidate 12 = .ok (.getfield 218, 3) := by decide +kernel
theorem dX11_deriveCandidate_15 : decode cX11_deriveCandidate 15 = .ok (.if_icmp .ge 21, 3) := by decide +kernel
theorem dX11_deriveCandidate_18 : decode cX11_deriveCandidate 18 = .ok (.aload_n 0, 1) := by decide +kernel
theorem dX11_deriveCandidate_19 : decode cX11_deriveCandidate 19 = .ok (.getfield 82, 3) := by decide +kernel
theorem dX11_deriveCandidate_22 : decode cX11_deriveCandidate 22 = .ok (.iload_n 2, 1) := by decide +kernel
theorem dX11_deriveCandidate_23 : decode cX11_deriveCandidate 23 = .ok (.aload_n 0, 1) := by decide +kernel
theorem dX11_deriveCandidate_24 : decode cX11_deriveCandidate 24 = .ok (.getfield 101, 3) := by decide +kernel
theorem dX11_deriveCandidate_27 : decode cX11_deriveCandidate 27 = .ok (.iload_n 2, 1) := by decide +kernel
theorem dX11_deriveCandidate_28 : decode cX11_deriveCandidate 28 = .ok (.iaload, 1) := by decide +kernel
theorem dX11_deriveCandidate_29 : decode cX11_deriveCandidate 29 = .ok (.iastore, 1) := by decide +kernel
theorem dX11_deriveCandidate_30 : decode cX11_deriveCandidate 30 = .ok (.iinc 2 1, 3) := by decide +kernel
theorem dX11_deriveCandidate_33 : decode cX11_deriveCandidate 33 = .ok (.goto (-23), 3) := by decide +kernel
theorem dX11_deriveCandidate_36 : decode cX11_deriveCandidate 36 = .ok (.aload_n 0, 1) := by decide +kernel
theorem dX11_deriveCandidate_37 : decode cX11_deriveCandidate 37 = .ok (.iload_n 1, 1) := by decide +kernel
theorem dX11_deriveCandidate_38 : decode cX11_deriveCandidate 38 = .ok (.bipush 8, 2) := by decide +kernel
theorem dX11_deriveCandidate_40 : decode cX11_deriveCandidate 40 = .ok (.invokevirtual 231, 3) := by decide +kernel
theorem dX11_deriveCandidate_43 : decode cX11_deriveCandidate 43 = .ok (.pop, 1) := by decide +kernel
theorem dX11_deriveCandidate_44 : decode cX11_deriveCandidate 44 = .ok (.return_, 1) := by decide +kernel
theorem dX11_costFrom_0 : decode cX11_costFrom 0 = .ok (.iconst 0, 1) := by decide +kernel
theorem dX11_costFrom_1 : decode cX11_costFrom 1 = .ok (.istore_n 2, 1) := by decide +kernel
theorem dX11_costFrom_2 : decode cX11_costFrom 2 = .ok (.iload_n 2, 1) := by decide +kernel
theorem dX11_costFrom_3 : decode cX11_costFrom 3 = .ok (.aload_n 0, 1) := by decide +kernel
theorem dX11_costFrom_4 : decode cX11_costFrom 4 = .ok (.getfield 218, 3) := by decide +kernel
theorem dX11_costFrom_7 : decode cX11_costFrom 7 = .ok (.if_icmp .ge 21, 3) := by decide +kernel
theorem dX11_costFrom_10 : decode cX11_costFrom 10 = .ok (.aload_n 0, 1) := by decide +kernel
theorem dX11_costFrom_11 : decode cX11_costFrom 11 = .ok (.getfield 95, 3) := by decide +kernel
theorem dX11_costFrom_14 : decode cX11_costFrom 14 = .ok (.iload_n 2, 1) := by decide +kernel
theorem dX11_costFrom_15 : decode cX11_costFrom 15 = .ok (.aload_n 0, 1) := by decide +kernel
theorem dX11_costFrom_16 : decode cX11_costFrom 16 = .ok (.getfield 82, 3) := by decide +kernel
theorem dX11_costFrom_19 : decode cX11_costFrom 19 = .ok (.iload_n 2, 1) := by decide +kernel
theorem dX11_costFrom_20 : decode cX11_costFrom 20 = .ok (.iaload, 1) := by decide +kernel
theorem dX11_costFrom_21 : decode cX11_costFrom 21 = .ok (.iastore, 1) := by decide +kernel
theorem dX11_costFrom_22 : decode cX11_costFrom 22 = .ok (.iinc 2 1, 3) := by decide +kernel
theorem dX11_costFrom_25 : decode cX11_costFrom 25 = .ok (.goto (-23), 3) := by decide +kernel
theorem dX11_costFrom_28 : decode cX11_costFrom 28 = .ok (.iconst 0, 1) := by decide +kernel
theorem dX11_costFrom_29 : decode cX11_costFrom 29 = .ok (.istore_n 2, 1) := by decide +kernel
theorem dX11_costFrom_30 : decode cX11_costFrom 30 = .ok (.iload_n 2, 1) := by decide +kernel
theorem dX11_costFrom_31 : decode cX11_costFrom 31 = .ok (.aload_n 0, 1) := by decide +kernel
theorem dX11_costFrom_32 : decode cX11_costFrom 32 = .ok (.getfield 49, 3) := by decide +kernel
theorem dX11_costFrom_35 : decode cX11_costFrom 35 = .ok (.iload_n 1, 1) := by decide +kernel
theorem dX11_costFrom_36 : decode cX11_costFrom 36 = .ok (.iaload, 1) := by decide +kernel
theorem dX11_costFrom_37 : decode cX11_costFrom 37 = .ok (.if_icmp .ge 26, 3) := by decide +kernel
theorem dX11_costFrom_40 : decode cX11_costFrom 40 = .ok (.aload_n 0, 1) := by decide +kernel
theorem dX11_costFrom_41 : decode cX11_costFrom 41 = .ok (.getfield 98, 3) := by decide +kernel
theorem dX11_costFrom_44 : decode cX11_costFrom 44 = .ok (.iload_n 2, 1) := by decide +kernel
theorem dX11_costFrom_45 : decode cX11_costFrom 45 = .ok (.aload_n 0, 1) := by decide +kernel
theorem dX11_costFrom_46 : decode cX11_costFrom 46 = .ok (.getfield 52, 3) := by decide +kernel
theorem dX11_costFrom_49 : decode cX11_costFrom 49 = .ok (.bipush 8, 2) := by decide +kernel
theorem dX11_costFrom_51 : decode cX11_costFrom 51 = .ok (.iload_n 1, 1) := by decide +kernel
theorem dX11_costFrom_52 : decode cX11_costFrom 52 = .ok (.imul, 1) := by decide +kernel
theorem dX11_costFrom_53 : decode cX11_costFrom 53 = .ok (.iload_n 2, 1) := by decide +kernel
theorem dX11_costFrom_54 : decode cX11_costFrom 54 = .ok (.iadd, 1) := by decide +kernel
theorem dX11_costFrom_55 : decode cX11_costFrom 55 = .ok (.iaload, 1) := by decide +kernel
theorem dX11_costFrom_56 : decode cX11_costFrom 56 = .ok (.iastore, 1) := by decide +kernel
theorem dX11_costFrom_57 : decode cX11_costFrom 57 = .ok (.iinc 2 1, 3) := by decide +kernel
theorem dX11_costFrom_60 : decode cX11_costFrom 60 = .ok (.goto (-30), 3) := by decide +kernel
theorem dX11_costFrom_63 : decode cX11_costFrom 63 = .ok (.aload_n 0, 1) := by decide +kernel
theorem dX11_costFrom_64 : decode cX11_costFrom 64 = .ok (.aload_n 0, 1) := by decide +kernel
theorem dX11_costFrom_65 : decode cX11_costFrom 65 = .ok (.getfield 218, 3) := by decide +kernel
theorem dX11_costFrom_68 : decode cX11_costFrom 68 = .ok (.aload_n 0, 1) := by decide +kernel
theorem dX11_costFrom_69 : decode cX11_costFrom 69 = .ok (.getfield 49, 3) := by decide +kernel
theorem dX11_costFrom_72 : decode cX11_costFrom 72 = .ok (.iload_n 1, 1) := by decide +kernel
theorem dX11_costFrom_73 : decode cX11_costFrom 73 = .ok (.iaload, 1) := by decide +kernel
theorem dX11_costFrom_74 : decode cX11_costFrom 74 = .ok (.invokevirtual 238, 3) := by decide +kernel
theorem dX11_costFrom_77 : decode cX11_costFrom 77 = .ok (.ireturn, 1) := by decide +kernel
theorem dX11_costsOf_0 : decode cX11_costsOf 0 = .ok (.iconst 0, 1) := by decide +kernel
theorem dX11_costsOf_1 : decode cX11_costsOf 1 = .ok (.istore_n 2, 1) := by decide +kernel
theorem dX11_costsOf_2 : decode cX11_costsOf 2 = .ok (.iconst 0, 1) := by decide +kernel
theorem dX11_costsOf_3 : decode cX11_costsOf 3 = .ok (.istore_n 3, 1) := by decide +kernel
theorem dX11_costsOf_4 : decode cX11_costsOf 4 = .ok (.iload_n 3, 1) := by decide +kernel
theorem dX11_costsOf_5 : decode cX11_costsOf 5 = .ok (.aload_n 0, 1) := by decide +kernel
theorem dX11_costsOf_6 : decode cX11_costsOf 6 = .ok (.getfield 164, 3) := by decide +kernel
theorem dX11_costsOf_9 : decode cX11_costsOf 9 = .ok (.if_icmp .ge 38, 3) := by decide +kernel
theorem dX11_costsOf_12 : decode cX11_costsOf 12 = .ok (.aload_n 0, 1) := by decide +kernel
theorem dX11_costsOf_13 : decode cX11_costsOf 13 = .ok (.iload_n 3, 1) := by decide +kernel
theorem dX11_costsOf_14 : decode cX11_costsOf 14 = .ok (.iload_n 1, 1) := by decide +kernel
theorem dX11_costsOf_15 : decode cX11_costsOf 15 = .ok (.invokevirtual 186, 3) := by decide +kernel
theorem dX11_costsOf_18 : decode cX11_costsOf 18 = .ok (.istore 4, 2) := by decide +kernel
theorem dX11_costsOf_20 : decode cX11_costsOf 20 = .ok (.iload 4, 2) := by decide +kernel
theorem dX11_costsOf_22 : decode cX11_costsOf 22 = .ok (.bipush (-9), 2) := by decide +kernel
theorem dX11_costsOf_24 : decode cX11_costsOf 24 = .ok (.if_icmp .eq 17, 3) := by decide +kernel
theorem dX11_costsOf_27 : decode cX11_costsOf 27 = .ok (.aload_n 0, 1) := by decide +kernel
theorem dX11_costsOf_28 : decode cX11_costsOf 28 = .ok (.iload_n 3, 1) := by decide +kernel
theorem dX11_costsOf_29 : decode cX11_costsOf 29 = .ok (.invokevirtual 251, 3) := by decide +kernel
theorem dX11_costsOf_32 : decode cX11_costsOf 32 = .ok (.iload_n 2, 1) := by decide +kernel
theorem dX11_costsOf_33 : decode cX11_costsOf 33 = .ok (.aload_n 0, 1) := by decide +kernel
theorem dX11_costsOf_34 : decode cX11_costsOf 34 = .ok (.iload 4, 2) := by decide +kernel
theorem dX11_costsOf_36 : decode cX11_costsOf 36 = .ok (.invokevirtual 254, 3) := by decide +kernel
theorem dX11_costsOf_39 : decode cX11_costsOf 39 = .ok (.iadd, 1) := by decide +kernel
theorem dX11_costsOf_40 : decode cX11_costsOf 40 = .ok (.istore_n 2, 1) := by decide +kernel
theorem dX11_costsOf_41 : decode cX11_costsOf 41 = .ok (.iinc 3 1, 3) := by decide +kernel
theorem dX11_costsOf_44 : decode cX11_costsOf 44 = .ok (.goto (-40), 3) := by decide +kernel
theorem dX11_costsOf_47 : decode cX11_costsOf 47 = .ok (.iload_n 2, 1) := by decide +kernel
theorem dX11_costsOf_48 : decode cX11_costsOf 48 = .ok (.ireturn, 1) := by decide +kernel
theorem dX11_isSaid_0 : decode cX11_isSaid 0 = .ok (.iconst 0, 1) := by decide +kernel
theorem dX11_isSaid_1 : decode cX11_isSaid 1 = .ok (.istore_n 2, 1) := by decide +kernel
theorem dX11_isSaid_2 : decode cX11_isSaid 2 = .ok (.iload_n 2, 1) := by decide +kernel
theorem dX11_isSaid_3 : decode cX11_isSaid 3 = .ok (.aload_n 0, 1) := by decide +kernel
theorem dX11_isSaid_4 : decode cX11_isSaid 4 = .ok (.getfield 164, 3) := by decide +kernel
theorem dX11_isSaid_7 : decode cX11_isSaid 7 = .ok (.if_icmp .ge 22, 3) := by decide +kernel
theorem dX11_isSaid_10 : decode cX11_isSaid 10 = .ok (.aload_n 0, 1) := by decide +kernel
theorem dX11_isSaid_11 : decode cX11_isSaid 11 = .ok (.iload_n 2, 1) := by decide +kernel
theorem dX11_isSaid_12 : decode cX11_isSaid 12 = .ok (.iload_n 1, 1) := by decide +kernel
theorem dX11_isSaid_13 : decode cX11_isSaid 13 = .ok (.invokevirtual 186, 3) := by decide +kernel
theorem dX11_isSaid_16 : decode cX11_isSaid 16 = .ok (.bipush (-9), 2) := by decide +kernel
theorem dX11_isSaid_18 : decode cX11_isSaid 18 = .ok (.if_icmp .eq 5, 3) := by decide +kernel
theorem dX11_isSaid_21 : decode cX11_isSaid 21 = .ok (.iconst 1, 1) := by decide +kernel
theorem dX11_isSaid_22 : decode cX11_isSaid 22 = .ok (.ireturn, 1) := by decide +kernel
theorem dX11_isSaid_23 : decode cX11_isSaid 23 = .ok (.iinc 2 1, 3) := by decide +kernel
theorem dX11_isSaid_26 : decode cX11_isSaid 26 = .ok (.goto (-24), 3) := by decide +kernel
theorem dX11_isSaid_29 : decode cX11_isSaid 29 = .ok (.iconst 0, 1) := by decide +kernel
theorem dX11_isSaid_30 : decode cX11_isSaid 30 = .ok (.ireturn, 1) := by decide +kernel
theorem dX11_sought_0 : decode cX11_sought 0 = .ok (.iload_n 1, 1) := by decide +kernel
theorem dX11_sought_1 : decode cX11_sought 1 = .ok (.invokestatic 173, 3) := by decide +kernel
theorem dX11_sought_4 : decode cX11_sought 4 = .ok (.ifCond .eq 13, 3) := by decide +kernel
theorem dX11_sought_7 : decode cX11_sought 7 = .ok (.iload_n 3, 1) := by decide +kernel
theorem dX11_sought_8 : decode cX11_sought 8 = .ok (.bipush (-2), 2) := by decide +kernel
theorem dX11_sought_10 : decode cX11_sought 10 = .ok (.iconst 2, 1) := by decide +kernel
theorem dX11_sought_11 : decode cX11_sought 11 = .ok (.invokestatic 124, 3) := by decide +kernel
theorem dX11_sought_14 : decode cX11_sought 14 = .ok (.ifCond .ne 5, 3) := by decide +kernel
theorem dX11_sought_17 : decode cX11_sought 17 = .ok (.iconst (-1), 1) := by decide +kernel
theorem dX11_sought_18 : decode cX11_sought 18 = .ok (.ireturn, 1) := by decide +kernel
theorem dX11_sought_19 : decode cX11_sought 19 = .ok (.aload_n 0, 1) := by decide +kernel
theorem dX11_sought_20 : decode cX11_sought 20 = .ok (.iload_n 2, 1) := by decide +kernel
theorem dX11_sought_21 : decode cX11_sought 21 = .ok (.invokevirtual 257, 3) := by decide +kernel
theorem dX11_sought_24 : decode cX11_sought 24 = .ok (.ifCond .ne 6, 3) := by decide +kernel
theorem dX11_sought_27 : decode cX11_sought 27 = .ok (.bipush (-2), 2) := by decide +kernel
theorem dX11_sought_29 : decode cX11_sought 29 = .ok (.ireturn, 1) := by decide +kernel
theorem dX11_sought_30 : decode cX11_sought 30 = .ok (.aload_n 0, 1) := by decide +kernel
theorem dX11_sought_31 : decode cX11_sought 31 = .ok (.iload_n 1, 1) := by decide +kernel
theorem dX11_sought_32 : decode cX11_sought 32 = .ok (.invokevirtual 260, 3) := by decide +kernel
theorem dX11_sought_35 : decode cX11_sought 35 = .ok (.ifCond .ne 6, 3) := by decide +kernel
theorem dX11_sought_38 : decode cX11_sought 38 = .ok (.bipush (-3), 2) := by decide +kernel
theorem dX11_sought_40 : decode cX11_sought 40 = .ok (.ireturn, 1) := by decide +kernel
theorem dX11_sought_41 : decode cX11_sought 41 = .ok (.iconst 0, 1) := by decide +kernel
theorem dX11_sought_42 : decode cX11_sought 42 = .ok (.istore 4, 2) := by decide +kernel
theorem dX11_sought_44 : decode cX11_sought 44 = .ok (.iconst 0, 1) := by decide +kernel
theorem dX11_sought_45 : decode cX11_sought 45 = .ok (.istore 5, 2) := by decide +kernel
theorem dX11_sought_47 : decode cX11_sought 47 = .ok (.iconst 0, 1) := by decide +kernel
theorem dX11_sought_48 : decode cX11_sought 48 = .ok (.istore 6, 2) := by decide +kernel
theorem dX11_sought_50 : decode cX11_sought 50 = .ok (.iload 6, 2) := by decide +kernel
theorem dX11_sought_52 : decode cX11_sought 52 = .ok (.aload_n 0, 1) := by decide +kernel
theorem dX11_sought_53 : decode cX11_sought 53 = .ok (.invokevirtual 263, 3) := by decide +kernel
theorem dX11_sought_56 : decode cX11_sought 56 = .ok (.if_icmp .ge 42, 3) := by decide +kernel
theorem dX11_sought_59 : decode cX11_sought 59 = .ok (.aload_n 0, 1) := by decide +kernel
theorem dX11_sought_60 : decode cX11_sought 60 = .ok (.iload 6, 2) := by decide +kernel
theorem dX11_sought_62 : decode cX11_sought 62 = .ok (.invokevirtual 266, 3) := by decide +kernel
theorem dX11_sought_65 : decode cX11_sought 65 = .ok (.aload_n 0, 1) := by decide +kernel
theorem dX11_sought_66 : decode cX11_sought 66 = .ok (.iload_n 1, 1) := by decide +kernel
theorem dX11_sought_67 : decode cX11_sought 67 = .ok (.invokevirtual 269, 3) := by decide +kernel
theorem dX11_sought_70 : decode cX11_sought 70 = .ok (.istore 7, 2) := by decide +kernel
theorem dX11_sought_72 : decode cX11_sought 72 = .ok (.iload 6, 2) := by decide +kernel
theorem dX11_sought_74 : decode cX11_sought 74 = .ok (.ifCond .eq 10, 3) := by decide +kernel
theorem dX11_sought_77 : decode cX11_sought 77 = .ok (.iload 7, 2) := by decide +kernel
theorem dX11_sought_79 : decode cX11_sought 79 = .ok (.iload 5, 2) := by decide +kernel
theorem dX11_sought_81 : decode cX11_sought 81 = .ok (.if_icmp .ge 11, 3) := by decide +kernel
theorem dX11_sought_84 : decode cX11_sought 84 = .ok (.iload 6, 2) := by decide +kernel
theorem dX11_sought_86 : decode cX11_sought 86 = .ok (.istore 4, 2) := by decide +kernel
theorem dX11_sought_88 : decode cX11_sought 88 = .ok (.iload 7, 2) := by decide +kernel
theorem dX11_sought_90 : decode cX11_sought 90 = .ok (.istore 5, 2) := by decide +kernel
theorem dX11_sought_92 : decode cX11_sought 92 = .ok (.iinc 6 1, 3) := by decide +kernel
theorem dX11_sought_95 : decode cX11_sought 95 = .ok (.goto (-45), 3) := by decide +kernel
theorem dX11_sought_98 : decode cX11_sought 98 = .ok (.aload_n 0, 1) := by decide +kernel
theorem dX11_sought_99 : decode cX11_sought 99 = .ok (.iload 4, 2) := by decide +kernel
theorem dX11_sought_101 : decode cX11_sought 101 = .ok (.invokevirtual 266, 3) := by decide +kernel
theorem dX11_sought_104 : decode cX11_sought 104 = .ok (.iload_n 3, 1) := by decide +kernel
theorem dX11_sought_105 : decode cX11_sought 105 = .ok (.bipush (-2), 2) := by decide +kernel
theorem dX11_sought_107 : decode cX11_sought 107 = .ok (.if_icmp .ne 8, 3) := by decide +kernel
theorem dX11_sought_110 : decode cX11_sought 110 = .ok (.iload 5, 2) := by decide +kernel
theorem dX11_sought_112 : decode cX11_sought 112 = .ok (.goto 34, 3) := by decide +kernel
theorem dX11_sought_115 : decode cX11_sought 115 = .ok (.iload_n 3, 1) := by decide +kernel
theorem dX11_sought_116 : decode cX11_sought 116 = .ok (.iconst (-1), 1) := by decide +kernel
theorem dX11_sought_117 : decode cX11_sought 117 = .ok (.if_icmp .ne 10, 3) := by decide +kernel
theorem dX11_sought_120 : decode cX11_sought 120 = .ok (.aload_n 0, 1) := by decide +kernel
theorem dX11_sought_121 : decode cX11_sought 121 = .ok (.getfield 248, 3) := by decide +kernel
theorem dX11_sought_124 : decode cX11_sought 124 = .ok (.goto 22, 3) := by decide +kernel
theorem dX11_sought_127 : decode cX11_sought 127 = .ok (.iload_n 3, 1) := by decide +kernel
theorem dX11_sought_128 : decode cX11_sought 128 = .ok (.aload_n 0, 1) := by decide +kernel
theorem dX11_sought_129 : decode cX11_sought 129 = .ok (.getfield 248, 3) := by decide +kernel
theorem dX11_sought_132 : decode cX11_sought 132 = .ok (.if_icmp .ge 12, 3) := by decide +kernel
theorem dX11_sought_135 : decode cX11_sought 135 = .ok (.aload_n 0, 1) := by decide +kernel
theorem dX11_sought_136 : decode cX11_sought 136 = .ok (.getfield 101, 3) := by decide +kernel
theorem dX11_sought_139 : decode cX11_sought 139 = .ok (.iload_n 3, 1) := by decide +kernel
theorem dX11_sought_140 : decode cX11_sought 140 = .ok (.iaload, 1) := by decide +kernel
theorem dX11_sought_141 : decode cX11_sought 141 = .ok (.goto 5, 3) := by decide +kernel
theorem dX11_sought_144 : decode cX11_sought 144 = .ok (.bipush (-9), 2) := by decide +kernel
theorem dX11_sought_146 : decode cX11_sought 146 = .ok (.ireturn, 1) := by decide +kernel
theorem dX11_isForms_0 : decode cX11_isForms 0 = .ok (.aload_n 0, 1) := by decide +kernel
theorem dX11_isForms_1 : decode cX11_isForms 1 = .ok (.getfield 218, 3) := by decide +kernel
theorem dX11_isForms_4 : decode cX11_isForms 4 = .ok (.aload_n 0, 1) := by decide +kernel
theorem dX11_isForms_5 : decode cX11_isForms 5 = .ok (.getfield 49, 3) := by decide +kernel
theorem dX11_isForms_8 : decode cX11_isForms 8 = .ok (.iload_n 1, 1) := by decide +kernel
theorem dX11_isForms_9 : decode cX11_isForms 9 = .ok (.iaload, 1) := by decide +kernel
theorem dX11_isForms_10 : decode cX11_isForms 10 = .ok (.if_icmp .eq 5, 3) := by decide +kernel
theorem dX11_isForms_13 : decode cX11_isForms 13 = .ok (.iconst 0, 1) := by decide +kernel
theorem dX11_isForms_14 : decode cX11_isForms 14 = .ok (.ireturn, 1) := by decide +kernel
theorem dX11_isForms_15 : decode cX11_isForms 15 = .ok (.iconst 0, 1) := by decide +kernel
theorem dX11_isForms_16 : decode cX11_isForms 16 = .ok (.istore_n 2, 1) := by decide +kernel
theorem dX11_isForms_17 : decode cX11_isForms 17 = .ok (.iload_n 2, 1) := by decide +kernel
theorem dX11_isForms_18 : decode cX11_isForms 18 = .ok (.aload_n 0, 1) := by decide +kernel
theorem dX11_isForms_19 : decode cX11_isForms 19 = .ok (.getfield 218, 3) := by decide +kernel
theorem dX11_isForms_22 : decode cX11_isForms 22 = .ok (.if_icmp .ge 31, 3) := by decide +kernel
theorem dX11_isForms_25 : decode cX11_isForms 25 = .ok (.aload_n 0, 1) := by decide +kernel
theorem dX11_isForms_26 : decode cX11_isForms 26 = .ok (.getfield 82, 3) := by decide +kernel
theorem dX11_isForms_29 : decode cX11_isForms 29 = .ok (.iload_n 2, 1) := by decide +kernel
theorem dX11_isForms_30 : decode cX11_isForms 30 = .ok (.iaload, 1) := by decide +kernel
theorem dX11_isForms_31 : decode cX11_isForms 31 = .ok (.aload_n 0, 1) := by decide +kernel
theorem dX11_isForms_32 : decode cX11_isForms 32 = .ok (.getfield 52, 3) := by decide +kernel
theorem dX11_isForms_35 : decode cX11_isForms 35 = .ok (.bipush 8, 2) := by decide +kernel
theorem dX11_isForms_37 : decode cX11_isForms 37 = .ok (.iload_n 1, 1) := by decide +kernel
theorem dX11_isForms_38 : decode cX11_isForms 38 = .ok (.imul, 1) := by decide +kernel
theorem dX11_isForms_39 : decode cX11_isForms 39 = .ok (.iload_n 2, 1) := by decide +kernel
theorem dX11_isForms_40 : decode cX11_isForms 40 = .ok (.iadd, 1) := by decide +kernel
theorem dX11_isForms_41 : decode cX11_isForms 41 = .ok (.iaload, 1) := by decide +kernel
theorem dX11_isForms_42 : decode cX11_isForms 42 = .ok (.if_icmp .eq 5, 3) := by decide +kernel
theorem dX11_isForms_45 : decode cX11_isForms 45 = .ok (.iconst 0, 1) := by decide +kernel
theorem dX11_isForms_46 : decode cX11_isForms 46 = .ok (.ireturn, 1) := by decide +kernel
theorem dX11_isForms_47 : decode cX11_isForms 47 = .ok (.iinc 2 1, 3) := by decide +kernel
theorem dX11_isForms_50 : decode cX11_isForms 50 = .ok (.goto (-33), 3) := by decide +kernel
theorem dX11_isForms_53 : decode cX11_isForms 53 = .ok (.iconst 1, 1) := by decide +kernel
theorem dX11_isForms_54 : decode cX11_isForms 54 = .ok (.ireturn, 1) := by decide +kernel
theorem dX11_regular_0 : decode cX11_regular 0 = .ok (.aload_n 0, 1) := by decide +kernel
theorem dX11_regular_1 : decode cX11_regular 1 = .ok (.iload_n 1, 1) := by decide +kernel
theorem dX11_regular_2 : decode cX11_regular 2 = .ok (.invokevirtual 183, 3) := by decide +kernel
theorem dX11_regular_5 : decode cX11_regular 5 = .ok (.ifCond .ne 5, 3) := by decide +kernel
theorem dX11_regular_8 : decode cX11_regular 8 = .ok (.iconst (-1), 1) := by decide +kernel
theorem dX11_regular_9 : decode cX11_regular 9 = .ok (.ireturn, 1) := by decide +kernel
theorem dX11_regular_10 : decode cX11_regular 10 = .ok (.aload_n 0, 1) := by decide +kernel
theorem dX11_regular_11 : decode cX11_regular 11 = .ok (.getfield 58, 3) := by decide +kernel
theorem dX11_regular_14 : decode cX11_regular 14 = .ok (.aload_n 0, 1) := by decide +kernel
theorem dX11_regular_15 : decode cX11_regular 15 = .ok (.getfield 46, 3) := by decide +kernel
theorem dX11_regular_18 : decode cX11_regular 18 = .ok (.iload_n 1, 1) := by decide +kernel
theorem dX11_regular_19 : decode cX11_regular 19 = .ok (.iaload, 1) := by decide +kernel
theorem dX11_regular_20 : decode cX11_regular 20 = .ok (.iaload, 1) := by decide +kernel
theorem dX11_regular_21 : decode cX11_regular 21 = .ok (.bipush (-9), 2) := by decide +kernel
theorem dX11_regular_23 : decode cX11_regular 23 = .ok (.if_icmp .ne 6, 3) := by decide +kernel
theorem dX11_regular_26 : decode cX11_regular 26 = .ok (.bipush (-3), 2) := by decide +kernel
theorem dX11_regular_28 : decode cX11_regular 28 = .ok (.ireturn, 1) := by decide +kernel
theorem dX11_regular_29 : decode cX11_regular 29 = .ok (.aload_n 0, 1) := by decide +kernel
theorem dX11_regular_30 : decode cX11_regular 30 = .ok (.aload_n 0, 1) := by decide +kernel
theorem dX11_regular_31 : decode cX11_regular 31 = .ok (.getfield 46, 3) := by decide +kernel
theorem dX11_regular_34 : decode cX11_regular 34 = .ok (.iload_n 1, 1) := by decide +kernel
theorem dX11_regular_35 : decode cX11_regular 35 = .ok (.iaload, 1) := by decide +kernel
theorem dX11_regular_36 : decode cX11_regular 36 = .ok (.invokevirtual 227, 3) := by decide +kernel
theorem dX11_regular_39 : decode cX11_regular 39 = .ok (.aload_n 0, 1) := by decide +kernel
theorem dX11_regular_40 : decode cX11_regular 40 = .ok (.aload_n 0, 1) := by decide +kernel
theorem dX11_regular_41 : decode cX11_regular 41 = .ok (.getfield 43, 3) := by decide +kernel
theorem dX11_regular_44 : decode cX11_regular 44 = .ok (.iload_n 1, 1) := by decide +kernel
theorem dX11_regular_45 : decode cX11_regular 45 = .ok (.iaload, 1) := by decide +kernel
theorem dX11_regular_46 : decode cX11_regular 46 = .ok (.bipush 8, 2) := by decide +kernel
theorem dX11_regular_48 : decode cX11_regular 48 = .ok (.invokevirtual 231, 3) := by decide +kernel
theorem dX11_regular_51 : decode cX11_regular 51 = .ok (.pop, 1) := by decide +kernel
theorem dX11_regular_52 : decode cX11_regular 52 = .ok (.aload_n 0, 1) := by decide +kernel
theorem dX11_regular_53 : decode cX11_regular 53 = .ok (.iload_n 1, 1) := by decide +kernel
theorem dX11_regular_54 : decode cX11_regular 54 = .ok (.invokevirtual 272, 3) := by decide +kernel
theorem dX11_regular_57 : decode cX11_regular 57 = .ok (.ifCond .eq 7, 3) := by decide +kernel
theorem dX11_regular_60 : decode cX11_regular 60 = .ok (.iconst 1, 1) := by decide +kernel
theorem dX11_regular_61 : decode cX11_regular 61 = .ok (.goto 4, 3) := by decide +kernel
theorem dX11_regular_64 : decode cX11_regular 64 = .ok (.iconst 0, 1) := by decide +kernel
theorem dX11_regular_65 : decode cX11_regular 65 = .ok (.ireturn, 1) := by decide +kernel
theorem dX11_ways_0 : decode cX11_ways 0 = .ok (.aload_n 0, 1) := by decide +kernel
theorem dX11_ways_1 : decode cX11_ways 1 = .ok (.iload_n 1, 1) := by decide +kernel
theorem dX11_ways_2 : decode cX11_ways 2 = .ok (.invokevirtual 183, 3) := by decide +kernel
theorem dX11_ways_5 : decode cX11_ways 5 = .ok (.ifCond .ne 5, 3) := by decide +kernel
theorem dX11_ways_8 : decode cX11_ways 8 = .ok (.iconst (-1), 1) := by decide +kernel
theorem dX11_ways_9 : decode cX11_ways 9 = .ok (.ireturn, 1) := by decide +kernel
theorem dX11_ways_10 : decode cX11_ways 10 = .ok (.aload_n 0, 1) := by decide +kernel
theorem dX11_ways_11 : decode cX11_ways 11 = .ok (.iload_n 2, 1) := by decide +kernel
theorem dX11_ways_12 : decode cX11_ways 12 = .ok (.invokevirtual 257, 3) := by decide +kernel
theorem dX11_ways_15 : decode cX11_ways 15 = .ok (.ifCond .ne 6, 3) := by decide +kernel
theorem dX11_ways_18 : decode cX11_ways 18 = .ok (.bipush (-2), 2) := by decide +kernel
theorem dX11_ways_20 : decode cX11_ways 20 = .ok (.ireturn, 1) := by decide +kernel
theorem dX11_ways_21 : decode cX11_ways 21 = .ok (.iconst 0, 1) := by decide +kernel
theorem dX11_ways_22 : decode cX11_ways 22 = .ok (.istore_n 3, 1) := by decide +kernel
theorem dX11_ways_23 : decode cX11_ways 23 = .ok (.iconst 0, 1) := by decide +kernel
theorem dX11_ways_24 : decode cX11_ways 24 = .ok (.istore 4, 2) := by decide +kernel
theorem dX11_ways_26 : decode cX11_ways 26 = .ok (.iload 4, 2) := by decide +kernel
theorem dX11_ways_28 : decode cX11_ways 28 = .ok (.aload_n 0, 1) := by decide +kernel
theorem dX11_ways_29 : decode cX11_ways 29 = .ok (.invokevirtual 263, 3) := by decide +kernel
theorem dX11_ways_32 : decode cX11_ways 32 = .ok (.if_icmp .ge 41, 3) := by decide +kernel
theorem dX11_ways_35 : decode cX11_ways 35 = .ok (.aload_n 0, 1) := by decide +kernel
theorem dX11_ways_36 : decode cX11_ways 36 = .ok (.iload 4, 2) := by decide +kernel
theorem dX11_ways_38 : decode cX11_ways 38 = .ok (.invokevirtual 266, 3) := by decide +kernel
theorem dX11_ways_41 : decode cX11_ways 41 = .ok (.aload_n 0, 1) := by decide +kernel
theorem dX11_ways_42 : decode cX11_ways 42 = .ok (.aload_n 0, 1) := by decide +kernel
theorem dX11_ways_43 : decode cX11_ways 43 = .ok (.getfield 43, 3) := by decide +kernel
theorem dX11_ways_46 : decode cX11_ways 46 = .ok (.iload_n 1, 1) := by decide +kernel
theorem dX11_ways_47 : decode cX11_ways 47 = .ok (.iaload, 1) := by decide +kernel
theorem dX11_ways_48 : decode cX11_ways 48 = .ok (.invokevirtual 251, 3) := by decide +kernel
theorem dX11_ways_51 : decode cX11_ways 51 = .ok (.iload_n 3, 1) := by decide +kernel
theorem dX11_ways_52 : decode cX11_ways 52 = .ok (.aload_n 0, 1) := by decide +kernel
theorem dX11_ways_53 : decode cX11_ways 53 = .ok (.iload_n 1, 1) := by decide +kernel
theorem dX11_ways_54 : decode cX11_ways 54 = .ok (.invokevirtual 272, 3) := by decide +kernel
theorem dX11_ways_57 : decode cX11_ways 57 = .ok (.ifCond .eq 7, 3) := by decide +kernel
theorem dX11_ways_60 : decode cX11_ways 60 = .ok (.iconst 1, 1) := by decide +kernel
theorem dX11_ways_61 : decode cX11_ways 61 = .ok (.goto 4, 3) := by decide +kernel
theorem dX11_ways_64 : decode cX11_ways 64 = .ok (.iconst 0, 1) := by decide +kernel
theorem dX11_ways_65 : decode cX11_ways 65 = .ok (.iadd, 1) := by decide +kernel
theorem dX11_ways_66 : decode cX11_ways 66 = .ok (.istore_n 3, 1) := by decide +kernel
theorem dX11_ways_67 : decode cX11_ways 67 = .ok (.iinc 4 1, 3) := by decide +kernel
theorem dX11_ways_70 : decode cX11_ways 70 = .ok (.goto (-44), 3) := by decide +kernel
theorem dX11_ways_73 : decode cX11_ways 73 = .ok (.iload_n 3, 1) := by decide +kernel
theorem dX11_ways_74 : decode cX11_ways 74 = .ok (.ireturn, 1) := by decide +kernel
theorem dX11_regulars_0 : decode cX11_regulars 0 = .ok (.iconst 0, 1) := by decide +kernel
theorem dX11_regulars_1 : decode cX11_regulars 1 = .ok (.istore_n 3, 1) := by decide +kernel
theorem dX11_regulars_2 : decode cX11_regulars 2 = .ok (.iconst 0, 1) := by decide +kernel
theorem dX11_regulars_3 : decode cX11_regulars 3 = .ok (.istore 4, 2) := by decide +kernel
theorem dX11_regulars_5 : decode cX11_regulars 5 = .ok (.iload 4, 2) := by decide +kernel
theorem dX11_regulars_7 : decode cX11_regulars 7 = .ok (.bipush 6, 2) := by decide +kernel
theorem dX11_regulars_9 : decode cX11_regulars 9 = .ok (.if_icmp .ge 90, 3) := by decide +kernel
theorem dX11_regulars_12 : decode cX11_regulars 12 = .ok (.aload_n 0, 1) := by decide +kernel
theorem dX11_regulars_13 : decode cX11_regulars 13 = .ok (.iload_n 1, 1) := by decide +kernel
theorem dX11_regulars_14 : decode cX11_regulars 14 = .ok (.iload 4, 2) := by decide +kernel
theorem dX11_regulars_16 : decode cX11_regulars 16 = .ok (.invokevirtual 186, 3) := by decide +kernel
theorem dX11_regulars_19 : decode cX11_regulars 19 = .ok (.istore 5, 2) := by decide +kernel
theorem dX11_regulars_21 : decode cX11_regulars 21 = .ok (.iload 5, 2) := by decide +kernel
theorem dX11_regulars_23 : decode cX11_regulars 23 = .ok (.bipush (-9), 2) := by decide +kernel
theorem dX11_regulars_25 : decode cX11_regulars 25 = .ok (.if_icmp .eq 68, 3) := by decide +kernel
theorem dX11_regulars_28 : decode cX11_regulars 28 = .ok (.aload_n 0, 1) := by decide +kernel
theorem dX11_regulars_29 : decode cX11_regulars 29 = .ok (.getfield 58, 3) := by decide +kernel
theorem dX11_regulars_32 : decode cX11_regulars 32 = .ok (.iload 4, 2) := by decide +kernel
theorem dX11_regulars_34 : decode cX11_regulars 34 = .ok (.iaload, 1) := by decide +kernel
theorem dX11_regulars_35 : decode cX11_regulars 35 = .ok (.bipush (-9), 2) := by decide +kernel
theorem dX11_regulars_37 : decode cX11_regulars 37 = .ok (.if_icmp .ne 6, 3) := by decide +kernel
theorem dX11_regulars_40 : decode cX11_regulars 40 = .ok (.goto 53, 3) := by decide +kernel
theorem dX11_regulars_43 : decode cX11_regulars 43 = .ok (.aload_n 0, 1) := by decide +kernel
theorem dX11_regulars_44 : decode cX11_regulars 44 = .ok (.iload 4, 2) := by decide +kernel
theorem dX11_regulars_46 : decode cX11_regulars 46 = .ok (.invokevirtual 227, 3) := by decide +kernel
theorem dX11_regulars_49 : decode cX11_regulars 49 = .ok (.iconst 0, 1) := by decide +kernel
theorem dX11_regulars_50 : decode cX11_regulars 50 = .ok (.istore 6, 2) := by decide +kernel
theorem dX11_regulars_52 : decode cX11_regulars 52 = .ok (.iload 6, 2) := by decide +kernel
theorem dX11_regulars_54 : decode cX11_regulars 54 = .ok (.iload_n 2, 1) := by decide +kernel
theorem dX11_regulars_55 : decode cX11_regulars 55 = .ok (.if_icmp .ge 21, 3) := by decide +kernel
theorem dX11_regulars_58 : decode cX11_regulars 58 = .ok (.aload_n 0, 1) := by decide +kernel
theorem dX11_regulars_59 : decode cX11_regulars 59 = .ok (.aload_n 0, 1) := by decide +kernel
theorem dX11_regulars_60 : decode cX11_regulars 60 = .ok (.getfield 107, 3) := by decide +kernel
theorem dX11_regulars_63 : decode cX11_regulars 63 = .ok (.iload 6, 2) := by decide +kernel
theorem dX11_regulars_65 : decode cX11_regulars 65 = .ok (.iaload, 1) := by decide +kernel
theorem dX11_regulars_66 : decode cX11_regulars 66 = .ok (.invokevirtual 224, 3) := by decide +kernel
theorem dX11_regulars_69 : decode cX11_regulars 69 = .ok (.pop, 1) := by decide +kernel
theorem dX11_regulars_70 : decode cX11_regulars 70 = .ok (.iinc 6 1, 3) := by decide +kernel
theorem dX11_regulars_73 : decode cX11_regulars 73 = .ok (.goto (-21), 3) := by decide +kernel
theorem dX11_regulars_76 : decode cX11_regulars 76 = .ok (.iload_n 3, 1) := by decide +kernel
theorem dX11_regulars_77 : decode cX11_regulars 77 = .ok (.aload_n 0, 1) := by decide +kernel
theorem dX11_regulars_78 : decode cX11_regulars 78 = .ok (.iload 5, 2) := by decide +kernel
theorem dX11_regulars_80 : decode cX11_regulars 80 = .ok (.invokevirtual 272, 3) := by decide +kernel
theorem dX11_regulars_83 : decode cX11_regulars 83 = .ok (.ifCond .eq 7, 3) := by decide +kernel
theorem dX11_regulars_86 : decode cX11_regulars 86 = .ok (.iconst 1, 1) := by decide +kernel
theorem dX11_regulars_87 : decode cX11_regulars 87 = .ok (.goto 4, 3) := by decide +kernel
theorem dX11_regulars_90 : decode cX11_regulars 90 = .ok (.iconst 0, 1) := by decide +kernel
theorem dX11_regulars_91 : decode cX11_regulars 91 = .ok (.iadd, 1) := by decide +kernel
theorem dX11_regulars_92 : decode cX11_regulars 92 = .ok (.istore_n 3, 1) := by decide +kernel
theorem dX11_regulars_93 : decode cX11_regulars 93 = .ok (.iinc 4 1, 3) := by decide +kernel
theorem dX11_regulars_96 : decode cX11_regulars 96 = .ok (.goto (-91), 3) := by decide +kernel
theorem dX11_regulars_99 : decode cX11_regulars 99 = .ok (.iload_n 3, 1) := by decide +kernel
theorem dX11_regulars_100 : decode cX11_regulars 100 = .ok (.ireturn, 1) := by decide +kernel
theorem dX11_nextTurn_0 : decode cX11_nextTurn 0 = .ok (.iload_n 1, 1) := by decide +kernel
theorem dX11_nextTurn_1 : decode cX11_nextTurn 1 = .ok (.iconst 2, 1) := by decide +kernel
theorem dX11_nextTurn_2 : decode cX11_nextTurn 2 = .ok (.isub, 1) := by decide +kernel
theorem dX11_nextTurn_3 : decode cX11_nextTurn 3 = .ok (.istore_n 2, 1) := by decide +kernel
theorem dX11_nextTurn_4 : decode cX11_nextTurn 4 = .ok (.iload_n 2, 1) := by decide +kernel
theorem dX11_nextTurn_5 : decode cX11_nextTurn 5 = .ok (.ifCond .lt 26, 3) := by decide +kernel
theorem dX11_nextTurn_8 : decode cX11_nextTurn 8 = .ok (.aload_n 0, 1) := by decide +kernel
theorem dX11_nextTurn_9 : decode cX11_nextTurn 9 = .ok (.getfield 107, 3) := by decide +kernel
theorem dX11_nextTurn_12 : decode cX11_nextTurn 12 = .ok (.iload_n 2, 1) := by decide +kernel
theorem dX11_nextTurn_13 : decode cX11_nextTurn 13 = .ok (.iaload, 1) := by decide +kernel
theorem dX11_nextTurn_14 : decode cX11_nextTurn 14 = .ok (.aload_n 0, 1) := by decide +kernel
theorem dX11_nextTurn_15 : decode cX11_nextTurn 15 = .ok (.getfield 107, 3) := by decide +kernel
theorem dX11_nextTurn_18 : decode cX11_nextTurn 18 = .ok (.iload_n 2, 1) := by decide +kernel
theorem dX11_nextTurn_19 : decode cX11_nextTurn 19 = .ok (.iconst 1, 1) := by decide +kernel
theorem dX11_nextTurn_20 : decode cX11_nextTurn 20 = .ok (.iadd, 1) := by decide +kernel
theorem dX11_nextTurn_21 : decode cX11_nextTurn 21 = .ok (.iaload, 1) := by decide +kernel
theorem dX11_nextTurn_22 : decode cX11_nextTurn 22 = .ok (.if_icmp .le 9, 3) := by decide +kernel
theorem dX11_nextTurn_25 : decode cX11_nextTurn 25 = .ok (.iinc 2 (-1), 3) := by decide +kernel
theorem dX11_nextTurn_28 : decode cX11_nextTurn 28 = .ok (.goto (-24), 3) := by decide +kernel
theorem dX11_nextTurn_31 : decode cX11_nextTurn 31 = .ok (.iload_n 2, 1) := by decide +kernel
theorem dX11_nextTurn_32 : decode cX11_nextTurn 32 = .ok (.ifCond .ge 5, 3) := by decide +kernel
theorem dX11_nextTurn_35 : decode cX11_nextTurn 35 = .ok (.iconst 0, 1) := by decide +kernel
theorem dX11_nextTurn_36 : decode cX11_nextTurn 36 = .ok (.ireturn, 1) := by decide +kernel
theorem dX11_nextTurn_37 : decode cX11_nextTurn 37 = .ok (.iload_n 1, 1) := by decide +kernel
theorem dX11_nextTurn_38 : decode cX11_nextTurn 38 = .ok (.iconst 1, 1) := by decide +kernel
theorem dX11_nextTurn_39 : decode cX11_nextTurn 39 = .ok (.isub, 1) := by decide +kernel
theorem dX11_nextTurn_40 : decode cX11_nextTurn 40 = .ok (.istore_n 3, 1) := by decide +kernel
theorem dX11_nextTurn_41 : decode cX11_nextTurn 41 = .ok (.aload_n 0, 1) := by decide +kernel
theorem dX11_nextTurn_42 : decode cX11_nextTurn 42 = .ok (.getfield 107, 3) := by decide +kernel
theorem dX11_nextTurn_45 : decode cX11_nextTurn 45 = .ok (.iload_n 3, 1) := by decide +kernel
theorem dX11_nextTurn_46 : decode cX11_nextTurn 46 = .ok (.iaload, 1) := by decide +kernel
theorem dX11_nextTurn_47 : decode cX11_nextTurn 47 = .ok (.aload_n 0, 1) := by decide +kernel
theorem dX11_nextTurn_48 : decode cX11_nextTurn 48 = .ok (.getfield 107, 3) := by decide +kernel
theorem dX11_nextTurn_51 : decode cX11_nextTurn 51 = .ok (.iload_n 2, 1) := by decide +kernel
theorem dX11_nextTurn_52 : decode cX11_nextTurn 52 = .ok (.iaload, 1) := by decide +kernel
theorem dX11_nextTurn_53 : decode cX11_nextTurn 53 = .ok (.if_icmp .ge 9, 3) := by decide +kernel
theorem dX11_nextTurn_56 : decode cX11_nextTurn 56 = .ok (.iinc 3 (-1), 3) := by decide +kernel
theorem dX11_nextTurn_59 : decode cX11_nextTurn 59 = .ok (.goto (-18), 3) := by decide +kernel
theorem dX11_nextTurn_62 : decode cX11_nextTurn 62 = .ok (.aload_n 0, 1) := by decide +kernel
theorem dX11_nextTurn_63 : decode cX11_nextTurn 63 = .ok (.getfield 107, 3) := by decide +kernel
theorem dX11_nextTurn_66 : decode cX11_nextTurn 66 = .ok (.iload_n 2, 1) := by decide +kernel
theorem dX11_nextTurn_67 : decode cX11_nextTurn 67 = .ok (.iaload, 1) := by decide +kernel
theorem dX11_nextTurn_68 : decode cX11_nextTurn 68 = .ok (.istore 4, 2) := by decide +kernel
theorem dX11_nextTurn_70 : decode cX11_nextTurn 70 = .ok (.aload_n 0, 1) := by decide +kernel
theorem dX11_nextTurn_71 : decode cX11_nextTurn 71 = .ok (.getfield 107, 3) := by decide +kernel
theorem dX11_nextTurn_74 : decode cX11_nextTurn 74 = .ok (.iload_n 2, 1) := by decide +kernel
theorem dX11_nextTurn_75 : decode cX11_nextTurn 75 = .ok (.aload_n 0, 1) := by decide +kernel
theorem dX11_nextTurn_76 : decode cX11_nextTurn 76 = .ok (.getfield 107, 3) := by decide +kernel
theorem dX11_nextTurn_79 : decode cX11_nextTurn 79 = .ok (.iload_n 3, 1) := by decide +kernel
theorem dX11_nextTurn_80 : decode cX11_nextTurn 80 = .ok (.iaload, 1) := by decide +kernel
theorem dX11_nextTurn_81 : decode cX11_nextTurn 81 = .ok (.iastore, 1) := by decide +kernel
theorem dX11_nextTurn_82 : decode cX11_nextTurn 82 = .ok (.aload_n 0, 1) := by decide +kernel
theorem dX11_nextTurn_83 : decode cX11_nextTurn 83 = .ok (.getfield 107, 3) := by decide +kernel
theorem dX11_nextTurn_86 : decode cX11_nextTurn 86 = .ok (.iload_n 3, 1) := by decide +kernel
theorem dX11_nextTurn_87 : decode cX11_nextTurn 87 = .ok (.iload 4, 2) := by decide +kernel
theorem dX11_nextTurn_89 : decode cX11_nextTurn 89 = .ok (.iastore, 1) := by decide +kernel
theorem dX11_nextTurn_90 : decode cX11_nextTurn 90 = .ok (.iload_n 2, 1) := by decide +kernel
theorem dX11_nextTurn_91 : decode cX11_nextTurn 91 = .ok (.iconst 1, 1) := by decide +kernel
theorem dX11_nextTurn_92 : decode cX11_nextTurn 92 = .ok (.iadd, 1) := by decide +kernel
theorem dX11_nextTurn_93 : decode cX11_nextTurn 93 = .ok (.istore 5, 2) := by decide +kernel
theorem dX11_nextTurn_95 : decode cX11_nextTurn 95 = .ok (.iload_n 1, 1) := by decide +kernel
theorem dX11_nextTurn_96 : decode cX11_nextTurn 96 = .ok (.iconst 1, 1) := by decide +kernel
theorem dX11_nextTurn_97 : decode cX11_nextTurn 97 = .ok (.isub, 1) := by decide +kernel
theorem dX11_nextTurn_98 : decode cX11_nextTurn 98 = .ok (.istore 6, 2) := by decide +kernel
theorem dX11_nextTurn_100 : decode cX11_nextTurn 100 = .ok (.iload 5, 2) := by decide +kernel
theorem dX11_nextTurn_102 : decode cX11_nextTurn 102 = .ok (.iload 6, 2) := by decide +kernel
theorem dX11_nextTurn_104 : decode cX11_nextTurn 104 = .ok (.if_icmp .ge 44, 3) := by decide +kernel
theorem dX11_nextTurn_107 : decode cX11_nextTurn 107 = .ok (.aload_n 0, 1) := by decide +kernel
theorem dX11_nextTurn_108 : decode cX11_nextTurn 108 = .ok (.getfield 107, 3) := by decide +kernel
theorem dX11_nextTurn_111 : decode cX11_nextTurn 111 = .ok (.iload 5, 2) := by decide +kernel
theorem dX11_nextTurn_113 : decode cX11_nextTurn 113 = .ok (.iaload, 1) := by decide +kernel
theorem dX11_nextTurn_114 : decode cX11_nextTurn 114 = .ok (.istore 4, 2) := by decide +kernel
theorem dX11_nextTurn_116 : decode cX11_nextTurn 116 = .ok (.aload_n 0, 1) := by decide +kernel
theorem dX11_nextTurn_117 : decode cX11_nextTurn 117 = .ok (.getfield 107, 3) := by decide +kernel
theorem dX11_nextTurn_120 : decode cX11_nextTurn 120 = .ok (.iload 5, 2) := by decide +kernel
theorem dX11_nextTurn_122 : decode cX11_nextTurn 122 = .ok (.aload_n 0, 1) := by decide +kernel
theorem dX11_nextTurn_123 : decode cX11_nextTurn 123 = .ok (.getfield 107, 3) := by decide +kernel
theorem dX11_nextTurn_126 : decode cX11_nextTurn 126 = .ok (.iload 6, 2) := by decide +kernel
theorem dX11_nextTurn_128 : decode cX11_nextTurn 128 = .ok (.iaload, 1) := by decide +kernel
theorem dX11_nextTurn_129 : decode cX11_nextTurn 129 = .ok (.iastore, 1) := by decide +kernel
theorem dX11_nextTurn_130 : decode cX11_nextTurn 130 = .ok (.aload_n 0, 1) := by decide +kernel
theorem dX11_nextTurn_131 : decode cX11_nextTurn 131 = .ok (.getfield 107, 3) := by decide +kernel
theorem dX11_nextTurn_134 : decode cX11_nextTurn 134 = .ok (.iload 6, 2) := by decide +kernel
theorem dX11_nextTurn_136 : decode cX11_nextTurn 136 = .ok (.iload 4, 2) := by decide +kernel
theorem dX11_nextTurn_138 : decode cX11_nextTurn 138 = .ok (.iastore, 1) := by decide +kernel
theorem dX11_nextTurn_139 : decode cX11_nextTurn 139 = .ok (.iinc 5 1, 3) := by decide +kernel
theorem dX11_nextTurn_142 : decode cX11_nextTurn 142 = .ok (.iinc 6 (-1), 3) := by decide +kernel
theorem dX11_nextTurn_145 : decode cX11_nextTurn 145 = .ok (.goto (-45), 3) := by decide +kernel
theorem dX11_nextTurn_148 : decode cX11_nextTurn 148 = .ok (.iconst 1, 1) := by decide +kernel
theorem dX11_nextTurn_149 : decode cX11_nextTurn 149 = .ok (.ireturn, 1) := by decide +kernel
theorem dX11_order_0 : decode cX11_order 0 = .ok (.aload_n 0, 1) := by decide +kernel
theorem dX11_order_1 : decode cX11_order 1 = .ok (.iload_n 1, 1) := by decide +kernel
theorem dX11_order_2 : decode cX11_order 2 = .ok (.invokevirtual 167, 3) := by decide +kernel
theorem dX11_order_5 : decode cX11_order 5 = .ok (.ifCond .eq 13, 3) := by decide +kernel
theorem dX11_order_8 : decode cX11_order 8 = .ok (.iload_n 2, 1) := by decide +kernel
theorem dX11_order_9 : decode cX11_order 9 = .ok (.iconst (-1), 1) := by decide +kernel
theorem dX11_order_10 : decode cX11_order 10 = .ok (.bipush 7, 2) := by decide +kernel
theorem dX11_order_12 : decode cX11_order 12 = .ok (.invokestatic 124, 3) := by decide +kernel
theorem dX11_order_15 : decode cX11_order 15 = .ok (.ifCond .ne 5, 3) := by decide +kernel
theorem dX11_order_18 : decode cX11_order 18 = .ok (.iconst (-1), 1) := by decide +kernel
theorem dX11_order_19 : decode cX11_order 19 = .ok (.ireturn, 1) := by decide +kernel
theorem dX11_order_20 : decode cX11_order 20 = .ok (.iconst 0, 1) := by decide +kernel
theorem dX11_order_21 : decode cX11_order 21 = .ok (.istore_n 3, 1) := by decide +kernel
theorem dX11_order_22 : decode cX11_order 22 = .ok (.iconst 0, 1) := by decide +kernel
theorem dX11_order_23 : decode cX11_order 23 = .ok (.istore 4, 2) := by decide +kernel
theorem dX11_order_25 : decode cX11_order 25 = .ok (.iload 4, 2) := by decide +kernel
theorem dX11_order_27 : decode cX11_order 27 = .ok (.aload_n 0, 1) := by decide +kernel
theorem dX11_order_28 : decode cX11_order 28 = .ok (.getfield 209, 3) := by decide +kernel
theorem dX11_order_31 : decode cX11_order 31 = .ok (.if_icmp .ge 43, 3) := by decide +kernel
theorem dX11_order_34 : decode cX11_order 34 = .ok (.aload_n 0, 1) := by decide +kernel
theorem dX11_order_35 : decode cX11_order 35 = .ok (.getfield 64, 3) := by decide +kernel
theorem dX11_order_38 : decode cX11_order 38 = .ok (.iload 4, 2) := by decide +kernel
theorem dX11_order_40 : decode cX11_order 40 = .ok (.iaload, 1) := by decide +kernel
theorem dX11_order_41 : decode cX11_order 41 = .ok (.iload_n 1, 1) := by decide +kernel
theorem dX11_order_42 : decode cX11_order 42 = .ok (.invokestatic 132, 3) := by decide +kernel
theorem dX11_order_45 : decode cX11_order 45 = .ok (.ifCond .eq 23, 3) := by decide +kernel
theorem dX11_order_48 : decode cX11_order 48 = .ok (.iload_n 3, 1) := by decide +kernel
theorem dX11_order_49 : decode cX11_order 49 = .ok (.bipush 6, 2) := by decide +kernel
theorem dX11_order_51 : decode cX11_order 51 = .ok (.if_icmp .ne 6, 3) := by decide +kernel
theorem dX11_order_54 : decode cX11_order 54 = .ok (.bipush (-3), 2) := by decide +kernel
theorem dX11_order_56 : decode cX11_order 56 = .ok (.ireturn, 1) := by decide +kernel
theorem dX11_order_57 : decode cX11_order 57 = .ok (.aload_n 0, 1) := by decide +kernel
theorem dX11_order_58 : decode cX11_order 58 = .ok (.getfield 107, 3) := by decide +kernel
theorem dX11_order_61 : decode cX11_order 61 = .ok (.iload_n 3, 1) := by decide +kernel
theorem dX11_order_62 : decode cX11_order 62 = .ok (.iload 4, 2) := by decide +kernel
theorem dX11_order_64 : decode cX11_order 64 = .ok (.iastore, 1) := by decide +kernel
theorem dX11_order_65 : decode cX11_order 65 = .ok (.iinc 3 1, 3) := by decide +kernel
theorem dX11_order_68 : decode cX11_order 68 = .ok (.iinc 4 1, 3) := by decide +kernel
theorem dX11_order_71 : decode cX11_order 71 = .ok (.goto (-46), 3) := by decide +kernel
theorem dX11_order_74 : decode cX11_order 74 = .ok (.iconst (-1), 1) := by decide +kernel
theorem dX11_order_75 : decode cX11_order 75 = .ok (.istore 4, 2) := by decide +kernel
theorem dX11_order_77 : decode cX11_order 77 = .ok (.iconst 1, 1) := by decide +kernel
theorem dX11_order_78 : decode cX11_order 78 = .ok (.istore 5, 2) := by decide +kernel
theorem dX11_order_80 : decode cX11_order 80 = .ok (.iload 5, 2) := by decide +kernel
theorem dX11_order_82 : decode cX11_order 82 = .ok (.ifCond .eq 61, 3) := by decide +kernel
theorem dX11_order_85 : decode cX11_order 85 = .ok (.aload_n 0, 1) := by decide +kernel
theorem dX11_order_86 : decode cX11_order 86 = .ok (.iload_n 1, 1) := by decide +kernel
theorem dX11_order_87 : decode cX11_order 87 = .ok (.iload_n 3, 1) := by decide +kernel
theorem dX11_order_88 : decode cX11_order 88 = .ok (.invokevirtual 275, 3) := by decide +kernel
theorem dX11_order_91 : decode cX11_order 91 = .ok (.istore 6, 2) := by decide +kernel
theorem dX11_order_93 : decode cX11_order 93 = .ok (.iload 6, 2) := by decide +kernel
theorem dX11_order_95 : decode cX11_order 95 = .ok (.iload 4, 2) := by decide +kernel
theorem dX11_order_97 : decode cX11_order 97 = .ok (.if_icmp .le 36, 3) := by decide +kernel
theorem dX11_order_100 : decode cX11_order 100 = .ok (.iload 6, 2) := by decide +kernel
theorem dX11_order_102 : decode cX11_order 102 = .ok (.istore 4, 2) := by decide +kernel
theorem dX11_order_104 : decode cX11_order 104 = .ok (.iconst 0, 1) := by decide +kernel
theorem dX11_order_105 : decode cX11_order 105 = .ok (.istore 7, 2) := by decide +kernel
theorem dX11_order_107 : decode cX11_order 107 = .ok (.iload 7, 2) := by decide +kernel
theorem dX11_order_109 : decode cX11_order 109 = .ok (.iload_n 3, 1) := by decide +kernel
theorem dX11_order_110 : decode cX11_order 110 = .ok (.if_icmp .ge 23, 3) := by decide +kernel
theorem dX11_order_113 : decode cX11_order 113 = .ok (.aload_n 0, 1) := by decide +kernel
theorem dX11_order_114 : decode cX11_order 114 = .ok (.getfield 110, 3) := by decide +kernel
theorem dX11_order_117 : decode cX11_order 117 = .ok (.iload 7, 2) := by decide +kernel
theorem dX11_order_119 : decode cX11_order 119 = .ok (.aload_n 0, 1) := by decide +kernel
theorem dX11_order_120 : decode cX11_order 120 = .ok (.getfield 107, 3) := by decide +kernel
theorem dX11_order_123 : decode cX11_order 123 = .ok (.iload 7, 2) := by decide +kernel
theorem dX11_order_125 : decode cX11_order 125 = .ok (.iaload, 1) := by decide +kernel
theorem dX11_order_126 : decode cX11_order 126 = .ok (.iastore, 1) := by decide +kernel
theorem dX11_order_127 : decode cX11_order 127 = .ok (.iinc 7 1, 3) := by decide +kernel
theorem dX11_order_130 : decode cX11_order 130 = .ok (.goto (-23), 3) := by decide +kernel
theorem dX11_order_133 : decode cX11_order 133 = .ok (.aload_n 0, 1) := by decide +kernel
theorem dX11_order_134 : decode cX11_order 134 = .ok (.iload_n 3, 1) := by decide +kernel
theorem dX11_order_135 : decode cX11_order 135 = .ok (.invokevirtual 278, 3) := by decide +kernel
theorem dX11_order_138 : decode cX11_order 138 = .ok (.istore 5, 2) := by decide +kernel
theorem dX11_order_140 : decode cX11_order 140 = .ok (.goto (-60), 3) := by decide +kernel
theorem dX11_order_143 : decode cX11_order 143 = .ok (.iload_n 2, 1) := by decide +kernel
theorem dX11_order_144 : decode cX11_order 144 = .ok (.iconst (-1), 1) := by decide +kernel
theorem dX11_order_145 : decode cX11_order 145 = .ok (.if_icmp .ne 8, 3) := by decide +kernel
theorem dX11_order_148 : decode cX11_order 148 = .ok (.iload 4, 2) := by decide +kernel
theorem dX11_order_150 : decode cX11_order 150 = .ok (.goto 19, 3) := by decide +kernel
theorem dX11_order_153 : decode cX11_order 153 = .ok (.iload_n 2, 1) := by decide +kernel
theorem dX11_order_154 : decode cX11_order 154 = .ok (.iload_n 3, 1) := by decide +kernel
theorem dX11_order_155 : decode cX11_order 155 = .ok (.if_icmp .ge 12, 3) := by decide +kernel
theorem dX11_order_158 : decode cX11_order 158 = .ok (.aload_n 0, 1) := by decide +kernel
theorem dX11_order_159 : decode cX11_order 159 = .ok (.getfield 110, 3) := by decide +kernel
theorem dX11_order_162 : decode cX11_order 162 = .ok (.iload_n 2, 1) := by decide +kernel
theorem dX11_order_163 : decode cX11_order 163 = .ok (.iaload, 1) := by decide +kernel
theorem dX11_order_164 : decode cX11_order 164 = .ok (.goto 5, 3) := by decide +kernel
theorem dX11_order_167 : decode cX11_order 167 = .ok (.bipush (-9), 2) := by decide +kernel
theorem dX11_order_169 : decode cX11_order 169 = .ok (.ireturn, 1) := by decide +kernel
theorem dX11_limit_0 : decode cX11_limit 0 = .ok (.iload_n 1, 1) := by decide +kernel
theorem dX11_limit_1 : decode cX11_limit 1 = .ok (.iconst 0, 1) := by decide +kernel
theorem dX11_limit_2 : decode cX11_limit 2 = .ok (.bipush 99, 2) := by decide +kernel
theorem dX11_limit_4 : decode cX11_limit 4 = .ok (.invokestatic 124, 3) := by decide +kernel
theorem dX11_limit_7 : decode cX11_limit 7 = .ok (.ifCond .ne 6, 3) := by decide +kernel
theorem dX11_limit_10 : decode cX11_limit 10 = .ok (.bipush (-2), 2) := by decide +kernel
theorem dX11_limit_12 : decode cX11_limit 12 = .ok (.ireturn, 1) := by decide +kernel
theorem dX11_limit_13 : decode cX11_limit 13 = .ok (.aload_n 0, 1) := by decide +kernel
theorem dX11_limit_14 : decode cX11_limit 14 = .ok (.getfield 113, 3) := by decide +kernel
theorem dX11_limit_17 : decode cX11_limit 17 = .ok (.istore_n 2, 1) := by decide +kernel
theorem dX11_limit_18 : decode cX11_limit 18 = .ok (.aload_n 0, 1) := by decide +kernel
theorem dX11_limit_19 : decode cX11_limit 19 = .ok (.iload_n 1, 1) := by decide +kernel
theorem dX11_limit_20 : decode cX11_limit 20 = .ok (.putfield 113, 3) := by decide +kernel
theorem dX11_limit_23 : decode cX11_limit 23 = .ok (.iload_n 2, 1) := by decide +kernel
theorem dX11_limit_24 : decode cX11_limit 24 = .ok (.ireturn, 1) := by decide +kernel
theorem dX11_areSaid_0 : decode cX11_areSaid 0 = .ok (.aload_n 0, 1) := by decide +kernel
theorem dX11_areSaid_1 : decode cX11_areSaid 1 = .ok (.iload_n 2, 1) := by decide +kernel
theorem dX11_areSaid_2 : decode cX11_areSaid 2 = .ok (.iload_n 1, 1) := by decide +kernel
theorem dX11_areSaid_3 : decode cX11_areSaid 3 = .ok (.invokevirtual 186, 3) := by decide +kernel
theorem dX11_areSaid_6 : decode cX11_areSaid 6 = .ok (.bipush (-9), 2) := by decide +kernel
theorem dX11_areSaid_8 : decode cX11_areSaid 8 = .ok (.if_icmp .eq 18, 3) := by decide +kernel
theorem dX11_areSaid_11 : decode cX11_areSaid 11 = .ok (.aload_n 0, 1) := by decide +kernel
theorem dX11_areSaid_12 : decode cX11_areSaid 12 = .ok (.iload_n 3, 1) := by decide +kernel
theorem dX11_areSaid_13 : decode cX11_areSaid 13 = .ok (.iload_n 1, 1) := by decide +kernel
theorem dX11_areSaid_14 : decode cX11_areSaid 14 = .ok (.invokevirtual 186, 3) := by decide +kernel
theorem dX11_areSaid_17 : decode cX11_areSaid 17 = .ok (.bipush (-9), 2) := by decide +kernel
theorem dX11_areSaid_19 : decode cX11_areSaid 19 = .ok (.if_icmp .eq 7, 3) := by decide +kernel
theorem dX11_areSaid_22 : decode cX11_areSaid 22 = .ok (.iconst 1, 1) := by decide +kernel
theorem dX11_areSaid_23 : decode cX11_areSaid 23 = .ok (.goto 4, 3) := by decide +kernel
theorem dX11_areSaid_26 : decode cX11_areSaid 26 = .ok (.iconst 0, 1) := by decide +kernel
theorem dX11_areSaid_27 : decode cX11_areSaid 27 = .ok (.ireturn, 1) := by decide +kernel
theorem dX11_areLike_0 : decode cX11_areLike 0 = .ok (.aload_n 0, 1) := by decide +kernel
theorem dX11_areLike_1 : decode cX11_areLike 1 = .ok (.iload_n 1, 1) := by decide +kernel
theorem dX11_areLike_2 : decode cX11_areLike 2 = .ok (.iload_n 2, 1) := by decide +kernel
theorem dX11_areLike_3 : decode cX11_areLike 3 = .ok (.iload_n 3, 1) := by decide +kernel
theorem dX11_areLike_4 : decode cX11_areLike 4 = .ok (.invokevirtual 281, 3) := by decide +kernel
theorem dX11_areLike_7 : decode cX11_areLike 7 = .ok (.ifCond .eq 30, 3) := by decide +kernel
theorem dX11_areLike_10 : decode cX11_areLike 10 = .ok (.aload_n 0, 1) := by decide +kernel
theorem dX11_areLike_11 : decode cX11_areLike 11 = .ok (.aload_n 0, 1) := by decide +kernel
theorem dX11_areLike_12 : decode cX11_areLike 12 = .ok (.iload_n 2, 1) := by decide +kernel
theorem dX11_areLike_13 : decode cX11_areLike 13 = .ok (.iload_n 1, 1) := by decide +kernel
theorem dX11_areLike_14 : decode cX11_areLike 14 = .ok (.invokevirtual 186, 3) := by decide +kernel
theorem dX11_areLike_17 : decode cX11_areLike 17 = .ok (.aload_n 0, 1) := by decide +kernel
theorem dX11_areLike_18 : decode cX11_areLike 18 = .ok (.iload_n 3, 1) := by decide +kernel
theorem dX11_areLike_19 : decode cX11_areLike 19 = .ok (.iload_n 1, 1) := by decide +kernel
theorem dX11_areLike_20 : decode cX11_areLike 20 = .ok (.invokevirtual 186, 3) := by decide +kernel
theorem dX11_areLike_23 : decode cX11_areLike 23 = .ok (.invokevirtual 241, 3) := by decide +kernel
theorem dX11_areLike_26 : decode cX11_areLike 26 = .ok (.aload_n 0, 1) := by decide +kernel
theorem dX11_areLike_27 : decode cX11_areLike 27 = .ok (.getfield 113, 3) := by decide +kernel
theorem dX11_areLike_30 : decode cX11_areLike 30 = .ok (.if_icmp .gt 7, 3) := by decide +kernel
theorem dX11_areLike_33 : decode cX11_areLike 33 = .ok (.iconst 1, 1) := by decide +kernel
theorem dX11_areLike_34 : decode cX11_areLike 34 = .ok (.goto 4, 3) := by decide +kernel
theorem dX11_areLike_37 : decode cX11_areLike 37 = .ok (.iconst 0, 1) := by decide +kernel
theorem dX11_areLike_38 : decode cX11_areLike 38 = .ok (.ireturn, 1) := by decide +kernel
theorem dX11_join_0 : decode cX11_join 0 = .ok (.aload_n 0, 1) := by decide +kernel
theorem dX11_join_1 : decode cX11_join 1 = .ok (.getfield 116, 3) := by decide +kernel
theorem dX11_join_4 : decode cX11_join 4 = .ok (.iload_n 1, 1) := by decide +kernel
theorem dX11_join_5 : decode cX11_join 5 = .ok (.iaload, 1) := by decide +kernel
theorem dX11_join_6 : decode cX11_join 6 = .ok (.istore_n 3, 1) := by decide +kernel
theorem dX11_join_7 : decode cX11_join 7 = .ok (.aload_n 0, 1) := by decide +kernel
theorem dX11_join_8 : decode cX11_join 8 = .ok (.getfield 116, 3) := by decide +kernel
theorem dX11_join_11 : decode cX11_join 11 = .ok (.iload_n 2, 1) := by decide +kernel
theorem dX11_join_12 : decode cX11_join 12 = .ok (.iaload, 1) := by decide +kernel
theorem dX11_join_13 : decode cX11_join 13 = .ok (.istore 4, 2) := by decide +kernel
theorem dX11_join_15 : decode cX11_join 15 = .ok (.iload_n 3, 1) := by decide +kernel
theorem dX11_join_16 : decode cX11_join 16 = .ok (.iload 4, 2) := by decide +kernel
theorem dX11_join_18 : decode cX11_join 18 = .ok (.if_icmp .ge 7, 3) := by decide +kernel
theorem dX11_join_21 : decode cX11_join 21 = .ok (.iload_n 3, 1) := by decide +kernel
theorem dX11_join_22 : decode cX11_join 22 = .ok (.goto 5, 3) := by decide +kernel
theorem dX11_join_25 : decode cX11_join 25 = .ok (.iload 4, 2) := by decide +kernel
theorem dX11_join_27 : decode cX11_join 27 = .ok (.istore 5, 2) := by decide +kernel
theorem dX11_join_29 : decode cX11_join 29 = .ok (.iconst 0, 1) := by decide +kernel
theorem dX11_join_30 : decode cX11_join 30 = .ok (.istore 6, 2) := by decide +kernel
theorem dX11_join_32 : decode cX11_join 32 = .ok (.iload 6, 2) := by decide +kernel
theorem dX11_join_34 : decode cX11_join 34 = .ok (.aload_n 0, 1) := by decide +kernel
theorem dX11_join_35 : decode cX11_join 35 = .ok (.getfield 164, 3) := by decide +kernel
theorem dX11_join_38 : decode cX11_join 38 = .ok (.if_icmp .ge 51, 3) := by decide +kernel
theorem dX11_join_41 : decode cX11_join 41 = .ok (.aload_n 0, 1) := by decide +kernel
theorem dX11_join_42 : decode cX11_join 42 = .ok (.getfield 116, 3) := by decide +kernel
theorem dX11_join_45 : decode cX11_join 45 = .ok (.iload 6, 2) := by decide +kernel
theorem dX11_join_47 : decode cX11_join 47 = .ok (.aload_n 0, 1) := by decide +kernel
theorem dX11_join_48 : decode cX11_join 48 = .ok (.getfield 116, 3) := by decide +kernel
theorem dX11_join_51 : decode cX11_join 51 = .ok (.iload 6, 2) := by decide +kernel
theorem dX11_join_53 : decode cX11_join 53 = .ok (.iaload, 1) := by decide +kernel
theorem dX11_join_54 : decode cX11_join 54 = .ok (.iload_n 3, 1) := by decide +kernel
theorem dX11_join_55 : decode cX11_join 55 = .ok (.if_icmp .eq 15, 3) := by decide +kernel
theorem dX11_join_58 : decode cX11_join 58 = .ok (.aload_n 0, 1) := by decide +kernel
theorem dX11_join_59 : decode cX11_join 59 = .ok (.getfield 116, 3) := by decide +kernel
theorem dX11_join_62 : decode cX11_join 62 = .ok (.iload 6, 2) := by decide +kernel
theorem dX11_join_64 : decode cX11_join 64 = .ok (.iaload, 1) := by decide +kernel
theorem dX11_join_65 : decode cX11_join 65 = .ok (.iload 4, 2) := by decide +kernel
theorem dX11_join_67 : decode cX11_join 67 = .ok (.if_icmp .ne 8, 3) := by decide +kernel
theorem dX11_join_70 : decode cX11_join 70 = .ok (.iload 5, 2) := by decide +kernel
theorem dX11_join_72 : decode cX11_join 72 = .ok (.goto 10, 3) := by decide +kernel
theorem dX11_join_75 : decode cX11_join 75 = .ok (.aload_n 0, 1) := by decide +kernel
theorem dX11_join_76 : decode cX11_join 76 = .ok (.getfield 116, 3) := by decide +kernel
theorem dX11_join_79 : decode cX11_join 79 = .ok (.iload 6, 2) := by decide +kernel
theorem dX11_join_81 : decode cX11_join 81 = .ok (.iaload, 1) := by decide +kernel
theorem dX11_join_82 : decode cX11_join 82 = .ok (.iastore, 1) := by decide +kernel
theorem dX11_join_83 : decode cX11_join 83 = .ok (.iinc 6 1, 3) := by decide +kernel
theorem dX11_join_86 : decode cX11_join 86 = .ok (.goto (-54), 3) := by decide +kernel
theorem dX11_join_89 : decode cX11_join 89 = .ok (.return_, 1) := by decide +kernel
theorem dX11_joinedOf_0 : decode cX11_joinedOf 0 = .ok (.iload_n 1, 1) := by decide +kernel
theorem dX11_joinedOf_1 : decode cX11_joinedOf 1 = .ok (.ifCond .lt 10, 3) := by decide +kernel
theorem dX11_joinedOf_4 : decode cX11_joinedOf 4 = .ok (.aload_n 0, 1) := by decide +kernel
theorem dX11_joinedOf_5 : decode cX11_joinedOf 5 = .ok (.getfield 116, 3) := by decide +kernel
theorem dX11_joinedOf_8 : decode cX11_joinedOf 8 = .ok (.iload_n 1, 1) := by decide +kernel
theorem dX11_joinedOf_9 : decode cX11_joinedOf 9 = .ok (.iaload, 1) := by decide +kernel
theorem dX11_joinedOf_10 : decode cX11_joinedOf 10 = .ok (.ireturn, 1) := by decide +kernel
theorem dX11_joinedOf_11 : decode cX11_joinedOf 11 = .ok (.iconst 0, 1) := by decide +kernel
theorem dX11_joinedOf_12 : decode cX11_joinedOf 12 = .ok (.istore_n 2, 1) := by decide +kernel
theorem dX11_joinedOf_13 : decode cX11_joinedOf 13 = .ok (.iconst 0, 1) := by decide +kernel
theorem dX11_joinedOf_14 : decode cX11_joinedOf 14 = .ok (.istore_n 3, 1) := by decide +kernel
theorem dX11_joinedOf_15 : decode cX11_joinedOf 15 = .ok (.iload_n 3, 1) := by decide +kernel
theorem dX11_joinedOf_16 : decode cX11_joinedOf 16 = .ok (.aload_n 0, 1) := by decide +kernel
theorem dX11_joinedOf_17 : decode cX11_joinedOf 17 = .ok (.getfield 164, 3) := by decide +kernel
theorem dX11_joinedOf_20 : decode cX11_joinedOf 20 = .ok (.if_icmp .ge 27, 3) := by decide +kernel
theorem dX11_joinedOf_23 : decode cX11_joinedOf 23 = .ok (.iload_n 2, 1) := by decide +kernel
theorem dX11_joinedOf_24 : decode cX11_joinedOf 24 = .ok (.aload_n 0, 1) := by decide +kernel
theorem dX11_joinedOf_25 : decode cX11_joinedOf 25 = .ok (.getfield 116, 3) := by decide +kernel
theorem dX11_joinedOf_28 : decode cX11_joinedOf 28 = .ok (.iload_n 3, 1) := by decide +kernel
theorem dX11_joinedOf_29 : decode cX11_joinedOf 29 = .ok (.iaload, 1) := by decide +kernel
theorem dX11_joinedOf_30 : decode cX11_joinedOf 30 = .ok (.iload_n 3, 1) := by decide +kernel
theorem dX11_joinedOf_31 : decode cX11_joinedOf 31 = .ok (.if_icmp .ne 7, 3) := by decide +kernel
theorem dX11_joinedOf_34 : decode cX11_joinedOf 34 = .ok (.iconst 1, 1) := by decide +kernel
theorem dX11_joinedOf_35 : decode cX11_joinedOf 35 = .ok (.goto 4, 3) := by decide +kernel
theorem dX11_joinedOf_38 : decode cX11_joinedOf 38 = .ok (.iconst 0, 1) := by decide +kernel
theorem dX11_joinedOf_39 : decode cX11_joinedOf 39 = .ok (.iadd, 1) := by decide +kernel
theorem dX11_joinedOf_40 : decode cX11_joinedOf 40 = .ok (.istore_n 2, 1) := by decide +kernel
theorem dX11_joinedOf_41 : decode cX11_joinedOf 41 = .ok (.iinc 3 1, 3) := by decide +kernel
theorem dX11_joinedOf_44 : decode cX11_joinedOf 44 = .ok (.goto (-29), 3) := by decide +kernel
theorem dX11_joinedOf_47 : decode cX11_joinedOf 47 = .ok (.iload_n 2, 1) := by decide +kernel
theorem dX11_joinedOf_48 : decode cX11_joinedOf 48 = .ok (.ireturn, 1) := by decide +kernel
theorem dX11_group_0 : decode cX11_group 0 = .ok (.iload_n 1, 1) := by decide +kernel
theorem dX11_group_1 : decode cX11_group 1 = .ok (.invokestatic 173, 3) := by decide +kernel
theorem dX11_group_4 : decode cX11_group 4 = .ok (.ifCond .eq 16, 3) := by decide +kernel
theorem dX11_group_7 : decode cX11_group 7 = .ok (.iload_n 2, 1) := by decide +kernel
theorem dX11_group_8 : decode cX11_group 8 = .ok (.iconst (-1), 1) := by decide +kernel
theorem dX11_group_9 : decode cX11_group 9 = .ok (.if_icmp .eq 13, 3) := by decide +kernel
theorem dX11_group_12 : decode cX11_group 12 = .ok (.aload_n 0, 1) := by decide +kernel
theorem dX11_group_13 : decode cX11_group 13 = .ok (.iload_n 2, 1) := by decide +kernel
theorem dX11_group_14 : decode cX11_group 14 = .ok (.invokevirtual 167, 3) := by decide +kernel
theorem dX11_group_17 : decode cX11_group 17 = .ok (.ifCond .ne 5, 3) := by decide +kernel
theorem dX11_group_20 : decode cX11_group 20 = .ok (.iconst (-1), 1) := by decide +kernel
theorem dX11_group_21 : decode cX11_group 21 = .ok (.ireturn, 1) := by decide +kernel
theorem dX11_group_22 : decode cX11_group 22 = .ok (.iconst 0, 1) := by decide +kernel
theorem dX11_group_23 : decode cX11_group 23 = .ok (.istore_n 3, 1) := by decide +kernel
theorem dX11_group_24 : decode cX11_group 24 = .ok (.iload_n 3, 1) := by decide +kernel
theorem dX11_group_25 : decode cX11_group 25 = .ok (.aload_n 0, 1) := by decide +kernel
theorem dX11_group_26 : decode cX11_group 26 = .ok (.getfield 164, 3) := by decide +kernel
theorem dX11_group_29 : decode cX11_group 29 = .ok (.if_icmp .ge 32, 3) := by decide +kernel
theorem dX11_group_32 : decode cX11_group 32 = .ok (.aload_n 0, 1) := by decide +kernel
theorem dX11_group_33 : decode cX11_group 33 = .ok (.getfield 116, 3) := by decide +kernel
theorem dX11_group_36 : decode cX11_group 36 = .ok (.iload_n 3, 1) := by decide +kernel
theorem dX11_group_37 : decode cX11_group 37 = .ok (.aload_n 0, 1) := by decide +kernel
theorem dX11_group_38 : decode cX11_group 38 = .ok (.iload_n 3, 1) := by decide +kernel
theorem dX11_group_39 : decode cX11_group 39 = .ok (.iload_n 1, 1) := by decide +kernel
theorem dX11_group_40 : decode cX11_group 40 = .ok (.invokevirtual 186, 3) := by decide +kernel
theorem dX11_group_43 : decode cX11_group 43 = .ok (.bipush (-9), 2) := by decide +kernel
theorem dX11_group_45 : decode cX11_group 45 = .ok (.if_icmp .ne 8, 3) := by decide +kernel
theorem dX11_group_48 : decode cX11_group 48 = .ok (.bipush (-9), 2) := by decide +kernel
theorem dX11_group_50 : decode cX11_group 50 = .ok (.goto 4, 3) := by decide +kernel
theorem dX11_group_53 : decode cX11_group 53 = .ok (.iload_n 3, 1) := by decide +kernel
theorem dX11_group_54 : decode cX11_group 54 = .ok (.iastore, 1) := by decide +kernel
theorem dX11_group_55 : decode cX11_group 55 = .ok (.iinc 3 1, 3) := by decide +kernel
theorem dX11_group_58 : decode cX11_group 58 = .ok (.goto (-34), 3) := by decide +kernel
theorem dX11_group_61 : decode cX11_group 61 = .ok (.iconst 0, 1) := by decide +kernel
theorem dX11_group_62 : decode cX11_group 62 = .ok (.istore_n 3, 1) := by decide +kernel
theorem dX11_group_63 : decode cX11_group 63 = .ok (.iload_n 3, 1) := by decide +kernel
theorem dX11_group_64 : decode cX11_group 64 = .ok (.aload_n 0, 1) := by decide +kernel
theorem dX11_group_65 : decode cX11_group 65 = .ok (.getfield 164, 3) := by decide +kernel
theorem dX11_group_68 : decode cX11_group 68 = .ok (.if_icmp .ge 47, 3) := by decide +kernel
theorem dX11_group_71 : decode cX11_group 71 = .ok (.iload_n 3, 1) := by decide +kernel
theorem dX11_group_72 : decode cX11_group 72 = .ok (.iconst 1, 1) := by decide +kernel
theorem dX11_group_73 : decode cX11_group 73 = .ok (.iadd, 1) := by decide +kernel
theorem dX11_group_74 : decode cX11_group 74 = .ok (.istore 4, 2) := by decide +kernel
theorem dX11_group_76 : decode cX11_group 76 = .ok (.iload 4, 2) := by decide +kernel
theorem dX11_group_78 : decode cX11_group 78 = .ok (.aload_n 0, 1) := by decide +kernel
theorem dX11_group_79 : decode cX11_group 79 = .ok (.getfield 164, 3) := by decide +kernel
theorem dX11_group_82 : decode cX11_group 82 = .ok (.if_icmp .ge 27, 3) := by decide +kernel
theorem dX11_group_85 : decode cX11_group 85 = .ok (.aload_n 0, 1) := by decide +kernel
theorem dX11_group_86 : decode cX11_group 86 = .ok (.iload_n 1, 1) := by decide +kernel
theorem dX11_group_87 : decode cX11_group 87 = .ok (.iload_n 3, 1) := by decide +kernel
theorem dX11_group_88 : decode cX11_group 88 = .ok (.iload 4, 2) := by decide +kernel
theorem dX11_group_90 : decode cX11_group 90 = .ok (.invokevirtual 284, 3) := by decide +kernel
theorem dX11_group_93 : decode cX11_group 93 = .ok (.ifCond .eq 10, 3) := by decide +kernel
theorem dX11_group_96 : decode cX11_group 96 = .ok (.aload_n 0, 1) := by decide +kernel
theorem dX11_group_97 : decode cX11_group 97 = .ok (.iload_n 3, 1) := by decide +kernel
theorem dX11_group_98 : decode cX11_group 98 = .ok (.iload 4, 2) := by decide +kernel
theorem dX11_group_100 : decode cX11_group 100 = .ok (.invokevirtual 287, 3) := by decide +kernel
theorem dX11_group_103 : decode cX11_group 103 = .ok (.iinc 4 1, 3) := by decide +kernel
theorem dX11_group_106 : decode cX11_group 106 = .ok (.goto (-30), 3) := by decide +kernel
theorem dX11_group_109 : decode cX11_group 109 = .ok (.iinc 3 1, 3) := by decide +kernel
theorem dX11_group_112 : decode cX11_group 112 = .ok (.goto (-49), 3) := by decide +kernel
theorem dX11_group_115 : decode cX11_group 115 = .ok (.aload_n 0, 1) := by decide +kernel
theorem dX11_group_116 : decode cX11_group 116 = .ok (.iload_n 2, 1) := by decide +kernel
theorem dX11_group_117 : decode cX11_group 117 = .ok (.invokevirtual 290, 3) := by decide +kernel
theorem dX11_group_120 : decode cX11_group 120 = .ok (.ireturn, 1) := by decide +kernel
theorem dX11_border_0 : decode cX11_border 0 = .ok (.iload_n 1, 1) := by decide +kernel
theorem dX11_border_1 : decode cX11_border 1 = .ok (.invokestatic 173, 3) := by decide +kernel
theorem dX11_border_4 : decode cX11_border 4 = .ok (.ifCond .eq 13, 3) := by decide +kernel
theorem dX11_border_7 : decode cX11_border 7 = .ok (.iload_n 2, 1) := by decide +kernel
theorem dX11_border_8 : decode cX11_border 8 = .ok (.iconst (-1), 1) := by decide +kernel
theorem dX11_border_9 : decode cX11_border 9 = .ok (.bipush 27, 2) := by decide +kernel
theorem dX11_border_11 : decode cX11_border 11 = .ok (.invokestatic 124, 3) := by decide +kernel
theorem dX11_border_14 : decode cX11_border 14 = .ok (.ifCond .ne 5, 3) := by decide +kernel
theorem dX11_border_17 : decode cX11_border 17 = .ok (.iconst (-1), 1) := by decide +kernel
theorem dX11_border_18 : decode cX11_border 18 = .ok (.ireturn, 1) := by decide +kernel
theorem dX11_border_19 : decode cX11_border 19 = .ok (.iconst 0, 1) := by decide +kernel
theorem dX11_border_20 : decode cX11_border 20 = .ok (.istore_n 3, 1) := by decide +kernel
theorem dX11_border_21 : decode cX11_border 21 = .ok (.iconst 0, 1) := by decide +kernel
theorem dX11_border_22 : decode cX11_border 22 = .ok (.istore 4, 2) := by decide +kernel
theorem dX11_border_24 : decode cX11_border 24 = .ok (.iload 4, 2) := by decide +kernel
theorem dX11_border_26 : decode cX11_border 26 = .ok (.aload_n 0, 1) := by decide +kernel
theorem dX11_border_27 : decode cX11_border 27 = .ok (.getfield 164, 3) := by decide +kernel
theorem dX11_border_30 : decode cX11_border 30 = .ok (.if_icmp .ge 86, 3) := by decide +kernel
theorem dX11_border_33 : decode cX11_border 33 = .ok (.iload 4, 2) := by decide +kernel
theorem dX11_border_35 : decode cX11_border 35 = .ok (.iconst 1, 1) := by decide +kernel
theorem dX11_border_36 : decode cX11_border 36 = .ok (.iadd, 1) := by decide +kernel
theorem dX11_border_37 : decode cX11_border 37 = .ok (.istore 5, 2) := by decide +kernel
theorem dX11_border_39 : decode cX11_border 39 = .ok (.iload 5, 2) := by decide +kernel
theorem dX11_border_41 : decode cX11_border 41 = .ok (.aload_n 0, 1) := by decide +kernel
theorem dX11_border_42 : decode cX11_border 42 = .ok (.getfield 164, 3) := by decide +kernel
theorem dX11_border_45 : decode cX11_border 45 = .ok (.if_icmp .ge 65, 3) := by decide +kernel
theorem dX11_border_48 : decode cX11_border 48 = .ok (.aload_n 0, 1) := by decide +kernel
theorem dX11_border_49 : decode cX11_border 49 = .ok (.getfield 37, 3) := by decide +kernel
theorem dX11_border_52 : decode cX11_border 52 = .ok (.iload 4, 2) := by decide +kernel
theorem dX11_border_54 : decode cX11_border 54 = .ok (.iaload, 1) := by decide +kernel
theorem dX11_border_55 : decode cX11_border 55 = .ok (.iload 5, 2) := by decide +kernel
theorem dX11_border_57 : decode cX11_border 57 = .ok (.invokestatic 132, 3) := by decide +kernel
theorem dX11_border_60 : decode cX11_border 60 = .ok (.ifCond .eq 44, 3) := by decide +kernel
theorem dX11_border_63 : decode cX11_border 63 = .ok (.aload_n 0, 1) := by decide +kernel
theorem dX11_border_64 : decode cX11_border 64 = .ok (.iload_n 1, 1) := by decide +kernel
theorem dX11_border_65 : decode cX11_border 65 = .ok (.iload 4, 2) := by decide +kernel
theorem dX11_border_67 : decode cX11_border 67 = .ok (.iload 5, 2) := by decide +kernel
theorem dX11_border_69 : decode cX11_border 69 = .ok (.invokevirtual 281, 3) := by decide +kernel
theorem dX11_border_72 : decode cX11_border 72 = .ok (.ifCond .eq 32, 3) := by decide +kernel
theorem dX11_border_75 : decode cX11_border 75 = .ok (.aload_n 0, 1) := by decide +kernel
theorem dX11_border_76 : decode cX11_border 76 = .ok (.iload_n 1, 1) := by decide +kernel
theorem dX11_border_77 : decode cX11_border 77 = .ok (.iload 4, 2) := by decide +kernel
theorem dX11_border_79 : decode cX11_border 79 = .ok (.iload 5, 2) := by decide +kernel
theorem dX11_border_81 : decode cX11_border 81 = .ok (.invokevirtual 284, 3) := by decide +kernel
theorem dX11_border_84 : decode cX11_border 84 = .ok (.ifCond .ne 20, 3) := by decide +kernel
theorem dX11_border_87 : decode cX11_border 87 = .ok (.iload_n 3, 1) := by decide +kernel
theorem dX11_border_88 : decode cX11_border 88 = .ok (.iload_n 2, 1) := by decide +kernel
theorem dX11_border_89 : decode cX11_border 89 = .ok (.if_icmp .ne 12, 3) := by decide +kernel
theorem dX11_border_92 : decode cX11_border 92 = .ok (.bipush 10, 2) := by decide +kernel
theorem dX11_border_94 : decode cX11_border 94 = .ok (.iload 4, 2) := by decide +kernel
theorem dX11_border_96 : decode cX11_border 96 = .ok (.imul, 1) := by decide +kernel
theorem dX11_border_97 : decode cX11_border 97 = .ok (.iload 5, 2) := by decide +kernel
theorem dX11_border_99 : decode cX11_border 99 = .ok (.iadd, 1) := by decide +kernel
theorem dX11_border_100 : decode cX11_border 100 = .ok (.ireturn, 1) := by decide +kernel
theorem dX11_border_101 : decode cX11_border 101 = .ok (.iinc 3 1, 3) := by decide +kernel
theorem dX11_border_104 : decode cX11_border 104 = .ok (.iinc 5 1, 3) := by decide +kernel
theorem dX11_border_107 : decode cX11_border 107 = .ok (.goto (-68), 3) := by decide +kernel
theorem dX11_border_110 : decode cX11_border 110 = .ok (.iinc 4 1, 3) := by decide +kernel
theorem dX11_border_113 : decode cX11_border 113 = .ok (.goto (-89), 3) := by decide +kernel
theorem dX11_border_116 : decode cX11_border 116 = .ok (.iload_n 2, 1) := by decide +kernel
theorem dX11_border_117 : decode cX11_border 117 = .ok (.iconst (-1), 1) := by decide +kernel
theorem dX11_border_118 : decode cX11_border 118 = .ok (.if_icmp .ne 7, 3) := by decide +kernel
theorem dX11_border_121 : decode cX11_border 121 = .ok (.iload_n 3, 1) := by decide +kernel
theorem dX11_border_122 : decode cX11_border 122 = .ok (.goto 5, 3) := by decide +kernel
theorem dX11_border_125 : decode cX11_border 125 = .ok (.bipush (-9), 2) := by decide +kernel
theorem dX11_border_127 : decode cX11_border 127 = .ok (.ireturn, 1) := by decide +kernel
theorem dX11_bundle_0 : decode cX11_bundle 0 = .ok (.aload_n 0, 1) := by decide +kernel
theorem dX11_bundle_1 : decode cX11_bundle 1 = .ok (.iload_n 1, 1) := by decide +kernel
theorem dX11_bundle_2 : decode cX11_bundle 2 = .ok (.invokevirtual 167, 3) := by decide +kernel
theorem dX11_bundle_5 : decode cX11_bundle 5 = .ok (.ifCond .eq 11, 3) := by decide +kernel
theorem dX11_bundle_8 : decode cX11_bundle 8 = .ok (.aload_n 0, 1) := by decide +kernel
theorem dX11_bundle_9 : decode cX11_bundle 9 = .ok (.iload_n 2, 1) := by decide +kernel
theorem dX11_bundle_10 : decode cX11_bundle 10 = .ok (.invokevirtual 167, 3) := by decide +kernel
theorem dX11_bundle_13 : decode cX11_bundle 13 = .ok (.ifCond .ne 5, 3) := by decide +kernel
theorem dX11_bundle_16 : decode cX11_bundle 16 = .ok (.iconst (-1), 1) := by decide +kernel
theorem dX11_bundle_17 : decode cX11_bundle 17 = .ok (.ireturn, 1) := by decide +kernel
theorem dX11_bundle_18 : decode cX11_bundle 18 = .ok (.iload_n 1, 1) := by decide +kernel
theorem dX11_bundle_19 : decode cX11_bundle 19 = .ok (.iload_n 2, 1) := by decide +kernel
theorem dX11_bundle_20 : decode cX11_bundle 20 = .ok (.if_icmp .ne 6, 3) := by decide +kernel
theorem dX11_bundle_23 : decode cX11_bundle 23 = .ok (.bipush (-2), 2) := by decide +kernel
theorem dX11_bundle_25 : decode cX11_bundle 25 = .ok (.ireturn, 1) := by decide +kernel
theorem dX11_bundle_26 : decode cX11_bundle 26 = .ok (.iconst 0, 1) := by decide +kernel
theorem dX11_bundle_27 : decode cX11_bundle 27 = .ok (.istore_n 3, 1) := by decide +kernel
theorem dX11_bundle_28 : decode cX11_bundle 28 = .ok (.iconst 0, 1) := by decide +kernel
theorem dX11_bundle_29 : decode cX11_bundle 29 = .ok (.istore 4, 2) := by decide +kernel
theorem dX11_bundle_31 : decode cX11_bundle 31 = .ok (.iload 4, 2) := by decide +kernel
theorem dX11_bundle_33 : decode cX11_bundle 33 = .ok (.bipush 6, 2) := by decide +kernel
theorem dX11_bundle_35 : decode cX11_bundle 35 = .ok (.if_icmp .ge 39, 3) := by decide +kernel
theorem dX11_bundle_38 : decode cX11_bundle 38 = .ok (.iload_n 3, 1) := by decide +kernel
theorem dX11_bundle_39 : decode cX11_bundle 39 = .ok (.aload_n 0, 1) := by decide +kernel
theorem dX11_bundle_40 : decode cX11_bundle 40 = .ok (.iload 4, 2) := by decide +kernel
theorem dX11_bundle_42 : decode cX11_bundle 42 = .ok (.iload_n 1, 1) := by decide +kernel
theorem dX11_bundle_43 : decode cX11_bundle 43 = .ok (.iload_n 2, 1) := by decide +kernel
theorem dX11_bundle_44 : decode cX11_bundle 44 = .ok (.invokevirtual 281, 3) := by decide +kernel
theorem dX11_bundle_47 : decode cX11_bundle 47 = .ok (.ifCond .eq 18, 3) := by decide +kernel
theorem dX11_bundle_50 : decode cX11_bundle 50 = .ok (.aload_n 0, 1) := by decide +kernel
theorem dX11_bundle_51 : decode cX11_bundle 51 = .ok (.iload 4, 2) := by decide +kernel
theorem dX11_bundle_53 : decode cX11_bundle 53 = .ok (.iload_n 1, 1) := by decide +kernel
theorem dX11_bundle_54 : decode cX11_bundle 54 = .ok (.iload_n 2, 1) := by decide +kernel
theorem dX11_bundle_55 : decode cX11_bundle 55 = .ok (.invokevirtual 284, 3) := by decide +kernel
theorem dX11_bundle_58 : decode cX11_bundle 58 = .ok (.ifCond .ne 7, 3) := by decide +kernel
theorem dX11_bundle_61 : decode cX11_bundle 61 = .ok (.iconst 1, 1) := by decide +kernel
theorem dX11_bundle_62 : decode cX11_bundle 62 = .ok (.goto 4, 3) := by decide +kernel
theorem dX11_bundle_65 : decode cX11_bundle 65 = .ok (.iconst 0, 1) := by decide +kernel
theorem dX11_bundle_66 : decode cX11_bundle 66 = .ok (.iadd, 1) := by decide +kernel
theorem dX11_bundle_67 : decode cX11_bundle 67 = .ok (.istore_n 3, 1) := by decide +kernel
theorem dX11_bundle_68 : decode cX11_bundle 68 = .ok (.iinc 4 1, 3) := by decide +kernel
theorem dX11_bundle_71 : decode cX11_bundle 71 = .ok (.goto (-40), 3) := by decide +kernel
theorem dX11_bundle_74 : decode cX11_bundle 74 = .ok (.iload_n 3, 1) := by decide +kernel
theorem dX11_bundle_75 : decode cX11_bundle 75 = .ok (.ireturn, 1) := by decide +kernel
theorem dX11_area_0 : decode cX11_area 0 = .ok (.aload_n 0, 1) := by decide +kernel
theorem dX11_area_1 : decode cX11_area 1 = .ok (.iload_n 1, 1) := by decide +kernel
theorem dX11_area_2 : decode cX11_area 2 = .ok (.invokevirtual 212, 3) := by decide +kernel
theorem dX11_area_5 : decode cX11_area 5 = .ok (.ifCond .eq 16, 3) := by decide +kernel
theorem dX11_area_8 : decode cX11_area 8 = .ok (.iload_n 2, 1) := by decide +kernel
theorem dX11_area_9 : decode cX11_area 9 = .ok (.iconst (-1), 1) := by decide +kernel
theorem dX11_area_10 : decode cX11_area 10 = .ok (.if_icmp .eq 13, 3) := by decide +kernel
theorem dX11_area_13 : decode cX11_area 13 = .ok (.aload_n 0, 1) := by decide +kernel
theorem dX11_area_14 : decode cX11_area 14 = .ok (.iload_n 2, 1) := by decide +kernel
theorem dX11_area_15 : decode cX11_area 15 = .ok (.invokevirtual 167, 3) := by decide +kernel
theorem dX11_area_18 : decode cX11_area 18 = .ok (.ifCond .ne 5, 3) := by decide +kernel
theorem dX11_area_21 : decode cX11_area 21 = .ok (.iconst (-1), 1) := by decide +kernel
theorem dX11_area_22 : decode cX11_area 22 = .ok (.ireturn, 1) := by decide +kernel
theorem dX11_area_23 : decode cX11_area 23 = .ok (.iconst 0, 1) := by decide +kernel
theorem dX11_area_24 : decode cX11_area 24 = .ok (.istore_n 3, 1) := by decide +kernel
theorem dX11_area_25 : decode cX11_area 25 = .ok (.iload_n 3, 1) := by decide +kernel
theorem dX11_area_26 : decode cX11_area 26 = .ok (.aload_n 0, 1) := by decide +kernel
theorem dX11_area_27 : decode cX11_area 27 = .ok (.getfield 164, 3) := by decide +kernel
theorem dX11_area_30 : decode cX11_area 30 = .ok (.if_icmp .ge 34, 3) := by decide +kernel
theorem dX11_area_33 : decode cX11_area 33 = .ok (.aload_n 0, 1) := by decide +kernel
theorem dX11_area_34 : decode cX11_area 34 = .ok (.getfield 116, 3) := by decide +kernel
theorem dX11_area_37 : decode cX11_area 37 = .ok (.iload_n 3, 1) := by decide +kernel
theorem dX11_area_38 : decode cX11_area 38 = .ok (.aload_n 0, 1) := by decide +kernel
theorem dX11_area_39 : decode cX11_area 39 = .ok (.getfield 64, 3) := by decide +kernel
theorem dX11_area_42 : decode cX11_area 42 = .ok (.iload_n 1, 1) := by decide +kernel
theorem dX11_area_43 : decode cX11_area 43 = .ok (.iaload, 1) := by decide +kernel
theorem dX11_area_44 : decode cX11_area 44 = .ok (.iload_n 3, 1) := by decide +kernel
theorem dX11_area_45 : decode cX11_area 45 = .ok (.invokestatic 132, 3) := by decide +kernel
theorem dX11_area_48 : decode cX11_area 48 = .ok (.ifCond .eq 7, 3) := by decide +kernel
theorem dX11_area_51 : decode cX11_area 51 = .ok (.iload_n 3, 1) := by decide +kernel
theorem dX11_area_52 : decode cX11_area 52 = .ok (.goto 5, 3) := by decide +kernel
theorem dX11_area_55 : decode cX11_area 55 = .ok (.bipush (-9), 2) := by decide +kernel
theorem dX11_area_57 : decode cX11_area 57 = .ok (.iastore, 1) := by decide +kernel
theorem dX11_area_58 : decode cX11_area 58 = .ok (.iinc 3 1, 3) := by decide +kernel
theorem dX11_area_61 : decode cX11_area 61 = .ok (.goto (-36), 3) := by decide +kernel
theorem dX11_area_64 : decode cX11_area 64 = .ok (.iconst 0, 1) := by decide +kernel
theorem dX11_area_65 : decode cX11_area 65 = .ok (.istore_n 3, 1) := by decide +kernel
theorem dX11_area_66 : decode cX11_area 66 = .ok (.iload_n 3, 1) := by decide +kernel
theorem dX11_area_67 : decode cX11_area 67 = .ok (.aload_n 0, 1) := by decide +kernel
theorem dX11_area_68 : decode cX11_area 68 = .ok (.getfield 164, 3) := by decide +kernel
theorem dX11_area_71 : decode cX11_area 71 = .ok (.if_icmp .ge 73, 3) := by decide +kernel
theorem dX11_area_74 : decode cX11_area 74 = .ok (.iload_n 3, 1) := by decide +kernel
theorem dX11_area_75 : decode cX11_area 75 = .ok (.iconst 1, 1) := by decide +kernel
theorem dX11_area_76 : decode cX11_area 76 = .ok (.iadd, 1) := by decide +kernel
theorem dX11_area_77 : decode cX11_area 77 = .ok (.istore 4, 2) := by decide +kernel
theorem dX11_area_79 : decode cX11_area 79 = .ok (.iload 4, 2) := by decide +kernel
theorem dX11_area_81 : decode cX11_area 81 = .ok (.aload_n 0, 1) := by decide +kernel
theorem dX11_area_82 : decode cX11_area 82 = .ok (.getfield 164, 3) := by decide +kernel
theorem dX11_area_85 : decode cX11_area 85 = .ok (.if_icmp .ge 53, 3) := by decide +kernel
theorem dX11_area_88 : decode cX11_area 88 = .ok (.aload_n 0, 1) := by decide +kernel
theorem dX11_area_89 : decode cX11_area 89 = .ok (.getfield 37, 3) := by decide +kernel
theorem dX11_area_92 : decode cX11_area 92 = .ok (.iload_n 3, 1) := by decide +kernel
theorem dX11_area_93 : decode cX11_area 93 = .ok (.iaload, 1) := by decide +kernel
theorem dX11_area_94 : decode cX11_area 94 = .ok (.iload 4, 2) := by decide +kernel
theorem dX11_area_96 : decode cX11_area 96 = .ok (.invokestatic 132, 3) := by decide +kernel
theorem dX11_area_99 : decode cX11_area 99 = .ok (.ifCond .eq 33, 3) := by decide +kernel
theorem dX11_area_102 : decode cX11_area 102 = .ok (.aload_n 0, 1) := by decide +kernel
theorem dX11_area_103 : decode cX11_area 103 = .ok (.getfield 116, 3) := by decide +kernel
theorem dX11_area_106 : decode cX11_area 106 = .ok (.iload_n 3, 1) := by decide +kernel
theorem dX11_area_107 : decode cX11_area 107 = .ok (.iaload, 1) := by decide +kernel
theorem dX11_area_108 : decode cX11_area 108 = .ok (.bipush (-9), 2) := by decide +kernel
theorem dX11_area_110 : decode cX11_area 110 = .ok (.if_icmp .eq 22, 3) := by decide +kernel
theorem dX11_area_113 : decode cX11_area 113 = .ok (.aload_n 0, 1) := by decide +kernel
theorem dX11_area_114 : decode cX11_area 114 = .ok (.getfield 116, 3) := by decide +kernel
theorem dX11_area_117 : decode cX11_area 117 = .ok (.iload 4, 2) := by decide +kernel
theorem dX11_area_119 : decode cX11_area 119 = .ok (.iaload, 1) := by decide +kernel
theorem dX11_area_120 : decode cX11_area 120 = .ok (.bipush (-9), 2) := by decide +kernel
theorem dX11_area_122 : decode cX11_area 122 = .ok (.if_icmp .eq 10, 3) := by decide +kernel
theorem dX11_area_125 : decode cX11_area 125 = .ok (.aload_n 0, 1) := by decide +kernel
theorem dX11_area_126 : decode cX11_area 126 = .ok (.iload_n 3, 1) := by decide +kernel
theorem dX11_area_127 : decode cX11_area 127 = .ok (.iload 4, 2) := by decide +kernel
theorem dX11_area_129 : decode cX11_area 129 = .ok (.invokevirtual 287, 3) := by decide +kernel
theorem dX11_area_132 : decode cX11_area 132 = .ok (.iinc 4 1, 3) := by decide +kernel
theorem dX11_area_135 : decode cX11_area 135 = .ok (.goto (-56), 3) := by decide +kernel
theorem dX11_area_138 : decode cX11_area 138 = .ok (.iinc 3 1, 3) := by decide +kernel
theorem dX11_area_141 : decode cX11_area 141 = .ok (.goto (-75), 3) := by decide +kernel
theorem dX11_area_144 : decode cX11_area 144 = .ok (.aload_n 0, 1) := by decide +kernel
theorem dX11_area_145 : decode cX11_area 145 = .ok (.iload_n 2, 1) := by decide +kernel
theorem dX11_area_146 : decode cX11_area 146 = .ok (.invokevirtual 290, 3) := by decide +kernel
theorem dX11_area_149 : decode cX11_area 149 = .ok (.ireturn, 1) := by decide +kernel
theorem dX11_sheet_0 : decode cX11_sheet 0 = .ok (.aload_n 0, 1) := by decide +kernel
theorem dX11_sheet_1 : decode cX11_sheet 1 = .ok (.iconst 0, 1) := by decide +kernel
theorem dX11_sheet_2 : decode cX11_sheet 2 = .ok (.putfield 119, 3) := by decide +kernel
theorem dX11_sheet_5 : decode cX11_sheet 5 = .ok (.iload_n 1, 1) := by decide +kernel
theorem dX11_sheet_6 : decode cX11_sheet 6 = .ok (.invokestatic 143, 3) := by decide +kernel
theorem dX11_sheet_9 : decode cX11_sheet 9 = .ok (.ifCond .ne 5, 3) := by decide +kernel
theorem dX11_sheet_12 : decode cX11_sheet 12 = .ok (.iconst (-1), 1) := by decide +kernel
theorem dX11_sheet_13 : decode cX11_sheet 13 = .ok (.ireturn, 1) := by decide +kernel
theorem dX11_sheet_14 : decode cX11_sheet 14 = .ok (.iload_n 2, 1) := by decide +kernel
theorem dX11_sheet_15 : decode cX11_sheet 15 = .ok (.invokestatic 146, 3) := by decide +kernel
theorem dX11_sheet_18 : decode cX11_sheet 18 = .ok (.ifCond .eq 9, 3) := by decide +kernel
theorem dX11_sheet_21 : decode cX11_sheet 21 = .ok (.iload_n 3, 1) := by decide +kernel
theorem dX11_sheet_22 : decode cX11_sheet 22 = .ok (.bipush 60, 2) := by decide +kernel
theorem dX11_sheet_24 : decode cX11_sheet 24 = .ok (.if_icmp .le 6, 3) := by decide +kernel
theorem dX11_sheet_27 : decode cX11_sheet 27 = .ok (.bipush (-2), 2) := by decide +kernel
theorem dX11_sheet_29 : decode cX11_sheet 29 = .ok (.ireturn, 1) := by decide +kernel
theorem dX11_sheet_30 : decode cX11_sheet 30 = .ok (.iload_n 3, 1) := by decide +kernel
theorem dX11_sheet_31 : decode cX11_sheet 31 = .ok (.ifCond .ge 9, 3) := by decide +kernel
theorem dX11_sheet_34 : decode cX11_sheet 34 = .ok (.aload_n 0, 1) := by decide +kernel
theorem dX11_sheet_35 : decode cX11_sheet 35 = .ok (.iconst 4, 1) := by decide +kernel
theorem dX11_sheet_36 : decode cX11_sheet 36 = .ok (.invokevirtual 153, 3) := by decide +kernel
theorem dX11_sheet_39 : decode cX11_sheet 39 = .ok (.ireturn, 1) := by decide +kernel
theorem dX11_sheet_40 : decode cX11_sheet 40 = .ok (.aload_n 0, 1) := by decide +kernel
theorem dX11_sheet_41 : decode cX11_sheet 41 = .ok (.getfield 9, 3) := by decide +kernel
theorem dX11_sheet_44 : decode cX11_sheet 44 = .ok (.iload_n 1, 1) := by decide +kernel
theorem dX11_sheet_45 : decode cX11_sheet 45 = .ok (.iload_n 2, 1) := by decide +kernel
theorem dX11_sheet_46 : decode cX11_sheet 46 = .ok (.iastore, 1) := by decide +kernel
theorem dX11_sheet_47 : decode cX11_sheet 47 = .ok (.aload_n 0, 1) := by decide +kernel
theorem dX11_sheet_48 : decode cX11_sheet 48 = .ok (.getfield 13, 3) := by decide +kernel
theorem dX11_sheet_51 : decode cX11_sheet 51 = .ok (.iload_n 1, 1) := by decide +kernel
theorem dX11_sheet_52 : decode cX11_sheet 52 = .ok (.iload_n 3, 1) := by decide +kernel
theorem dX11_sheet_53 : decode cX11_sheet 53 = .ok (.iastore, 1) := by decide +kernel
theorem dX11_sheet_54 : decode cX11_sheet 54 = .ok (.iconst 0, 1) := by decide +kernel
theorem dX11_sheet_55 : decode cX11_sheet 55 = .ok (.istore 4, 2) := by decide +kernel
theorem dX11_sheet_57 : decode cX11_sheet 57 = .ok (.iload 4, 2) := by decide +kernel
theorem dX11_sheet_59 : decode cX11_sheet 59 = .ok (.bipush 60, 2) := by decide +kernel
theorem dX11_sheet_61 : decode cX11_sheet 61 = .ok (.if_icmp .ge 22, 3) := by decide +kernel
theorem dX11_sheet_64 : decode cX11_sheet 64 = .ok (.aload_n 0, 1) := by decide +kernel
theorem dX11_sheet_65 : decode cX11_sheet 65 = .ok (.getfield 16, 3) := by decide +kernel
theorem dX11_sheet_68 : decode cX11_sheet 68 = .ok (.bipush 60, 2) := by decide +kernel
theorem dX11_sheet_70 : decode cX11_sheet 70 = .ok (.iload_n 1, 1) := by decide +kernel
theorem dX11_sheet_71 : decode cX11_sheet 71 = .ok (.imul, 1) := by decide +kernel
theorem dX11_sheet_72 : decode cX11_sheet 72 = .ok (.iload 4, 2) := by decide +kernel
theorem dX11_sheet_74 : decode cX11_sheet 74 = .ok (.iadd, 1) := by decide +kernel
theorem dX11_sheet_75 : decode cX11_sheet 75 = .ok (.iconst 0, 1) := by decide +kernel
theorem dX11_sheet_76 : decode cX11_sheet 76 = .ok (.iastore, 1) := by decide +kernel
theorem dX11_sheet_77 : decode cX11_sheet 77 = .ok (.iinc 4 1, 3) := by decide +kernel
theorem dX11_sheet_80 : decode cX11_sheet 80 = .ok (.goto (-23), 3) := by decide +kernel
theorem dX11_sheet_83 : decode cX11_sheet 83 = .ok (.iconst 1, 1) := by decide +kernel
theorem dX11_sheet_84 : decode cX11_sheet 84 = .ok (.ireturn, 1) := by decide +kernel
theorem dX11_lose_0 : decode cX11_lose 0 = .ok (.iload_n 1, 1) := by decide +kernel
theorem dX11_lose_1 : decode cX11_lose 1 = .ok (.invokestatic 143, 3) := by decide +kernel
theorem dX11_lose_4 : decode cX11_lose 4 = .ok (.ifCond .ne 5, 3) := by decide +kernel
theorem dX11_lose_7 : decode cX11_lose 7 = .ok (.iconst (-1), 1) := by decide +kernel
theorem dX11_lose_8 : decode cX11_lose 8 = .ok (.ireturn, 1) := by decide +kernel
theorem dX11_lose_9 : decode cX11_lose 9 = .ok (.aload_n 0, 1) := by decide +kernel
theorem dX11_lose_10 : decode cX11_lose 10 = .ok (.getfield 9, 3) := by decide +kernel
theorem dX11_lose_13 : decode cX11_lose 13 = .ok (.iload_n 1, 1) := by decide +kernel
theorem dX11_lose_14 : decode cX11_lose 14 = .ok (.iaload, 1) := by decide +kernel
theorem dX11_lose_15 : decode cX11_lose 15 = .ok (.bipush (-9), 2) := by decide +kernel
theorem dX11_lose_17 : decode cX11_lose 17 = .ok (.if_icmp .ne 7, 3) := by decide +kernel
theorem dX11_lose_20 : decode cX11_lose 20 = .ok (.iconst 0, 1) := by decide +kernel
theorem dX11_lose_21 : decode cX11_lose 21 = .ok (.goto 4, 3) := by decide +kernel
theorem dX11_lose_24 : decode cX11_lose 24 = .ok (.iconst 1, 1) := by decide +kernel
theorem dX11_lose_25 : decode cX11_lose 25 = .ok (.istore_n 2, 1) := by decide +kernel
theorem dX11_lose_26 : decode cX11_lose 26 = .ok (.aload_n 0, 1) := by decide +kernel
theorem dX11_lose_27 : decode cX11_lose 27 = .ok (.getfield 9, 3) := by decide +kernel
theorem dX11_lose_30 : decode cX11_lose 30 = .ok (.iload_n 1, 1) := by decide +kernel
theorem dX11_lose_31 : decode cX11_lose 31 = .ok (.bipush (-9), 2) := by decide +kernel
theorem dX11_lose_33 : decode cX11_lose 33 = .ok (.iastore, 1) := by decide +kernel
theorem dX11_lose_34 : decode cX11_lose 34 = .ok (.iload_n 2, 1) := by decide +kernel
theorem dX11_lose_35 : decode cX11_lose 35 = .ok (.ireturn, 1) := by decide +kernel
theorem dX11_put_0 : decode cX11_put 0 = .ok (.aload_n 0, 1) := by decide +kernel
theorem dX11_put_1 : decode cX11_put 1 = .ok (.iconst 0, 1) := by decide +kernel
theorem dX11_put_2 : decode cX11_put 2 = .ok (.putfield 119, 3) := by decide +kernel
theorem dX11_put_5 : decode cX11_put 5 = .ok (.iload_n 1, 1) := by decide +kernel
theorem dX11_put_6 : decode cX11_put 6 = .ok (.invokestatic 143, 3) := by decide +kernel
theorem dX11_put_9 : decode cX11_put 9 = .ok (.ifCond .ne 5, 3) := by decide +kernel
theorem dX11_put_12 : decode cX11_put 12 = .ok (.iconst (-1), 1) := by decide +kernel
theorem dX11_put_13 : decode cX11_put 13 = .ok (.ireturn, 1) := by decide +kernel
theorem dX11_put_14 : decode cX11_put 14 = .ok (.aload_n 0, 1) := by decide +kernel
theorem dX11_put_15 : decode cX11_put 15 = .ok (.getfield 9, 3) := by decide +kernel
theorem dX11_put_18 : decode cX11_put 18 = .ok (.iload_n 1, 1) := by decide +kernel
theorem dX11_put_19 : decode cX11_put 19 = .ok (.iaload, 1) := by decide +kernel
theorem dX11_put_20 : decode cX11_put 20 = .ok (.bipush (-9), 2) := by decide +kernel
theorem dX11_put_22 : decode cX11_put 22 = .ok (.if_icmp .ne 9, 3) := by decide +kernel
theorem dX11_put_25 : decode cX11_put 25 = .ok (.aload_n 0, 1) := by decide +kernel
theorem dX11_put_26 : decode cX11_put 26 = .ok (.iconst 1, 1) := by decide +kernel
theorem dX11_put_27 : decode cX11_put 27 = .ok (.invokevirtual 153, 3) := by decide +kernel
theorem dX11_put_30 : decode cX11_put 30 = .ok (.ireturn, 1) := by decide +kernel
theorem dX11_put_31 : decode cX11_put 31 = .ok (.iload_n 2, 1) := by decide +kernel
theorem dX11_put_32 : decode cX11_put 32 = .ok (.iconst 0, 1) := by decide +kernel
theorem dX11_put_33 : decode cX11_put 33 = .ok (.aload_n 0, 1) := by decide +kernel
theorem dX11_put_34 : decode cX11_put 34 = .ok (.getfield 13, 3) := by decide +kernel
theorem dX11_put_37 : decode cX11_put 37 = .ok (.iload_n 1, 1) := by decide +kernel
theorem dX11_put_38 : decode cX11_put 38 = .ok (.iaload, 1) := by decide +kernel
theorem dX11_put_39 : decode cX11_put 39 = .ok (.iconst 1, 1) := by decide +kernel
theorem dX11_put_40 : decode cX11_put 40 = .ok (.isub, 1) := by decide +kernel
theorem dX11_put_41 : decode cX11_put 41 = .ok (.invokestatic 124, 3) := by decide +kernel
theorem dX11_put_44 : decode cX11_put 44 = .ok (.ifCond .ne 9, 3) := by decide +kernel
theorem dX11_put_47 : decode cX11_put 47 = .ok (.aload_n 0, 1) := by decide +kernel
theorem dX11_put_48 : decode cX11_put 48 = .ok (.iconst 3, 1) := by decide +kernel
theorem dX11_put_49 : decode cX11_put 49 = .ok (.invokevirtual 153, 3) := by decide +kernel
theorem dX11_put_52 : decode cX11_put 52 = .ok (.ireturn, 1) := by decide +kernel
theorem dX11_put_53 : decode cX11_put 53 = .ok (.aload_n 0, 1) := by decide +kernel
theorem dX11_put_54 : decode cX11_put 54 = .ok (.getfield 16, 3) := by decide +kernel
theorem dX11_put_57 : decode cX11_put 57 = .ok (.bipush 60, 2) := by decide +kernel
theorem dX11_put_59 : decode cX11_put 59 = .ok (.iload_n 1, 1) := by decide +kernel
theorem dX11_put_60 : decode cX11_put 60 = .ok (.imul, 1) := by decide +kernel
theorem dX11_put_61 : decode cX11_put 61 = .ok (.iload_n 2, 1) := by decide +kernel
theorem dX11_put_62 : decode cX11_put 62 = .ok (.iadd, 1) := by decide +kernel
theorem dX11_put_63 : decode cX11_put 63 = .ok (.aload_n 0, 1) := by decide +kernel
theorem dX11_put_64 : decode cX11_put 64 = .ok (.getfield 9, 3) := by decide +kernel
theorem dX11_put_67 : decode cX11_put 67 = .ok (.iload_n 1, 1) := by decide +kernel
theorem dX11_put_68 : decode cX11_put 68 = .ok (.iaload, 1) := by decide +kernel
theorem dX11_put_69 : decode cX11_put 69 = .ok (.ifCond .ne 8, 3) := by decide +kernel
theorem dX11_put_72 : decode cX11_put 72 = .ok (.iload_n 3, 1) := by decide +kernel
theorem dX11_put_73 : decode cX11_put 73 = .ok (.i2b, 1) := by decide +kernel
theorem dX11_put_74 : decode cX11_put 74 = .ok (.goto 19, 3) := by decide +kernel
theorem dX11_put_77 : decode cX11_put 77 = .ok (.aload_n 0, 1) := by decide +kernel
theorem dX11_put_78 : decode cX11_put 78 = .ok (.getfield 9, 3) := by decide +kernel
theorem dX11_put_81 : decode cX11_put 81 = .ok (.iload_n 1, 1) := by decide +kernel
theorem dX11_put_82 : decode cX11_put 82 = .ok (.iaload, 1) := by decide +kernel
theorem dX11_put_83 : decode cX11_put 83 = .ok (.iconst 1, 1) := by decide +kernel
theorem dX11_put_84 : decode cX11_put 84 = .ok (.if_icmp .ne 8, 3) := by decide +kernel
theorem dX11_put_87 : decode cX11_put 87 = .ok (.iload_n 3, 1) := by decide +kernel
theorem dX11_put_88 : decode cX11_put 88 = .ok (.i2s, 1) := by decide +kernel
theorem dX11_put_89 : decode cX11_put 89 = .ok (.goto 4, 3) := by decide +kernel
theorem dX11_put_92 : decode cX11_put 92 = .ok (.iload_n 3, 1) := by decide +kernel
theorem dX11_put_93 : decode cX11_put 93 = .ok (.iastore, 1) := by decide +kernel
theorem dX11_put_94 : decode cX11_put 94 = .ok (.iconst 1, 1) := by decide +kernel
theorem dX11_put_95 : decode cX11_put 95 = .ok (.ireturn, 1) := by decide +kernel
theorem dX11_cell_0 : decode cX11_cell 0 = .ok (.aload_n 0, 1) := by decide +kernel
theorem dX11_cell_1 : decode cX11_cell 1 = .ok (.iconst 0, 1) := by decide +kernel
theorem dX11_cell_2 : decode cX11_cell 2 = .ok (.putfield 119, 3) := by decide +kernel
theorem dX11_cell_5 : decode cX11_cell 5 = .ok (.iload_n 1, 1) := by decide +kernel
theorem dX11_cell_6 : decode cX11_cell 6 = .ok (.invokestatic 143, 3) := by decide +kernel
theorem dX11_cell_9 : decode cX11_cell 9 = .ok (.ifCond .eq 10, 3) := by decide +kernel
theorem dX11_cell_12 : decode cX11_cell 12 = .ok (.iload_n 3, 1) := by decide +kernel
theorem dX11_cell_13 : decode cX11_cell 13 = .ok (.invokestatic 146, 3) := by decide +kernel
theorem dX11_cell_16 : decode cX11_cell 16 = .ok (.ifCond .ne 7, 3) := by decide +kernel
theorem dX11_cell_19 : decode cX11_cell 19 = .ok (.ldc2_w 122, 3) := by decide +kernel
theorem dX11_cell_22 : decode cX11_cell 22 = .ok (.lreturn, 1) := by decide +kernel
theorem dX11_cell_23 : decode cX11_cell 23 = .ok (.aload_n 0, 1) := by decide +kernel
theorem dX11_cell_24 : decode cX11_cell 24 = .ok (.getfield 9, 3) := by decide +kernel
theorem dX11_cell_27 : decode cX11_cell 27 = .ok (.iload_n 1, 1) := by decide +kernel
theorem dX11_cell_28 : decode cX11_cell 28 = .ok (.iaload, 1) := by decide +kernel
theorem dX11_cell_29 : decode cX11_cell 29 = .ok (.bipush (-9), 2) := by decide +kernel
theorem dX11_cell_31 : decode cX11_cell 31 = .ok (.if_icmp .eq 19, 3) := by decide +kernel
theorem dX11_cell_34 : decode cX11_cell 34 = .ok (.aload_n 0, 1) := by decide +kernel
theorem dX11_cell_35 : decode cX11_cell 35 = .ok (.getfield 9, 3) := by decide +kernel
theorem dX11_cell_38 : decode cX11_cell 38 = .ok (.iload_n 1, 1) := by decide +kernel
theorem dX11_cell_39 : decode cX11_cell 39 = .ok (.iaload, 1) := by decide +kernel
theorem dX11_cell_40 : decode cX11_cell 40 = .ok (.iload_n 3, 1) := by decide +kernel
theorem dX11_cell_41 : decode cX11_cell 41 = .ok (.if_icmp .eq 9, 3) := by decide +kernel
theorem dX11_cell_44 : decode cX11_cell 44 = .ok (.aload_n 0, 1) := by decide +kernel
theorem dX11_cell_45 : decode cX11_cell 45 = .ok (.iconst 2, 1) := by decide +kernel
theorem dX11_cell_46 : decode cX11_cell 46 = .ok (.invokevirtual 293, 3) := by decide +kernel
theorem dX11_cell_49 : decode cX11_cell 49 = .ok (.lreturn, 1) := by decide +kernel
theorem dX11_cell_50 : decode cX11_cell 50 = .ok (.aload_n 0, 1) := by decide +kernel
theorem dX11_cell_51 : decode cX11_cell 51 = .ok (.getfield 9, 3) := by decide +kernel
theorem dX11_cell_54 : decode cX11_cell 54 = .ok (.iload_n 1, 1) := by decide +kernel
theorem dX11_cell_55 : decode cX11_cell 55 = .ok (.iaload, 1) := by decide +kernel
theorem dX11_cell_56 : decode cX11_cell 56 = .ok (.bipush (-9), 2) := by decide +kernel
theorem dX11_cell_58 : decode cX11_cell 58 = .ok (.if_icmp .ne 9, 3) := by decide +kernel
theorem dX11_cell_61 : decode cX11_cell 61 = .ok (.aload_n 0, 1) := by decide +kernel
theorem dX11_cell_62 : decode cX11_cell 62 = .ok (.iconst 1, 1) := by decide +kernel
theorem dX11_cell_63 : decode cX11_cell 63 = .ok (.invokevirtual 293, 3) := by decide +kernel
theorem dX11_cell_66 : decode cX11_cell 66 = .ok (.lreturn, 1) := by decide +kernel
theorem dX11_cell_67 : decode cX11_cell 67 = .ok (.iload_n 2, 1) := by decide +kernel
theorem dX11_cell_68 : decode cX11_cell 68 = .ok (.iconst 0, 1) := by decide +kernel
theorem dX11_cell_69 : decode cX11_cell 69 = .ok (.aload_n 0, 1) := by decide +kernel
theorem dX11_cell_70 : decode cX11_cell 70 = .ok (.getfield 13, 3) := by decide +kernel
theorem dX11_cell_73 : decode cX11_cell 73 = .ok (.iload_n 1, 1) := by decide +kernel
theorem dX11_cell_74 : decode cX11_cell 74 = .ok (.iaload, 1) := by decide +kernel
theorem dX11_cell_75 : decode cX11_cell 75 = .ok (.iconst 1, 1) := by decide +kernel
theorem dX11_cell_76 : decode cX11_cell 76 = .ok (.isub, 1) := by decide +kernel
theorem dX11_cell_77 : decode cX11_cell 77 = .ok (.invokestatic 124, 3) := by decide +kernel
theorem dX11_cell_80 : decode cX11_cell 80 = .ok (.ifCond .ne 9, 3) := by decide +kernel
theorem dX11_cell_83 : decode cX11_cell 83 = .ok (.aload_n 0, 1) := by decide +kernel
theorem dX11_cell_84 : decode cX11_cell 84 = .ok (.iconst 3, 1) := by decide +kernel
theorem dX11_cell_85 : decode cX11_cell 85 = .ok (.invokevirtual 293, 3) := by decide +kernel
theorem dX11_cell_88 : decode cX11_cell 88 = .ok (.lreturn, 1) := by decide +kernel
theorem dX11_cell_89 : decode cX11_cell 89 = .ok (.aload_n 0, 1) := by decide +kernel
theorem dX11_cell_90 : decode cX11_cell 90 = .ok (.getfield 16, 3) := by decide +kernel
theorem dX11_cell_93 : decode cX11_cell 93 = .ok (.bipush 60, 2) := by decide +kernel
theorem dX11_cell_95 : decode cX11_cell 95 = .ok (.iload_n 1, 1) := by decide +kernel
theorem dX11_cell_96 : decode cX11_cell 96 = .ok (.imul, 1) := by decide +kernel
theorem dX11_cell_97 : decode cX11_cell 97 = .ok (.iload_n 2, 1) := by decide +kernel
theorem dX11_cell_98 : decode cX11_cell 98 = .ok (.iadd, 1) := by decide +kernel
theorem dX11_cell_99 : decode cX11_cell 99 = .ok (.iaload, 1) := by decide +kernel
theorem dX11_cell_100 : decode cX11_cell 100 = .ok (.i2l, 1) := by decide +kernel
theorem dX11_cell_101 : decode cX11_cell 101 = .ok (.lreturn, 1) := by decide +kernel
theorem dX11_begins_0 : decode cX11_begins 0 = .ok (.aload_n 0, 1) := by decide +kernel
theorem dX11_begins_1 : decode cX11_begins 1 = .ok (.bipush 31, 2) := by decide +kernel
theorem dX11_begins_3 : decode cX11_begins 3 = .ok (.aload_n 0, 1) := by decide +kernel
theorem dX11_begins_4 : decode cX11_begins 4 = .ok (.getfield 297, 3) := by decide +kernel
theorem dX11_begins_7 : decode cX11_begins 7 = .ok (.imul, 1) := by decide +kernel
theorem dX11_begins_8 : decode cX11_begins 8 = .ok (.iload_n 1, 1) := by decide +kernel
theorem dX11_begins_9 : decode cX11_begins 9 = .ok (.iadd, 1) := by decide +kernel
theorem dX11_begins_10 : decode cX11_begins 10 = .ok (.putfield 297, 3) := by decide +kernel
theorem dX11_begins_13 : decode cX11_begins 13 = .ok (.return_, 1) := by decide +kernel
theorem dX11_tell_0 : decode cX11_tell 0 = .ok (.aload_n 0, 1) := by decide +kernel
theorem dX11_tell_1 : decode cX11_tell 1 = .ok (.iload_n 1, 1) := by decide +kernel
theorem dX11_tell_2 : decode cX11_tell 2 = .ok (.invokevirtual 183, 3) := by decide +kernel
theorem dX11_tell_5 : decode cX11_tell 5 = .ok (.ifCond .ne 5, 3) := by decide +kernel
theorem dX11_tell_8 : decode cX11_tell 8 = .ok (.iconst (-1), 1) := by decide +kernel
theorem dX11_tell_9 : decode cX11_tell 9 = .ok (.ireturn, 1) := by decide +kernel
theorem dX11_tell_10 : decode cX11_tell 10 = .ok (.aload_n 0, 1) := by decide +kernel
theorem dX11_tell_11 : decode cX11_tell 11 = .ok (.getfield 40, 3) := by decide +kernel
theorem dX11_tell_14 : decode cX11_tell 14 = .ok (.iload_n 1, 1) := by decide +kernel
theorem dX11_tell_15 : decode cX11_tell 15 = .ok (.iaload, 1) := by decide +kernel
theorem dX11_tell_16 : decode cX11_tell 16 = .ok (.lookupswitch 80 #[(1, 28), (2, 48)], 28) := by decide +kernel
theorem dX11_tell_44 : decode cX11_tell 44 = .ok (.aload_n 0, 1) := by decide +kernel
theorem dX11_tell_45 : decode cX11_tell 45 = .ok (.iconst 2, 1) := by decide +kernel
theorem dX11_tell_46 : decode cX11_tell 46 = .ok (.invokevirtual 300, 3) := by decide +kernel
theorem dX11_tell_49 : decode cX11_tell 49 = .ok (.aload_n 0, 1) := by decide +kernel
theorem dX11_tell_50 : decode cX11_tell 50 = .ok (.iconst 1, 1) := by decide +kernel
theorem dX11_tell_51 : decode cX11_tell 51 = .ok (.invokevirtual 300, 3) := by decide +kernel
theorem dX11_tell_54 : decode cX11_tell 54 = .ok (.aload_n 0, 1) := by decide +kernel
theorem dX11_tell_55 : decode cX11_tell 55 = .ok (.getfield 49, 3) := by decide +kernel
theorem dX11_tell_58 : decode cX11_tell 58 = .ok (.iload_n 1, 1) := by decide +kernel
theorem dX11_tell_59 : decode cX11_tell 59 = .ok (.iaload, 1) := by decide +kernel
theorem dX11_tell_60 : decode cX11_tell 60 = .ok (.bipush 10, 2) := by decide +kernel
theorem dX11_tell_62 : decode cX11_tell 62 = .ok (.iadd, 1) := by decide +kernel
theorem dX11_tell_63 : decode cX11_tell 63 = .ok (.ireturn, 1) := by decide +kernel
theorem dX11_tell_64 : decode cX11_tell 64 = .ok (.aload_n 0, 1) := by decide +kernel
theorem dX11_tell_65 : decode cX11_tell 65 = .ok (.iconst 3, 1) := by decide +kernel
theorem dX11_tell_66 : decode cX11_tell 66 = .ok (.invokevirtual 300, 3) := by decide +kernel
theorem dX11_tell_69 : decode cX11_tell 69 = .ok (.aload_n 0, 1) := by decide +kernel
theorem dX11_tell_70 : decode cX11_tell 70 = .ok (.iconst 2, 1) := by decide +kernel
theorem dX11_tell_71 : decode cX11_tell 71 = .ok (.invokevirtual 300, 3) := by decide +kernel
theorem dX11_tell_74 : decode cX11_tell 74 = .ok (.aload_n 0, 1) := by decide +kernel
theorem dX11_tell_75 : decode cX11_tell 75 = .ok (.iconst 1, 1) := by decide +kernel
theorem dX11_tell_76 : decode cX11_tell 76 = .ok (.invokevirtual 300, 3) := by decide +kernel
theorem dX11_tell_79 : decode cX11_tell 79 = .ok (.aload_n 0, 1) := by decide +kernel
theorem dX11_tell_80 : decode cX11_tell 80 = .ok (.iconst 1, 1) := by decide +kernel
theorem dX11_tell_81 : decode cX11_tell 81 = .ok (.invokevirtual 300, 3) := by decide +kernel
theorem dX11_tell_84 : decode cX11_tell 84 = .ok (.iconst 2, 1) := by decide +kernel
theorem dX11_tell_85 : decode cX11_tell 85 = .ok (.aload_n 0, 1) := by decide +kernel
theorem dX11_tell_86 : decode cX11_tell 86 = .ok (.getfield 49, 3) := by decide +kernel
theorem dX11_tell_89 : decode cX11_tell 89 = .ok (.iload_n 1, 1) := by decide +kernel
theorem dX11_tell_90 : decode cX11_tell 90 = .ok (.iaload, 1) := by decide +kernel
theorem dX11_tell_91 : decode cX11_tell 91 = .ok (.imul, 1) := by decide +kernel
theorem dX11_tell_92 : decode cX11_tell 92 = .ok (.bipush 10, 2) := by decide +kernel
theorem dX11_tell_94 : decode cX11_tell 94 = .ok (.iadd, 1) := by decide +kernel
theorem dX11_tell_95 : decode cX11_tell 95 = .ok (.ireturn, 1) := by decide +kernel
theorem dX11_tell_96 : decode cX11_tell 96 = .ok (.aload_n 0, 1) := by decide +kernel
theorem dX11_tell_97 : decode cX11_tell 97 = .ok (.iconst 1, 1) := by decide +kernel
theorem dX11_tell_98 : decode cX11_tell 98 = .ok (.invokevirtual 300, 3) := by decide +kernel
theorem dX11_tell_101 : decode cX11_tell 101 = .ok (.aload_n 0, 1) := by decide +kernel
theorem dX11_tell_102 : decode cX11_tell 102 = .ok (.getfield 49, 3) := by decide +kernel
theorem dX11_tell_105 : decode cX11_tell 105 = .ok (.iload_n 1, 1) := by decide +kernel
theorem dX11_tell_106 : decode cX11_tell 106 = .ok (.iaload, 1) := by decide +kernel
theorem dX11_tell_107 : decode cX11_tell 107 = .ok (.ireturn, 1) := by decide +kernel
theorem dX11_name_0 : decode cX11_name 0 = .ok (.aload_n 0, 1) := by decide +kernel
theorem dX11_name_1 : decode cX11_name 1 = .ok (.iload_n 1, 1) := by decide +kernel
theorem dX11_name_2 : decode cX11_name 2 = .ok (.invokevirtual 183, 3) := by decide +kernel
theorem dX11_name_5 : decode cX11_name 5 = .ok (.ifCond .ne 5, 3) := by decide +kernel
theorem dX11_name_8 : decode cX11_name 8 = .ok (.iconst (-1), 1) := by decide +kernel
theorem dX11_name_9 : decode cX11_name 9 = .ok (.ireturn, 1) := by decide +kernel
theorem dX11_name_10 : decode cX11_name 10 = .ok (.aload_n 0, 1) := by decide +kernel
theorem dX11_name_11 : decode cX11_name 11 = .ok (.aload_n 0, 1) := by decide +kernel
theorem dX11_name_12 : decode cX11_name 12 = .ok (.getfield 40, 3) := by decide +kernel
theorem dX11_name_15 : decode cX11_name 15 = .ok (.iload_n 1, 1) := by decide +kernel
theorem dX11_name_16 : decode cX11_name 16 = .ok (.iaload, 1) := by decide +kernel
theorem dX11_name_17 : decode cX11_name 17 = .ok (.iconst 2, 1) := by decide +kernel
theorem dX11_name_18 : decode cX11_name 18 = .ok (.if_icmp .ne 7, 3) := by decide +kernel
theorem dX11_name_21 : decode cX11_name 21 = .ok (.iconst 5, 1) := by decide +kernel
theorem dX11_name_22 : decode cX11_name 22 = .ok (.goto 4, 3) := by decide +kernel
theorem dX11_name_25 : decode cX11_name 25 = .ok (.iconst 4, 1) := by decide +kernel
theorem dX11_name_26 : decode cX11_name 26 = .ok (.invokevirtual 300, 3) := by decide +kernel
theorem dX11_name_29 : decode cX11_name 29 = .ok (.aload_n 0, 1) := by decide +kernel
theorem dX11_name_30 : decode cX11_name 30 = .ok (.getfield 40, 3) := by decide +kernel
theorem dX11_name_33 : decode cX11_name 33 = .ok (.iload_n 1, 1) := by decide +kernel
theorem dX11_name_34 : decode cX11_name 34 = .ok (.iaload, 1) := by decide +kernel
theorem dX11_name_35 : decode cX11_name 35 = .ok (.iconst 2, 1) := by decide +kernel
theorem dX11_name_36 : decode cX11_name 36 = .ok (.if_icmp .ne 8, 3) := by decide +kernel
theorem dX11_name_39 : decode cX11_name 39 = .ok (.bipush 70, 2) := by decide +kernel
theorem dX11_name_41 : decode cX11_name 41 = .ok (.goto 4, 3) := by decide +kernel
theorem dX11_name_44 : decode cX11_name 44 = .ok (.iload_n 1, 1) := by decide +kernel
theorem dX11_name_45 : decode cX11_name 45 = .ok (.ireturn, 1) := by decide +kernel
theorem dX11_as_0 : decode cX11_as 0 = .ok (.aload_n 0, 1) := by decide +kernel
theorem dX11_as_1 : decode cX11_as 1 = .ok (.iconst 0, 1) := by decide +kernel
theorem dX11_as_2 : decode cX11_as 2 = .ok (.putfield 119, 3) := by decide +kernel
theorem dX11_as_5 : decode cX11_as 5 = .ok (.aload_n 0, 1) := by decide +kernel
theorem dX11_as_6 : decode cX11_as 6 = .ok (.iload_n 1, 1) := by decide +kernel
theorem dX11_as_7 : decode cX11_as 7 = .ok (.invokevirtual 183, 3) := by decide +kernel
theorem dX11_as_10 : decode cX11_as 10 = .ok (.ifCond .ne 5, 3) := by decide +kernel
theorem dX11_as_13 : decode cX11_as 13 = .ok (.iconst (-1), 1) := by decide +kernel
theorem dX11_as_14 : decode cX11_as 14 = .ok (.ireturn, 1) := by decide +kernel
theorem dX11_as_15 : decode cX11_as 15 = .ok (.iload_n 2, 1) := by decide +kernel
theorem dX11_as_16 : decode cX11_as 16 = .ok (.iconst 0, 1) := by decide +kernel
theorem dX11_as_17 : decode cX11_as 17 = .ok (.iconst 2, 1) := by decide +kernel
theorem dX11_as_18 : decode cX11_as 18 = .ok (.invokestatic 124, 3) := by decide +kernel
theorem dX11_as_21 : decode cX11_as 21 = .ok (.ifCond .ne 6, 3) := by decide +kernel
theorem dX11_as_24 : decode cX11_as 24 = .ok (.bipush (-2), 2) := by decide +kernel
theorem dX11_as_26 : decode cX11_as 26 = .ok (.ireturn, 1) := by decide +kernel
theorem dX11_as_27 : decode cX11_as 27 = .ok (.aload_n 0, 1) := by decide +kernel
theorem dX11_as_28 : decode cX11_as 28 = .ok (.getfield 40, 3) := by decide +kernel
theorem dX11_as_31 : decode cX11_as 31 = .ok (.iload_n 1, 1) := by decide +kernel
theorem dX11_as_32 : decode cX11_as 32 = .ok (.iaload, 1) := by decide +kernel
theorem dX11_as_33 : decode cX11_as 33 = .ok (.iload_n 2, 1) := by decide +kernel
theorem dX11_as_34 : decode cX11_as 34 = .ok (.if_icmp .lt 7, 3) := by decide +kernel
theorem dX11_as_37 : decode cX11_as 37 = .ok (.iconst 1, 1) := by decide +kernel
theorem dX11_as_38 : decode cX11_as 38 = .ok (.goto 8, 3) := by decide +kernel
theorem dX11_as_41 : decode cX11_as 41 = .ok (.aload_n 0, 1) := by decide +kernel
theorem dX11_as_42 : decode cX11_as 42 = .ok (.iconst 2, 1) := by decide +kernel
theorem dX11_as_43 : decode cX11_as 43 = .ok (.invokevirtual 153, 3) := by decide +kernel
theorem dX11_as_46 : decode cX11_as 46 = .ok (.ireturn, 1) := by decide +kernel
theorem dX11_trace_0 : decode cX11_trace 0 = .ok (.aload_n 0, 1) := by decide +kernel
theorem dX11_trace_1 : decode cX11_trace 1 = .ok (.getfield 297, 3) := by decide +kernel
theorem dX11_trace_4 : decode cX11_trace 4 = .ok (.ireturn, 1) := by decide +kernel
theorem dX11_fault_0 : decode cX11_fault 0 = .ok (.aload_n 0, 1) := by decide +kernel
theorem dX11_fault_1 : decode cX11_fault 1 = .ok (.getfield 119, 3) := by decide +kernel
theorem dX11_fault_4 : decode cX11_fault 4 = .ok (.ireturn, 1) := by decide +kernel
theorem dX11_many_0 : decode cX11_many 0 = .ok (.iconst 0, 1) := by decide +kernel
theorem dX11_many_1 : decode cX11_many 1 = .ok (.istore_n 2, 1) := by decide +kernel
theorem dX11_many_2 : decode cX11_many 2 = .ok (.iconst 0, 1) := by decide +kernel
theorem dX11_many_3 : decode cX11_many 3 = .ok (.istore_n 3, 1) := by decide +kernel
theorem dX11_many_4 : decode cX11_many 4 = .ok (.iload_n 3, 1) := by decide +kernel
theorem dX11_many_5 : decode cX11_many 5 = .ok (.bipush 6, 2) := by decide +kernel
theorem dX11_many_7 : decode cX11_many 7 = .ok (.if_icmp .ge 28, 3) := by decide +kernel
theorem dX11_many_10 : decode cX11_many 10 = .ok (.iload_n 2, 1) := by decide +kernel
theorem dX11_many_11 : decode cX11_many 11 = .ok (.aload_n 0, 1) := by decide +kernel
theorem dX11_many_12 : decode cX11_many 12 = .ok (.getfield 58, 3) := by decide +kernel
theorem dX11_many_15 : decode cX11_many 15 = .ok (.iload_n 3, 1) := by decide +kernel
theorem dX11_many_16 : decode cX11_many 16 = .ok (.iaload, 1) := by decide +kernel
theorem dX11_many_17 : decode cX11_many 17 = .ok (.bipush (-9), 2) := by decide +kernel
theorem dX11_many_19 : decode cX11_many 19 = .ok (.if_icmp .ne 7, 3) := by decide +kernel
theorem dX11_many_22 : decode cX11_many 22 = .ok (.iconst 0, 1) := by decide +kernel
theorem dX11_many_23 : decode cX11_many 23 = .ok (.goto 4, 3) := by decide +kernel
theorem dX11_many_26 : decode cX11_many 26 = .ok (.iconst 1, 1) := by decide +kernel
theorem dX11_many_27 : decode cX11_many 27 = .ok (.iadd, 1) := by decide +kernel
theorem dX11_many_28 : decode cX11_many 28 = .ok (.istore_n 2, 1) := by decide +kernel
theorem dX11_many_29 : decode cX11_many 29 = .ok (.iinc 3 1, 3) := by decide +kernel
theorem dX11_many_32 : decode cX11_many 32 = .ok (.goto (-28), 3) := by decide +kernel
theorem dX11_many_35 : decode cX11_many 35 = .ok (.iload_n 1, 1) := by decide +kernel
theorem dX11_many_36 : decode cX11_many 36 = .ok (.tableswitch 49 0 3 #[32, 37, 42, 47], 32) := by decide +kernel
theorem dX11_many_68 : decode cX11_many 68 = .ok (.aload_n 0, 1) := by decide +kernel
theorem dX11_many_69 : decode cX11_many 69 = .ok (.getfield 164, 3) := by decide +kernel
theorem dX11_many_72 : decode cX11_many 72 = .ok (.ireturn, 1) := by decide +kernel
theorem dX11_many_73 : decode cX11_many 73 = .ok (.aload_n 0, 1) := by decide +kernel
theorem dX11_many_74 : decode cX11_many 74 = .ok (.getfield 170, 3) := by decide +kernel
theorem dX11_many_77 : decode cX11_many 77 = .ok (.ireturn, 1) := by decide +kernel
theorem dX11_many_78 : decode cX11_many 78 = .ok (.aload_n 0, 1) := by decide +kernel
theorem dX11_many_79 : decode cX11_many 79 = .ok (.getfield 209, 3) := by decide +kernel
theorem dX11_many_82 : decode cX11_many 82 = .ok (.ireturn, 1) := by decide +kernel
theorem dX11_many_83 : decode cX11_many 83 = .ok (.iload_n 2, 1) := by decide +kernel
theorem dX11_many_84 : decode cX11_many 84 = .ok (.ireturn, 1) := by decide +kernel
theorem dX11_many_85 : decode cX11_many 85 = .ok (.bipush (-2), 2) := by decide +kernel
theorem dX11_many_87 : decode cX11_many 87 = .ok (.ireturn, 1) := by decide +kernel
end
section
theorem dL_law_0 : decode cL_law 0 = .ok (.new 7, 3) := by decide +kernel
theorem dL_law_3 : decode cL_law 3 = .ok (.dup, 1) := by decide +kernel
theorem dL_law_4 : decode cL_law 4 = .ok (.invokespecial 9, 3) := by decide +kernel
theorem dL_law_7 : decode cL_law 7 = .ok (.astore_n 1, 1) := by decide +kernel
theorem dL_law_8 : decode cL_law 8 = .ok (.new 10, 3) := by decide +kernel
theorem dL_law_11 : decode cL_law 11 = .ok (.dup, 1) := by decide +kernel
theorem dL_law_12 : decode cL_law 12 = .ok (.invokespecial 12, 3) := by decide +kernel
theorem dL_law_15 : decode cL_law 15 = .ok (.astore_n 2, 1) := by decide +kernel
theorem dL_law_16 : decode cL_law 16 = .ok (.iconst 0, 1) := by decide +kernel
theorem dL_law_17 : decode cL_law 17 = .ok (.istore_n 3, 1) := by decide +kernel
theorem dL_law_18 : decode cL_law 18 = .ok (.iload_n 3, 1) := by decide +kernel
theorem dL_law_19 : decode cL_law 19 = .ok (.aload_n 0, 1) := by decide +kernel
theorem dL_law_20 : decode cL_law 20 = .ok (.arraylength, 1) := by decide +kernel
theorem dL_law_21 : decode cL_law 21 = .ok (.bipush 8, 2) := by decide +kernel
theorem dL_law_23 : decode cL_law 23 = .ok (.isub, 1) := by decide +kernel
theorem dL_law_24 : decode cL_law 24 = .ok (.if_icmp .gt 1623, 3) := by decide +kernel
theorem dL_law_27 : decode cL_law 27 = .ok (.aload_n 0, 1) := by decide +kernel
theorem dL_law_28 : decode cL_law 28 = .ok (.iload_n 3, 1) := by decide +kernel
theorem dL_law_29 : decode cL_law 29 = .ok (.iaload, 1) := by decide +kernel
theorem dL_law_30 : decode cL_law 30 = .ok (.bipush 63, 2) := by decide +kernel
theorem dL_law_32 : decode cL_law 32 = .ok (.iand, 1) := by decide +kernel
theorem dL_law_33 : decode cL_law 33 = .ok (.tableswitch 1608 0 37 #[167, 210, 243, 276, 351, 364, 423, 510, 597, 630, 663, 726, 759, 822, 855, 908, 941, 964, 997, 1040, 1083, 1106, 1139, 1172, 1195, 1228, 1261, 1294, 1327, 1370, 1393, 1436, 1480, 1503, 1526, 1559, 1572, 1585], 167) := by decide +kernel
theorem dL_law_200 : decode cL_law 200 = .ok (.aload_n 1, 1) := by decide +kernel
theorem dL_law_201 : decode cL_law 201 = .ok (.aload_n 0, 1) := by decide +kernel
theorem dL_law_202 : decode cL_law 202 = .ok (.iload_n 3, 1) := by decide +kernel
theorem dL_law_203 : decode cL_law 203 = .ok (.iconst 1, 1) := by decide +kernel
theorem dL_law_204 : decode cL_law 204 = .ok (.iadd, 1) := by decide +kernel
theorem dL_law_205 : decode cL_law 205 = .ok (.iaload, 1) := by decide +kernel
theorem dL_law_206 : decode cL_law 206 = .ok (.aload_n 0, 1) := by decide +kernel
theorem dL_law_207 : decode cL_law 207 = .ok (.iload_n 3, 1) := by decide +kernel
theorem dL_law_208 : decode cL_law 208 = .ok (.iconst 2, 1) := by decide +kernel
theorem dL_law_209 : decode cL_law 209 = .ok (.iadd, 1) := by decide +kernel
theorem dL_law_210 : decode cL_law 210 = .ok (.iaload, 1) := by decide +kernel
theorem dL_law_211 : decode cL_law 211 = .ok (.aload_n 0, 1) := by decide +kernel
theorem dL_law_212 : decode cL_law 212 = .ok (.iload_n 3, 1) := by decide +kernel
theorem dL_law_213 : decode cL_law 213 = .ok (.iconst 3, 1) := by decide +kernel
theorem dL_law_214 : decode cL_law 214 = .ok (.iadd, 1) := by decide +kernel
theorem dL_law_215 : decode cL_law 215 = .ok (.iaload, 1) := by decide +kernel
theorem dL_law_216 : decode cL_law 216 = .ok (.invokevirtual 13, 3) := by decide +kernel
theorem dL_law_219 : decode cL_law 219 = .ok (.aload_n 2, 1) := by decide +kernel
theorem dL_law_220 : decode cL_law 220 = .ok (.aload_n 0, 1) := by decide +kernel
theorem dL_law_221 : decode cL_law 221 = .ok (.iload_n 3, 1) := by decide +kernel
theorem dL_law_222 : decode cL_law 222 = .ok (.iconst 1, 1) := by decide +kernel
theorem dL_law_223 : decode cL_law 223 = .ok (.iadd, 1) := by decide +kernel
theorem dL_law_224 : decode cL_law 224 = .ok (.iaload, 1) := by decide +kernel
theorem dL_law_225 : decode cL_law 225 = .ok (.aload_n 0, 1) := by decide +kernel
theorem dL_law_226 : decode cL_law 226 = .ok (.iload_n 3, 1) := by decide +kernel
theorem dL_law_227 : decode cL_law 227 = .ok (.iconst 2, 1) := by decide +kernel
theorem dL_law_228 : decode cL_law 228 = .ok (.iadd, 1) := by decide +kernel
theorem dL_law_229 : decode cL_law 229 = .ok (.iaload, 1) := by decide +kernel
theorem dL_law_230 : decode cL_law 230 = .ok (.aload_n 0, 1) := by decide +kernel
theorem dL_law_231 : decode cL_law 231 = .ok (.iload_n 3, 1) := by decide +kernel
theorem dL_law_232 : decode cL_law 232 = .ok (.iconst 3, 1) := by decide +kernel
theorem dL_law_233 : decode cL_law 233 = .ok (.iadd, 1) := by decide +kernel
theorem dL_law_234 : decode cL_law 234 = .ok (.iaload, 1) := by decide +kernel
theorem dL_law_235 : decode cL_law 235 = .ok (.invokevirtual 17, 3) := by decide +kernel
theorem dL_law_238 : decode cL_law 238 = .ok (.if_icmp .eq 1403, 3) := by decide +kernel
theorem dL_law_241 : decode cL_law 241 = .ok (.iconst 0, 1) := by decide +kernel
theorem dL_law_242 : decode cL_law 242 = .ok (.ireturn, 1) := by decide +kernel
theorem dL_law_243 : decode cL_law 243 = .ok (.aload_n 1, 1) := by decide +kernel
theorem dL_law_244 : decode cL_law 244 = .ok (.aload_n 0, 1) := by decide +kernel
theorem dL_law_245 : decode cL_law 245 = .ok (.iload_n 3, 1) := by decide +kernel
theorem dL_law_246 : decode cL_law 246 = .ok (.iconst 1, 1) := by decide +kernel
theorem dL_law_247 : decode cL_law 247 = .ok (.iadd, 1) := by decide +kernel
theorem dL_law_248 : decode cL_law 248 = .ok (.iaload, 1) := by decide +kernel
theorem dL_law_249 : decode cL_law 249 = .ok (.aload_n 0, 1) := by decide +kernel
theorem dL_law_250 : decode cL_law 250 = .ok (.iload_n 3, 1) := by decide +kernel
theorem dL_law_251 : decode cL_law 251 = .ok (.iconst 2, 1) := by decide +kernel
theorem dL_law_252 : decode cL_law 252 = .ok (.iadd, 1) := by decide +kernel
theorem dL_law_253 : decode cL_law 253 = .ok (.iaload, 1) := by decide +kernel
theorem dL_law_254 : decode cL_law 254 = .ok (.invokevirtual 18, 3) := by decide +kernel
theorem dL_law_257 : decode cL_law 257 = .ok (.aload_n 2, 1) := by decide +kernel
theorem dL_law_258 : decode cL_law 258 = .ok (.aload_n 0, 1) := by decide +kernel
theorem dL_law_259 : decode cL_law 259 = .ok (.iload_n 3, 1) := by decide +kernel
theorem dL_law_260 : decode cL_law 260 = .ok (.iconst 1, 1) := by decide +kernel
theorem dL_law_261 : decode cL_law 261 = .ok (.iadd, 1) := by decide +kernel
theorem dL_law_262 : decode cL_law 262 = .ok (.iaload, 1) := by decide +kernel
theorem dL_law_263 : decode cL_law 263 = .ok (.aload_n 0, 1) := by decide +kernel
theorem dL_law_264 : decode cL_law 264 = .ok (.iload_n 3, 1) := by decide +kernel
theorem dL_law_265 : decode cL_law 265 = .ok (.iconst 2, 1) := by decide +kernel
theorem dL_law_266 : decode cL_law 266 = .ok (.iadd, 1) := by decide +kernel
theorem dL_law_267 : decode cL_law 267 = .ok (.iaload, 1) := by decide +kernel
theorem dL_law_268 : decode cL_law 268 = .ok (.invokevirtual 22, 3) := by decide +kernel
theorem dL_law_271 : decode cL_law 271 = .ok (.if_icmp .eq 1370, 3) := by decide +kernel
theorem dL_law_274 : decode cL_law 274 = .ok (.iconst 0, 1) := by decide +kernel
theorem dL_law_275 : decode cL_law 275 = .ok (.ireturn, 1) := by decide +kernel
theorem dL_law_276 : decode cL_law 276 = .ok (.aload_n 1, 1) := by decide +kernel
theorem dL_law_277 : decode cL_law 277 = .ok (.aload_n 0, 1) := by decide +kernel
theorem dL_law_278 : decode cL_law 278 = .ok (.iload_n 3, 1) := by decide +kernel
theorem dL_law_279 : decode cL_law 279 = .ok (.iconst 1, 1) := by decide +kernel
theorem dL_law_280 : decode cL_law 280 = .ok (.iadd, 1) := by decide +kernel
theorem dL_law_281 : decode cL_law 281 = .ok (.iaload, 1) := by decide +kernel
theorem dL_law_282 : decode cL_law 282 = .ok (.aload_n 0, 1) := by decide +kernel
theorem dL_law_283 : decode cL_law 283 = .ok (.iload_n 3, 1) := by decide +kernel
theorem dL_law_284 : decode cL_law 284 = .ok (.iconst 2, 1) := by decide +kernel
theorem dL_law_285 : decode cL_law 285 = .ok (.iadd, 1) := by decide +kernel
theorem dL_law_286 : decode cL_law 286 = .ok (.iaload, 1) := by decide +kernel
theorem dL_law_287 : decode cL_law 287 = .ok (.invokevirtual 23, 3) := by decide +kernel
theorem dL_law_290 : decode cL_law 290 = .ok (.aload_n 2, 1) := by decide +kernel
theorem dL_law_291 : decode cL_law 291 = .ok (.aload_n 0, 1) := by decide +kernel
theorem dL_law_292 : decode cL_law 292 = .ok (.iload_n 3, 1) := by decide +kernel
theorem dL_law_293 : decode cL_law 293 = .ok (.iconst 1, 1) := by decide +kernel
theorem dL_law_294 : decode cL_law 294 = .ok (.iadd, 1) := by decide +kernel
theorem dL_law_295 : decode cL_law 295 = .ok (.iaload, 1) := by decide +kernel
theorem dL_law_296 : decode cL_law 296 = .ok (.aload_n 0, 1) := by decide +kernel
theorem dL_law_297 : decode cL_law 297 = .ok (.iload_n 3, 1) := by decide +kernel
theorem dL_law_298 : decode cL_law 298 = .ok (.iconst 2, 1) := by decide +kernel
theorem dL_law_299 : decode cL_law 299 = .ok (.iadd, 1) := by decide +kernel
theorem dL_law_300 : decode cL_law 300 = .ok (.iaload, 1) := by decide +kernel
theorem dL_law_301 : decode cL_law 301 = .ok (.invokevirtual 26, 3) := by decide +kernel
theorem dL_law_304 : decode cL_law 304 = .ok (.if_icmp .eq 1337, 3) := by decide +kernel
theorem dL_law_307 : decode cL_law 307 = .ok (.iconst 0, 1) := by decide +kernel
theorem dL_law_308 : decode cL_law 308 = .ok (.ireturn, 1) := by decide +kernel
theorem dL_law_309 : decode cL_law 309 = .ok (.aload_n 1, 1) := by decide +kernel
theorem dL_law_310 : decode cL_law 310 = .ok (.aload_n 0, 1) := by decide +kernel
theorem dL_law_311 : decode cL_law 311 = .ok (.iload_n 3, 1) := by decide +kernel
theorem dL_law_312 : decode cL_law 312 = .ok (.iconst 1, 1) := by decide +kernel
theorem dL_law_313 : decode cL_law 313 = .ok (.iadd, 1) := by decide +kernel
theorem dL_law_314 : decode cL_law 314 = .ok (.iaload, 1) := by decide +kernel
theorem dL_law_315 : decode cL_law 315 = .ok (.aload_n 0, 1) := by decide +kernel
theorem dL_law_316 : decode cL_law 316 = .ok (.iload_n 3, 1) := by decide +kernel
theorem dL_law_317 : decode cL_law 317 = .ok (.iconst 2, 1) := by decide +kernel
theorem dL_law_318 : decode cL_law 318 = .ok (.iadd, 1) := by decide +kernel
theorem dL_law_319 : decode cL_law 319 = .ok (.iaload, 1) := by decide +kernel
theorem dL_law_320 : decode cL_law 320 = .ok (.aload_n 0, 1) := by decide +kernel
theorem dL_law_321 : decode cL_law 321 = .ok (.iload_n 3, 1) := by decide +kernel
theorem dL_law_322 : decode cL_law 322 = .ok (.iconst 3, 1) := by decide +kernel
theorem dL_law_323 : decode cL_law 323 = .ok (.iadd, 1) := by decide +kernel
theorem dL_law_324 : decode cL_law 324 = .ok (.iaload, 1) := by decide +kernel
theorem dL_law_325 : decode cL_law 325 = .ok (.aload_n 0, 1) := by decide +kernel
theorem dL_law_326 : decode cL_law 326 = .ok (.iload_n 3, 1) := by decide +kernel
theorem dL_law_327 : decode cL_law 327 = .ok (.iconst 4, 1) := by decide +kernel
theorem dL_law_328 : decode cL_law 328 = .ok (.iadd, 1) := by decide +kernel
theorem dL_law_329 : decode cL_law 329 = .ok (.iaload, 1) := by decide +kernel
theorem dL_law_330 : decode cL_law 330 = .ok (.aload_n 0, 1) := by decide +kernel
theorem dL_law_331 : decode cL_law 331 = .ok (.iload_n 3, 1) := by decide +kernel
theorem dL_law_332 : decode cL_law 332 = .ok (.iconst 5, 1) := by decide +kernel
theorem dL_law_333 : decode cL_law 333 = .ok (.iadd, 1) := by decide +kernel
theorem dL_law_334 : decode cL_law 334 = .ok (.iaload, 1) := by decide +kernel
theorem dL_law_335 : decode cL_law 335 = .ok (.aload_n 0, 1) := by decide +kernel
theorem dL_law_336 : decode cL_law 336 = .ok (.iload_n 3, 1) := by decide +kernel
theorem dL_law_337 : decode cL_law 337 = .ok (.bipush 6, 2) := by decide +kernel
theorem dL_law_339 : decode cL_law 339 = .ok (.iadd, 1) := by decide +kernel
theorem dL_law_340 : decode cL_law 340 = .ok (.iaload, 1) := by decide +kernel
theorem dL_law_341 : decode cL_law 341 = .ok (.invokevirtual 27, 3) := by decide +kernel
theorem dL_law_344 : decode cL_law 344 = .ok (.aload_n 2, 1) := by decide +kernel
theorem dL_law_345 : decode cL_law 345 = .ok (.aload_n 0, 1) := by decide +kernel
theorem dL_law_346 : decode cL_law 346 = .ok (.iload_n 3, 1) := by decide +kernel
theorem dL_law_347 : decode cL_law 347 = .ok (.iconst 1, 1) := by decide +kernel
theorem dL_law_348 : decode cL_law 348 = .ok (.iadd, 1) := by decide +kernel
theorem dL_law_349 : decode cL_law 349 = .ok (.iaload, 1) := by decide +kernel
theorem dL_law_350 : decode cL_law 350 = .ok (.aload_n 0, 1) := by decide +kernel
theorem dL_law_351 : decode cL_law 351 = .ok (.iload_n 3, 1) := by decide +kernel
theorem dL_law_352 : decode cL_law 352 = .ok (.iconst 2, 1) := by decide +kernel
theorem dL_law_353 : decode cL_law 353 = .ok (.iadd, 1) := by decide +kernel
theorem dL_law_354 : decode cL_law 354 = .ok (.iaload, 1) := by decide +kernel
theorem dL_law_355 : decode cL_law 355 = .ok (.aload_n 0, 1) := by decide +kernel
theorem dL_law_356 : decode cL_law 356 = .ok (.iload_n 3, 1) := by decide +kernel
theorem dL_law_357 : decode cL_law 357 = .ok (.iconst 3, 1) := by decide +kernel
theorem dL_law_358 : decode cL_law 358 = .ok (.iadd, 1) := by decide +kernel
theorem dL_law_359 : decode cL_law 359 = .ok (.iaload, 1) := by decide +kernel
theorem dL_law_360 : decode cL_law 360 = .ok (.aload_n 0, 1) := by decide +kernel
theorem dL_law_361 : decode cL_law 361 = .ok (.iload_n 3, 1) := by decide +kernel
theorem dL_law_362 : decode cL_law 362 = .ok (.iconst 4, 1) := by decide +kernel
theorem dL_law_363 : decode cL_law 363 = .ok (.iadd, 1) := by decide +kernel
theorem dL_law_364 : decode cL_law 364 = .ok (.iaload, 1) := by decide +kernel
theorem dL_law_365 : decode cL_law 365 = .ok (.aload_n 0, 1) := by decide +kernel
theorem dL_law_366 : decode cL_law 366 = .ok (.iload_n 3, 1) := by decide +kernel
theorem dL_law_367 : decode cL_law 367 = .ok (.iconst 5, 1) := by decide +kernel
theorem dL_law_368 : decode cL_law 368 = .ok (.iadd, 1) := by decide +kernel
theorem dL_law_369 : decode cL_law 369 = .ok (.iaload, 1) := by decide +kernel
theorem dL_law_370 : decode cL_law 370 = .ok (.aload_n 0, 1) := by decide +kernel
theorem dL_law_371 : decode cL_law 371 = .ok (.iload_n 3, 1) := by decide +kernel
theorem dL_law_372 : decode cL_law 372 = .ok (.bipush 6, 2) := by decide +kernel
theorem dL_law_374 : decode cL_law 374 = .ok (.iadd, 1) := by decide +kernel
theorem dL_law_375 : decode cL_law 375 = .ok (.iaload, 1) := by decide +kernel
theorem dL_law_376 : decode cL_law 376 = .ok (.invokevirtual 31, 3) := by decide +kernel
theorem dL_law_379 : decode cL_law 379 = .ok (.if_icmp .eq 1262, 3) := by decide +kernel
theorem dL_law_382 : decode cL_law 382 = .ok (.iconst 0, 1) := by decide +kernel
theorem dL_law_383 : decode cL_law 383 = .ok (.ireturn, 1) := by decide +kernel
theorem dL_law_384 : decode cL_law 384 = .ok (.aload_n 1, 1) := by decide +kernel
theorem dL_law_385 : decode cL_law 385 = .ok (.invokevirtual 32, 3) := by decide +kernel
theorem dL_law_388 : decode cL_law 388 = .ok (.aload_n 2, 1) := by decide +kernel
theorem dL_law_389 : decode cL_law 389 = .ok (.invokevirtual 36, 3) := by decide +kernel
theorem dL_law_392 : decode cL_law 392 = .ok (.if_icmp .eq 1249, 3) := by decide +kernel
theorem dL_law_395 : decode cL_law 395 = .ok (.iconst 0, 1) := by decide +kernel
theorem dL_law_396 : decode cL_law 396 = .ok (.ireturn, 1) := by decide +kernel
theorem dL_law_397 : decode cL_law 397 = .ok (.aload_n 1, 1) := by decide +kernel
theorem dL_law_398 : decode cL_law 398 = .ok (.aload_n 0, 1) := by decide +kernel
theorem dL_law_399 : decode cL_law 399 = .ok (.iload_n 3, 1) := by decide +kernel
theorem dL_law_400 : decode cL_law 400 = .ok (.iconst 1, 1) := by decide +kernel
theorem dL_law_401 : decode cL_law 401 = .ok (.iadd, 1) := by decide +kernel
theorem dL_law_402 : decode cL_law 402 = .ok (.iaload, 1) := by decide +kernel
theorem dL_law_403 : decode cL_law 403 = .ok (.aload_n 0, 1) := by decide +kernel
theorem dL_law_404 : decode cL_law 404 = .ok (.iload_n 3, 1) := by decide +kernel
theorem dL_law_405 : decode cL_law 405 = .ok (.iconst 2, 1) := by decide +kernel
theorem dL_law_406 : decode cL_law 406 = .ok (.iadd, 1) := by decide +kernel
theorem dL_law_407 : decode cL_law 407 = .ok (.iaload, 1) := by decide +kernel
theorem dL_law_408 : decode cL_law 408 = .ok (.aload_n 0, 1) := by decide +kernel
theorem dL_law_409 : decode cL_law 409 = .ok (.iload_n 3, 1) := by decide +kernel
theorem dL_law_410 : decode cL_law 410 = .ok (.iconst 3, 1) := by decide +kernel
theorem dL_law_411 : decode cL_law 411 = .ok (.iadd, 1) := by decide +kernel
theorem dL_law_412 : decode cL_law 412 = .ok (.iaload, 1) := by decide +kernel
theorem dL_law_413 : decode cL_law 413 = .ok (.ifCond .eq 7, 3) := by decide +kernel
theorem dL_law_416 : decode cL_law 416 = .ok (.iconst 1, 1) := by decide +kernel
theorem dL_law_417 : decode cL_law 417 = .ok (.goto 4, 3) := by decide +kernel
theorem dL_law_420 : decode cL_law 420 = .ok (.iconst 0, 1) := by decide +kernel
theorem dL_law_421 : decode cL_law 421 = .ok (.invokevirtual 37, 3) := by decide +kernel
theorem dL_law_424 : decode cL_law 424 = .ok (.aload_n 2, 1) := by decide +kernel
theorem dL_law_425 : decode cL_law 425 = .ok (.aload_n 0, 1) := by decide +kernel
theorem dL_law_426 : decode cL_law 426 = .ok (.iload_n 3, 1) := by decide +kernel
theorem dL_law_427 : decode cL_law 427 = .ok (.iconst 1, 1) := by decide +kernel
theorem dL_law_428 : decode cL_law 428 = .ok (.iadd, 1) := by decide +kernel
theorem dL_law_429 : decode cL_law 429 = .ok (.iaload, 1) := by decide +kernel
theorem dL_law_430 : decode cL_law 430 = .ok (.aload_n 0, 1) := by decide +kernel
theorem dL_law_431 : decode cL_law 431 = .ok (.iload_n 3, 1) := by decide +kernel
theorem dL_law_432 : decode cL_law 432 = .ok (.iconst 2, 1) := by decide +kernel
theorem dL_law_433 : decode cL_law 433 = .ok (.iadd, 1) := by decide +kernel
theorem dL_law_434 : decode cL_law 434 = .ok (.iaload, 1) := by decide +kernel
theorem dL_law_435 : decode cL_law 435 = .ok (.aload_n 0, 1) := by decide +kernel
theorem dL_law_436 : decode cL_law 436 = .ok (.iload_n 3, 1) := by decide +kernel
theorem dL_law_437 : decode cL_law 437 = .ok (.iconst 3, 1) := by decide +kernel
theorem dL_law_438 : decode cL_law 438 = .ok (.iadd, 1) := by decide +kernel
theorem dL_law_439 : decode cL_law 439 = .ok (.iaload, 1) := by decide +kernel
theorem dL_law_440 : decode cL_law 440 = .ok (.ifCond .eq 7, 3) := by decide +kernel
theorem dL_law_443 : decode cL_law 443 = .ok (.iconst 1, 1) := by decide +kernel
theorem dL_law_444 : decode cL_law 444 = .ok (.goto 4, 3) := by decide +kernel
theorem dL_law_447 : decode cL_law 447 = .ok (.iconst 0, 1) := by decide +kernel
theorem dL_law_448 : decode cL_law 448 = .ok (.invokevirtual 41, 3) := by decide +kernel
theorem dL_law_451 : decode cL_law 451 = .ok (.if_icmp .eq 1190, 3) := by decide +kernel
theorem dL_law_454 : decode cL_law 454 = .ok (.iconst 0, 1) := by decide +kernel
theorem dL_law_455 : decode cL_law 455 = .ok (.ireturn, 1) := by decide +kernel
theorem dL_law_456 : decode cL_law 456 = .ok (.aload_n 1, 1) := by decide +kernel
theorem dL_law_457 : decode cL_law 457 = .ok (.aload_n 0, 1) := by decide +kernel
theorem dL_law_458 : decode cL_law 458 = .ok (.iload_n 3, 1) := by decide +kernel
theorem dL_law_459 : decode cL_law 459 = .ok (.iconst 1, 1) := by decide +kernel
theorem dL_law_460 : decode cL_law 460 = .ok (.iadd, 1) := by decide +kernel
theorem dL_law_461 : decode cL_law 461 = .ok (.iaload, 1) := by decide +kernel
theorem dL_law_462 : decode cL_law 462 = .ok (.aload_n 0, 1) := by decide +kernel
theorem dL_law_463 : decode cL_law 463 = .ok (.iload_n 3, 1) := by decide +kernel
theorem dL_law_464 : decode cL_law 464 = .ok (.iconst 2, 1) := by decide +kernel
theorem dL_law_465 : decode cL_law 465 = .ok (.iadd, 1) := by decide +kernel
theorem dL_law_466 : decode cL_law 466 = .ok (.iaload, 1) := by decide +kernel
theorem dL_law_467 : decode cL_law 467 = .ok (.aload_n 0, 1) := by decide +kernel
theorem dL_law_468 : decode cL_law 468 = .ok (.iload_n 3, 1) := by decide +kernel
theorem dL_law_469 : decode cL_law 469 = .ok (.iconst 3, 1) := by decide +kernel
theorem dL_law_470 : decode cL_law 470 = .ok (.iadd, 1) := by decide +kernel
theorem dL_law_471 : decode cL_law 471 = .ok (.iaload, 1) := by decide +kernel
theorem dL_law_472 : decode cL_law 472 = .ok (.aload_n 0, 1) := by decide +kernel
theorem dL_law_473 : decode cL_law 473 = .ok (.iload_n 3, 1) := by decide +kernel
theorem dL_law_474 : decode cL_law 474 = .ok (.iconst 4, 1) := by decide +kernel
theorem dL_law_475 : decode cL_law 475 = .ok (.iadd, 1) := by decide +kernel
theorem dL_law_476 : decode cL_law 476 = .ok (.iaload, 1) := by decide +kernel
theorem dL_law_477 : decode cL_law 477 = .ok (.aload_n 0, 1) := by decide +kernel
theorem dL_law_478 : decode cL_law 478 = .ok (.iload_n 3, 1) := by decide +kernel
theorem dL_law_479 : decode cL_law 479 = .ok (.iconst 5, 1) := by decide +kernel
theorem dL_law_480 : decode cL_law 480 = .ok (.iadd, 1) := by decide +kernel
theorem dL_law_481 : decode cL_law 481 = .ok (.iaload, 1) := by decide +kernel
theorem dL_law_482 : decode cL_law 482 = .ok (.aload_n 0, 1) := by decide +kernel
theorem dL_law_483 : decode cL_law 483 = .ok (.iload_n 3, 1) := by decide +kernel
theorem dL_law_484 : decode cL_law 484 = .ok (.bipush 6, 2) := by decide +kernel
theorem dL_law_486 : decode cL_law 486 = .ok (.iadd, 1) := by decide +kernel
theorem dL_law_487 : decode cL_law 487 = .ok (.iaload, 1) := by decide +kernel
theorem dL_law_488 : decode cL_law 488 = .ok (.aload_n 0, 1) := by decide +kernel
theorem dL_law_489 : decode cL_law 489 = .ok (.iload_n 3, 1) := by decide +kernel
theorem dL_law_490 : decode cL_law 490 = .ok (.bipush 7, 2) := by decide +kernel
theorem dL_law_492 : decode cL_law 492 = .ok (.iadd, 1) := by decide +kernel
theorem dL_law_493 : decode cL_law 493 = .ok (.iaload, 1) := by decide +kernel
theorem dL_law_494 : decode cL_law 494 = .ok (.invokevirtual 42, 3) := by decide +kernel
theorem dL_law_497 : decode cL_law 497 = .ok (.aload_n 2, 1) := by decide +kernel
theorem dL_law_498 : decode cL_law 498 = .ok (.aload_n 0, 1) := by decide +kernel
theorem dL_law_499 : decode cL_law 499 = .ok (.iload_n 3, 1) := by decide +kernel
theorem dL_law_500 : decode cL_law 500 = .ok (.iconst 1, 1) := by decide +kernel
theorem dL_law_501 : decode cL_law 501 = .ok (.iadd, 1) := by decide +kernel
theorem dL_law_502 : decode cL_law 502 = .ok (.iaload, 1) := by decide +kernel
theorem dL_law_503 : decode cL_law 503 = .ok (.aload_n 0, 1) := by decide +kernel
theorem dL_law_504 : decode cL_law 504 = .ok (.iload_n 3, 1) := by decide +kernel
theorem dL_law_505 : decode cL_law 505 = .ok (.iconst 2, 1) := by decide +kernel
theorem dL_law_506 : decode cL_law 506 = .ok (.iadd, 1) := by decide +kernel
theorem dL_law_507 : decode cL_law 507 = .ok (.iaload, 1) := by decide +kernel
theorem dL_law_508 : decode cL_law 508 = .ok (.aload_n 0, 1) := by decide +kernel
theorem dL_law_509 : decode cL_law 509 = .ok (.iload_n 3, 1) := by decide +kernel
theorem dL_law_510 : decode cL_law 510 = .ok (.iconst 3, 1) := by decide +kernel
theorem dL_law_511 : decode cL_law 511 = .ok (.iadd, 1) := by decide +kernel
theorem dL_law_512 : decode cL_law 512 = .ok (.iaload, 1) := by decide +kernel
theorem dL_law_513 : decode cL_law 513 = .ok (.aload_n 0, 1) := by decide +kernel
theorem dL_law_514 : decode cL_law 514 = .ok (.iload_n 3, 1) := by decide +kernel
theorem dL_law_515 : decode cL_law 515 = .ok (.iconst 4, 1) := by decide +kernel
theorem dL_law_516 : decode cL_law 516 = .ok (.iadd, 1) := by decide +kernel
theorem dL_law_517 : decode cL_law 517 = .ok (.iaload, 1) := by decide +kernel
theorem dL_law_518 : decode cL_law 518 = .ok (.aload_n 0, 1) := by decide +kernel
theorem dL_law_519 : decode cL_law 519 = .ok (.iload_n 3, 1) := by decide +kernel
theorem dL_law_520 : decode cL_law 520 = .ok (.iconst 5, 1) := by decide +kernel
theorem dL_law_521 : decode cL_law 521 = .ok (.iadd, 1) := by decide +kernel
theorem dL_law_522 : decode cL_law 522 = .ok (.iaload, 1) := by decide +kernel
theorem dL_law_523 : decode cL_law 523 = .ok (.aload_n 0, 1) := by decide +kernel
theorem dL_law_524 : decode cL_law 524 = .ok (.iload_n 3, 1) := by decide +kernel
theorem dL_law_525 : decode cL_law 525 = .ok (.bipush 6, 2) := by decide +kernel
theorem dL_law_527 : decode cL_law 527 = .ok (.iadd, 1) := by decide +kernel
theorem dL_law_528 : decode cL_law 528 = .ok (.iaload, 1) := by decide +kernel
theorem dL_law_529 : decode cL_law 529 = .ok (.aload_n 0, 1) := by decide +kernel
theorem dL_law_530 : decode cL_law 530 = .ok (.iload_n 3, 1) := by decide +kernel
theorem dL_law_531 : decode cL_law 531 = .ok (.bipush 7, 2) := by decide +kernel
theorem dL_law_533 : decode cL_law 533 = .ok (.iadd, 1) := by decide +kernel
theorem dL_law_534 : decode cL_law 534 = .ok (.iaload, 1) := by decide +kernel
end
section
theorem dL_law_535 : decode cL_law 535 = .ok (.invokevirtual 46, 3) := by decide +kernel
theorem dL_law_538 : decode cL_law 538 = .ok (.if_icmp .eq 1103, 3) := by decide +kernel
theorem dL_law_541 : decode cL_law 541 = .ok (.iconst 0, 1) := by decide +kernel
theorem dL_law_542 : decode cL_law 542 = .ok (.ireturn, 1) := by decide +kernel
theorem dL_law_543 : decode cL_law 543 = .ok (.aload_n 1, 1) := by decide +kernel
theorem dL_law_544 : decode cL_law 544 = .ok (.aload_n 0, 1) := by decide +kernel
theorem dL_law_545 : decode cL_law 545 = .ok (.iload_n 3, 1) := by decide +kernel
theorem dL_law_546 : decode cL_law 546 = .ok (.iconst 1, 1) := by decide +kernel
theorem dL_law_547 : decode cL_law 547 = .ok (.iadd, 1) := by decide +kernel
theorem dL_law_548 : decode cL_law 548 = .ok (.iaload, 1) := by decide +kernel
theorem dL_law_549 : decode cL_law 549 = .ok (.aload_n 0, 1) := by decide +kernel
theorem dL_law_550 : decode cL_law 550 = .ok (.iload_n 3, 1) := by decide +kernel
theorem dL_law_551 : decode cL_law 551 = .ok (.iconst 2, 1) := by decide +kernel
theorem dL_law_552 : decode cL_law 552 = .ok (.iadd, 1) := by decide +kernel
theorem dL_law_553 : decode cL_law 553 = .ok (.iaload, 1) := by decide +kernel
theorem dL_law_554 : decode cL_law 554 = .ok (.aload_n 0, 1) := by decide +kernel
theorem dL_law_555 : decode cL_law 555 = .ok (.iload_n 3, 1) := by decide +kernel
theorem dL_law_556 : decode cL_law 556 = .ok (.iconst 3, 1) := by decide +kernel
theorem dL_law_557 : decode cL_law 557 = .ok (.iadd, 1) := by decide +kernel
theorem dL_law_558 : decode cL_law 558 = .ok (.iaload, 1) := by decide +kernel
theorem dL_law_559 : decode cL_law 559 = .ok (.aload_n 0, 1) := by decide +kernel
theorem dL_law_560 : decode cL_law 560 = .ok (.iload_n 3, 1) := by decide +kernel
theorem dL_law_561 : decode cL_law 561 = .ok (.iconst 4, 1) := by decide +kernel
theorem dL_law_562 : decode cL_law 562 = .ok (.iadd, 1) := by decide +kernel
theorem dL_law_563 : decode cL_law 563 = .ok (.iaload, 1) := by decide +kernel
theorem dL_law_564 : decode cL_law 564 = .ok (.aload_n 0, 1) := by decide +kernel
theorem dL_law_565 : decode cL_law 565 = .ok (.iload_n 3, 1) := by decide +kernel
theorem dL_law_566 : decode cL_law 566 = .ok (.iconst 5, 1) := by decide +kernel
theorem dL_law_567 : decode cL_law 567 = .ok (.iadd, 1) := by decide +kernel
theorem dL_law_568 : decode cL_law 568 = .ok (.iaload, 1) := by decide +kernel
theorem dL_law_569 : decode cL_law 569 = .ok (.aload_n 0, 1) := by decide +kernel
theorem dL_law_570 : decode cL_law 570 = .ok (.iload_n 3, 1) := by decide +kernel
theorem dL_law_571 : decode cL_law 571 = .ok (.bipush 6, 2) := by decide +kernel
theorem dL_law_573 : decode cL_law 573 = .ok (.iadd, 1) := by decide +kernel
theorem dL_law_574 : decode cL_law 574 = .ok (.iaload, 1) := by decide +kernel
theorem dL_law_575 : decode cL_law 575 = .ok (.aload_n 0, 1) := by decide +kernel
theorem dL_law_576 : decode cL_law 576 = .ok (.iload_n 3, 1) := by decide +kernel
theorem dL_law_577 : decode cL_law 577 = .ok (.bipush 7, 2) := by decide +kernel
theorem dL_law_579 : decode cL_law 579 = .ok (.iadd, 1) := by decide +kernel
theorem dL_law_580 : decode cL_law 580 = .ok (.iaload, 1) := by decide +kernel
theorem dL_law_581 : decode cL_law 581 = .ok (.invokevirtual 47, 3) := by decide +kernel
theorem dL_law_584 : decode cL_law 584 = .ok (.aload_n 2, 1) := by decide +kernel
theorem dL_law_585 : decode cL_law 585 = .ok (.aload_n 0, 1) := by decide +kernel
theorem dL_law_586 : decode cL_law 586 = .ok (.iload_n 3, 1) := by decide +kernel
theorem dL_law_587 : decode cL_law 587 = .ok (.iconst 1, 1) := by decide +kernel
theorem dL_law_588 : decode cL_law 588 = .ok (.iadd, 1) := by decide +kernel
theorem dL_law_589 : decode cL_law 589 = .ok (.iaload, 1) := by decide +kernel
theorem dL_law_590 : decode cL_law 590 = .ok (.aload_n 0, 1) := by decide +kernel
theorem dL_law_591 : decode cL_law 591 = .ok (.iload_n 3, 1) := by decide +kernel
theorem dL_law_592 : decode cL_law 592 = .ok (.iconst 2, 1) := by decide +kernel
theorem dL_law_593 : decode cL_law 593 = .ok (.iadd, 1) := by decide +kernel
theorem dL_law_594 : decode cL_law 594 = .ok (.iaload, 1) := by decide +kernel
theorem dL_law_595 : decode cL_law 595 = .ok (.aload_n 0, 1) := by decide +kernel
theorem dL_law_596 : decode cL_law 596 = .ok (.iload_n 3, 1) := by decide +kernel
theorem dL_law_597 : decode cL_law 597 = .ok (.iconst 3, 1) := by decide +kernel
theorem dL_law_598 : decode cL_law 598 = .ok (.iadd, 1) := by decide +kernel
theorem dL_law_599 : decode cL_law 599 = .ok (.iaload, 1) := by decide +kernel
theorem dL_law_600 : decode cL_law 600 = .ok (.aload_n 0, 1) := by decide +kernel
theorem dL_law_601 : decode cL_law 601 = .ok (.iload_n 3, 1) := by decide +kernel
theorem dL_law_602 : decode cL_law 602 = .ok (.iconst 4, 1) := by decide +kernel
theorem dL_law_603 : decode cL_law 603 = .ok (.iadd, 1) := by decide +kernel
theorem dL_law_604 : decode cL_law 604 = .ok (.iaload, 1) := by decide +kernel
theorem dL_law_605 : decode cL_law 605 = .ok (.aload_n 0, 1) := by decide +kernel
theorem dL_law_606 : decode cL_law 606 = .ok (.iload_n 3, 1) := by decide +kernel
theorem dL_law_607 : decode cL_law 607 = .ok (.iconst 5, 1) := by decide +kernel
theorem dL_law_608 : decode cL_law 608 = .ok (.iadd, 1) := by decide +kernel
theorem dL_law_609 : decode cL_law 609 = .ok (.iaload, 1) := by decide +kernel
theorem dL_law_610 : decode cL_law 610 = .ok (.aload_n 0, 1) := by decide +kernel
theorem dL_law_611 : decode cL_law 611 = .ok (.iload_n 3, 1) := by decide +kernel
theorem dL_law_612 : decode cL_law 612 = .ok (.bipush 6, 2) := by decide +kernel
theorem dL_law_614 : decode cL_law 614 = .ok (.iadd, 1) := by decide +kernel
theorem dL_law_615 : decode cL_law 615 = .ok (.iaload, 1) := by decide +kernel
theorem dL_law_616 : decode cL_law 616 = .ok (.aload_n 0, 1) := by decide +kernel
theorem dL_law_617 : decode cL_law 617 = .ok (.iload_n 3, 1) := by decide +kernel
theorem dL_law_618 : decode cL_law 618 = .ok (.bipush 7, 2) := by decide +kernel
theorem dL_law_620 : decode cL_law 620 = .ok (.iadd, 1) := by decide +kernel
theorem dL_law_621 : decode cL_law 621 = .ok (.iaload, 1) := by decide +kernel
theorem dL_law_622 : decode cL_law 622 = .ok (.invokevirtual 50, 3) := by decide +kernel
theorem dL_law_625 : decode cL_law 625 = .ok (.if_icmp .eq 1016, 3) := by decide +kernel
theorem dL_law_628 : decode cL_law 628 = .ok (.iconst 0, 1) := by decide +kernel
theorem dL_law_629 : decode cL_law 629 = .ok (.ireturn, 1) := by decide +kernel
theorem dL_law_630 : decode cL_law 630 = .ok (.aload_n 1, 1) := by decide +kernel
theorem dL_law_631 : decode cL_law 631 = .ok (.aload_n 0, 1) := by decide +kernel
theorem dL_law_632 : decode cL_law 632 = .ok (.iload_n 3, 1) := by decide +kernel
theorem dL_law_633 : decode cL_law 633 = .ok (.iconst 1, 1) := by decide +kernel
theorem dL_law_634 : decode cL_law 634 = .ok (.iadd, 1) := by decide +kernel
theorem dL_law_635 : decode cL_law 635 = .ok (.iaload, 1) := by decide +kernel
theorem dL_law_636 : decode cL_law 636 = .ok (.aload_n 0, 1) := by decide +kernel
theorem dL_law_637 : decode cL_law 637 = .ok (.iload_n 3, 1) := by decide +kernel
theorem dL_law_638 : decode cL_law 638 = .ok (.iconst 2, 1) := by decide +kernel
theorem dL_law_639 : decode cL_law 639 = .ok (.iadd, 1) := by decide +kernel
theorem dL_law_640 : decode cL_law 640 = .ok (.iaload, 1) := by decide +kernel
theorem dL_law_641 : decode cL_law 641 = .ok (.invokevirtual 51, 3) := by decide +kernel
theorem dL_law_644 : decode cL_law 644 = .ok (.aload_n 2, 1) := by decide +kernel
theorem dL_law_645 : decode cL_law 645 = .ok (.aload_n 0, 1) := by decide +kernel
theorem dL_law_646 : decode cL_law 646 = .ok (.iload_n 3, 1) := by decide +kernel
theorem dL_law_647 : decode cL_law 647 = .ok (.iconst 1, 1) := by decide +kernel
theorem dL_law_648 : decode cL_law 648 = .ok (.iadd, 1) := by decide +kernel
theorem dL_law_649 : decode cL_law 649 = .ok (.iaload, 1) := by decide +kernel
theorem dL_law_650 : decode cL_law 650 = .ok (.aload_n 0, 1) := by decide +kernel
theorem dL_law_651 : decode cL_law 651 = .ok (.iload_n 3, 1) := by decide +kernel
theorem dL_law_652 : decode cL_law 652 = .ok (.iconst 2, 1) := by decide +kernel
theorem dL_law_653 : decode cL_law 653 = .ok (.iadd, 1) := by decide +kernel
theorem dL_law_654 : decode cL_law 654 = .ok (.iaload, 1) := by decide +kernel
theorem dL_law_655 : decode cL_law 655 = .ok (.invokevirtual 54, 3) := by decide +kernel
theorem dL_law_658 : decode cL_law 658 = .ok (.if_icmp .eq 983, 3) := by decide +kernel
theorem dL_law_661 : decode cL_law 661 = .ok (.iconst 0, 1) := by decide +kernel
theorem dL_law_662 : decode cL_law 662 = .ok (.ireturn, 1) := by decide +kernel
theorem dL_law_663 : decode cL_law 663 = .ok (.aload_n 1, 1) := by decide +kernel
theorem dL_law_664 : decode cL_law 664 = .ok (.aload_n 0, 1) := by decide +kernel
theorem dL_law_665 : decode cL_law 665 = .ok (.iload_n 3, 1) := by decide +kernel
theorem dL_law_666 : decode cL_law 666 = .ok (.iconst 1, 1) := by decide +kernel
theorem dL_law_667 : decode cL_law 667 = .ok (.iadd, 1) := by decide +kernel
theorem dL_law_668 : decode cL_law 668 = .ok (.iaload, 1) := by decide +kernel
theorem dL_law_669 : decode cL_law 669 = .ok (.aload_n 0, 1) := by decide +kernel
theorem dL_law_670 : decode cL_law 670 = .ok (.iload_n 3, 1) := by decide +kernel
theorem dL_law_671 : decode cL_law 671 = .ok (.iconst 2, 1) := by decide +kernel
theorem dL_law_672 : decode cL_law 672 = .ok (.iadd, 1) := by decide +kernel
theorem dL_law_673 : decode cL_law 673 = .ok (.iaload, 1) := by decide +kernel
theorem dL_law_674 : decode cL_law 674 = .ok (.invokevirtual 55, 3) := by decide +kernel
theorem dL_law_677 : decode cL_law 677 = .ok (.aload_n 2, 1) := by decide +kernel
theorem dL_law_678 : decode cL_law 678 = .ok (.aload_n 0, 1) := by decide +kernel
theorem dL_law_679 : decode cL_law 679 = .ok (.iload_n 3, 1) := by decide +kernel
theorem dL_law_680 : decode cL_law 680 = .ok (.iconst 1, 1) := by decide +kernel
theorem dL_law_681 : decode cL_law 681 = .ok (.iadd, 1) := by decide +kernel
theorem dL_law_682 : decode cL_law 682 = .ok (.iaload, 1) := by decide +kernel
theorem dL_law_683 : decode cL_law 683 = .ok (.aload_n 0, 1) := by decide +kernel
theorem dL_law_684 : decode cL_law 684 = .ok (.iload_n 3, 1) := by decide +kernel
theorem dL_law_685 : decode cL_law 685 = .ok (.iconst 2, 1) := by decide +kernel
theorem dL_law_686 : decode cL_law 686 = .ok (.iadd, 1) := by decide +kernel
theorem dL_law_687 : decode cL_law 687 = .ok (.iaload, 1) := by decide +kernel
theorem dL_law_688 : decode cL_law 688 = .ok (.invokevirtual 58, 3) := by decide +kernel
theorem dL_law_691 : decode cL_law 691 = .ok (.if_icmp .eq 950, 3) := by decide +kernel
theorem dL_law_694 : decode cL_law 694 = .ok (.iconst 0, 1) := by decide +kernel
theorem dL_law_695 : decode cL_law 695 = .ok (.ireturn, 1) := by decide +kernel
theorem dL_law_696 : decode cL_law 696 = .ok (.aload_n 1, 1) := by decide +kernel
theorem dL_law_697 : decode cL_law 697 = .ok (.aload_n 0, 1) := by decide +kernel
theorem dL_law_698 : decode cL_law 698 = .ok (.iload_n 3, 1) := by decide +kernel
theorem dL_law_699 : decode cL_law 699 = .ok (.iconst 1, 1) := by decide +kernel
theorem dL_law_700 : decode cL_law 700 = .ok (.iadd, 1) := by decide +kernel
theorem dL_law_701 : decode cL_law 701 = .ok (.iaload, 1) := by decide +kernel
theorem dL_law_702 : decode cL_law 702 = .ok (.aload_n 0, 1) := by decide +kernel
theorem dL_law_703 : decode cL_law 703 = .ok (.iload_n 3, 1) := by decide +kernel
theorem dL_law_704 : decode cL_law 704 = .ok (.iconst 2, 1) := by decide +kernel
theorem dL_law_705 : decode cL_law 705 = .ok (.iadd, 1) := by decide +kernel
theorem dL_law_706 : decode cL_law 706 = .ok (.iaload, 1) := by decide +kernel
theorem dL_law_707 : decode cL_law 707 = .ok (.aload_n 0, 1) := by decide +kernel
theorem dL_law_708 : decode cL_law 708 = .ok (.iload_n 3, 1) := by decide +kernel
theorem dL_law_709 : decode cL_law 709 = .ok (.iconst 3, 1) := by decide +kernel
theorem dL_law_710 : decode cL_law 710 = .ok (.iadd, 1) := by decide +kernel
theorem dL_law_711 : decode cL_law 711 = .ok (.iaload, 1) := by decide +kernel
theorem dL_law_712 : decode cL_law 712 = .ok (.aload_n 0, 1) := by decide +kernel
theorem dL_law_713 : decode cL_law 713 = .ok (.iload_n 3, 1) := by decide +kernel
theorem dL_law_714 : decode cL_law 714 = .ok (.iconst 4, 1) := by decide +kernel
theorem dL_law_715 : decode cL_law 715 = .ok (.iadd, 1) := by decide +kernel
theorem dL_law_716 : decode cL_law 716 = .ok (.iaload, 1) := by decide +kernel
theorem dL_law_717 : decode cL_law 717 = .ok (.aload_n 0, 1) := by decide +kernel
theorem dL_law_718 : decode cL_law 718 = .ok (.iload_n 3, 1) := by decide +kernel
theorem dL_law_719 : decode cL_law 719 = .ok (.iconst 5, 1) := by decide +kernel
theorem dL_law_720 : decode cL_law 720 = .ok (.iadd, 1) := by decide +kernel
theorem dL_law_721 : decode cL_law 721 = .ok (.iaload, 1) := by decide +kernel
theorem dL_law_722 : decode cL_law 722 = .ok (.invokevirtual 59, 3) := by decide +kernel
theorem dL_law_725 : decode cL_law 725 = .ok (.aload_n 2, 1) := by decide +kernel
theorem dL_law_726 : decode cL_law 726 = .ok (.aload_n 0, 1) := by decide +kernel
theorem dL_law_727 : decode cL_law 727 = .ok (.iload_n 3, 1) := by decide +kernel
theorem dL_law_728 : decode cL_law 728 = .ok (.iconst 1, 1) := by decide +kernel
theorem dL_law_729 : decode cL_law 729 = .ok (.iadd, 1) := by decide +kernel
theorem dL_law_730 : decode cL_law 730 = .ok (.iaload, 1) := by decide +kernel
theorem dL_law_731 : decode cL_law 731 = .ok (.aload_n 0, 1) := by decide +kernel
theorem dL_law_732 : decode cL_law 732 = .ok (.iload_n 3, 1) := by decide +kernel
theorem dL_law_733 : decode cL_law 733 = .ok (.iconst 2, 1) := by decide +kernel
theorem dL_law_734 : decode cL_law 734 = .ok (.iadd, 1) := by decide +kernel
theorem dL_law_735 : decode cL_law 735 = .ok (.iaload, 1) := by decide +kernel
theorem dL_law_736 : decode cL_law 736 = .ok (.aload_n 0, 1) := by decide +kernel
theorem dL_law_737 : decode cL_law 737 = .ok (.iload_n 3, 1) := by decide +kernel
theorem dL_law_738 : decode cL_law 738 = .ok (.iconst 3, 1) := by decide +kernel
theorem dL_law_739 : decode cL_law 739 = .ok (.iadd, 1) := by decide +kernel
theorem dL_law_740 : decode cL_law 740 = .ok (.iaload, 1) := by decide +kernel
theorem dL_law_741 : decode cL_law 741 = .ok (.aload_n 0, 1) := by decide +kernel
theorem dL_law_742 : decode cL_law 742 = .ok (.iload_n 3, 1) := by decide +kernel
theorem dL_law_743 : decode cL_law 743 = .ok (.iconst 4, 1) := by decide +kernel
theorem dL_law_744 : decode cL_law 744 = .ok (.iadd, 1) := by decide +kernel
theorem dL_law_745 : decode cL_law 745 = .ok (.iaload, 1) := by decide +kernel
theorem dL_law_746 : decode cL_law 746 = .ok (.aload_n 0, 1) := by decide +kernel
theorem dL_law_747 : decode cL_law 747 = .ok (.iload_n 3, 1) := by decide +kernel
theorem dL_law_748 : decode cL_law 748 = .ok (.iconst 5, 1) := by decide +kernel
theorem dL_law_749 : decode cL_law 749 = .ok (.iadd, 1) := by decide +kernel
theorem dL_law_750 : decode cL_law 750 = .ok (.iaload, 1) := by decide +kernel
theorem dL_law_751 : decode cL_law 751 = .ok (.invokevirtual 63, 3) := by decide +kernel
theorem dL_law_754 : decode cL_law 754 = .ok (.if_icmp .eq 887, 3) := by decide +kernel
theorem dL_law_757 : decode cL_law 757 = .ok (.iconst 0, 1) := by decide +kernel
theorem dL_law_758 : decode cL_law 758 = .ok (.ireturn, 1) := by decide +kernel
theorem dL_law_759 : decode cL_law 759 = .ok (.aload_n 1, 1) := by decide +kernel
theorem dL_law_760 : decode cL_law 760 = .ok (.aload_n 0, 1) := by decide +kernel
theorem dL_law_761 : decode cL_law 761 = .ok (.iload_n 3, 1) := by decide +kernel
theorem dL_law_762 : decode cL_law 762 = .ok (.iconst 1, 1) := by decide +kernel
theorem dL_law_763 : decode cL_law 763 = .ok (.iadd, 1) := by decide +kernel
theorem dL_law_764 : decode cL_law 764 = .ok (.iaload, 1) := by decide +kernel
theorem dL_law_765 : decode cL_law 765 = .ok (.aload_n 0, 1) := by decide +kernel
theorem dL_law_766 : decode cL_law 766 = .ok (.iload_n 3, 1) := by decide +kernel
theorem dL_law_767 : decode cL_law 767 = .ok (.iconst 2, 1) := by decide +kernel
theorem dL_law_768 : decode cL_law 768 = .ok (.iadd, 1) := by decide +kernel
theorem dL_law_769 : decode cL_law 769 = .ok (.iaload, 1) := by decide +kernel
theorem dL_law_770 : decode cL_law 770 = .ok (.invokevirtual 64, 3) := by decide +kernel
theorem dL_law_773 : decode cL_law 773 = .ok (.aload_n 2, 1) := by decide +kernel
theorem dL_law_774 : decode cL_law 774 = .ok (.aload_n 0, 1) := by decide +kernel
theorem dL_law_775 : decode cL_law 775 = .ok (.iload_n 3, 1) := by decide +kernel
theorem dL_law_776 : decode cL_law 776 = .ok (.iconst 1, 1) := by decide +kernel
theorem dL_law_777 : decode cL_law 777 = .ok (.iadd, 1) := by decide +kernel
theorem dL_law_778 : decode cL_law 778 = .ok (.iaload, 1) := by decide +kernel
theorem dL_law_779 : decode cL_law 779 = .ok (.aload_n 0, 1) := by decide +kernel
theorem dL_law_780 : decode cL_law 780 = .ok (.iload_n 3, 1) := by decide +kernel
theorem dL_law_781 : decode cL_law 781 = .ok (.iconst 2, 1) := by decide +kernel
theorem dL_law_782 : decode cL_law 782 = .ok (.iadd, 1) := by decide +kernel
theorem dL_law_783 : decode cL_law 783 = .ok (.iaload, 1) := by decide +kernel
theorem dL_law_784 : decode cL_law 784 = .ok (.invokevirtual 67, 3) := by decide +kernel
theorem dL_law_787 : decode cL_law 787 = .ok (.if_icmp .eq 854, 3) := by decide +kernel
theorem dL_law_790 : decode cL_law 790 = .ok (.iconst 0, 1) := by decide +kernel
theorem dL_law_791 : decode cL_law 791 = .ok (.ireturn, 1) := by decide +kernel
theorem dL_law_792 : decode cL_law 792 = .ok (.aload_n 1, 1) := by decide +kernel
theorem dL_law_793 : decode cL_law 793 = .ok (.aload_n 0, 1) := by decide +kernel
theorem dL_law_794 : decode cL_law 794 = .ok (.iload_n 3, 1) := by decide +kernel
theorem dL_law_795 : decode cL_law 795 = .ok (.iconst 1, 1) := by decide +kernel
theorem dL_law_796 : decode cL_law 796 = .ok (.iadd, 1) := by decide +kernel
theorem dL_law_797 : decode cL_law 797 = .ok (.iaload, 1) := by decide +kernel
theorem dL_law_798 : decode cL_law 798 = .ok (.aload_n 0, 1) := by decide +kernel
theorem dL_law_799 : decode cL_law 799 = .ok (.iload_n 3, 1) := by decide +kernel
theorem dL_law_800 : decode cL_law 800 = .ok (.iconst 2, 1) := by decide +kernel
theorem dL_law_801 : decode cL_law 801 = .ok (.iadd, 1) := by decide +kernel
theorem dL_law_802 : decode cL_law 802 = .ok (.iaload, 1) := by decide +kernel
theorem dL_law_803 : decode cL_law 803 = .ok (.aload_n 0, 1) := by decide +kernel
theorem dL_law_804 : decode cL_law 804 = .ok (.iload_n 3, 1) := by decide +kernel
theorem dL_law_805 : decode cL_law 805 = .ok (.iconst 3, 1) := by decide +kernel
theorem dL_law_806 : decode cL_law 806 = .ok (.iadd, 1) := by decide +kernel
theorem dL_law_807 : decode cL_law 807 = .ok (.iaload, 1) := by decide +kernel
theorem dL_law_808 : decode cL_law 808 = .ok (.aload_n 0, 1) := by decide +kernel
theorem dL_law_809 : decode cL_law 809 = .ok (.iload_n 3, 1) := by decide +kernel
theorem dL_law_810 : decode cL_law 810 = .ok (.iconst 4, 1) := by decide +kernel
theorem dL_law_811 : decode cL_law 811 = .ok (.iadd, 1) := by decide +kernel
theorem dL_law_812 : decode cL_law 812 = .ok (.iaload, 1) := by decide +kernel
theorem dL_law_813 : decode cL_law 813 = .ok (.aload_n 0, 1) := by decide +kernel
theorem dL_law_814 : decode cL_law 814 = .ok (.iload_n 3, 1) := by decide +kernel
theorem dL_law_815 : decode cL_law 815 = .ok (.iconst 5, 1) := by decide +kernel
theorem dL_law_816 : decode cL_law 816 = .ok (.iadd, 1) := by decide +kernel
theorem dL_law_817 : decode cL_law 817 = .ok (.iaload, 1) := by decide +kernel
theorem dL_law_818 : decode cL_law 818 = .ok (.invokevirtual 68, 3) := by decide +kernel
theorem dL_law_821 : decode cL_law 821 = .ok (.aload_n 2, 1) := by decide +kernel
theorem dL_law_822 : decode cL_law 822 = .ok (.aload_n 0, 1) := by decide +kernel
theorem dL_law_823 : decode cL_law 823 = .ok (.iload_n 3, 1) := by decide +kernel
theorem dL_law_824 : decode cL_law 824 = .ok (.iconst 1, 1) := by decide +kernel
theorem dL_law_825 : decode cL_law 825 = .ok (.iadd, 1) := by decide +kernel
theorem dL_law_826 : decode cL_law 826 = .ok (.iaload, 1) := by decide +kernel
theorem dL_law_827 : decode cL_law 827 = .ok (.aload_n 0, 1) := by decide +kernel
theorem dL_law_828 : decode cL_law 828 = .ok (.iload_n 3, 1) := by decide +kernel
theorem dL_law_829 : decode cL_law 829 = .ok (.iconst 2, 1) := by decide +kernel
theorem dL_law_830 : decode cL_law 830 = .ok (.iadd, 1) := by decide +kernel
theorem dL_law_831 : decode cL_law 831 = .ok (.iaload, 1) := by decide +kernel
theorem dL_law_832 : decode cL_law 832 = .ok (.aload_n 0, 1) := by decide +kernel
theorem dL_law_833 : decode cL_law 833 = .ok (.iload_n 3, 1) := by decide +kernel
theorem dL_law_834 : decode cL_law 834 = .ok (.iconst 3, 1) := by decide +kernel
theorem dL_law_835 : decode cL_law 835 = .ok (.iadd, 1) := by decide +kernel
theorem dL_law_836 : decode cL_law 836 = .ok (.iaload, 1) := by decide +kernel
theorem dL_law_837 : decode cL_law 837 = .ok (.aload_n 0, 1) := by decide +kernel
theorem dL_law_838 : decode cL_law 838 = .ok (.iload_n 3, 1) := by decide +kernel
theorem dL_law_839 : decode cL_law 839 = .ok (.iconst 4, 1) := by decide +kernel
theorem dL_law_840 : decode cL_law 840 = .ok (.iadd, 1) := by decide +kernel
theorem dL_law_841 : decode cL_law 841 = .ok (.iaload, 1) := by decide +kernel
theorem dL_law_842 : decode cL_law 842 = .ok (.aload_n 0, 1) := by decide +kernel
theorem dL_law_843 : decode cL_law 843 = .ok (.iload_n 3, 1) := by decide +kernel
theorem dL_law_844 : decode cL_law 844 = .ok (.iconst 5, 1) := by decide +kernel
theorem dL_law_845 : decode cL_law 845 = .ok (.iadd, 1) := by decide +kernel
theorem dL_law_846 : decode cL_law 846 = .ok (.iaload, 1) := by decide +kernel
theorem dL_law_847 : decode cL_law 847 = .ok (.invokevirtual 71, 3) := by decide +kernel
theorem dL_law_850 : decode cL_law 850 = .ok (.if_icmp .eq 791, 3) := by decide +kernel
theorem dL_law_853 : decode cL_law 853 = .ok (.iconst 0, 1) := by decide +kernel
theorem dL_law_854 : decode cL_law 854 = .ok (.ireturn, 1) := by decide +kernel
theorem dL_law_855 : decode cL_law 855 = .ok (.aload_n 1, 1) := by decide +kernel
theorem dL_law_856 : decode cL_law 856 = .ok (.aload_n 0, 1) := by decide +kernel
theorem dL_law_857 : decode cL_law 857 = .ok (.iload_n 3, 1) := by decide +kernel
theorem dL_law_858 : decode cL_law 858 = .ok (.iconst 1, 1) := by decide +kernel
theorem dL_law_859 : decode cL_law 859 = .ok (.iadd, 1) := by decide +kernel
theorem dL_law_860 : decode cL_law 860 = .ok (.iaload, 1) := by decide +kernel
theorem dL_law_861 : decode cL_law 861 = .ok (.aload_n 0, 1) := by decide +kernel
theorem dL_law_862 : decode cL_law 862 = .ok (.iload_n 3, 1) := by decide +kernel
theorem dL_law_863 : decode cL_law 863 = .ok (.iconst 2, 1) := by decide +kernel
theorem dL_law_864 : decode cL_law 864 = .ok (.iadd, 1) := by decide +kernel
theorem dL_law_865 : decode cL_law 865 = .ok (.iaload, 1) := by decide +kernel
theorem dL_law_866 : decode cL_law 866 = .ok (.invokevirtual 72, 3) := by decide +kernel
theorem dL_law_869 : decode cL_law 869 = .ok (.aload_n 2, 1) := by decide +kernel
theorem dL_law_870 : decode cL_law 870 = .ok (.aload_n 0, 1) := by decide +kernel
theorem dL_law_871 : decode cL_law 871 = .ok (.iload_n 3, 1) := by decide +kernel
theorem dL_law_872 : decode cL_law 872 = .ok (.iconst 1, 1) := by decide +kernel
theorem dL_law_873 : decode cL_law 873 = .ok (.iadd, 1) := by decide +kernel
theorem dL_law_874 : decode cL_law 874 = .ok (.iaload, 1) := by decide +kernel
theorem dL_law_875 : decode cL_law 875 = .ok (.aload_n 0, 1) := by decide +kernel
theorem dL_law_876 : decode cL_law 876 = .ok (.iload_n 3, 1) := by decide +kernel
theorem dL_law_877 : decode cL_law 877 = .ok (.iconst 2, 1) := by decide +kernel
theorem dL_law_878 : decode cL_law 878 = .ok (.iadd, 1) := by decide +kernel
theorem dL_law_879 : decode cL_law 879 = .ok (.iaload, 1) := by decide +kernel
theorem dL_law_880 : decode cL_law 880 = .ok (.invokevirtual 75, 3) := by decide +kernel
theorem dL_law_883 : decode cL_law 883 = .ok (.if_icmp .eq 758, 3) := by decide +kernel
theorem dL_law_886 : decode cL_law 886 = .ok (.iconst 0, 1) := by decide +kernel
theorem dL_law_887 : decode cL_law 887 = .ok (.ireturn, 1) := by decide +kernel
theorem dL_law_888 : decode cL_law 888 = .ok (.aload_n 1, 1) := by decide +kernel
theorem dL_law_889 : decode cL_law 889 = .ok (.aload_n 0, 1) := by decide +kernel
end
section
theorem dL_law_890 : decode cL_law 890 = .ok (.iload_n 3, 1) := by decide +kernel
theorem dL_law_891 : decode cL_law 891 = .ok (.iconst 1, 1) := by decide +kernel
theorem dL_law_892 : decode cL_law 892 = .ok (.iadd, 1) := by decide +kernel
theorem dL_law_893 : decode cL_law 893 = .ok (.iaload, 1) := by decide +kernel
theorem dL_law_894 : decode cL_law 894 = .ok (.aload_n 0, 1) := by decide +kernel
theorem dL_law_895 : decode cL_law 895 = .ok (.iload_n 3, 1) := by decide +kernel
theorem dL_law_896 : decode cL_law 896 = .ok (.iconst 2, 1) := by decide +kernel
theorem dL_law_897 : decode cL_law 897 = .ok (.iadd, 1) := by decide +kernel
theorem dL_law_898 : decode cL_law 898 = .ok (.iaload, 1) := by decide +kernel
theorem dL_law_899 : decode cL_law 899 = .ok (.aload_n 0, 1) := by decide +kernel
theorem dL_law_900 : decode cL_law 900 = .ok (.iload_n 3, 1) := by decide +kernel
theorem dL_law_901 : decode cL_law 901 = .ok (.iconst 3, 1) := by decide +kernel
theorem dL_law_902 : decode cL_law 902 = .ok (.iadd, 1) := by decide +kernel
theorem dL_law_903 : decode cL_law 903 = .ok (.iaload, 1) := by decide +kernel
theorem dL_law_904 : decode cL_law 904 = .ok (.aload_n 0, 1) := by decide +kernel
theorem dL_law_905 : decode cL_law 905 = .ok (.iload_n 3, 1) := by decide +kernel
theorem dL_law_906 : decode cL_law 906 = .ok (.iconst 4, 1) := by decide +kernel
theorem dL_law_907 : decode cL_law 907 = .ok (.iadd, 1) := by decide +kernel
theorem dL_law_908 : decode cL_law 908 = .ok (.iaload, 1) := by decide +kernel
theorem dL_law_909 : decode cL_law 909 = .ok (.invokevirtual 76, 3) := by decide +kernel
theorem dL_law_912 : decode cL_law 912 = .ok (.aload_n 2, 1) := by decide +kernel
theorem dL_law_913 : decode cL_law 913 = .ok (.aload_n 0, 1) := by decide +kernel
theorem dL_law_914 : decode cL_law 914 = .ok (.iload_n 3, 1) := by decide +kernel
theorem dL_law_915 : decode cL_law 915 = .ok (.iconst 1, 1) := by decide +kernel
theorem dL_law_916 : decode cL_law 916 = .ok (.iadd, 1) := by decide +kernel
theorem dL_law_917 : decode cL_law 917 = .ok (.iaload, 1) := by decide +kernel
theorem dL_law_918 : decode cL_law 918 = .ok (.aload_n 0, 1) := by decide +kernel
theorem dL_law_919 : decode cL_law 919 = .ok (.iload_n 3, 1) := by decide +kernel
theorem dL_law_920 : decode cL_law 920 = .ok (.iconst 2, 1) := by decide +kernel
theorem dL_law_921 : decode cL_law 921 = .ok (.iadd, 1) := by decide +kernel
theorem dL_law_922 : decode cL_law 922 = .ok (.iaload, 1) := by decide +kernel
theorem dL_law_923 : decode cL_law 923 = .ok (.aload_n 0, 1) := by decide +kernel
theorem dL_law_924 : decode cL_law 924 = .ok (.iload_n 3, 1) := by decide +kernel
theorem dL_law_925 : decode cL_law 925 = .ok (.iconst 3, 1) := by decide +kernel
theorem dL_law_926 : decode cL_law 926 = .ok (.iadd, 1) := by decide +kernel
theorem dL_law_927 : decode cL_law 927 = .ok (.iaload, 1) := by decide +kernel
theorem dL_law_928 : decode cL_law 928 = .ok (.aload_n 0, 1) := by decide +kernel
theorem dL_law_929 : decode cL_law 929 = .ok (.iload_n 3, 1) := by decide +kernel
theorem dL_law_930 : decode cL_law 930 = .ok (.iconst 4, 1) := by decide +kernel
theorem dL_law_931 : decode cL_law 931 = .ok (.iadd, 1) := by decide +kernel
theorem dL_law_932 : decode cL_law 932 = .ok (.iaload, 1) := by decide +kernel
theorem dL_law_933 : decode cL_law 933 = .ok (.invokevirtual 80, 3) := by decide +kernel
theorem dL_law_936 : decode cL_law 936 = .ok (.if_icmp .eq 705, 3) := by decide +kernel
theorem dL_law_939 : decode cL_law 939 = .ok (.iconst 0, 1) := by decide +kernel
theorem dL_law_940 : decode cL_law 940 = .ok (.ireturn, 1) := by decide +kernel
theorem dL_law_941 : decode cL_law 941 = .ok (.aload_n 1, 1) := by decide +kernel
theorem dL_law_942 : decode cL_law 942 = .ok (.aload_n 0, 1) := by decide +kernel
theorem dL_law_943 : decode cL_law 943 = .ok (.iload_n 3, 1) := by decide +kernel
theorem dL_law_944 : decode cL_law 944 = .ok (.iconst 1, 1) := by decide +kernel
theorem dL_law_945 : decode cL_law 945 = .ok (.iadd, 1) := by decide +kernel
theorem dL_law_946 : decode cL_law 946 = .ok (.iaload, 1) := by decide +kernel
theorem dL_law_947 : decode cL_law 947 = .ok (.aload_n 0, 1) := by decide +kernel
theorem dL_law_948 : decode cL_law 948 = .ok (.iload_n 3, 1) := by decide +kernel
theorem dL_law_949 : decode cL_law 949 = .ok (.iconst 2, 1) := by decide +kernel
theorem dL_law_950 : decode cL_law 950 = .ok (.iadd, 1) := by decide +kernel
theorem dL_law_951 : decode cL_law 951 = .ok (.iaload, 1) := by decide +kernel
theorem dL_law_952 : decode cL_law 952 = .ok (.invokevirtual 81, 3) := by decide +kernel
theorem dL_law_955 : decode cL_law 955 = .ok (.aload_n 2, 1) := by decide +kernel
theorem dL_law_956 : decode cL_law 956 = .ok (.aload_n 0, 1) := by decide +kernel
theorem dL_law_957 : decode cL_law 957 = .ok (.iload_n 3, 1) := by decide +kernel
theorem dL_law_958 : decode cL_law 958 = .ok (.iconst 1, 1) := by decide +kernel
theorem dL_law_959 : decode cL_law 959 = .ok (.iadd, 1) := by decide +kernel
theorem dL_law_960 : decode cL_law 960 = .ok (.iaload, 1) := by decide +kernel
theorem dL_law_961 : decode cL_law 961 = .ok (.aload_n 0, 1) := by decide +kernel
theorem dL_law_962 : decode cL_law 962 = .ok (.iload_n 3, 1) := by decide +kernel
theorem dL_law_963 : decode cL_law 963 = .ok (.iconst 2, 1) := by decide +kernel
theorem dL_law_964 : decode cL_law 964 = .ok (.iadd, 1) := by decide +kernel
theorem dL_law_965 : decode cL_law 965 = .ok (.iaload, 1) := by decide +kernel
theorem dL_law_966 : decode cL_law 966 = .ok (.invokevirtual 84, 3) := by decide +kernel
theorem dL_law_969 : decode cL_law 969 = .ok (.if_icmp .eq 672, 3) := by decide +kernel
theorem dL_law_972 : decode cL_law 972 = .ok (.iconst 0, 1) := by decide +kernel
theorem dL_law_973 : decode cL_law 973 = .ok (.ireturn, 1) := by decide +kernel
theorem dL_law_974 : decode cL_law 974 = .ok (.aload_n 1, 1) := by decide +kernel
theorem dL_law_975 : decode cL_law 975 = .ok (.aload_n 0, 1) := by decide +kernel
theorem dL_law_976 : decode cL_law 976 = .ok (.iload_n 3, 1) := by decide +kernel
theorem dL_law_977 : decode cL_law 977 = .ok (.iconst 1, 1) := by decide +kernel
theorem dL_law_978 : decode cL_law 978 = .ok (.iadd, 1) := by decide +kernel
theorem dL_law_979 : decode cL_law 979 = .ok (.iaload, 1) := by decide +kernel
theorem dL_law_980 : decode cL_law 980 = .ok (.invokevirtual 85, 3) := by decide +kernel
theorem dL_law_983 : decode cL_law 983 = .ok (.aload_n 2, 1) := by decide +kernel
theorem dL_law_984 : decode cL_law 984 = .ok (.aload_n 0, 1) := by decide +kernel
theorem dL_law_985 : decode cL_law 985 = .ok (.iload_n 3, 1) := by decide +kernel
theorem dL_law_986 : decode cL_law 986 = .ok (.iconst 1, 1) := by decide +kernel
theorem dL_law_987 : decode cL_law 987 = .ok (.iadd, 1) := by decide +kernel
theorem dL_law_988 : decode cL_law 988 = .ok (.iaload, 1) := by decide +kernel
theorem dL_law_989 : decode cL_law 989 = .ok (.invokevirtual 89, 3) := by decide +kernel
theorem dL_law_992 : decode cL_law 992 = .ok (.if_icmp .eq 649, 3) := by decide +kernel
theorem dL_law_995 : decode cL_law 995 = .ok (.iconst 0, 1) := by decide +kernel
theorem dL_law_996 : decode cL_law 996 = .ok (.ireturn, 1) := by decide +kernel
theorem dL_law_997 : decode cL_law 997 = .ok (.aload_n 1, 1) := by decide +kernel
theorem dL_law_998 : decode cL_law 998 = .ok (.aload_n 0, 1) := by decide +kernel
theorem dL_law_999 : decode cL_law 999 = .ok (.iload_n 3, 1) := by decide +kernel
theorem dL_law_1000 : decode cL_law 1000 = .ok (.iconst 1, 1) := by decide +kernel
theorem dL_law_1001 : decode cL_law 1001 = .ok (.iadd, 1) := by decide +kernel
theorem dL_law_1002 : decode cL_law 1002 = .ok (.iaload, 1) := by decide +kernel
theorem dL_law_1003 : decode cL_law 1003 = .ok (.aload_n 0, 1) := by decide +kernel
theorem dL_law_1004 : decode cL_law 1004 = .ok (.iload_n 3, 1) := by decide +kernel
theorem dL_law_1005 : decode cL_law 1005 = .ok (.iconst 2, 1) := by decide +kernel
theorem dL_law_1006 : decode cL_law 1006 = .ok (.iadd, 1) := by decide +kernel
theorem dL_law_1007 : decode cL_law 1007 = .ok (.iaload, 1) := by decide +kernel
theorem dL_law_1008 : decode cL_law 1008 = .ok (.invokevirtual 90, 3) := by decide +kernel
theorem dL_law_1011 : decode cL_law 1011 = .ok (.aload_n 2, 1) := by decide +kernel
theorem dL_law_1012 : decode cL_law 1012 = .ok (.aload_n 0, 1) := by decide +kernel
theorem dL_law_1013 : decode cL_law 1013 = .ok (.iload_n 3, 1) := by decide +kernel
theorem dL_law_1014 : decode cL_law 1014 = .ok (.iconst 1, 1) := by decide +kernel
theorem dL_law_1015 : decode cL_law 1015 = .ok (.iadd, 1) := by decide +kernel
theorem dL_law_1016 : decode cL_law 1016 = .ok (.iaload, 1) := by decide +kernel
theorem dL_law_1017 : decode cL_law 1017 = .ok (.aload_n 0, 1) := by decide +kernel
theorem dL_law_1018 : decode cL_law 1018 = .ok (.iload_n 3, 1) := by decide +kernel
theorem dL_law_1019 : decode cL_law 1019 = .ok (.iconst 2, 1) := by decide +kernel
theorem dL_law_1020 : decode cL_law 1020 = .ok (.iadd, 1) := by decide +kernel
theorem dL_law_1021 : decode cL_law 1021 = .ok (.iaload, 1) := by decide +kernel
theorem dL_law_1022 : decode cL_law 1022 = .ok (.invokevirtual 93, 3) := by decide +kernel
theorem dL_law_1025 : decode cL_law 1025 = .ok (.if_icmp .eq 616, 3) := by decide +kernel
theorem dL_law_1028 : decode cL_law 1028 = .ok (.iconst 0, 1) := by decide +kernel
theorem dL_law_1029 : decode cL_law 1029 = .ok (.ireturn, 1) := by decide +kernel
theorem dL_law_1030 : decode cL_law 1030 = .ok (.aload_n 1, 1) := by decide +kernel
theorem dL_law_1031 : decode cL_law 1031 = .ok (.aload_n 0, 1) := by decide +kernel
theorem dL_law_1032 : decode cL_law 1032 = .ok (.iload_n 3, 1) := by decide +kernel
theorem dL_law_1033 : decode cL_law 1033 = .ok (.iconst 1, 1) := by decide +kernel
theorem dL_law_1034 : decode cL_law 1034 = .ok (.iadd, 1) := by decide +kernel
theorem dL_law_1035 : decode cL_law 1035 = .ok (.iaload, 1) := by decide +kernel
theorem dL_law_1036 : decode cL_law 1036 = .ok (.aload_n 0, 1) := by decide +kernel
theorem dL_law_1037 : decode cL_law 1037 = .ok (.iload_n 3, 1) := by decide +kernel
theorem dL_law_1038 : decode cL_law 1038 = .ok (.iconst 2, 1) := by decide +kernel
theorem dL_law_1039 : decode cL_law 1039 = .ok (.iadd, 1) := by decide +kernel
theorem dL_law_1040 : decode cL_law 1040 = .ok (.iaload, 1) := by decide +kernel
theorem dL_law_1041 : decode cL_law 1041 = .ok (.aload_n 0, 1) := by decide +kernel
theorem dL_law_1042 : decode cL_law 1042 = .ok (.iload_n 3, 1) := by decide +kernel
theorem dL_law_1043 : decode cL_law 1043 = .ok (.iconst 3, 1) := by decide +kernel
theorem dL_law_1044 : decode cL_law 1044 = .ok (.iadd, 1) := by decide +kernel
theorem dL_law_1045 : decode cL_law 1045 = .ok (.iaload, 1) := by decide +kernel
theorem dL_law_1046 : decode cL_law 1046 = .ok (.invokevirtual 94, 3) := by decide +kernel
theorem dL_law_1049 : decode cL_law 1049 = .ok (.aload_n 2, 1) := by decide +kernel
theorem dL_law_1050 : decode cL_law 1050 = .ok (.aload_n 0, 1) := by decide +kernel
theorem dL_law_1051 : decode cL_law 1051 = .ok (.iload_n 3, 1) := by decide +kernel
theorem dL_law_1052 : decode cL_law 1052 = .ok (.iconst 1, 1) := by decide +kernel
theorem dL_law_1053 : decode cL_law 1053 = .ok (.iadd, 1) := by decide +kernel
theorem dL_law_1054 : decode cL_law 1054 = .ok (.iaload, 1) := by decide +kernel
theorem dL_law_1055 : decode cL_law 1055 = .ok (.aload_n 0, 1) := by decide +kernel
theorem dL_law_1056 : decode cL_law 1056 = .ok (.iload_n 3, 1) := by decide +kernel
theorem dL_law_1057 : decode cL_law 1057 = .ok (.iconst 2, 1) := by decide +kernel
theorem dL_law_1058 : decode cL_law 1058 = .ok (.iadd, 1) := by decide +kernel
theorem dL_law_1059 : decode cL_law 1059 = .ok (.iaload, 1) := by decide +kernel
theorem dL_law_1060 : decode cL_law 1060 = .ok (.aload_n 0, 1) := by decide +kernel
theorem dL_law_1061 : decode cL_law 1061 = .ok (.iload_n 3, 1) := by decide +kernel
theorem dL_law_1062 : decode cL_law 1062 = .ok (.iconst 3, 1) := by decide +kernel
theorem dL_law_1063 : decode cL_law 1063 = .ok (.iadd, 1) := by decide +kernel
theorem dL_law_1064 : decode cL_law 1064 = .ok (.iaload, 1) := by decide +kernel
theorem dL_law_1065 : decode cL_law 1065 = .ok (.invokevirtual 97, 3) := by decide +kernel
theorem dL_law_1068 : decode cL_law 1068 = .ok (.if_icmp .eq 573, 3) := by decide +kernel
theorem dL_law_1071 : decode cL_law 1071 = .ok (.iconst 0, 1) := by decide +kernel
theorem dL_law_1072 : decode cL_law 1072 = .ok (.ireturn, 1) := by decide +kernel
theorem dL_law_1073 : decode cL_law 1073 = .ok (.aload_n 1, 1) := by decide +kernel
theorem dL_law_1074 : decode cL_law 1074 = .ok (.aload_n 0, 1) := by decide +kernel
theorem dL_law_1075 : decode cL_law 1075 = .ok (.iload_n 3, 1) := by decide +kernel
theorem dL_law_1076 : decode cL_law 1076 = .ok (.iconst 1, 1) := by decide +kernel
theorem dL_law_1077 : decode cL_law 1077 = .ok (.iadd, 1) := by decide +kernel
theorem dL_law_1078 : decode cL_law 1078 = .ok (.iaload, 1) := by decide +kernel
theorem dL_law_1079 : decode cL_law 1079 = .ok (.aload_n 0, 1) := by decide +kernel
theorem dL_law_1080 : decode cL_law 1080 = .ok (.iload_n 3, 1) := by decide +kernel
theorem dL_law_1081 : decode cL_law 1081 = .ok (.iconst 2, 1) := by decide +kernel
theorem dL_law_1082 : decode cL_law 1082 = .ok (.iadd, 1) := by decide +kernel
theorem dL_law_1083 : decode cL_law 1083 = .ok (.iaload, 1) := by decide +kernel
theorem dL_law_1084 : decode cL_law 1084 = .ok (.aload_n 0, 1) := by decide +kernel
theorem dL_law_1085 : decode cL_law 1085 = .ok (.iload_n 3, 1) := by decide +kernel
theorem dL_law_1086 : decode cL_law 1086 = .ok (.iconst 3, 1) := by decide +kernel
theorem dL_law_1087 : decode cL_law 1087 = .ok (.iadd, 1) := by decide +kernel
theorem dL_law_1088 : decode cL_law 1088 = .ok (.iaload, 1) := by decide +kernel
theorem dL_law_1089 : decode cL_law 1089 = .ok (.invokevirtual 98, 3) := by decide +kernel
theorem dL_law_1092 : decode cL_law 1092 = .ok (.aload_n 2, 1) := by decide +kernel
theorem dL_law_1093 : decode cL_law 1093 = .ok (.aload_n 0, 1) := by decide +kernel
theorem dL_law_1094 : decode cL_law 1094 = .ok (.iload_n 3, 1) := by decide +kernel
theorem dL_law_1095 : decode cL_law 1095 = .ok (.iconst 1, 1) := by decide +kernel
theorem dL_law_1096 : decode cL_law 1096 = .ok (.iadd, 1) := by decide +kernel
theorem dL_law_1097 : decode cL_law 1097 = .ok (.iaload, 1) := by decide +kernel
theorem dL_law_1098 : decode cL_law 1098 = .ok (.aload_n 0, 1) := by decide +kernel
theorem dL_law_1099 : decode cL_law 1099 = .ok (.iload_n 3, 1) := by decide +kernel
theorem dL_law_1100 : decode cL_law 1100 = .ok (.iconst 2, 1) := by decide +kernel
theorem dL_law_1101 : decode cL_law 1101 = .ok (.iadd, 1) := by decide +kernel
theorem dL_law_1102 : decode cL_law 1102 = .ok (.iaload, 1) := by decide +kernel
theorem dL_law_1103 : decode cL_law 1103 = .ok (.aload_n 0, 1) := by decide +kernel
theorem dL_law_1104 : decode cL_law 1104 = .ok (.iload_n 3, 1) := by decide +kernel
theorem dL_law_1105 : decode cL_law 1105 = .ok (.iconst 3, 1) := by decide +kernel
theorem dL_law_1106 : decode cL_law 1106 = .ok (.iadd, 1) := by decide +kernel
theorem dL_law_1107 : decode cL_law 1107 = .ok (.iaload, 1) := by decide +kernel
theorem dL_law_1108 : decode cL_law 1108 = .ok (.invokevirtual 101, 3) := by decide +kernel
theorem dL_law_1111 : decode cL_law 1111 = .ok (.if_icmp .eq 530, 3) := by decide +kernel
theorem dL_law_1114 : decode cL_law 1114 = .ok (.iconst 0, 1) := by decide +kernel
theorem dL_law_1115 : decode cL_law 1115 = .ok (.ireturn, 1) := by decide +kernel
theorem dL_law_1116 : decode cL_law 1116 = .ok (.aload_n 1, 1) := by decide +kernel
theorem dL_law_1117 : decode cL_law 1117 = .ok (.aload_n 0, 1) := by decide +kernel
theorem dL_law_1118 : decode cL_law 1118 = .ok (.iload_n 3, 1) := by decide +kernel
theorem dL_law_1119 : decode cL_law 1119 = .ok (.iconst 1, 1) := by decide +kernel
theorem dL_law_1120 : decode cL_law 1120 = .ok (.iadd, 1) := by decide +kernel
theorem dL_law_1121 : decode cL_law 1121 = .ok (.iaload, 1) := by decide +kernel
theorem dL_law_1122 : decode cL_law 1122 = .ok (.invokevirtual 102, 3) := by decide +kernel
theorem dL_law_1125 : decode cL_law 1125 = .ok (.aload_n 2, 1) := by decide +kernel
theorem dL_law_1126 : decode cL_law 1126 = .ok (.aload_n 0, 1) := by decide +kernel
theorem dL_law_1127 : decode cL_law 1127 = .ok (.iload_n 3, 1) := by decide +kernel
theorem dL_law_1128 : decode cL_law 1128 = .ok (.iconst 1, 1) := by decide +kernel
theorem dL_law_1129 : decode cL_law 1129 = .ok (.iadd, 1) := by decide +kernel
theorem dL_law_1130 : decode cL_law 1130 = .ok (.iaload, 1) := by decide +kernel
theorem dL_law_1131 : decode cL_law 1131 = .ok (.invokevirtual 105, 3) := by decide +kernel
theorem dL_law_1134 : decode cL_law 1134 = .ok (.if_icmp .eq 507, 3) := by decide +kernel
theorem dL_law_1137 : decode cL_law 1137 = .ok (.iconst 0, 1) := by decide +kernel
theorem dL_law_1138 : decode cL_law 1138 = .ok (.ireturn, 1) := by decide +kernel
theorem dL_law_1139 : decode cL_law 1139 = .ok (.aload_n 1, 1) := by decide +kernel
theorem dL_law_1140 : decode cL_law 1140 = .ok (.aload_n 0, 1) := by decide +kernel
theorem dL_law_1141 : decode cL_law 1141 = .ok (.iload_n 3, 1) := by decide +kernel
theorem dL_law_1142 : decode cL_law 1142 = .ok (.iconst 1, 1) := by decide +kernel
theorem dL_law_1143 : decode cL_law 1143 = .ok (.iadd, 1) := by decide +kernel
theorem dL_law_1144 : decode cL_law 1144 = .ok (.iaload, 1) := by decide +kernel
theorem dL_law_1145 : decode cL_law 1145 = .ok (.aload_n 0, 1) := by decide +kernel
theorem dL_law_1146 : decode cL_law 1146 = .ok (.iload_n 3, 1) := by decide +kernel
theorem dL_law_1147 : decode cL_law 1147 = .ok (.iconst 2, 1) := by decide +kernel
theorem dL_law_1148 : decode cL_law 1148 = .ok (.iadd, 1) := by decide +kernel
theorem dL_law_1149 : decode cL_law 1149 = .ok (.iaload, 1) := by decide +kernel
theorem dL_law_1150 : decode cL_law 1150 = .ok (.invokevirtual 106, 3) := by decide +kernel
theorem dL_law_1153 : decode cL_law 1153 = .ok (.aload_n 2, 1) := by decide +kernel
theorem dL_law_1154 : decode cL_law 1154 = .ok (.aload_n 0, 1) := by decide +kernel
theorem dL_law_1155 : decode cL_law 1155 = .ok (.iload_n 3, 1) := by decide +kernel
theorem dL_law_1156 : decode cL_law 1156 = .ok (.iconst 1, 1) := by decide +kernel
theorem dL_law_1157 : decode cL_law 1157 = .ok (.iadd, 1) := by decide +kernel
theorem dL_law_1158 : decode cL_law 1158 = .ok (.iaload, 1) := by decide +kernel
theorem dL_law_1159 : decode cL_law 1159 = .ok (.aload_n 0, 1) := by decide +kernel
theorem dL_law_1160 : decode cL_law 1160 = .ok (.iload_n 3, 1) := by decide +kernel
theorem dL_law_1161 : decode cL_law 1161 = .ok (.iconst 2, 1) := by decide +kernel
theorem dL_law_1162 : decode cL_law 1162 = .ok (.iadd, 1) := by decide +kernel
theorem dL_law_1163 : decode cL_law 1163 = .ok (.iaload, 1) := by decide +kernel
theorem dL_law_1164 : decode cL_law 1164 = .ok (.invokevirtual 109, 3) := by decide +kernel
theorem dL_law_1167 : decode cL_law 1167 = .ok (.if_icmp .eq 474, 3) := by decide +kernel
theorem dL_law_1170 : decode cL_law 1170 = .ok (.iconst 0, 1) := by decide +kernel
theorem dL_law_1171 : decode cL_law 1171 = .ok (.ireturn, 1) := by decide +kernel
theorem dL_law_1172 : decode cL_law 1172 = .ok (.aload_n 1, 1) := by decide +kernel
theorem dL_law_1173 : decode cL_law 1173 = .ok (.aload_n 0, 1) := by decide +kernel
theorem dL_law_1174 : decode cL_law 1174 = .ok (.iload_n 3, 1) := by decide +kernel
theorem dL_law_1175 : decode cL_law 1175 = .ok (.iconst 1, 1) := by decide +kernel
theorem dL_law_1176 : decode cL_law 1176 = .ok (.iadd, 1) := by decide +kernel
theorem dL_law_1177 : decode cL_law 1177 = .ok (.iaload, 1) := by decide +kernel
theorem dL_law_1178 : decode cL_law 1178 = .ok (.aload_n 0, 1) := by decide +kernel
theorem dL_law_1179 : decode cL_law 1179 = .ok (.iload_n 3, 1) := by decide +kernel
theorem dL_law_1180 : decode cL_law 1180 = .ok (.iconst 2, 1) := by decide +kernel
theorem dL_law_1181 : decode cL_law 1181 = .ok (.iadd, 1) := by decide +kernel
theorem dL_law_1182 : decode cL_law 1182 = .ok (.iaload, 1) := by decide +kernel
theorem dL_law_1183 : decode cL_law 1183 = .ok (.invokevirtual 110, 3) := by decide +kernel
theorem dL_law_1186 : decode cL_law 1186 = .ok (.aload_n 2, 1) := by decide +kernel
theorem dL_law_1187 : decode cL_law 1187 = .ok (.aload_n 0, 1) := by decide +kernel
theorem dL_law_1188 : decode cL_law 1188 = .ok (.iload_n 3, 1) := by decide +kernel
theorem dL_law_1189 : decode cL_law 1189 = .ok (.iconst 1, 1) := by decide +kernel
theorem dL_law_1190 : decode cL_law 1190 = .ok (.iadd, 1) := by decide +kernel
theorem dL_law_1191 : decode cL_law 1191 = .ok (.iaload, 1) := by decide +kernel
theorem dL_law_1192 : decode cL_law 1192 = .ok (.aload_n 0, 1) := by decide +kernel
theorem dL_law_1193 : decode cL_law 1193 = .ok (.iload_n 3, 1) := by decide +kernel
theorem dL_law_1194 : decode cL_law 1194 = .ok (.iconst 2, 1) := by decide +kernel
theorem dL_law_1195 : decode cL_law 1195 = .ok (.iadd, 1) := by decide +kernel
theorem dL_law_1196 : decode cL_law 1196 = .ok (.iaload, 1) := by decide +kernel
theorem dL_law_1197 : decode cL_law 1197 = .ok (.invokevirtual 113, 3) := by decide +kernel
theorem dL_law_1200 : decode cL_law 1200 = .ok (.if_icmp .eq 441, 3) := by decide +kernel
theorem dL_law_1203 : decode cL_law 1203 = .ok (.iconst 0, 1) := by decide +kernel
theorem dL_law_1204 : decode cL_law 1204 = .ok (.ireturn, 1) := by decide +kernel
theorem dL_law_1205 : decode cL_law 1205 = .ok (.aload_n 1, 1) := by decide +kernel
theorem dL_law_1206 : decode cL_law 1206 = .ok (.aload_n 0, 1) := by decide +kernel
theorem dL_law_1207 : decode cL_law 1207 = .ok (.iload_n 3, 1) := by decide +kernel
theorem dL_law_1208 : decode cL_law 1208 = .ok (.iconst 1, 1) := by decide +kernel
theorem dL_law_1209 : decode cL_law 1209 = .ok (.iadd, 1) := by decide +kernel
theorem dL_law_1210 : decode cL_law 1210 = .ok (.iaload, 1) := by decide +kernel
theorem dL_law_1211 : decode cL_law 1211 = .ok (.invokevirtual 114, 3) := by decide +kernel
theorem dL_law_1214 : decode cL_law 1214 = .ok (.aload_n 2, 1) := by decide +kernel
theorem dL_law_1215 : decode cL_law 1215 = .ok (.aload_n 0, 1) := by decide +kernel
theorem dL_law_1216 : decode cL_law 1216 = .ok (.iload_n 3, 1) := by decide +kernel
theorem dL_law_1217 : decode cL_law 1217 = .ok (.iconst 1, 1) := by decide +kernel
theorem dL_law_1218 : decode cL_law 1218 = .ok (.iadd, 1) := by decide +kernel
theorem dL_law_1219 : decode cL_law 1219 = .ok (.iaload, 1) := by decide +kernel
theorem dL_law_1220 : decode cL_law 1220 = .ok (.invokevirtual 117, 3) := by decide +kernel
theorem dL_law_1223 : decode cL_law 1223 = .ok (.if_icmp .eq 418, 3) := by decide +kernel
theorem dL_law_1226 : decode cL_law 1226 = .ok (.iconst 0, 1) := by decide +kernel
theorem dL_law_1227 : decode cL_law 1227 = .ok (.ireturn, 1) := by decide +kernel
theorem dL_law_1228 : decode cL_law 1228 = .ok (.aload_n 1, 1) := by decide +kernel
theorem dL_law_1229 : decode cL_law 1229 = .ok (.aload_n 0, 1) := by decide +kernel
theorem dL_law_1230 : decode cL_law 1230 = .ok (.iload_n 3, 1) := by decide +kernel
theorem dL_law_1231 : decode cL_law 1231 = .ok (.iconst 1, 1) := by decide +kernel
theorem dL_law_1232 : decode cL_law 1232 = .ok (.iadd, 1) := by decide +kernel
theorem dL_law_1233 : decode cL_law 1233 = .ok (.iaload, 1) := by decide +kernel
theorem dL_law_1234 : decode cL_law 1234 = .ok (.aload_n 0, 1) := by decide +kernel
theorem dL_law_1235 : decode cL_law 1235 = .ok (.iload_n 3, 1) := by decide +kernel
theorem dL_law_1236 : decode cL_law 1236 = .ok (.iconst 2, 1) := by decide +kernel
theorem dL_law_1237 : decode cL_law 1237 = .ok (.iadd, 1) := by decide +kernel
theorem dL_law_1238 : decode cL_law 1238 = .ok (.iaload, 1) := by decide +kernel
theorem dL_law_1239 : decode cL_law 1239 = .ok (.invokevirtual 118, 3) := by decide +kernel
theorem dL_law_1242 : decode cL_law 1242 = .ok (.aload_n 2, 1) := by decide +kernel
theorem dL_law_1243 : decode cL_law 1243 = .ok (.aload_n 0, 1) := by decide +kernel
theorem dL_law_1244 : decode cL_law 1244 = .ok (.iload_n 3, 1) := by decide +kernel
theorem dL_law_1245 : decode cL_law 1245 = .ok (.iconst 1, 1) := by decide +kernel
theorem dL_law_1246 : decode cL_law 1246 = .ok (.iadd, 1) := by decide +kernel
theorem dL_law_1247 : decode cL_law 1247 = .ok (.iaload, 1) := by decide +kernel
theorem dL_law_1248 : decode cL_law 1248 = .ok (.aload_n 0, 1) := by decide +kernel
theorem dL_law_1249 : decode cL_law 1249 = .ok (.iload_n 3, 1) := by decide +kernel
theorem dL_law_1250 : decode cL_law 1250 = .ok (.iconst 2, 1) := by decide +kernel
theorem dL_law_1251 : decode cL_law 1251 = .ok (.iadd, 1) := by decide +kernel
theorem dL_law_1252 : decode cL_law 1252 = .ok (.iaload, 1) := by decide +kernel
theorem dL_law_1253 : decode cL_law 1253 = .ok (.invokevirtual 121, 3) := by decide +kernel
theorem dL_law_1256 : decode cL_law 1256 = .ok (.if_icmp .eq 385, 3) := by decide +kernel
theorem dL_law_1259 : decode cL_law 1259 = .ok (.iconst 0, 1) := by decide +kernel
theorem dL_law_1260 : decode cL_law 1260 = .ok (.ireturn, 1) := by decide +kernel
end
section
theorem dL_law_1261 : decode cL_law 1261 = .ok (.aload_n 1, 1) := by decide +kernel
theorem dL_law_1262 : decode cL_law 1262 = .ok (.aload_n 0, 1) := by decide +kernel
theorem dL_law_1263 : decode cL_law 1263 = .ok (.iload_n 3, 1) := by decide +kernel
theorem dL_law_1264 : decode cL_law 1264 = .ok (.iconst 1, 1) := by decide +kernel
theorem dL_law_1265 : decode cL_law 1265 = .ok (.iadd, 1) := by decide +kernel
theorem dL_law_1266 : decode cL_law 1266 = .ok (.iaload, 1) := by decide +kernel
theorem dL_law_1267 : decode cL_law 1267 = .ok (.aload_n 0, 1) := by decide +kernel
theorem dL_law_1268 : decode cL_law 1268 = .ok (.iload_n 3, 1) := by decide +kernel
theorem dL_law_1269 : decode cL_law 1269 = .ok (.iconst 2, 1) := by decide +kernel
theorem dL_law_1270 : decode cL_law 1270 = .ok (.iadd, 1) := by decide +kernel
theorem dL_law_1271 : decode cL_law 1271 = .ok (.iaload, 1) := by decide +kernel
theorem dL_law_1272 : decode cL_law 1272 = .ok (.invokevirtual 122, 3) := by decide +kernel
theorem dL_law_1275 : decode cL_law 1275 = .ok (.aload_n 2, 1) := by decide +kernel
theorem dL_law_1276 : decode cL_law 1276 = .ok (.aload_n 0, 1) := by decide +kernel
theorem dL_law_1277 : decode cL_law 1277 = .ok (.iload_n 3, 1) := by decide +kernel
theorem dL_law_1278 : decode cL_law 1278 = .ok (.iconst 1, 1) := by decide +kernel
theorem dL_law_1279 : decode cL_law 1279 = .ok (.iadd, 1) := by decide +kernel
theorem dL_law_1280 : decode cL_law 1280 = .ok (.iaload, 1) := by decide +kernel
theorem dL_law_1281 : decode cL_law 1281 = .ok (.aload_n 0, 1) := by decide +kernel
theorem dL_law_1282 : decode cL_law 1282 = .ok (.iload_n 3, 1) := by decide +kernel
theorem dL_law_1283 : decode cL_law 1283 = .ok (.iconst 2, 1) := by decide +kernel
theorem dL_law_1284 : decode cL_law 1284 = .ok (.iadd, 1) := by decide +kernel
theorem dL_law_1285 : decode cL_law 1285 = .ok (.iaload, 1) := by decide +kernel
theorem dL_law_1286 : decode cL_law 1286 = .ok (.invokevirtual 125, 3) := by decide +kernel
theorem dL_law_1289 : decode cL_law 1289 = .ok (.if_icmp .eq 352, 3) := by decide +kernel
theorem dL_law_1292 : decode cL_law 1292 = .ok (.iconst 0, 1) := by decide +kernel
theorem dL_law_1293 : decode cL_law 1293 = .ok (.ireturn, 1) := by decide +kernel
theorem dL_law_1294 : decode cL_law 1294 = .ok (.aload_n 1, 1) := by decide +kernel
theorem dL_law_1295 : decode cL_law 1295 = .ok (.aload_n 0, 1) := by decide +kernel
theorem dL_law_1296 : decode cL_law 1296 = .ok (.iload_n 3, 1) := by decide +kernel
theorem dL_law_1297 : decode cL_law 1297 = .ok (.iconst 1, 1) := by decide +kernel
theorem dL_law_1298 : decode cL_law 1298 = .ok (.iadd, 1) := by decide +kernel
theorem dL_law_1299 : decode cL_law 1299 = .ok (.iaload, 1) := by decide +kernel
theorem dL_law_1300 : decode cL_law 1300 = .ok (.aload_n 0, 1) := by decide +kernel
theorem dL_law_1301 : decode cL_law 1301 = .ok (.iload_n 3, 1) := by decide +kernel
theorem dL_law_1302 : decode cL_law 1302 = .ok (.iconst 2, 1) := by decide +kernel
theorem dL_law_1303 : decode cL_law 1303 = .ok (.iadd, 1) := by decide +kernel
theorem dL_law_1304 : decode cL_law 1304 = .ok (.iaload, 1) := by decide +kernel
theorem dL_law_1305 : decode cL_law 1305 = .ok (.invokevirtual 126, 3) := by decide +kernel
theorem dL_law_1308 : decode cL_law 1308 = .ok (.aload_n 2, 1) := by decide +kernel
theorem dL_law_1309 : decode cL_law 1309 = .ok (.aload_n 0, 1) := by decide +kernel
theorem dL_law_1310 : decode cL_law 1310 = .ok (.iload_n 3, 1) := by decide +kernel
theorem dL_law_1311 : decode cL_law 1311 = .ok (.iconst 1, 1) := by decide +kernel
theorem dL_law_1312 : decode cL_law 1312 = .ok (.iadd, 1) := by decide +kernel
theorem dL_law_1313 : decode cL_law 1313 = .ok (.iaload, 1) := by decide +kernel
theorem dL_law_1314 : decode cL_law 1314 = .ok (.aload_n 0, 1) := by decide +kernel
theorem dL_law_1315 : decode cL_law 1315 = .ok (.iload_n 3, 1) := by decide +kernel
theorem dL_law_1316 : decode cL_law 1316 = .ok (.iconst 2, 1) := by decide +kernel
theorem dL_law_1317 : decode cL_law 1317 = .ok (.iadd, 1) := by decide +kernel
theorem dL_law_1318 : decode cL_law 1318 = .ok (.iaload, 1) := by decide +kernel
theorem dL_law_1319 : decode cL_law 1319 = .ok (.invokevirtual 129, 3) := by decide +kernel
theorem dL_law_1322 : decode cL_law 1322 = .ok (.if_icmp .eq 319, 3) := by decide +kernel
theorem dL_law_1325 : decode cL_law 1325 = .ok (.iconst 0, 1) := by decide +kernel
theorem dL_law_1326 : decode cL_law 1326 = .ok (.ireturn, 1) := by decide +kernel
theorem dL_law_1327 : decode cL_law 1327 = .ok (.aload_n 1, 1) := by decide +kernel
theorem dL_law_1328 : decode cL_law 1328 = .ok (.aload_n 0, 1) := by decide +kernel
theorem dL_law_1329 : decode cL_law 1329 = .ok (.iload_n 3, 1) := by decide +kernel
theorem dL_law_1330 : decode cL_law 1330 = .ok (.iconst 1, 1) := by decide +kernel
theorem dL_law_1331 : decode cL_law 1331 = .ok (.iadd, 1) := by decide +kernel
theorem dL_law_1332 : decode cL_law 1332 = .ok (.iaload, 1) := by decide +kernel
theorem dL_law_1333 : decode cL_law 1333 = .ok (.aload_n 0, 1) := by decide +kernel
theorem dL_law_1334 : decode cL_law 1334 = .ok (.iload_n 3, 1) := by decide +kernel
theorem dL_law_1335 : decode cL_law 1335 = .ok (.iconst 2, 1) := by decide +kernel
theorem dL_law_1336 : decode cL_law 1336 = .ok (.iadd, 1) := by decide +kernel
theorem dL_law_1337 : decode cL_law 1337 = .ok (.iaload, 1) := by decide +kernel
theorem dL_law_1338 : decode cL_law 1338 = .ok (.invokevirtual 130, 3) := by decide +kernel
theorem dL_law_1341 : decode cL_law 1341 = .ok (.aload_n 2, 1) := by decide +kernel
theorem dL_law_1342 : decode cL_law 1342 = .ok (.aload_n 0, 1) := by decide +kernel
theorem dL_law_1343 : decode cL_law 1343 = .ok (.iload_n 3, 1) := by decide +kernel
theorem dL_law_1344 : decode cL_law 1344 = .ok (.iconst 1, 1) := by decide +kernel
theorem dL_law_1345 : decode cL_law 1345 = .ok (.iadd, 1) := by decide +kernel
theorem dL_law_1346 : decode cL_law 1346 = .ok (.iaload, 1) := by decide +kernel
theorem dL_law_1347 : decode cL_law 1347 = .ok (.aload_n 0, 1) := by decide +kernel
theorem dL_law_1348 : decode cL_law 1348 = .ok (.iload_n 3, 1) := by decide +kernel
theorem dL_law_1349 : decode cL_law 1349 = .ok (.iconst 2, 1) := by decide +kernel
theorem dL_law_1350 : decode cL_law 1350 = .ok (.iadd, 1) := by decide +kernel
theorem dL_law_1351 : decode cL_law 1351 = .ok (.iaload, 1) := by decide +kernel
theorem dL_law_1352 : decode cL_law 1352 = .ok (.invokevirtual 133, 3) := by decide +kernel
theorem dL_law_1355 : decode cL_law 1355 = .ok (.if_icmp .eq 286, 3) := by decide +kernel
theorem dL_law_1358 : decode cL_law 1358 = .ok (.iconst 0, 1) := by decide +kernel
theorem dL_law_1359 : decode cL_law 1359 = .ok (.ireturn, 1) := by decide +kernel
theorem dL_law_1360 : decode cL_law 1360 = .ok (.aload_n 1, 1) := by decide +kernel
theorem dL_law_1361 : decode cL_law 1361 = .ok (.aload_n 0, 1) := by decide +kernel
theorem dL_law_1362 : decode cL_law 1362 = .ok (.iload_n 3, 1) := by decide +kernel
theorem dL_law_1363 : decode cL_law 1363 = .ok (.iconst 1, 1) := by decide +kernel
theorem dL_law_1364 : decode cL_law 1364 = .ok (.iadd, 1) := by decide +kernel
theorem dL_law_1365 : decode cL_law 1365 = .ok (.iaload, 1) := by decide +kernel
theorem dL_law_1366 : decode cL_law 1366 = .ok (.aload_n 0, 1) := by decide +kernel
theorem dL_law_1367 : decode cL_law 1367 = .ok (.iload_n 3, 1) := by decide +kernel
theorem dL_law_1368 : decode cL_law 1368 = .ok (.iconst 2, 1) := by decide +kernel
theorem dL_law_1369 : decode cL_law 1369 = .ok (.iadd, 1) := by decide +kernel
theorem dL_law_1370 : decode cL_law 1370 = .ok (.iaload, 1) := by decide +kernel
theorem dL_law_1371 : decode cL_law 1371 = .ok (.aload_n 0, 1) := by decide +kernel
theorem dL_law_1372 : decode cL_law 1372 = .ok (.iload_n 3, 1) := by decide +kernel
theorem dL_law_1373 : decode cL_law 1373 = .ok (.iconst 3, 1) := by decide +kernel
theorem dL_law_1374 : decode cL_law 1374 = .ok (.iadd, 1) := by decide +kernel
theorem dL_law_1375 : decode cL_law 1375 = .ok (.iaload, 1) := by decide +kernel
theorem dL_law_1376 : decode cL_law 1376 = .ok (.invokevirtual 134, 3) := by decide +kernel
theorem dL_law_1379 : decode cL_law 1379 = .ok (.aload_n 2, 1) := by decide +kernel
theorem dL_law_1380 : decode cL_law 1380 = .ok (.aload_n 0, 1) := by decide +kernel
theorem dL_law_1381 : decode cL_law 1381 = .ok (.iload_n 3, 1) := by decide +kernel
theorem dL_law_1382 : decode cL_law 1382 = .ok (.iconst 1, 1) := by decide +kernel
theorem dL_law_1383 : decode cL_law 1383 = .ok (.iadd, 1) := by decide +kernel
theorem dL_law_1384 : decode cL_law 1384 = .ok (.iaload, 1) := by decide +kernel
theorem dL_law_1385 : decode cL_law 1385 = .ok (.aload_n 0, 1) := by decide +kernel
theorem dL_law_1386 : decode cL_law 1386 = .ok (.iload_n 3, 1) := by decide +kernel
theorem dL_law_1387 : decode cL_law 1387 = .ok (.iconst 2, 1) := by decide +kernel
theorem dL_law_1388 : decode cL_law 1388 = .ok (.iadd, 1) := by decide +kernel
theorem dL_law_1389 : decode cL_law 1389 = .ok (.iaload, 1) := by decide +kernel
theorem dL_law_1390 : decode cL_law 1390 = .ok (.aload_n 0, 1) := by decide +kernel
theorem dL_law_1391 : decode cL_law 1391 = .ok (.iload_n 3, 1) := by decide +kernel
theorem dL_law_1392 : decode cL_law 1392 = .ok (.iconst 3, 1) := by decide +kernel
theorem dL_law_1393 : decode cL_law 1393 = .ok (.iadd, 1) := by decide +kernel
theorem dL_law_1394 : decode cL_law 1394 = .ok (.iaload, 1) := by decide +kernel
theorem dL_law_1395 : decode cL_law 1395 = .ok (.invokevirtual 137, 3) := by decide +kernel
theorem dL_law_1398 : decode cL_law 1398 = .ok (.if_icmp .eq 243, 3) := by decide +kernel
theorem dL_law_1401 : decode cL_law 1401 = .ok (.iconst 0, 1) := by decide +kernel
theorem dL_law_1402 : decode cL_law 1402 = .ok (.ireturn, 1) := by decide +kernel
theorem dL_law_1403 : decode cL_law 1403 = .ok (.aload_n 1, 1) := by decide +kernel
theorem dL_law_1404 : decode cL_law 1404 = .ok (.aload_n 0, 1) := by decide +kernel
theorem dL_law_1405 : decode cL_law 1405 = .ok (.iload_n 3, 1) := by decide +kernel
theorem dL_law_1406 : decode cL_law 1406 = .ok (.iconst 1, 1) := by decide +kernel
theorem dL_law_1407 : decode cL_law 1407 = .ok (.iadd, 1) := by decide +kernel
theorem dL_law_1408 : decode cL_law 1408 = .ok (.iaload, 1) := by decide +kernel
theorem dL_law_1409 : decode cL_law 1409 = .ok (.invokevirtual 138, 3) := by decide +kernel
theorem dL_law_1412 : decode cL_law 1412 = .ok (.aload_n 2, 1) := by decide +kernel
theorem dL_law_1413 : decode cL_law 1413 = .ok (.aload_n 0, 1) := by decide +kernel
theorem dL_law_1414 : decode cL_law 1414 = .ok (.iload_n 3, 1) := by decide +kernel
theorem dL_law_1415 : decode cL_law 1415 = .ok (.iconst 1, 1) := by decide +kernel
theorem dL_law_1416 : decode cL_law 1416 = .ok (.iadd, 1) := by decide +kernel
theorem dL_law_1417 : decode cL_law 1417 = .ok (.iaload, 1) := by decide +kernel
theorem dL_law_1418 : decode cL_law 1418 = .ok (.invokevirtual 141, 3) := by decide +kernel
theorem dL_law_1421 : decode cL_law 1421 = .ok (.if_icmp .eq 220, 3) := by decide +kernel
theorem dL_law_1424 : decode cL_law 1424 = .ok (.iconst 0, 1) := by decide +kernel
theorem dL_law_1425 : decode cL_law 1425 = .ok (.ireturn, 1) := by decide +kernel
theorem dL_law_1426 : decode cL_law 1426 = .ok (.aload_n 1, 1) := by decide +kernel
theorem dL_law_1427 : decode cL_law 1427 = .ok (.aload_n 0, 1) := by decide +kernel
theorem dL_law_1428 : decode cL_law 1428 = .ok (.iload_n 3, 1) := by decide +kernel
theorem dL_law_1429 : decode cL_law 1429 = .ok (.iconst 1, 1) := by decide +kernel
theorem dL_law_1430 : decode cL_law 1430 = .ok (.iadd, 1) := by decide +kernel
theorem dL_law_1431 : decode cL_law 1431 = .ok (.iaload, 1) := by decide +kernel
theorem dL_law_1432 : decode cL_law 1432 = .ok (.aload_n 0, 1) := by decide +kernel
theorem dL_law_1433 : decode cL_law 1433 = .ok (.iload_n 3, 1) := by decide +kernel
theorem dL_law_1434 : decode cL_law 1434 = .ok (.iconst 2, 1) := by decide +kernel
theorem dL_law_1435 : decode cL_law 1435 = .ok (.iadd, 1) := by decide +kernel
theorem dL_law_1436 : decode cL_law 1436 = .ok (.iaload, 1) := by decide +kernel
theorem dL_law_1437 : decode cL_law 1437 = .ok (.aload_n 0, 1) := by decide +kernel
theorem dL_law_1438 : decode cL_law 1438 = .ok (.iload_n 3, 1) := by decide +kernel
theorem dL_law_1439 : decode cL_law 1439 = .ok (.iconst 3, 1) := by decide +kernel
theorem dL_law_1440 : decode cL_law 1440 = .ok (.iadd, 1) := by decide +kernel
theorem dL_law_1441 : decode cL_law 1441 = .ok (.iaload, 1) := by decide +kernel
theorem dL_law_1442 : decode cL_law 1442 = .ok (.invokevirtual 142, 3) := by decide +kernel
theorem dL_law_1445 : decode cL_law 1445 = .ok (.aload_n 2, 1) := by decide +kernel
theorem dL_law_1446 : decode cL_law 1446 = .ok (.aload_n 0, 1) := by decide +kernel
theorem dL_law_1447 : decode cL_law 1447 = .ok (.iload_n 3, 1) := by decide +kernel
theorem dL_law_1448 : decode cL_law 1448 = .ok (.iconst 1, 1) := by decide +kernel
theorem dL_law_1449 : decode cL_law 1449 = .ok (.iadd, 1) := by decide +kernel
theorem dL_law_1450 : decode cL_law 1450 = .ok (.iaload, 1) := by decide +kernel
theorem dL_law_1451 : decode cL_law 1451 = .ok (.aload_n 0, 1) := by decide +kernel
theorem dL_law_1452 : decode cL_law 1452 = .ok (.iload_n 3, 1) := by decide +kernel
theorem dL_law_1453 : decode cL_law 1453 = .ok (.iconst 2, 1) := by decide +kernel
theorem dL_law_1454 : decode cL_law 1454 = .ok (.iadd, 1) := by decide +kernel
theorem dL_law_1455 : decode cL_law 1455 = .ok (.iaload, 1) := by decide +kernel
theorem dL_law_1456 : decode cL_law 1456 = .ok (.aload_n 0, 1) := by decide +kernel
theorem dL_law_1457 : decode cL_law 1457 = .ok (.iload_n 3, 1) := by decide +kernel
theorem dL_law_1458 : decode cL_law 1458 = .ok (.iconst 3, 1) := by decide +kernel
theorem dL_law_1459 : decode cL_law 1459 = .ok (.iadd, 1) := by decide +kernel
theorem dL_law_1460 : decode cL_law 1460 = .ok (.iaload, 1) := by decide +kernel
theorem dL_law_1461 : decode cL_law 1461 = .ok (.invokevirtual 145, 3) := by decide +kernel
theorem dL_law_1464 : decode cL_law 1464 = .ok (.if_icmp .eq 177, 3) := by decide +kernel
theorem dL_law_1467 : decode cL_law 1467 = .ok (.iconst 0, 1) := by decide +kernel
theorem dL_law_1468 : decode cL_law 1468 = .ok (.ireturn, 1) := by decide +kernel
theorem dL_law_1469 : decode cL_law 1469 = .ok (.aload_n 1, 1) := by decide +kernel
theorem dL_law_1470 : decode cL_law 1470 = .ok (.aload_n 0, 1) := by decide +kernel
theorem dL_law_1471 : decode cL_law 1471 = .ok (.iload_n 3, 1) := by decide +kernel
theorem dL_law_1472 : decode cL_law 1472 = .ok (.iconst 1, 1) := by decide +kernel
theorem dL_law_1473 : decode cL_law 1473 = .ok (.iadd, 1) := by decide +kernel
theorem dL_law_1474 : decode cL_law 1474 = .ok (.iaload, 1) := by decide +kernel
theorem dL_law_1475 : decode cL_law 1475 = .ok (.aload_n 0, 1) := by decide +kernel
theorem dL_law_1476 : decode cL_law 1476 = .ok (.iload_n 3, 1) := by decide +kernel
theorem dL_law_1477 : decode cL_law 1477 = .ok (.iconst 2, 1) := by decide +kernel
theorem dL_law_1478 : decode cL_law 1478 = .ok (.iadd, 1) := by decide +kernel
theorem dL_law_1479 : decode cL_law 1479 = .ok (.iaload, 1) := by decide +kernel
theorem dL_law_1480 : decode cL_law 1480 = .ok (.aload_n 0, 1) := by decide +kernel
theorem dL_law_1481 : decode cL_law 1481 = .ok (.iload_n 3, 1) := by decide +kernel
theorem dL_law_1482 : decode cL_law 1482 = .ok (.iconst 3, 1) := by decide +kernel
theorem dL_law_1483 : decode cL_law 1483 = .ok (.iadd, 1) := by decide +kernel
theorem dL_law_1484 : decode cL_law 1484 = .ok (.iaload, 1) := by decide +kernel
theorem dL_law_1485 : decode cL_law 1485 = .ok (.invokevirtual 146, 3) := by decide +kernel
theorem dL_law_1488 : decode cL_law 1488 = .ok (.aload_n 2, 1) := by decide +kernel
theorem dL_law_1489 : decode cL_law 1489 = .ok (.aload_n 0, 1) := by decide +kernel
theorem dL_law_1490 : decode cL_law 1490 = .ok (.iload_n 3, 1) := by decide +kernel
theorem dL_law_1491 : decode cL_law 1491 = .ok (.iconst 1, 1) := by decide +kernel
theorem dL_law_1492 : decode cL_law 1492 = .ok (.iadd, 1) := by decide +kernel
theorem dL_law_1493 : decode cL_law 1493 = .ok (.iaload, 1) := by decide +kernel
theorem dL_law_1494 : decode cL_law 1494 = .ok (.aload_n 0, 1) := by decide +kernel
theorem dL_law_1495 : decode cL_law 1495 = .ok (.iload_n 3, 1) := by decide +kernel
theorem dL_law_1496 : decode cL_law 1496 = .ok (.iconst 2, 1) := by decide +kernel
theorem dL_law_1497 : decode cL_law 1497 = .ok (.iadd, 1) := by decide +kernel
theorem dL_law_1498 : decode cL_law 1498 = .ok (.iaload, 1) := by decide +kernel
theorem dL_law_1499 : decode cL_law 1499 = .ok (.aload_n 0, 1) := by decide +kernel
theorem dL_law_1500 : decode cL_law 1500 = .ok (.iload_n 3, 1) := by decide +kernel
theorem dL_law_1501 : decode cL_law 1501 = .ok (.iconst 3, 1) := by decide +kernel
theorem dL_law_1502 : decode cL_law 1502 = .ok (.iadd, 1) := by decide +kernel
theorem dL_law_1503 : decode cL_law 1503 = .ok (.iaload, 1) := by decide +kernel
theorem dL_law_1504 : decode cL_law 1504 = .ok (.invokevirtual 150, 3) := by decide +kernel
theorem dL_law_1507 : decode cL_law 1507 = .ok (.lcmp, 1) := by decide +kernel
theorem dL_law_1508 : decode cL_law 1508 = .ok (.ifCond .eq 133, 3) := by decide +kernel
theorem dL_law_1511 : decode cL_law 1511 = .ok (.iconst 0, 1) := by decide +kernel
theorem dL_law_1512 : decode cL_law 1512 = .ok (.ireturn, 1) := by decide +kernel
theorem dL_law_1513 : decode cL_law 1513 = .ok (.aload_n 1, 1) := by decide +kernel
theorem dL_law_1514 : decode cL_law 1514 = .ok (.aload_n 0, 1) := by decide +kernel
theorem dL_law_1515 : decode cL_law 1515 = .ok (.iload_n 3, 1) := by decide +kernel
theorem dL_law_1516 : decode cL_law 1516 = .ok (.iconst 1, 1) := by decide +kernel
theorem dL_law_1517 : decode cL_law 1517 = .ok (.iadd, 1) := by decide +kernel
theorem dL_law_1518 : decode cL_law 1518 = .ok (.iaload, 1) := by decide +kernel
theorem dL_law_1519 : decode cL_law 1519 = .ok (.invokevirtual 151, 3) := by decide +kernel
theorem dL_law_1522 : decode cL_law 1522 = .ok (.aload_n 2, 1) := by decide +kernel
theorem dL_law_1523 : decode cL_law 1523 = .ok (.aload_n 0, 1) := by decide +kernel
theorem dL_law_1524 : decode cL_law 1524 = .ok (.iload_n 3, 1) := by decide +kernel
theorem dL_law_1525 : decode cL_law 1525 = .ok (.iconst 1, 1) := by decide +kernel
theorem dL_law_1526 : decode cL_law 1526 = .ok (.iadd, 1) := by decide +kernel
theorem dL_law_1527 : decode cL_law 1527 = .ok (.iaload, 1) := by decide +kernel
theorem dL_law_1528 : decode cL_law 1528 = .ok (.invokevirtual 154, 3) := by decide +kernel
theorem dL_law_1531 : decode cL_law 1531 = .ok (.if_icmp .eq 110, 3) := by decide +kernel
theorem dL_law_1534 : decode cL_law 1534 = .ok (.iconst 0, 1) := by decide +kernel
theorem dL_law_1535 : decode cL_law 1535 = .ok (.ireturn, 1) := by decide +kernel
theorem dL_law_1536 : decode cL_law 1536 = .ok (.aload_n 1, 1) := by decide +kernel
theorem dL_law_1537 : decode cL_law 1537 = .ok (.aload_n 0, 1) := by decide +kernel
theorem dL_law_1538 : decode cL_law 1538 = .ok (.iload_n 3, 1) := by decide +kernel
theorem dL_law_1539 : decode cL_law 1539 = .ok (.iconst 1, 1) := by decide +kernel
theorem dL_law_1540 : decode cL_law 1540 = .ok (.iadd, 1) := by decide +kernel
theorem dL_law_1541 : decode cL_law 1541 = .ok (.iaload, 1) := by decide +kernel
theorem dL_law_1542 : decode cL_law 1542 = .ok (.invokevirtual 155, 3) := by decide +kernel
theorem dL_law_1545 : decode cL_law 1545 = .ok (.aload_n 2, 1) := by decide +kernel
theorem dL_law_1546 : decode cL_law 1546 = .ok (.aload_n 0, 1) := by decide +kernel
theorem dL_law_1547 : decode cL_law 1547 = .ok (.iload_n 3, 1) := by decide +kernel
theorem dL_law_1548 : decode cL_law 1548 = .ok (.iconst 1, 1) := by decide +kernel
theorem dL_law_1549 : decode cL_law 1549 = .ok (.iadd, 1) := by decide +kernel
theorem dL_law_1550 : decode cL_law 1550 = .ok (.iaload, 1) := by decide +kernel
theorem dL_law_1551 : decode cL_law 1551 = .ok (.invokevirtual 158, 3) := by decide +kernel
theorem dL_law_1554 : decode cL_law 1554 = .ok (.if_icmp .eq 87, 3) := by decide +kernel
theorem dL_law_1557 : decode cL_law 1557 = .ok (.iconst 0, 1) := by decide +kernel
theorem dL_law_1558 : decode cL_law 1558 = .ok (.ireturn, 1) := by decide +kernel
theorem dL_law_1559 : decode cL_law 1559 = .ok (.aload_n 1, 1) := by decide +kernel
theorem dL_law_1560 : decode cL_law 1560 = .ok (.aload_n 0, 1) := by decide +kernel
theorem dL_law_1561 : decode cL_law 1561 = .ok (.iload_n 3, 1) := by decide +kernel
theorem dL_law_1562 : decode cL_law 1562 = .ok (.iconst 1, 1) := by decide +kernel
theorem dL_law_1563 : decode cL_law 1563 = .ok (.iadd, 1) := by decide +kernel
theorem dL_law_1564 : decode cL_law 1564 = .ok (.iaload, 1) := by decide +kernel
theorem dL_law_1565 : decode cL_law 1565 = .ok (.aload_n 0, 1) := by decide +kernel
theorem dL_law_1566 : decode cL_law 1566 = .ok (.iload_n 3, 1) := by decide +kernel
theorem dL_law_1567 : decode cL_law 1567 = .ok (.iconst 2, 1) := by decide +kernel
theorem dL_law_1568 : decode cL_law 1568 = .ok (.iadd, 1) := by decide +kernel
theorem dL_law_1569 : decode cL_law 1569 = .ok (.iaload, 1) := by decide +kernel
theorem dL_law_1570 : decode cL_law 1570 = .ok (.invokevirtual 159, 3) := by decide +kernel
theorem dL_law_1573 : decode cL_law 1573 = .ok (.aload_n 2, 1) := by decide +kernel
theorem dL_law_1574 : decode cL_law 1574 = .ok (.aload_n 0, 1) := by decide +kernel
theorem dL_law_1575 : decode cL_law 1575 = .ok (.iload_n 3, 1) := by decide +kernel
theorem dL_law_1576 : decode cL_law 1576 = .ok (.iconst 1, 1) := by decide +kernel
theorem dL_law_1577 : decode cL_law 1577 = .ok (.iadd, 1) := by decide +kernel
theorem dL_law_1578 : decode cL_law 1578 = .ok (.iaload, 1) := by decide +kernel
theorem dL_law_1579 : decode cL_law 1579 = .ok (.aload_n 0, 1) := by decide +kernel
theorem dL_law_1580 : decode cL_law 1580 = .ok (.iload_n 3, 1) := by decide +kernel
theorem dL_law_1581 : decode cL_law 1581 = .ok (.iconst 2, 1) := by decide +kernel
theorem dL_law_1582 : decode cL_law 1582 = .ok (.iadd, 1) := by decide +kernel
theorem dL_law_1583 : decode cL_law 1583 = .ok (.iaload, 1) := by decide +kernel
theorem dL_law_1584 : decode cL_law 1584 = .ok (.invokevirtual 162, 3) := by decide +kernel
theorem dL_law_1587 : decode cL_law 1587 = .ok (.if_icmp .eq 54, 3) := by decide +kernel
theorem dL_law_1590 : decode cL_law 1590 = .ok (.iconst 0, 1) := by decide +kernel
theorem dL_law_1591 : decode cL_law 1591 = .ok (.ireturn, 1) := by decide +kernel
theorem dL_law_1592 : decode cL_law 1592 = .ok (.aload_n 1, 1) := by decide +kernel
theorem dL_law_1593 : decode cL_law 1593 = .ok (.invokevirtual 163, 3) := by decide +kernel
theorem dL_law_1596 : decode cL_law 1596 = .ok (.aload_n 2, 1) := by decide +kernel
theorem dL_law_1597 : decode cL_law 1597 = .ok (.invokevirtual 166, 3) := by decide +kernel
theorem dL_law_1600 : decode cL_law 1600 = .ok (.if_icmp .eq 41, 3) := by decide +kernel
theorem dL_law_1603 : decode cL_law 1603 = .ok (.iconst 0, 1) := by decide +kernel
theorem dL_law_1604 : decode cL_law 1604 = .ok (.ireturn, 1) := by decide +kernel
theorem dL_law_1605 : decode cL_law 1605 = .ok (.aload_n 1, 1) := by decide +kernel
theorem dL_law_1606 : decode cL_law 1606 = .ok (.invokevirtual 167, 3) := by decide +kernel
theorem dL_law_1609 : decode cL_law 1609 = .ok (.aload_n 2, 1) := by decide +kernel
theorem dL_law_1610 : decode cL_law 1610 = .ok (.invokevirtual 170, 3) := by decide +kernel
theorem dL_law_1613 : decode cL_law 1613 = .ok (.if_icmp .eq 28, 3) := by decide +kernel
theorem dL_law_1616 : decode cL_law 1616 = .ok (.iconst 0, 1) := by decide +kernel
theorem dL_law_1617 : decode cL_law 1617 = .ok (.ireturn, 1) := by decide +kernel
theorem dL_law_1618 : decode cL_law 1618 = .ok (.aload_n 1, 1) := by decide +kernel
theorem dL_law_1619 : decode cL_law 1619 = .ok (.aload_n 0, 1) := by decide +kernel
theorem dL_law_1620 : decode cL_law 1620 = .ok (.iload_n 3, 1) := by decide +kernel
theorem dL_law_1621 : decode cL_law 1621 = .ok (.iconst 1, 1) := by decide +kernel
theorem dL_law_1622 : decode cL_law 1622 = .ok (.iadd, 1) := by decide +kernel
theorem dL_law_1623 : decode cL_law 1623 = .ok (.iaload, 1) := by decide +kernel
theorem dL_law_1624 : decode cL_law 1624 = .ok (.invokevirtual 171, 3) := by decide +kernel
theorem dL_law_1627 : decode cL_law 1627 = .ok (.aload_n 2, 1) := by decide +kernel
theorem dL_law_1628 : decode cL_law 1628 = .ok (.aload_n 0, 1) := by decide +kernel
theorem dL_law_1629 : decode cL_law 1629 = .ok (.iload_n 3, 1) := by decide +kernel
theorem dL_law_1630 : decode cL_law 1630 = .ok (.iconst 1, 1) := by decide +kernel
theorem dL_law_1631 : decode cL_law 1631 = .ok (.iadd, 1) := by decide +kernel
theorem dL_law_1632 : decode cL_law 1632 = .ok (.iaload, 1) := by decide +kernel
theorem dL_law_1633 : decode cL_law 1633 = .ok (.invokevirtual 174, 3) := by decide +kernel
theorem dL_law_1636 : decode cL_law 1636 = .ok (.if_icmp .eq 5, 3) := by decide +kernel
theorem dL_law_1639 : decode cL_law 1639 = .ok (.iconst 0, 1) := by decide +kernel
theorem dL_law_1640 : decode cL_law 1640 = .ok (.ireturn, 1) := by decide +kernel
theorem dL_law_1641 : decode cL_law 1641 = .ok (.iinc 3 8, 3) := by decide +kernel
theorem dL_law_1644 : decode cL_law 1644 = .ok (.goto (-1626), 3) := by decide +kernel
theorem dL_law_1647 : decode cL_law 1647 = .ok (.iconst 1, 1) := by decide +kernel
theorem dL_law_1648 : decode cL_law 1648 = .ok (.ireturn, 1) := by decide +kernel
end
