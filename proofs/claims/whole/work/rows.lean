section
-- ===== PART A: goes FIRST, ahead of the names: the tables' words, and 'selects' of the private methods out of them =====
/-- a private method of a class that the tables say can be made, by its rows of tables_1 -/
def lw_okq (q : MethodName × Nat) : Prop := (q.1.cls ≠ "java/lang/invoke/MethodHandle" ∧ q.1.cls ≠ "java/lang/invoke/VarHandle") ∧ Cond.instantiable q.1.cls q.2 ∈ tables_1 ∧ Cond.privateMethod q.1 ∈ tables_1 ∧ Cond.instanceMethod q.1 ∈ tables_1
theorem lw_p0 : lw_okq (⟨"LoafRounds$Book", "makeNew", "()V"⟩, 11) := ⟨⟨by decide +kernel, by decide +kernel⟩, List.mem_of_getElem? (i := 45) (by decide +kernel), List.mem_of_getElem? (i := 103) (by decide +kernel), List.mem_of_getElem? (i := 104) (by decide +kernel)⟩
theorem lw_p1 : lw_okq (⟨"LoafRounds$Text", "empty", "()I"⟩, 2) := ⟨⟨by decide +kernel, by decide +kernel⟩, List.mem_of_getElem? (i := 30) (by decide +kernel), List.mem_of_getElem? (i := 193) (by decide +kernel), List.mem_of_getElem? (i := 194) (by decide +kernel)⟩
theorem lw_p2 : lw_okq (⟨"LoafRounds$Text", "firstError", "()I"⟩, 2) := ⟨⟨by decide +kernel, by decide +kernel⟩, List.mem_of_getElem? (i := 30) (by decide +kernel), List.mem_of_getElem? (i := 201) (by decide +kernel), List.mem_of_getElem? (i := 202) (by decide +kernel)⟩
theorem lw_p3 : lw_okq (⟨"LoafRounds$Text", "signAt", "(I)C"⟩, 2) := ⟨⟨by decide +kernel, by decide +kernel⟩, List.mem_of_getElem? (i := 30) (by decide +kernel), List.mem_of_getElem? (i := 205) (by decide +kernel), List.mem_of_getElem? (i := 206) (by decide +kernel)⟩
theorem lw_p4 : lw_okq (⟨"LoafRounds$Text", "isAllowed", "(CI)Z"⟩, 2) := ⟨⟨by decide +kernel, by decide +kernel⟩, List.mem_of_getElem? (i := 30) (by decide +kernel), List.mem_of_getElem? (i := 272) (by decide +kernel), List.mem_of_getElem? (i := 273) (by decide +kernel)⟩
theorem lw_p5 : lw_okq (⟨"LoafRounds$Text", "formLength", "(I)I"⟩, 2) := ⟨⟨by decide +kernel, by decide +kernel⟩, List.mem_of_getElem? (i := 30) (by decide +kernel), List.mem_of_getElem? (i := 276) (by decide +kernel), List.mem_of_getElem? (i := 277) (by decide +kernel)⟩
theorem lw_p6 : lw_okq (⟨"java/lang/Throwable", "fillInStackTrace", "(I)Ljava/lang/Throwable;"⟩, 6) := ⟨⟨by decide +kernel, by decide +kernel⟩, List.mem_of_getElem? (i := 334) (by decide +kernel), List.mem_of_getElem? (i := 332) (by decide +kernel), List.mem_of_getElem? (i := 333) (by decide +kernel)⟩
theorem lw_p7 : lw_okq (⟨"LoafRounds$Text", "add", "(C)I"⟩, 2) := ⟨⟨by decide +kernel, by decide +kernel⟩, List.mem_of_getElem? (i := 30) (by decide +kernel), List.mem_of_getElem? (i := 382) (by decide +kernel), List.mem_of_getElem? (i := 383) (by decide +kernel)⟩
theorem lw_p8 : lw_okq (⟨"LoafRounds$Memory", "forgetAll", "()V"⟩, 3) := ⟨⟨by decide +kernel, by decide +kernel⟩, List.mem_of_getElem? (i := 150) (by decide +kernel), List.mem_of_getElem? (i := 394) (by decide +kernel), List.mem_of_getElem? (i := 395) (by decide +kernel)⟩
theorem lw_p9 : lw_okq (⟨"LoafRounds$Text", "doCommand", "(ILLoafRounds$Book;)I"⟩, 2) := ⟨⟨by decide +kernel, by decide +kernel⟩, List.mem_of_getElem? (i := 30) (by decide +kernel), List.mem_of_getElem? (i := 398) (by decide +kernel), List.mem_of_getElem? (i := 399) (by decide +kernel)⟩
theorem lw_p10 : lw_okq (⟨"LoafRounds$Text", "numberAt", "(II)I"⟩, 2) := ⟨⟨by decide +kernel, by decide +kernel⟩, List.mem_of_getElem? (i := 30) (by decide +kernel), List.mem_of_getElem? (i := 402) (by decide +kernel), List.mem_of_getElem? (i := 403) (by decide +kernel)⟩
theorem lw_p11 : lw_okq (⟨"LoafRounds$Book", "perform", "(IIII)I"⟩, 11) := ⟨⟨by decide +kernel, by decide +kernel⟩, List.mem_of_getElem? (i := 45) (by decide +kernel), List.mem_of_getElem? (i := 406) (by decide +kernel), List.mem_of_getElem? (i := 407) (by decide +kernel)⟩
theorem lw_p12 : lw_okq (⟨"LoafRounds$Book", "refusalOf", "(IIII)LLoafRounds$Refusal;"⟩, 11) := ⟨⟨by decide +kernel, by decide +kernel⟩, List.mem_of_getElem? (i := 45) (by decide +kernel), List.mem_of_getElem? (i := 410) (by decide +kernel), List.mem_of_getElem? (i := 411) (by decide +kernel)⟩
theorem lw_p13 : lw_okq (⟨"LoafRounds$Book", "hasCustomer", "(I)Z"⟩, 11) := ⟨⟨by decide +kernel, by decide +kernel⟩, List.mem_of_getElem? (i := 45) (by decide +kernel), List.mem_of_getElem? (i := 430) (by decide +kernel), List.mem_of_getElem? (i := 431) (by decide +kernel)⟩
theorem lw_p14 : lw_okq (⟨"LoafRounds$Book", "addCustomer", "(II)I"⟩, 11) := ⟨⟨by decide +kernel, by decide +kernel⟩, List.mem_of_getElem? (i := 45) (by decide +kernel), List.mem_of_getElem? (i := 444) (by decide +kernel), List.mem_of_getElem? (i := 445) (by decide +kernel)⟩
theorem lw_p15 : lw_okq (⟨"LoafRounds$Customer", "start", "(II)V"⟩, 11) := ⟨⟨by decide +kernel, by decide +kernel⟩, List.mem_of_getElem? (i := 52) (by decide +kernel), List.mem_of_getElem? (i := 448) (by decide +kernel), List.mem_of_getElem? (i := 449) (by decide +kernel)⟩
def lw_privs_1 : List (MethodName × Nat) := [(⟨"LoafRounds$Book", "makeNew", "()V"⟩, 11), (⟨"LoafRounds$Text", "empty", "()I"⟩, 2), (⟨"LoafRounds$Text", "firstError", "()I"⟩, 2), (⟨"LoafRounds$Text", "signAt", "(I)C"⟩, 2), (⟨"LoafRounds$Text", "isAllowed", "(CI)Z"⟩, 2), (⟨"LoafRounds$Text", "formLength", "(I)I"⟩, 2), (⟨"java/lang/Throwable", "fillInStackTrace", "(I)Ljava/lang/Throwable;"⟩, 6), (⟨"LoafRounds$Text", "add", "(C)I"⟩, 2), (⟨"LoafRounds$Memory", "forgetAll", "()V"⟩, 3), (⟨"LoafRounds$Text", "doCommand", "(ILLoafRounds$Book;)I"⟩, 2), (⟨"LoafRounds$Text", "numberAt", "(II)I"⟩, 2), (⟨"LoafRounds$Book", "perform", "(IIII)I"⟩, 11), (⟨"LoafRounds$Book", "refusalOf", "(IIII)LLoafRounds$Refusal;"⟩, 11), (⟨"LoafRounds$Book", "hasCustomer", "(I)Z"⟩, 11), (⟨"LoafRounds$Book", "addCustomer", "(II)I"⟩, 11), (⟨"LoafRounds$Customer", "start", "(II)V"⟩, 11)]
theorem lw_r1 : ∀ q ∈ lw_privs_1, lw_okq q := List.forall_mem_cons.mpr ⟨lw_p0, List.forall_mem_cons.mpr ⟨lw_p1, List.forall_mem_cons.mpr ⟨lw_p2, List.forall_mem_cons.mpr ⟨lw_p3, List.forall_mem_cons.mpr ⟨lw_p4, List.forall_mem_cons.mpr ⟨lw_p5, List.forall_mem_cons.mpr ⟨lw_p6, List.forall_mem_cons.mpr ⟨lw_p7, List.forall_mem_cons.mpr ⟨lw_p8, List.forall_mem_cons.mpr ⟨lw_p9, List.forall_mem_cons.mpr ⟨lw_p10, List.forall_mem_cons.mpr ⟨lw_p11, List.forall_mem_cons.mpr ⟨lw_p12, List.forall_mem_cons.mpr ⟨lw_p13, List.forall_mem_cons.mpr ⟨lw_p14, List.forall_mem_cons.mpr ⟨lw_p15, fun _ h => absurd h List.not_mem_nil⟩⟩⟩⟩⟩⟩⟩⟩⟩⟩⟩⟩⟩⟩⟩⟩
theorem lw_p16 : lw_okq (⟨"LoafRounds$Customer", "putLoaves", "(II)I"⟩, 11) := ⟨⟨by decide +kernel, by decide +kernel⟩, List.mem_of_getElem? (i := 52) (by decide +kernel), List.mem_of_getElem? (i := 452) (by decide +kernel), List.mem_of_getElem? (i := 453) (by decide +kernel)⟩
theorem lw_p17 : lw_okq (⟨"LoafRounds$Customer", "addHoliday", "(II)I"⟩, 11) := ⟨⟨by decide +kernel, by decide +kernel⟩, List.mem_of_getElem? (i := 52) (by decide +kernel), List.mem_of_getElem? (i := 456) (by decide +kernel), List.mem_of_getElem? (i := 457) (by decide +kernel)⟩
theorem lw_p18 : lw_okq (⟨"LoafRounds$Customer", "dropHoliday", "(I)I"⟩, 11) := ⟨⟨by decide +kernel, by decide +kernel⟩, List.mem_of_getElem? (i := 52) (by decide +kernel), List.mem_of_getElem? (i := 460) (by decide +kernel), List.mem_of_getElem? (i := 461) (by decide +kernel)⟩
theorem lw_p19 : lw_okq (⟨"LoafRounds$Book", "closeStreet", "(IIZ)I"⟩, 11) := ⟨⟨by decide +kernel, by decide +kernel⟩, List.mem_of_getElem? (i := 45) (by decide +kernel), List.mem_of_getElem? (i := 464) (by decide +kernel), List.mem_of_getElem? (i := 465) (by decide +kernel)⟩
theorem lw_p20 : lw_okq (⟨"LoafRounds$Book", "isShut", "(II)Z"⟩, 11) := ⟨⟨by decide +kernel, by decide +kernel⟩, List.mem_of_getElem? (i := 45) (by decide +kernel), List.mem_of_getElem? (i := 468) (by decide +kernel), List.mem_of_getElem? (i := 469) (by decide +kernel)⟩
theorem lw_p21 : lw_okq (⟨"LoafRounds$Book", "swapStreets", "(II)I"⟩, 11) := ⟨⟨by decide +kernel, by decide +kernel⟩, List.mem_of_getElem? (i := 45) (by decide +kernel), List.mem_of_getElem? (i := 472) (by decide +kernel), List.mem_of_getElem? (i := 473) (by decide +kernel)⟩
theorem lw_p22 : lw_okq (⟨"LoafRounds$Book", "placeOf", "(I)I"⟩, 11) := ⟨⟨by decide +kernel, by decide +kernel⟩, List.mem_of_getElem? (i := 45) (by decide +kernel), List.mem_of_getElem? (i := 476) (by decide +kernel), List.mem_of_getElem? (i := 477) (by decide +kernel)⟩
theorem lw_p23 : lw_okq (⟨"LoafRounds$Book", "changeSetting", "(II)I"⟩, 11) := ⟨⟨by decide +kernel, by decide +kernel⟩, List.mem_of_getElem? (i := 45) (by decide +kernel), List.mem_of_getElem? (i := 480) (by decide +kernel), List.mem_of_getElem? (i := 481) (by decide +kernel)⟩
theorem lw_p24 : lw_okq (⟨"LoafRounds$Book", "deliver", "(I)I"⟩, 11) := ⟨⟨by decide +kernel, by decide +kernel⟩, List.mem_of_getElem? (i := 45) (by decide +kernel), List.mem_of_getElem? (i := 484) (by decide +kernel), List.mem_of_getElem? (i := 485) (by decide +kernel)⟩
theorem lw_p25 : lw_okq (⟨"LoafRounds$Book", "planVisits", "()V"⟩, 11) := ⟨⟨by decide +kernel, by decide +kernel⟩, List.mem_of_getElem? (i := 45) (by decide +kernel), List.mem_of_getElem? (i := 488) (by decide +kernel), List.mem_of_getElem? (i := 489) (by decide +kernel)⟩
theorem lw_p26 : lw_okq (⟨"LoafRounds$Book", "dueToAll", "()I"⟩, 11) := ⟨⟨by decide +kernel, by decide +kernel⟩, List.mem_of_getElem? (i := 45) (by decide +kernel), List.mem_of_getElem? (i := 492) (by decide +kernel), List.mem_of_getElem? (i := 493) (by decide +kernel)⟩
theorem lw_p27 : lw_okq (⟨"LoafRounds$Customer", "dueOn", "(I)I"⟩, 11) := ⟨⟨by decide +kernel, by decide +kernel⟩, List.mem_of_getElem? (i := 52) (by decide +kernel), List.mem_of_getElem? (i := 496) (by decide +kernel), List.mem_of_getElem? (i := 497) (by decide +kernel)⟩
theorem lw_p28 : lw_okq (⟨"LoafRounds$Customer", "isInFirstHolidays", "(II)Z"⟩, 11) := ⟨⟨by decide +kernel, by decide +kernel⟩, List.mem_of_getElem? (i := 52) (by decide +kernel), List.mem_of_getElem? (i := 500) (by decide +kernel), List.mem_of_getElem? (i := 501) (by decide +kernel)⟩
theorem lw_p29 : lw_okq (⟨"LoafRounds$Book", "loavesFor", "(I)I"⟩, 11) := ⟨⟨by decide +kernel, by decide +kernel⟩, List.mem_of_getElem? (i := 45) (by decide +kernel), List.mem_of_getElem? (i := 510) (by decide +kernel), List.mem_of_getElem? (i := 511) (by decide +kernel)⟩
theorem lw_p30 : lw_okq (⟨"LoafRounds$Book", "handOut", "(I)I"⟩, 11) := ⟨⟨by decide +kernel, by decide +kernel⟩, List.mem_of_getElem? (i := 45) (by decide +kernel), List.mem_of_getElem? (i := 517) (by decide +kernel), List.mem_of_getElem? (i := 518) (by decide +kernel)⟩
theorem lw_p31 : lw_okq (⟨"LoafRounds$Book", "isReached", "(LLoafRounds$Customer;)Z"⟩, 11) := ⟨⟨by decide +kernel, by decide +kernel⟩, List.mem_of_getElem? (i := 45) (by decide +kernel), List.mem_of_getElem? (i := 521) (by decide +kernel), List.mem_of_getElem? (i := 522) (by decide +kernel)⟩
def lw_privs_2 : List (MethodName × Nat) := [(⟨"LoafRounds$Customer", "putLoaves", "(II)I"⟩, 11), (⟨"LoafRounds$Customer", "addHoliday", "(II)I"⟩, 11), (⟨"LoafRounds$Customer", "dropHoliday", "(I)I"⟩, 11), (⟨"LoafRounds$Book", "closeStreet", "(IIZ)I"⟩, 11), (⟨"LoafRounds$Book", "isShut", "(II)Z"⟩, 11), (⟨"LoafRounds$Book", "swapStreets", "(II)I"⟩, 11), (⟨"LoafRounds$Book", "placeOf", "(I)I"⟩, 11), (⟨"LoafRounds$Book", "changeSetting", "(II)I"⟩, 11), (⟨"LoafRounds$Book", "deliver", "(I)I"⟩, 11), (⟨"LoafRounds$Book", "planVisits", "()V"⟩, 11), (⟨"LoafRounds$Book", "dueToAll", "()I"⟩, 11), (⟨"LoafRounds$Customer", "dueOn", "(I)I"⟩, 11), (⟨"LoafRounds$Customer", "isInFirstHolidays", "(II)Z"⟩, 11), (⟨"LoafRounds$Book", "loavesFor", "(I)I"⟩, 11), (⟨"LoafRounds$Book", "handOut", "(I)I"⟩, 11), (⟨"LoafRounds$Book", "isReached", "(LLoafRounds$Customer;)Z"⟩, 11)]
theorem lw_r2 : ∀ q ∈ lw_privs_2, lw_okq q := List.forall_mem_cons.mpr ⟨lw_p16, List.forall_mem_cons.mpr ⟨lw_p17, List.forall_mem_cons.mpr ⟨lw_p18, List.forall_mem_cons.mpr ⟨lw_p19, List.forall_mem_cons.mpr ⟨lw_p20, List.forall_mem_cons.mpr ⟨lw_p21, List.forall_mem_cons.mpr ⟨lw_p22, List.forall_mem_cons.mpr ⟨lw_p23, List.forall_mem_cons.mpr ⟨lw_p24, List.forall_mem_cons.mpr ⟨lw_p25, List.forall_mem_cons.mpr ⟨lw_p26, List.forall_mem_cons.mpr ⟨lw_p27, List.forall_mem_cons.mpr ⟨lw_p28, List.forall_mem_cons.mpr ⟨lw_p29, List.forall_mem_cons.mpr ⟨lw_p30, List.forall_mem_cons.mpr ⟨lw_p31, fun _ h => absurd h List.not_mem_nil⟩⟩⟩⟩⟩⟩⟩⟩⟩⟩⟩⟩⟩⟩⟩⟩
theorem lw_p32 : lw_okq (⟨"LoafRounds$Customer", "receive", "(II)V"⟩, 11) := ⟨⟨by decide +kernel, by decide +kernel⟩, List.mem_of_getElem? (i := 52) (by decide +kernel), List.mem_of_getElem? (i := 526) (by decide +kernel), List.mem_of_getElem? (i := 527) (by decide +kernel)⟩
theorem lw_p33 : lw_okq (⟨"LoafRounds$Book", "makeGood", "(I)I"⟩, 11) := ⟨⟨by decide +kernel, by decide +kernel⟩, List.mem_of_getElem? (i := 45) (by decide +kernel), List.mem_of_getElem? (i := 530) (by decide +kernel), List.mem_of_getElem? (i := 531) (by decide +kernel)⟩
theorem lw_p34 : lw_okq (⟨"LoafRounds$Customer", "isAwayOn", "(I)Z"⟩, 11) := ⟨⟨by decide +kernel, by decide +kernel⟩, List.mem_of_getElem? (i := 52) (by decide +kernel), List.mem_of_getElem? (i := 534) (by decide +kernel), List.mem_of_getElem? (i := 535) (by decide +kernel)⟩
theorem lw_p35 : lw_okq (⟨"LoafRounds$Customer", "receiveForCredit", "(I)V"⟩, 11) := ⟨⟨by decide +kernel, by decide +kernel⟩, List.mem_of_getElem? (i := 52) (by decide +kernel), List.mem_of_getElem? (i := 538) (by decide +kernel), List.mem_of_getElem? (i := 539) (by decide +kernel)⟩
theorem lw_p36 : lw_okq (⟨"LoafRounds$Book", "payBack", "()V"⟩, 11) := ⟨⟨by decide +kernel, by decide +kernel⟩, List.mem_of_getElem? (i := 45) (by decide +kernel), List.mem_of_getElem? (i := 542) (by decide +kernel), List.mem_of_getElem? (i := 543) (by decide +kernel)⟩
theorem lw_p37 : lw_okq (⟨"LoafRounds$Customer", "cutCredit", "(I)I"⟩, 11) := ⟨⟨by decide +kernel, by decide +kernel⟩, List.mem_of_getElem? (i := 52) (by decide +kernel), List.mem_of_getElem? (i := 546) (by decide +kernel), List.mem_of_getElem? (i := 547) (by decide +kernel)⟩
theorem lw_p38 : lw_okq (⟨"LoafRounds$Book", "numberOf", "(I)I"⟩, 11) := ⟨⟨by decide +kernel, by decide +kernel⟩, List.mem_of_getElem? (i := 45) (by decide +kernel), List.mem_of_getElem? (i := 561) (by decide +kernel), List.mem_of_getElem? (i := 562) (by decide +kernel)⟩
theorem lw_p39 : lw_okq (⟨"LoafRounds$Book", "sumOf", "(I)I"⟩, 11) := ⟨⟨by decide +kernel, by decide +kernel⟩, List.mem_of_getElem? (i := 45) (by decide +kernel), List.mem_of_getElem? (i := 565) (by decide +kernel), List.mem_of_getElem? (i := 566) (by decide +kernel)⟩
theorem lw_p40 : lw_okq (⟨"LoafRounds$Customer", "numberOf", "(I)I"⟩, 11) := ⟨⟨by decide +kernel, by decide +kernel⟩, List.mem_of_getElem? (i := 52) (by decide +kernel), List.mem_of_getElem? (i := 569) (by decide +kernel), List.mem_of_getElem? (i := 570) (by decide +kernel)⟩
theorem lw_p41 : lw_okq (⟨"LoafRounds$Customer", "loavesAWeek", "()I"⟩, 11) := ⟨⟨by decide +kernel, by decide +kernel⟩, List.mem_of_getElem? (i := 52) (by decide +kernel), List.mem_of_getElem? (i := 573) (by decide +kernel), List.mem_of_getElem? (i := 574) (by decide +kernel)⟩
theorem lw_p42 : lw_okq (⟨"LoafRounds$Customer", "nextDueDay", "(I)I"⟩, 11) := ⟨⟨by decide +kernel, by decide +kernel⟩, List.mem_of_getElem? (i := 52) (by decide +kernel), List.mem_of_getElem? (i := 606) (by decide +kernel), List.mem_of_getElem? (i := 607) (by decide +kernel)⟩
theorem lw_p43 : lw_okq (⟨"LoafRounds$Customer", "dueDayByDay", "(II)I"⟩, 11) := ⟨⟨by decide +kernel, by decide +kernel⟩, List.mem_of_getElem? (i := 52) (by decide +kernel), List.mem_of_getElem? (i := 658) (by decide +kernel), List.mem_of_getElem? (i := 659) (by decide +kernel)⟩
theorem lw_p44 : lw_okq (⟨"LoafRounds$Customer", "dueByWeeks", "(II)I"⟩, 11) := ⟨⟨by decide +kernel, by decide +kernel⟩, List.mem_of_getElem? (i := 52) (by decide +kernel), List.mem_of_getElem? (i := 662) (by decide +kernel), List.mem_of_getElem? (i := 663) (by decide +kernel)⟩
theorem lw_p45 : lw_okq (⟨"LoafRounds$Customer", "orderedInHolidays", "(II)I"⟩, 11) := ⟨⟨by decide +kernel, by decide +kernel⟩, List.mem_of_getElem? (i := 52) (by decide +kernel), List.mem_of_getElem? (i := 666) (by decide +kernel), List.mem_of_getElem? (i := 667) (by decide +kernel)⟩
theorem lw_p46 : lw_okq (⟨"LoafRounds", "act", "(IIII)I"⟩, 6) := ⟨⟨by decide +kernel, by decide +kernel⟩, List.mem_of_getElem? (i := 22) (by decide +kernel), List.mem_of_getElem? (i := 678) (by decide +kernel), List.mem_of_getElem? (i := 679) (by decide +kernel)⟩
theorem lw_p47 : lw_okq (⟨"LoafRounds$Memory", "keep", "(LLoafRounds$Book;)V"⟩, 3) := ⟨⟨by decide +kernel, by decide +kernel⟩, List.mem_of_getElem? (i := 150) (by decide +kernel), List.mem_of_getElem? (i := 686) (by decide +kernel), List.mem_of_getElem? (i := 687) (by decide +kernel)⟩
def lw_privs_3 : List (MethodName × Nat) := [(⟨"LoafRounds$Customer", "receive", "(II)V"⟩, 11), (⟨"LoafRounds$Book", "makeGood", "(I)I"⟩, 11), (⟨"LoafRounds$Customer", "isAwayOn", "(I)Z"⟩, 11), (⟨"LoafRounds$Customer", "receiveForCredit", "(I)V"⟩, 11), (⟨"LoafRounds$Book", "payBack", "()V"⟩, 11), (⟨"LoafRounds$Customer", "cutCredit", "(I)I"⟩, 11), (⟨"LoafRounds$Book", "numberOf", "(I)I"⟩, 11), (⟨"LoafRounds$Book", "sumOf", "(I)I"⟩, 11), (⟨"LoafRounds$Customer", "numberOf", "(I)I"⟩, 11), (⟨"LoafRounds$Customer", "loavesAWeek", "()I"⟩, 11), (⟨"LoafRounds$Customer", "nextDueDay", "(I)I"⟩, 11), (⟨"LoafRounds$Customer", "dueDayByDay", "(II)I"⟩, 11), (⟨"LoafRounds$Customer", "dueByWeeks", "(II)I"⟩, 11), (⟨"LoafRounds$Customer", "orderedInHolidays", "(II)I"⟩, 11), (⟨"LoafRounds", "act", "(IIII)I"⟩, 6), (⟨"LoafRounds$Memory", "keep", "(LLoafRounds$Book;)V"⟩, 3)]
theorem lw_r3 : ∀ q ∈ lw_privs_3, lw_okq q := List.forall_mem_cons.mpr ⟨lw_p32, List.forall_mem_cons.mpr ⟨lw_p33, List.forall_mem_cons.mpr ⟨lw_p34, List.forall_mem_cons.mpr ⟨lw_p35, List.forall_mem_cons.mpr ⟨lw_p36, List.forall_mem_cons.mpr ⟨lw_p37, List.forall_mem_cons.mpr ⟨lw_p38, List.forall_mem_cons.mpr ⟨lw_p39, List.forall_mem_cons.mpr ⟨lw_p40, List.forall_mem_cons.mpr ⟨lw_p41, List.forall_mem_cons.mpr ⟨lw_p42, List.forall_mem_cons.mpr ⟨lw_p43, List.forall_mem_cons.mpr ⟨lw_p44, List.forall_mem_cons.mpr ⟨lw_p45, List.forall_mem_cons.mpr ⟨lw_p46, List.forall_mem_cons.mpr ⟨lw_p47, fun _ h => absurd h List.not_mem_nil⟩⟩⟩⟩⟩⟩⟩⟩⟩⟩⟩⟩⟩⟩⟩⟩
theorem lw_p48 : lw_okq (⟨"LoafRounds$Book", "copyFrom", "(LLoafRounds$Book;)V"⟩, 11) := ⟨⟨by decide +kernel, by decide +kernel⟩, List.mem_of_getElem? (i := 45) (by decide +kernel), List.mem_of_getElem? (i := 690) (by decide +kernel), List.mem_of_getElem? (i := 691) (by decide +kernel)⟩
theorem lw_p49 : lw_okq (⟨"LoafRounds$Customer", "copyFrom", "(LLoafRounds$Customer;)V"⟩, 11) := ⟨⟨by decide +kernel, by decide +kernel⟩, List.mem_of_getElem? (i := 52) (by decide +kernel), List.mem_of_getElem? (i := 694) (by decide +kernel), List.mem_of_getElem? (i := 695) (by decide +kernel)⟩
theorem lw_p50 : lw_okq (⟨"LoafRounds$Memory", "takeBack", "(LLoafRounds$Book;)I"⟩, 3) := ⟨⟨by decide +kernel, by decide +kernel⟩, List.mem_of_getElem? (i := 150) (by decide +kernel), List.mem_of_getElem? (i := 757) (by decide +kernel), List.mem_of_getElem? (i := 758) (by decide +kernel)⟩
theorem lw_p51 : lw_okq (⟨"LoafRounds$Book", "reasonFor", "(I)I"⟩, 11) := ⟨⟨by decide +kernel, by decide +kernel⟩, List.mem_of_getElem? (i := 45) (by decide +kernel), List.mem_of_getElem? (i := 768) (by decide +kernel), List.mem_of_getElem? (i := 769) (by decide +kernel)⟩
theorem lw_p52 : lw_okq (⟨"LoafRounds$Book", "leftBefore", "(I)I"⟩, 11) := ⟨⟨by decide +kernel, by decide +kernel⟩, List.mem_of_getElem? (i := 45) (by decide +kernel), List.mem_of_getElem? (i := 772) (by decide +kernel), List.mem_of_getElem? (i := 773) (by decide +kernel)⟩
theorem lw_p53 : lw_okq (⟨"LoafRounds$Book", "dueInOpenStreets", "(I)I"⟩, 11) := ⟨⟨by decide +kernel, by decide +kernel⟩, List.mem_of_getElem? (i := 45) (by decide +kernel), List.mem_of_getElem? (i := 799) (by decide +kernel), List.mem_of_getElem? (i := 800) (by decide +kernel)⟩
theorem lw_p54 : lw_okq (⟨"LoafRounds$Book", "takeOrder", "(I)V"⟩, 11) := ⟨⟨by decide +kernel, by decide +kernel⟩, List.mem_of_getElem? (i := 45) (by decide +kernel), List.mem_of_getElem? (i := 814) (by decide +kernel), List.mem_of_getElem? (i := 815) (by decide +kernel)⟩
theorem lw_p55 : lw_okq (⟨"LoafRounds$Book", "orderAsNumber", "()I"⟩, 11) := ⟨⟨by decide +kernel, by decide +kernel⟩, List.mem_of_getElem? (i := 45) (by decide +kernel), List.mem_of_getElem? (i := 819) (by decide +kernel), List.mem_of_getElem? (i := 820) (by decide +kernel)⟩
theorem lw_p56 : lw_okq (⟨"LoafRounds", "succeeds", "(I)Z"⟩, 6) := ⟨⟨by decide +kernel, by decide +kernel⟩, List.mem_of_getElem? (i := 22) (by decide +kernel), List.mem_of_getElem? (i := 831) (by decide +kernel), List.mem_of_getElem? (i := 832) (by decide +kernel)⟩
theorem lw_p57 : lw_okq (⟨"LoafRounds$Book", "loavesGot", "()I"⟩, 11) := ⟨⟨by decide +kernel, by decide +kernel⟩, List.mem_of_getElem? (i := 45) (by decide +kernel), List.mem_of_getElem? (i := 836) (by decide +kernel), List.mem_of_getElem? (i := 837) (by decide +kernel)⟩
theorem lw_p58 : lw_okq (⟨"LoafRounds", "takeTurn", "(I)V"⟩, 6) := ⟨⟨by decide +kernel, by decide +kernel⟩, List.mem_of_getElem? (i := 22) (by decide +kernel), List.mem_of_getElem? (i := 849) (by decide +kernel), List.mem_of_getElem? (i := 850) (by decide +kernel)⟩
theorem lw_p59 : lw_okq (⟨"LoafRoundsModel", "refused", "(I)Z"⟩, 11) := ⟨⟨by decide +kernel, by decide +kernel⟩, List.mem_of_getElem? (i := 871) (by decide +kernel), List.mem_of_getElem? (i := 926) (by decide +kernel), List.mem_of_getElem? (i := 927) (by decide +kernel)⟩
theorem lw_p60 : lw_okq (⟨"LoafRoundsModel", "readText", "([I)I"⟩, 11) := ⟨⟨by decide +kernel, by decide +kernel⟩, List.mem_of_getElem? (i := 871) (by decide +kernel), List.mem_of_getElem? (i := 938) (by decide +kernel), List.mem_of_getElem? (i := 939) (by decide +kernel)⟩
theorem lw_p61 : lw_okq (⟨"LoafRoundsModel", "readCommand", "([I)Z"⟩, 11) := ⟨⟨by decide +kernel, by decide +kernel⟩, List.mem_of_getElem? (i := 871) (by decide +kernel), List.mem_of_getElem? (i := 942) (by decide +kernel), List.mem_of_getElem? (i := 943) (by decide +kernel)⟩
theorem lw_p62 : lw_okq (⟨"LoafRoundsModel", "readCustomer", "([I)Z"⟩, 11) := ⟨⟨by decide +kernel, by decide +kernel⟩, List.mem_of_getElem? (i := 871) (by decide +kernel), List.mem_of_getElem? (i := 946) (by decide +kernel), List.mem_of_getElem? (i := 947) (by decide +kernel)⟩
theorem lw_p63 : lw_okq (⟨"LoafRoundsModel", "streetSign", "(I)I"⟩, 11) := ⟨⟨by decide +kernel, by decide +kernel⟩, List.mem_of_getElem? (i := 871) (by decide +kernel), List.mem_of_getElem? (i := 950) (by decide +kernel), List.mem_of_getElem? (i := 951) (by decide +kernel)⟩
def lw_privs_4 : List (MethodName × Nat) := [(⟨"LoafRounds$Book", "copyFrom", "(LLoafRounds$Book;)V"⟩, 11), (⟨"LoafRounds$Customer", "copyFrom", "(LLoafRounds$Customer;)V"⟩, 11), (⟨"LoafRounds$Memory", "takeBack", "(LLoafRounds$Book;)I"⟩, 3), (⟨"LoafRounds$Book", "reasonFor", "(I)I"⟩, 11), (⟨"LoafRounds$Book", "leftBefore", "(I)I"⟩, 11), (⟨"LoafRounds$Book", "dueInOpenStreets", "(I)I"⟩, 11), (⟨"LoafRounds$Book", "takeOrder", "(I)V"⟩, 11), (⟨"LoafRounds$Book", "orderAsNumber", "()I"⟩, 11), (⟨"LoafRounds", "succeeds", "(I)Z"⟩, 6), (⟨"LoafRounds$Book", "loavesGot", "()I"⟩, 11), (⟨"LoafRounds", "takeTurn", "(I)V"⟩, 6), (⟨"LoafRoundsModel", "refused", "(I)Z"⟩, 11), (⟨"LoafRoundsModel", "readText", "([I)I"⟩, 11), (⟨"LoafRoundsModel", "readCommand", "([I)Z"⟩, 11), (⟨"LoafRoundsModel", "readCustomer", "([I)Z"⟩, 11), (⟨"LoafRoundsModel", "streetSign", "(I)I"⟩, 11)]
theorem lw_r4 : ∀ q ∈ lw_privs_4, lw_okq q := List.forall_mem_cons.mpr ⟨lw_p48, List.forall_mem_cons.mpr ⟨lw_p49, List.forall_mem_cons.mpr ⟨lw_p50, List.forall_mem_cons.mpr ⟨lw_p51, List.forall_mem_cons.mpr ⟨lw_p52, List.forall_mem_cons.mpr ⟨lw_p53, List.forall_mem_cons.mpr ⟨lw_p54, List.forall_mem_cons.mpr ⟨lw_p55, List.forall_mem_cons.mpr ⟨lw_p56, List.forall_mem_cons.mpr ⟨lw_p57, List.forall_mem_cons.mpr ⟨lw_p58, List.forall_mem_cons.mpr ⟨lw_p59, List.forall_mem_cons.mpr ⟨lw_p60, List.forall_mem_cons.mpr ⟨lw_p61, List.forall_mem_cons.mpr ⟨lw_p62, List.forall_mem_cons.mpr ⟨lw_p63, fun _ h => absurd h List.not_mem_nil⟩⟩⟩⟩⟩⟩⟩⟩⟩⟩⟩⟩⟩⟩⟩⟩
theorem lw_p64 : lw_okq (⟨"LoafRoundsModel", "figures", "(IIII)I"⟩, 11) := ⟨⟨by decide +kernel, by decide +kernel⟩, List.mem_of_getElem? (i := 871) (by decide +kernel), List.mem_of_getElem? (i := 954) (by decide +kernel), List.mem_of_getElem? (i := 955) (by decide +kernel)⟩
theorem lw_p65 : lw_okq (⟨"LoafRoundsModel", "done", "(Z)Z"⟩, 11) := ⟨⟨by decide +kernel, by decide +kernel⟩, List.mem_of_getElem? (i := 871) (by decide +kernel), List.mem_of_getElem? (i := 967) (by decide +kernel), List.mem_of_getElem? (i := 968) (by decide +kernel)⟩
theorem lw_p66 : lw_okq (⟨"LoafRoundsModel", "readChange", "([I)Z"⟩, 11) := ⟨⟨by decide +kernel, by decide +kernel⟩, List.mem_of_getElem? (i := 871) (by decide +kernel), List.mem_of_getElem? (i := 971) (by decide +kernel), List.mem_of_getElem? (i := 972) (by decide +kernel)⟩
theorem lw_p67 : lw_okq (⟨"LoafRoundsModel", "customerSign", "()I"⟩, 11) := ⟨⟨by decide +kernel, by decide +kernel⟩, List.mem_of_getElem? (i := 871) (by decide +kernel), List.mem_of_getElem? (i := 975) (by decide +kernel), List.mem_of_getElem? (i := 976) (by decide +kernel)⟩
theorem lw_p68 : lw_okq (⟨"LoafRoundsModel", "readHoliday", "([I)Z"⟩, 11) := ⟨⟨by decide +kernel, by decide +kernel⟩, List.mem_of_getElem? (i := 871) (by decide +kernel), List.mem_of_getElem? (i := 988) (by decide +kernel), List.mem_of_getElem? (i := 989) (by decide +kernel)⟩
theorem lw_p69 : lw_okq (⟨"LoafRoundsModel", "readClose", "([I)Z"⟩, 11) := ⟨⟨by decide +kernel, by decide +kernel⟩, List.mem_of_getElem? (i := 871) (by decide +kernel), List.mem_of_getElem? (i := 998) (by decide +kernel), List.mem_of_getElem? (i := 999) (by decide +kernel)⟩
theorem lw_p70 : lw_okq (⟨"LoafRoundsModel", "remember", "()V"⟩, 11) := ⟨⟨by decide +kernel, by decide +kernel⟩, List.mem_of_getElem? (i := 871) (by decide +kernel), List.mem_of_getElem? (i := 1114) (by decide +kernel), List.mem_of_getElem? (i := 1115) (by decide +kernel)⟩
theorem lw_p71 : lw_okq (⟨"LoafRoundsModel", "command", "(II)Z"⟩, 11) := ⟨⟨by decide +kernel, by decide +kernel⟩, List.mem_of_getElem? (i := 871) (by decide +kernel), List.mem_of_getElem? (i := 1190) (by decide +kernel), List.mem_of_getElem? (i := 1191) (by decide +kernel)⟩
def lw_privs_5 : List (MethodName × Nat) := [(⟨"LoafRoundsModel", "figures", "(IIII)I"⟩, 11), (⟨"LoafRoundsModel", "done", "(Z)Z"⟩, 11), (⟨"LoafRoundsModel", "readChange", "([I)Z"⟩, 11), (⟨"LoafRoundsModel", "customerSign", "()I"⟩, 11), (⟨"LoafRoundsModel", "readHoliday", "([I)Z"⟩, 11), (⟨"LoafRoundsModel", "readClose", "([I)Z"⟩, 11), (⟨"LoafRoundsModel", "remember", "()V"⟩, 11), (⟨"LoafRoundsModel", "command", "(II)Z"⟩, 11)]
theorem lw_r5 : ∀ q ∈ lw_privs_5, lw_okq q := List.forall_mem_cons.mpr ⟨lw_p64, List.forall_mem_cons.mpr ⟨lw_p65, List.forall_mem_cons.mpr ⟨lw_p66, List.forall_mem_cons.mpr ⟨lw_p67, List.forall_mem_cons.mpr ⟨lw_p68, List.forall_mem_cons.mpr ⟨lw_p69, List.forall_mem_cons.mpr ⟨lw_p70, List.forall_mem_cons.mpr ⟨lw_p71, fun _ h => absurd h List.not_mem_nil⟩⟩⟩⟩⟩⟩⟩⟩
def lw_privs : List (MethodName × Nat) := lw_privs_1 ++ (lw_privs_2 ++ (lw_privs_3 ++ (lw_privs_4 ++ (lw_privs_5))))
def lw_tbl : List Cond := k2_sels lw_privs ++ tables_1
theorem lw_privs_ok : ∀ q ∈ lw_privs, lw_okq q := by
  show ∀ q ∈ lw_privs_1 ++ (lw_privs_2 ++ (lw_privs_3 ++ (lw_privs_4 ++ (lw_privs_5)))), lw_okq q
  exact List.forall_mem_append.mpr ⟨lw_r1, List.forall_mem_append.mpr ⟨lw_r2, List.forall_mem_append.mpr ⟨lw_r3, List.forall_mem_append.mpr ⟨lw_r4, lw_r5⟩⟩⟩⟩
-- ===== end of PART A; then your names; then what follows =====
end
section
/-! ===== BEGIN words of one list among another's, by their places ===== -/
theorem goodIn_r {big : List Cond} (ws : List Cond) (ps : List Nat) (hp : ws = ps.filterMap (fun i => big[i]?)) (h : ws.all goodWord = true) : GoodIn big ws := by
  intro w hw
  have h1 := List.all_eq_true.mp h w hw
  rw [hp] at hw
  obtain ⟨i, -, hi⟩ := List.mem_filterMap.mp hw
  have hm : w ∈ big := by first | exact List.mem_of_getElem? hi | exact List.getElem?_mem hi
  exact ⟨hm, good_of_word h1⟩
theorem goodIn_app {big a b : List Cond} (ha : GoodIn big a) (hb : GoodIn big b) : GoodIn big (a ++ b) := fun w h => (List.mem_append.mp h).elim (ha w) (hb w)
theorem goodIn_ca {big a b : List Cond} {c : Cond} (ha : GoodIn big (c :: a)) (hb : GoodIn big b) : GoodIn big (c :: (a ++ b)) := fun w h => (List.mem_cons.mp h).elim (fun e => ha w (List.mem_cons.mpr (Or.inl e))) (fun h => (List.mem_append.mp h).elim (fun h => ha w (List.mem_cons.mpr (Or.inr h))) (hb w))
theorem goodIn_sub {big ws : List Cond} (hm : ∀ w ∈ ws, w ∈ big) (h : ws.all goodWord = true) : GoodIn big ws := fun w hw => ⟨hm w hw, good_of_word (List.all_eq_true.mp h w hw)⟩
/-! ===== END ===== -/

/-! ===== BEGIN exceptions that leave a method, and their catching by the caller (launches without stack traces) ===== -/
section VXA
/-! The laws vx_back, vx_callV, vx_callS, vx_callSW, vx_throw0, vx_throwS follow proofs of the library, with one case more: JvmDerived/Free/Laws.lean (Back.of_free), Shelf42/LK1.lean (callV, callS), Shelf/KitTraced.lean (throwNew0V, throwNewS). -/
/-- where a method has thrown q: the class by its name, the cell, what was written, the world -/
def vx_T (XC : String → State → State → Prop) (st : State) (q : Addr) (t : State) (mc ms : Nat) (free : Addr → Prop) : Prop :=
  ∃ (E : String) (ce : Cell) (L : List Loc), XC E st t ∧ t.heap[q]? = some ce ∧ ce.vm = .none ∧ st.vm.findClass E = some ce.cls ∧ st.WarmedH t.vm ∧ st.sameButNew ({ t with vm := st.vm } : State) L mc ms ∧ ∀ z ∈ L, free z.base
def vx_Q (Qc : Array Value → State → Outcome → State → Prop) (XC : String → State → State → Prop) (mc ms : Nat) (free : Addr → Prop) : Array Value → State → Outcome → State → Prop := fun a st o t =>
  (Qc a st o t ∧ ∃ L, FrameEnd st o t L mc ms ∧ ∀ q ∈ L, free q.base) ∨ ∃ q, o = .threw q ∧ vx_T XC st q t mc ms free
/-- a callee that returns or throws -/
def vx_Met (l : Launch) (y : MethodName) (ws : List Cond) (rm : Room) (Pc : Array Value → State → Prop) (Qc : Array Value → State → Outcome → State → Prop) (XC : String → State → State → Prop) (mc ms : Nat) (free : Addr → Prop) : Prop :=
  MetFree l y (headSpec ws rm) Pc (fun _ _ _ _ _ => True) (vx_Q Qc XC mc ms free)
def vx_Post (XC : String → State → State → Prop) (mc ms : Nat) (free : Addr → Prop) : Pt → Array Value → Addr → Pt → Prop := fun A a q B =>
  ∃ (g : JFrame) (mk : MethodId) (t : State) (L : List Loc) (E : String) (ce : Cell), B.U.heap = t.heap ∧ B.U.vm = t.vm ∧ XC E (A.U.calling g mk a) t ∧ t.heap[q]? = some ce ∧ ce.vm = .none ∧ A.U.vm.findClass E = some ce.cls ∧ B.locs = A.locs ++ L ∧ (∀ z ∈ L, free z.base) ∧ B.cells = A.cells + mc ∧ B.slots = A.slots + ms
def vx_Back (l : Launch) (R : Room) (p : Program) (e : Env) (below : List Frame) (s : State) (sargs : Array Value) (y : MethodName) (len W9 : Nat)
    (Pre : Pt → Array Value → Prop) (Post : Pt → Array Value → Option Value → Pt → Prop) (PostX : Pt → Array Value → Addr → Pt → Prop) : Prop :=
  ∀ (m : MethodId) (meth : Method) (c : Code) (A : Pt) (g : JFrame) (ig : Instr) (mk : MethodId) (a : Array Value),
    Stand p l e R s m sargs below meth c A.U A.locs A.cells A.slots → g.method = m → g.locals.size = c.maxLocals → decode c.code g.pc = .ok (ig, len) →
    2 * g.monitorRoom + (g.stack.map fun v => v.category).sum ≤ W9 → A.U.methodNamed? y = some mk → Pre A a →
    (∃ (v : Option Value) (B : Pt), Stand p l e R s m sargs below meth c B.U B.locs B.cells B.slots ∧ Post A a v B ∧
      Steps p.tables e below (doInvoke e (A.U.setTop g) [] mk a).1 (B.U.setTop { g with pc := g.pc + len, stack := v.toList ++ g.stack })) ∨
    (∃ (q : Addr) (B : Pt), Stand p l e R s m sargs below meth c B.U B.locs B.cells B.slots ∧ PostX A a q B ∧
      Steps p.tables e below (doInvoke e (A.U.setTop g) [] mk a).1 ((B.U.setTop g).pushFrame (.throwing q)))
section Payer
variable {l : Launch} {R : Room} {p : Program} {e : Env} {below : List Frame} {s : State} {sargs : Array Value} {y : MethodName} {len W9 : Nat}
theorem vx_back {ws : List Cond} {rm : Room} {Pc : Array Value → State → Prop} {Qc : Array Value → State → Outcome → State → Prop} {XC : String → State → State → Prop} {mc ms : Nat} {free : Addr → Prop} {bytes : ByteArray} {maxL : Nat} {ret : Option FieldType}
    (hM : vx_Met l y ws rm Pc Qc XC mc ms free) (hblind : FrameBlind Pc) (hrc : rm.cells = mc) (hrs : rm.slots = ms)
    (hframes : rm.frames + 1 ≤ R.frames) (hlocals : W9 + (maxL + 11) + rm.locals ≤ R.locals)
    (hws : ∀ w ∈ ws, ∀ a' U, s.WarmedH U.vm → w.before a' U = true) (hcode : Cond.code y bytes maxL ret ∈ ws) (hinit : ∀ a' U, s.WarmedH U.vm → (Cond.initialized y.cls).before a' U = true) :
    vx_Back l R p e below s sargs y len W9 (PreOf R mc ms Pc) (PostOf Qc mc ms free) (vx_Post XC mc ms free) := by
  intro m meth c A g ig mk a X hg hsize hdg hW hn hp
  have h1 : (headSpec ws rm).pre.before a A.U = true := atoms_intro fun w hw => hws w hw _ _ X.warmed
  have h2 : (Cond.code y bytes maxL ret).before a A.U = true := hws _ hcode _ _ X.warmed
  have h3 : (Cond.initialized y.cls).before a A.U = true := hinit _ _ X.warmed
  have h4 : A.cells + (headSpec ws rm).room.cells ≤ R.cells := by rw [show (headSpec ws rm).room.cells = mc from hrc]; exact hp.1
  have h5 : A.slots + (headSpec ws rm).room.slots ≤ R.slots := by rw [show (headSpec ws rm).room.slots = ms from hrs]; exact hp.2.1
  have hPc : Pc a (A.U.calling g mk a) := hblind _ _ _ _ hp.2.2
  obtain ⟨U, Ls, c0, s0⟩ := A
  dsimp only [Pt.U, Pt.locs, Pt.cells, Pt.slots] at h1 h2 h3 h4 h5 X hn hPc ⊢
  obtain ⟨methY, cY, hmY, hcY, -, hlY, -, -, -, -⟩ := Cond.code_spec hn h2
  obtain ⟨kY, hkY, -⟩ := className_of_methodNamed hn
  have hinitY : kY.init = .initialized := Cond.initialized_spec (findClass_of_methodNamed hn) hkY h3
  have h : At U g.method c below := by rw [hg]; exact X.here
  have hlocals9 : W9 + (maxL + 11) + (headSpec ws rm).room.locals ≤ R.locals := hlocals
  have happ : (headSpec ws rm).appliesLoose y e.platform (U.calling g mk a) = true :=
    Spec.appliesLoose_calling (g := g) h hdg hn hkY hinitY
      (X.room_calling (g := g) (R' := (headSpec ws rm).room) hsize hmY hcY hframes (by rw [hlY]; omega) h4 h5) h1
  obtain ⟨mid, hmid⟩ := h.above
  have hfr : (U.setTop g).frames = (.java g :: mid) ++ below := by rw [State.frames_setTop' g h.top, hmid]; rfl
  obtain ⟨o, s₂, hsteps, -, hend, hq⟩ := Steps.callFree hM p X.admits X.cas X.clock (acts := []) hfr happ hPc trivial
  have hq' : vx_Q Qc XC mc ms free a (U.calling g mk a) o s₂ := hq
  rw [State.frames_setTop' g h.top] at hend
  obtain ⟨g₀, hg0⟩ := Option.isSome_iff_exists.mp h.top
  obtain ⟨r, hr⟩ := State.topJava?_eq_some.mp hg0
  have hr' : (({ U with heap := s₂.heap, slotsUsed := s₂.slotsUsed } : State).setVm s₂.vm).frames = .java g₀ :: r := hr
  rcases hq' with ⟨hqc, L, hfe, hL⟩ | ⟨q, rfl, E, ce, L, hx, hce, hcv, hcl, hW₂, hsm, hL⟩
  · obtain ⟨⟨v, rfl⟩, hW₂, e2, q2, q3, q4, q5, q6⟩ := id hfe
    have e3 : s₂ = ({ (U.calling g mk a).setFrames s₂.frames with heap := s₂.heap, slotsUsed := s₂.slotsUsed } : State).setVm s₂.vm := by
      have : s₂ = ({ s₂ with vm := (U.calling g mk a).vm } : State).setVm s₂.vm := rfl
      rw [e2] at this
      exact this
    obtain ⟨c₂, i₂, len₂, hc₂, hd₂, hf₂⟩ := hend
    have hW' : U.WarmedH s₂.vm := hW₂
    have hcc : c₂ = c := by
      have h1 : s₂.code? g.method = U.code? g.method := by
        rw [State.code?_eq, State.code?_eq, hW'.alike.method?]
      exact Option.some.inj (hc₂.symm.trans (h1.trans h.code))
    subst hcc
    have hlen : len₂ = len := by rw [hdg] at hd₂; cases hd₂; rfl
    subst hlen
    have hs₂ : s₂ = (({ U with heap := s₂.heap, slotsUsed := s₂.slotsUsed } : State).setVm s₂.vm).setTop { g with pc := g.pc + len₂, stack := v.toList ++ g.stack } := by
      refine e3.trans ?_
      rw [hf₂, State.calling_eq h.top, State.setFrames_setFrames, State.setTop_of_frames _ hr', hr]
      rfl
    have hsame : U.sameButNew ({ U with heap := s₂.heap, slotsUsed := s₂.slotsUsed } : State) L mc ms := by
      refine ⟨?_, q2, q3, q4, q5, q6⟩
      obtain ⟨t, ht, -⟩ := State.frames_cons hr
      show ({ U with heap := s₂.heap, slotsUsed := s₂.slotsUsed } : State) = { U.setFrames U.frames with heap := s₂.heap, slotsUsed := s₂.slotsUsed }
      rw [State.setFrames_self ht]
    subst hg
    refine Or.inl ⟨v, ⟨(({ U with heap := s₂.heap, slotsUsed := s₂.slotsUsed } : State).setVm s₂.vm), Ls ++ L, c0 + mc, s0 + ms⟩,
      ⟨X.admits, X.cas, X.clock, X.frames, X.room, X.hears, X.method, X.code, (X.here.setHeapUsed s₂.heap s₂.slotsUsed).setVm hW'.alike, X.tail, State.WarmedH.trans X.warmed hW', X.limits, X.bytes, X.same.trans (hsame.setVm s.vm)⟩,
      ⟨g, mk, s₂, L, rfl, rfl, hqc, rfl, hL, rfl, rfl⟩, ?_⟩
    show Steps p.tables e below _ ((({ U with heap := s₂.heap, slotsUsed := s₂.slotsUsed } : State).setVm s₂.vm).setTop { g with pc := g.pc + len₂, stack := v.toList ++ g.stack })
    rw [← hs₂]
    exact hsteps
  · obtain ⟨e2, q2, q3, q4, q5, q6⟩ := id hsm
    have e3 : s₂ = ({ (U.calling g mk a).setFrames s₂.frames with heap := s₂.heap, slotsUsed := s₂.slotsUsed } : State).setVm s₂.vm := by
      have : s₂ = ({ s₂ with vm := (U.calling g mk a).vm } : State).setVm s₂.vm := rfl
      rw [e2] at this
      exact this
    have hf₂ : s₂.frames = .throwing q :: .java g :: U.frames.tail := hend
    have hW' : U.WarmedH s₂.vm := hW₂
    have hs₂ : s₂ = ((({ U with heap := s₂.heap, slotsUsed := s₂.slotsUsed } : State).setVm s₂.vm).setTop g).pushFrame (.throwing q) := by
      refine e3.trans ?_
      rw [hf₂, State.calling_eq h.top, State.setFrames_setFrames, State.pushFrame, State.frames_setTop _ hr', State.setTop_of_frames _ hr', State.setFrames_setFrames, hr]
      rfl
    have hsame : U.sameButNew ({ U with heap := s₂.heap, slotsUsed := s₂.slotsUsed } : State) L mc ms := by
      refine ⟨?_, q2, q3, q4, q5, q6⟩
      obtain ⟨t, ht, -⟩ := State.frames_cons hr
      show ({ U with heap := s₂.heap, slotsUsed := s₂.slotsUsed } : State) = { U.setFrames U.frames with heap := s₂.heap, slotsUsed := s₂.slotsUsed }
      rw [State.setFrames_self ht]
    subst hg
    refine Or.inr ⟨q, ⟨(({ U with heap := s₂.heap, slotsUsed := s₂.slotsUsed } : State).setVm s₂.vm), Ls ++ L, c0 + mc, s0 + ms⟩,
      ⟨X.admits, X.cas, X.clock, X.frames, X.room, X.hears, X.method, X.code, (X.here.setHeapUsed s₂.heap s₂.slotsUsed).setVm hW'.alike, X.tail, State.WarmedH.trans X.warmed hW', X.limits, X.bytes, X.same.trans (hsame.setVm s.vm)⟩,
      ⟨g, mk, s₂, L, E, ce, rfl, rfl, hx, hce, hcv, hcl, rfl, hL, rfl, rfl⟩, ?_⟩
    show Steps p.tables e below _ (((({ U with heap := s₂.heap, slotsUsed := s₂.slotsUsed } : State).setVm s₂.vm).setTop g).pushFrame (.throwing q))
    rw [← hs₂]
    exact hsteps
end Payer
section Calls
variable {p : Program} {l : Launch} {e : Env} {R : Room} {s : State} {m : MethodId} {args : Array Value} {below : List Frame} {meth : Method} {c : Code} {T : State} {locs : List Loc} {cells slots : Nat}
theorem vx_callV (X : Stand p l e R s m args below meth c T locs cells slots) (hexec : p.tables.exec = Jvm.exec) {own C : String} {index : Nat} {y : MethodName} {bytes : ByteArray} {maxL : Nat} {ret : Option FieldType}
    (hown : s.vm.findClass own = some m.cls) (hlink : (Cond.methodLink own index y).before args s = true) (hinst : (Cond.instanceMethod y).before args s = true) (hsel : (Cond.selects C y y).before args s = true)
    (hcode : (Cond.code y bytes maxL ret).before args s = true) (hy : y.cls ≠ "java/lang/invoke/MethodHandle" ∧ y.cls ≠ "java/lang/invoke/VarHandle")
    {W9 : Nat} {Pre : Pt → Array Value → Prop} {Post : Pt → Array Value → Option Value → Pt → Prop} {PostX : Pt → Array Value → Addr → Pt → Prop} (hK : vx_Back l R p e below s args y 3 W9 Pre Post PostX)
    {b : Addr} {cellB : Cell} (hcell : T.heap[b]? = some cellB) (hobj : cellB.vm.isStatics = false) (hcls : s.vm.findClass C = some cellB.cls)
    {g : JFrame} (hg : g.method = m) (hsize : g.locals.size = c.maxLocals) {argsL rest : List Value} (hlen : ∀ sig, parseMethodDescriptor y.desc = some sig → argsL.length = sig.parameters.length)
    (hstack : g.stack = argsL.reverse ++ .ref b :: rest) (hW : 2 * g.monitorRoom + (rest.map fun v => v.category).sum ≤ W9) (hdg : decode c.code g.pc = .ok (.invokevirtual index, 3))
    (hpre : ∀ vm₁, s.WarmedH vm₁ → Pre ⟨T.setVm vm₁, locs, cells, slots⟩ (Value.ref b :: argsL).toArray) :
    (∃ (v : Option Value) (vm₁ : Vm) (B : Pt), s.WarmedH vm₁ ∧ Stand p l e R s m args below meth c B.U B.locs B.cells B.slots ∧ Post ⟨T.setVm vm₁, locs, cells, slots⟩ (Value.ref b :: argsL).toArray v B ∧
      ∀ target, Steps p.tables e below (B.U.setTop { g with pc := g.pc + 3, stack := v.toList ++ rest }) target → Steps p.tables e below (T.setTop g) target) ∨
    (∃ (q : Addr) (vm₁ : Vm) (B : Pt), s.WarmedH vm₁ ∧ Stand p l e R s m args below meth c B.U B.locs B.cells B.slots ∧ PostX ⟨T.setVm vm₁, locs, cells, slots⟩ (Value.ref b :: argsL).toArray q B ∧
      Steps p.tables e below (T.setTop g) ((B.U.setTop { g with stack := rest }).pushFrame (.throwing q))) := by
  obtain ⟨mk, methM, hnamed, hmethM, hstM, habM⟩ := Cond.instanceMethod_spec hinst
  obtain ⟨methM', cM, hmethM', -, -, -, -, -, -, hsigM⟩ := Cond.code_spec hnamed hcode
  cases hmethM.symm.trans hmethM'
  obtain ⟨c2, r2, m2, q1, q2, q3, q4, kP, hkP, hkPi⟩ := Cond.selects_spec hsel
  cases hcls.symm.trans q1
  cases (State.methodFound?_of_named hnamed hy).symm.trans q2
  cases hnamed.symm.trans q3
  have hselP : selectMethod e.platform s.vm cellB.cls mk = .method mk := by rw [Launch.admits_selectMethod X.admits]; exact q4
  obtain ⟨vm₁, X₁, hstep₁⟩ := X.invokevirtual hexec hown hlink hnamed hmethM hstM hkP hkPi hy (a := b) (cell := cellB) hcell
    (fun z h => by rw [h] at hobj; cases hobj) hselP hmethM habM hkP hkPi (g := g) hg (argsL := argsL) (rest := rest) (hlen _ hsigM) hstack hdg
  rcases hK m meth c ⟨T.setVm vm₁, locs, cells, slots⟩ { g with stack := rest } (.invokevirtual index) mk (Value.ref b :: argsL).toArray X₁ hg hsize hdg hW (X₁.named hnamed) (hpre vm₁ X₁.warmed) with ⟨v, B, X', hpost, hsteps⟩ | ⟨q, B, X', hpost, hsteps⟩
  · exact Or.inl ⟨v, vm₁, B, X₁.warmed, X', hpost, fun target h => hstep₁ _ fun acts => by rw [doInvoke_state]; exact hsteps.trans h⟩
  · exact Or.inr ⟨q, vm₁, B, X₁.warmed, X', hpost, hstep₁ _ fun acts => by rw [doInvoke_state]; exact hsteps⟩
theorem vx_callS (X : Stand p l e R s m args below meth c T locs cells slots) (hexec : p.tables.exec = Jvm.exec) {own : String} {index : Nat} {y : MethodName} {bytes : ByteArray} {maxL : Nat} {ret : Option FieldType}
    (hown : s.vm.findClass own = some m.cls) (hlink : (Cond.methodLink own index y).before args s = true) (hstat : (Cond.static y).before args s = true) (hinit : (Cond.initialized y.cls).before args s = true)
    (hcode : (Cond.code y bytes maxL ret).before args s = true) (hy : y.cls ≠ "java/lang/invoke/MethodHandle" ∧ y.cls ≠ "java/lang/invoke/VarHandle")
    {W9 : Nat} {Pre : Pt → Array Value → Prop} {Post : Pt → Array Value → Option Value → Pt → Prop} {PostX : Pt → Array Value → Addr → Pt → Prop} (hK : vx_Back l R p e below s args y 3 W9 Pre Post PostX)
    {g : JFrame} (hg : g.method = m) (hsize : g.locals.size = c.maxLocals) {argsL rest : List Value} (hlen : ∀ sig, parseMethodDescriptor y.desc = some sig → argsL.length = sig.parameters.length)
    (hstack : g.stack = argsL.reverse ++ rest) (hW : 2 * g.monitorRoom + (rest.map fun v => v.category).sum ≤ W9) (hdg : decode c.code g.pc = .ok (.invokestatic index, 3))
    (hpre : ∀ vm₁, s.WarmedH vm₁ → Pre ⟨T.setVm vm₁, locs, cells, slots⟩ argsL.toArray) :
    (∃ (v : Option Value) (vm₁ : Vm) (B : Pt), s.WarmedH vm₁ ∧ Stand p l e R s m args below meth c B.U B.locs B.cells B.slots ∧ Post ⟨T.setVm vm₁, locs, cells, slots⟩ argsL.toArray v B ∧
      ∀ target, Steps p.tables e below (B.U.setTop { g with pc := g.pc + 3, stack := v.toList ++ rest }) target → Steps p.tables e below (T.setTop g) target) ∨
    (∃ (q : Addr) (vm₁ : Vm) (B : Pt), s.WarmedH vm₁ ∧ Stand p l e R s m args below meth c B.U B.locs B.cells B.slots ∧ PostX ⟨T.setVm vm₁, locs, cells, slots⟩ argsL.toArray q B ∧
      Steps p.tables e below (T.setTop g) ((B.U.setTop { g with stack := rest }).pushFrame (.throwing q))) := by
  obtain ⟨mk, hnamed⟩ := Cond.code_named hcode
  obtain ⟨methM, cM, hmethM, -, -, -, -, -, -, hsigM⟩ := Cond.code_spec hnamed hcode
  have hstatic : methM.isStatic = true := Cond.static_spec hnamed hmethM hstat
  obtain ⟨kP, hkP, -⟩ := className_of_methodNamed hnamed
  have hinitP : kP.init = .initialized := Cond.initialized_spec (findClass_of_methodNamed hnamed) hkP hinit
  obtain ⟨vm₁, X₁, hstep₁⟩ := X.invokestatic hexec hown hlink hnamed hmethM hstatic hkP hinitP hy (g := g) hg (argsL := argsL) (rest := rest) (hlen _ hsigM) hstack hdg
  rcases hK m meth c ⟨T.setVm vm₁, locs, cells, slots⟩ { g with stack := rest } (.invokestatic index) mk argsL.toArray X₁ hg hsize hdg hW (X₁.named hnamed) (hpre vm₁ X₁.warmed) with ⟨v, B, X', hpost, hsteps⟩ | ⟨q, B, X', hpost, hsteps⟩
  · exact Or.inl ⟨v, vm₁, B, X₁.warmed, X', hpost, fun target h => hstep₁ _ fun acts => by rw [doInvoke_state]; exact hsteps.trans h⟩
  · exact Or.inr ⟨q, vm₁, B, X₁.warmed, X', hpost, hstep₁ _ fun acts => by rw [doInvoke_state]; exact hsteps⟩
end Calls
theorem vx_cls {s : State} {T : State} {vm₁ : Vm} {E : String} {k : ClassId} (hW : s.WarmedH vm₁) (h : (T.setVm vm₁).vm.findClass E = some k) : s.vm.findClass E = some k := by
  have h1 : vm₁.findClass E = some k := h
  rw [hW.alike.findClass] at h1
  exact h1
/-- the method's frame g, with q thrown over it -/
def vx_W (p : Program) (l : Launch) (e : Env) (R : Room) (s : State) (m : MethodId) (args : Array Value) (below : List Frame) (meth : Method) (c : Code) (H : Heap) (locs : List Loc) (cells slots : Nat) (Q : State → Prop) (g : JFrame) (q : Addr) : Prop :=
  ∀ T : State, T.heap = H → Stand p l e R s m args below meth c T locs cells slots → ∃ t, Steps p.tables e below ((T.setTop g).pushFrame (.throwing q)) t ∧ Q t
def vx_Run (p : Program) (l : Launch) (e : Env) (R : Room) (s : State) (m : MethodId) (args : Array Value) (below : List Frame) (meth : Method) (c : Code) (H : Heap) (locs : List Loc) (cells slots mc ms : Nat) (g : JFrame) (rest : List Value) (Qa : State → Outcome → State → Prop) (XC : String → State → State → Prop) (free : Addr → Prop) : Prop :=
  ∀ T : State, T.heap = H → Stand p l e R s m args below meth c T locs cells slots →
    (∃ (v : Option Value) (st₀ t T' : State) (L : List Loc), st₀.heap = H ∧ Stand p l e R s m args below meth c T' (locs ++ L) (cells + mc) (slots + ms) ∧ (∀ q ∈ L, free q.base) ∧ T'.heap = t.heap ∧ T'.vm = t.vm ∧ Qa st₀ (.returned v) t ∧
      Goes p e below T g T' { g with pc := g.pc + 3, stack := v.toList ++ rest }) ∨
    (∃ (q : Addr) (st₀ t T' : State) (L : List Loc) (E : String) (ce : Cell), st₀.heap = H ∧ Stand p l e R s m args below meth c T' (locs ++ L) (cells + mc) (slots + ms) ∧ (∀ z ∈ L, free z.base) ∧ T'.heap = t.heap ∧ T'.vm = t.vm ∧ XC E st₀ t ∧ t.heap[q]? = some ce ∧ ce.vm = .none ∧ s.vm.findClass E = some ce.cls ∧
      Steps p.tables e below (T.setTop g) ((T'.setTop { g with stack := rest }).pushFrame (.throwing q)))
def vx_X {S : Type} (px : S → Prop) (B : String → S → State → Prop) (A : Nat → Prop) : String → State → State → Prop := fun E st t => ∃ u : S, px u ∧ B E u t ∧ va_F A st t
section Runs
variable {p : Program} {l : Launch} {e : Env} {R : Room} {s : State} {m : MethodId} {args : Array Value} {below : List Frame} {meth : Method} {c : Code} {H : Heap} {locs : List Loc} {cells slots : Nat}
variable {y : MethodName} {bytes cc : ByteArray} {maxL nL mc ms n index : Nat} {ret : Option FieldType} {ws : List Cond} {rm : Room} {Pc : Array Value → State → Prop} {Qc : Array Value → State → Outcome → State → Prop} {XC : String → State → State → Prop} {free : Addr → Prop} {Ts : List Cond} {own C : String} {b : Addr} {As rest : List Value} {g : JFrame}
theorem vx_callBack (cb : CallB R s args own index y bytes maxL ret ws rm mc ms n) (hM : vx_Met l y ws rm Pc Qc XC mc ms free) (hbl : FrameBlind Pc) : vx_Back l R p e below s args y 3 8 (PreOf R mc ms Pc) (PostOf Qc mc ms free) (vx_Post XC mc ms free) := by
  obtain ⟨hrc, hrs, hfr, hlo, hws, hcw, -, hini, -⟩ := cb
  exact vx_back (bytes := bytes) (maxL := maxL) (ret := ret) hM hbl hrc hrs hfr hlo hws hcw (fun a' U hW => word_at hW (Or.inl (by first | rfl | simp [Cond.onTables, Cond.keeps, Cond.steady])) hini)
theorem vx_runV (S : CallFix p m c cc nL s args Ts own) (hM : vx_Met l y ws rm Pc Qc XC mc ms free) (cw : CallW R s args own C index y bytes maxL ret ws rm mc ms n) (hp : PreV s H C b Pc As)
    (hg : g.method = m) (hn : As.length = n) (hsize : g.locals.size = nL) (hstack : g.stack = As.reverse ++ .ref b :: rest) (hW : 2 * g.monitorRoom + (rest.map fun v => v.category).sum ≤ 8) (hdg : decode cc g.pc = .ok (.invokevirtual index, 3)) (hf : cells + mc ≤ R.cells ∧ slots + ms ≤ R.slots) :
    vx_Run p l e R s m args below meth c H locs cells slots mc ms g rest (Qc (Value.ref b :: As).toArray) XC free := by
  have hK : vx_Back l R p e below s args y 3 8 (PreOf R mc ms Pc) (PostOf Qc mc ms free) (vx_Post XC mc ms free) := vx_callBack cw.1 hM hp.1
  obtain ⟨⟨-, -, -, -, -, -, hcode, -, hy, hlen, hl⟩, hin, hse⟩ := cw
  obtain ⟨hx, hb, hml, ho, -⟩ := S
  obtain ⟨-, ⟨cellB, hcB, hoB, hclB⟩, hPc⟩ := hp
  intro T hT X
  rcases vx_callV X hx (C := C) (bytes := bytes) (maxL := maxL) (ret := ret) ho hl hin hse hcode hy hK (by rw [hT]; exact hcB) hoB hclB hg (hsize.trans hml.symm) (argsL := As) (rest := rest) (fun sig h => hn.trans (hlen sig h)) hstack hW (by rw [hb]; exact hdg)
    (fun vm₁ hW₁ => ⟨hf.1, hf.2, hPc (T.setVm vm₁) hT hW₁⟩) with ⟨v, vm₁, ⟨U', l2, c2, s2⟩, hW₁, X', ⟨g', mk, t, L, e1, e2, hq, h1, hL, h2, h3⟩, st⟩ | ⟨q, vm₁, ⟨U', l2, c2, s2⟩, hW₁, X', ⟨g', mk, t, L, E, ce, e1, e2, hq, hce, hcv, hcl, h1, hL, h2, h3⟩, st⟩
  · dsimp only [Pt.U, Pt.locs, Pt.cells, Pt.slots] at X' e1 e2 h1 h2 h3 st
    subst h1; subst h2; subst h3
    exact Or.inl ⟨v, (T.setVm vm₁).calling g' mk (Value.ref b :: As).toArray, t, U', L, hT, X', hL, e1, e2, hq, st⟩
  · dsimp only [Pt.U, Pt.locs, Pt.cells, Pt.slots] at X' e1 e2 h1 h2 h3 st hcl
    subst h1; subst h2; subst h3
    exact Or.inr ⟨q, (T.setVm vm₁).calling g' mk (Value.ref b :: As).toArray, t, U', L, E, ce, hT, X', hL, e1, e2, hq, hce, hcv, vx_cls hW₁ hcl, st⟩
theorem vx_runS (S : CallFix p m c cc nL s args Ts own) (hM : vx_Met l y ws rm Pc Qc XC mc ms free) (cw : CallB R s args own index y bytes maxL ret ws rm mc ms n ∧ (Cond.static y).before args s = true) (hp : PreS s H Pc As)
    (hg : g.method = m) (hn : As.length = n) (hsize : g.locals.size = nL) (hstack : g.stack = As.reverse ++ rest) (hW : 2 * g.monitorRoom + (rest.map fun v => v.category).sum ≤ 8) (hdg : decode cc g.pc = .ok (.invokestatic index, 3)) (hf : cells + mc ≤ R.cells ∧ slots + ms ≤ R.slots) :
    vx_Run p l e R s m args below meth c H locs cells slots mc ms g rest (Qc As.toArray) XC free := by
  have hK : vx_Back l R p e below s args y 3 8 (PreOf R mc ms Pc) (PostOf Qc mc ms free) (vx_Post XC mc ms free) := vx_callBack cw.1 hM hp.1
  obtain ⟨⟨-, -, -, -, -, -, hcode, hini, hy, hlen, hl⟩, hstt⟩ := cw
  obtain ⟨hx, hb, hml, ho, -⟩ := S
  intro T hT X
  rcases vx_callS X hx (bytes := bytes) (maxL := maxL) (ret := ret) ho hl hstt hini hcode hy hK hg (hsize.trans hml.symm) (argsL := As) (rest := rest) (fun sig h => hn.trans (hlen sig h)) hstack hW (by rw [hb]; exact hdg)
    (fun vm₁ hW₁ => ⟨hf.1, hf.2, hp.2 (T.setVm vm₁) hT hW₁⟩) with ⟨v, vm₁, ⟨U', l2, c2, s2⟩, hW₁, X', ⟨g', mk, t, L, e1, e2, hq, h1, hL, h2, h3⟩, st⟩ | ⟨q, vm₁, ⟨U', l2, c2, s2⟩, hW₁, X', ⟨g', mk, t, L, E, ce, e1, e2, hq, hce, hcv, hcl, h1, hL, h2, h3⟩, st⟩
  · dsimp only [Pt.U, Pt.locs, Pt.cells, Pt.slots] at X' e1 e2 h1 h2 h3 st
    subst h1; subst h2; subst h3
    exact Or.inl ⟨v, (T.setVm vm₁).calling g' mk As.toArray, t, U', L, hT, X', hL, e1, e2, hq, st⟩
  · dsimp only [Pt.U, Pt.locs, Pt.cells, Pt.slots] at X' e1 e2 h1 h2 h3 st hcl
    subst h1; subst h2; subst h3
    exact Or.inr ⟨q, (T.setVm vm₁).calling g' mk As.toArray, t, U', L, E, ce, hT, X', hL, e1, e2, hq, hce, hcv, vx_cls hW₁ hcl, st⟩
end Runs
section Rows
variable {p : Program} {l : Launch} {e : Env} {R : Room} {s : State} {m : MethodId} {args : Array Value} {below : List Frame} {meth : Method} {c : Code} {H : Heap} {locs : List Loc} {cells slots : Nat} {Q : State → Prop}
variable {mc ms : Nat} {free : Addr → Prop} {A0 A1 : Nat → Prop} {H0 : Heap} {a : Array Value} {pc : Nat} {ls : Array Slot} {st0 rest : List Value}
theorem vx_keep {st₀ t T' : State} {L : List Loc} (h0 : st₀.heap = H) (e1 : T'.heap = t.heap) (hS : va_S A0 H0 H locs) (hA : ∀ q, q < H.size → A1 q → A0 q) (hf : ∀ q, free q → A0 q) (hL : ∀ q ∈ L, free q.base) (hF : va_F A1 st₀ t) :
    H.size ≤ T'.heap.size ∧ (∀ q : Nat, q < H.size → ¬ A1 q → T'.heap[q]? = H[q]?) ∧ va_S A0 H0 T'.heap (locs ++ L) := by
  obtain ⟨hz, hk⟩ := hF
  rw [h0] at hz hk
  exact ⟨by rw [e1]; exact hz, fun q h1 h2 => by rw [e1]; exact hk q h1 h2,
    ⟨Nat.le_trans hS.1 (by rw [e1]; exact hz), fun q h1 h2 => by rw [e1, hk q (Nat.lt_of_lt_of_le h1 hS.1) (fun z => h2 (hA q (Nat.lt_of_lt_of_le h1 hS.1) z))]; exact hS.2.1 q h1 h2, fun q hq => by
      rcases List.mem_append.mp hq with h | h
      · exact hS.2.2 q h
      · exact hf _ (hL q h)⟩⟩
theorem vx_calli {S SX : Type} {post : Int32 → S → Prop} {px : SX → Prop} {B : S → State → Prop} {BX : String → SX → State → Prop} {AX : Nat → Prop} (hr : vx_Run p l e R s m args below meth c H locs cells slots mc ms (F0 m pc ls st0) rest (va_Qi post B A1 a) (vx_X px BX AX) free) (hS : va_S A0 H0 H locs) (hA : ∀ q, q < H.size → A1 q → A0 q) (hf : ∀ q, free q → A0 q) (hAX : ∀ q, q < H.size → AX q → A0 q)
    (kx : ∀ (E : String) (ce : Cell) (q9 : Addr) (u : SX) (t : State) (H1 : Heap) (locs1 : List Loc), t.heap = H1 → s.vm.Alike t.vm → px u → BX E u t → H.size ≤ H1.size → (∀ q : Nat, q < H.size → ¬ AX q → H1[q]? = H[q]?) → va_S A0 H0 H1 locs1 → H1[q9]? = some ce → ce.vm = .none → s.vm.findClass E = some ce.cls → vx_W p l e R s m args below meth c H1 locs1 (cells + mc) (slots + ms) Q (F0 m pc ls rest) q9)
    (kk : ∀ (r : Int32) (u : S) (t : State) (H1 : Heap) (locs1 : List Loc), t.heap = H1 → s.vm.Alike t.vm → post r u → B u t → H.size ≤ H1.size → (∀ q : Nat, q < H.size → ¬ A1 q → H1[q]? = H[q]?) → va_S A0 H0 H1 locs1 → W p l e R s m args below meth c H1 locs1 (cells + mc) (slots + ms) Q (F0 m (pc + 3) ls (.int r :: rest))) : W p l e R s m args below meth c H locs cells slots Q (F0 m pc ls st0) := by
  intro T hT X
  rcases hr T hT X with ⟨v, st₀, t, T', L, h0, X', hL, e1, e2, ⟨⟨r, u, hv, hp, hb⟩, hF⟩, st⟩ | ⟨q, st₀, t, T', L, E, ce, h0, X', hL, e1, e2, ⟨u, hp, hb, hF⟩, hce, hcv, hcl, st⟩
  · cases hv
    obtain ⟨k1, k2, k3⟩ := vx_keep h0 e1 hS hA hf hL hF
    obtain ⟨t2, a1, b1⟩ := kk r u t T'.heap (locs ++ L) e1.symm (by rw [← e2]; exact X'.warmed.alike) hp hb k1 k2 k3 T' rfl X'
    exact ⟨t2, st t2 a1, b1⟩
  · obtain ⟨k1, k2, k3⟩ := vx_keep h0 e1 hS hAX hf hL hF
    obtain ⟨t2, a1, b1⟩ := kx E ce q u t T'.heap (locs ++ L) e1.symm (by rw [← e2]; exact X'.warmed.alike) hp hb k1 k2 k3 (by rw [e1]; exact hce) hcv hcl T' rfl X'
    exact ⟨t2, st.trans a1, b1⟩
theorem vx_calll {S SX : Type} {post : Int64 → S → Prop} {px : SX → Prop} {B : S → State → Prop} {BX : String → SX → State → Prop} {AX : Nat → Prop} (hr : vx_Run p l e R s m args below meth c H locs cells slots mc ms (F0 m pc ls st0) rest (va_Ql post B A1 a) (vx_X px BX AX) free) (hS : va_S A0 H0 H locs) (hA : ∀ q, q < H.size → A1 q → A0 q) (hf : ∀ q, free q → A0 q) (hAX : ∀ q, q < H.size → AX q → A0 q)
    (kx : ∀ (E : String) (ce : Cell) (q9 : Addr) (u : SX) (t : State) (H1 : Heap) (locs1 : List Loc), t.heap = H1 → s.vm.Alike t.vm → px u → BX E u t → H.size ≤ H1.size → (∀ q : Nat, q < H.size → ¬ AX q → H1[q]? = H[q]?) → va_S A0 H0 H1 locs1 → H1[q9]? = some ce → ce.vm = .none → s.vm.findClass E = some ce.cls → vx_W p l e R s m args below meth c H1 locs1 (cells + mc) (slots + ms) Q (F0 m pc ls rest) q9)
    (kk : ∀ (r : Int64) (u : S) (t : State) (H1 : Heap) (locs1 : List Loc), t.heap = H1 → s.vm.Alike t.vm → post r u → B u t → H.size ≤ H1.size → (∀ q : Nat, q < H.size → ¬ A1 q → H1[q]? = H[q]?) → va_S A0 H0 H1 locs1 → W p l e R s m args below meth c H1 locs1 (cells + mc) (slots + ms) Q (F0 m (pc + 3) ls (.long r :: rest))) : W p l e R s m args below meth c H locs cells slots Q (F0 m pc ls st0) := by
  intro T hT X
  rcases hr T hT X with ⟨v, st₀, t, T', L, h0, X', hL, e1, e2, ⟨⟨r, u, hv, hp, hb⟩, hF⟩, st⟩ | ⟨q, st₀, t, T', L, E, ce, h0, X', hL, e1, e2, ⟨u, hp, hb, hF⟩, hce, hcv, hcl, st⟩
  · cases hv
    obtain ⟨k1, k2, k3⟩ := vx_keep h0 e1 hS hA hf hL hF
    obtain ⟨t2, a1, b1⟩ := kk r u t T'.heap (locs ++ L) e1.symm (by rw [← e2]; exact X'.warmed.alike) hp hb k1 k2 k3 T' rfl X'
    exact ⟨t2, st t2 a1, b1⟩
  · obtain ⟨k1, k2, k3⟩ := vx_keep h0 e1 hS hAX hf hL hF
    obtain ⟨t2, a1, b1⟩ := kx E ce q u t T'.heap (locs ++ L) e1.symm (by rw [← e2]; exact X'.warmed.alike) hp hb k1 k2 k3 (by rw [e1]; exact hce) hcv hcl T' rfl X'
    exact ⟨t2, st.trans a1, b1⟩
theorem vx_callf {S SX : Type} {post : UInt32 → S → Prop} {px : SX → Prop} {B : S → State → Prop} {BX : String → SX → State → Prop} {AX : Nat → Prop} (hr : vx_Run p l e R s m args below meth c H locs cells slots mc ms (F0 m pc ls st0) rest (va_Qf post B A1 a) (vx_X px BX AX) free) (hS : va_S A0 H0 H locs) (hA : ∀ q, q < H.size → A1 q → A0 q) (hf : ∀ q, free q → A0 q) (hAX : ∀ q, q < H.size → AX q → A0 q)
    (kx : ∀ (E : String) (ce : Cell) (q9 : Addr) (u : SX) (t : State) (H1 : Heap) (locs1 : List Loc), t.heap = H1 → s.vm.Alike t.vm → px u → BX E u t → H.size ≤ H1.size → (∀ q : Nat, q < H.size → ¬ AX q → H1[q]? = H[q]?) → va_S A0 H0 H1 locs1 → H1[q9]? = some ce → ce.vm = .none → s.vm.findClass E = some ce.cls → vx_W p l e R s m args below meth c H1 locs1 (cells + mc) (slots + ms) Q (F0 m pc ls rest) q9)
    (kk : ∀ (r : UInt32) (u : S) (t : State) (H1 : Heap) (locs1 : List Loc), t.heap = H1 → s.vm.Alike t.vm → post r u → B u t → H.size ≤ H1.size → (∀ q : Nat, q < H.size → ¬ A1 q → H1[q]? = H[q]?) → va_S A0 H0 H1 locs1 → W p l e R s m args below meth c H1 locs1 (cells + mc) (slots + ms) Q (F0 m (pc + 3) ls (.float r :: rest))) : W p l e R s m args below meth c H locs cells slots Q (F0 m pc ls st0) := by
  intro T hT X
  rcases hr T hT X with ⟨v, st₀, t, T', L, h0, X', hL, e1, e2, ⟨⟨r, u, hv, hp, hb⟩, hF⟩, st⟩ | ⟨q, st₀, t, T', L, E, ce, h0, X', hL, e1, e2, ⟨u, hp, hb, hF⟩, hce, hcv, hcl, st⟩
  · cases hv
    obtain ⟨k1, k2, k3⟩ := vx_keep h0 e1 hS hA hf hL hF
    obtain ⟨t2, a1, b1⟩ := kk r u t T'.heap (locs ++ L) e1.symm (by rw [← e2]; exact X'.warmed.alike) hp hb k1 k2 k3 T' rfl X'
    exact ⟨t2, st t2 a1, b1⟩
  · obtain ⟨k1, k2, k3⟩ := vx_keep h0 e1 hS hAX hf hL hF
    obtain ⟨t2, a1, b1⟩ := kx E ce q u t T'.heap (locs ++ L) e1.symm (by rw [← e2]; exact X'.warmed.alike) hp hb k1 k2 k3 (by rw [e1]; exact hce) hcv hcl T' rfl X'
    exact ⟨t2, st.trans a1, b1⟩
theorem vx_calld {S SX : Type} {post : UInt64 → S → Prop} {px : SX → Prop} {B : S → State → Prop} {BX : String → SX → State → Prop} {AX : Nat → Prop} (hr : vx_Run p l e R s m args below meth c H locs cells slots mc ms (F0 m pc ls st0) rest (va_Qd post B A1 a) (vx_X px BX AX) free) (hS : va_S A0 H0 H locs) (hA : ∀ q, q < H.size → A1 q → A0 q) (hf : ∀ q, free q → A0 q) (hAX : ∀ q, q < H.size → AX q → A0 q)
    (kx : ∀ (E : String) (ce : Cell) (q9 : Addr) (u : SX) (t : State) (H1 : Heap) (locs1 : List Loc), t.heap = H1 → s.vm.Alike t.vm → px u → BX E u t → H.size ≤ H1.size → (∀ q : Nat, q < H.size → ¬ AX q → H1[q]? = H[q]?) → va_S A0 H0 H1 locs1 → H1[q9]? = some ce → ce.vm = .none → s.vm.findClass E = some ce.cls → vx_W p l e R s m args below meth c H1 locs1 (cells + mc) (slots + ms) Q (F0 m pc ls rest) q9)
    (kk : ∀ (r : UInt64) (u : S) (t : State) (H1 : Heap) (locs1 : List Loc), t.heap = H1 → s.vm.Alike t.vm → post r u → B u t → H.size ≤ H1.size → (∀ q : Nat, q < H.size → ¬ A1 q → H1[q]? = H[q]?) → va_S A0 H0 H1 locs1 → W p l e R s m args below meth c H1 locs1 (cells + mc) (slots + ms) Q (F0 m (pc + 3) ls (.double r :: rest))) : W p l e R s m args below meth c H locs cells slots Q (F0 m pc ls st0) := by
  intro T hT X
  rcases hr T hT X with ⟨v, st₀, t, T', L, h0, X', hL, e1, e2, ⟨⟨r, u, hv, hp, hb⟩, hF⟩, st⟩ | ⟨q, st₀, t, T', L, E, ce, h0, X', hL, e1, e2, ⟨u, hp, hb, hF⟩, hce, hcv, hcl, st⟩
  · cases hv
    obtain ⟨k1, k2, k3⟩ := vx_keep h0 e1 hS hA hf hL hF
    obtain ⟨t2, a1, b1⟩ := kk r u t T'.heap (locs ++ L) e1.symm (by rw [← e2]; exact X'.warmed.alike) hp hb k1 k2 k3 T' rfl X'
    exact ⟨t2, st t2 a1, b1⟩
  · obtain ⟨k1, k2, k3⟩ := vx_keep h0 e1 hS hAX hf hL hF
    obtain ⟨t2, a1, b1⟩ := kx E ce q u t T'.heap (locs ++ L) e1.symm (by rw [← e2]; exact X'.warmed.alike) hp hb k1 k2 k3 (by rw [e1]; exact hce) hcv hcl T' rfl X'
    exact ⟨t2, st.trans a1, b1⟩
theorem vx_callv {S SX : Type} {post : S → Prop} {px : SX → Prop} {B : S → State → Prop} {BX : String → SX → State → Prop} {AX : Nat → Prop} (hr : vx_Run p l e R s m args below meth c H locs cells slots mc ms (F0 m pc ls st0) rest (va_Qv post B A1 a) (vx_X px BX AX) free) (hS : va_S A0 H0 H locs) (hA : ∀ q, q < H.size → A1 q → A0 q) (hf : ∀ q, free q → A0 q) (hAX : ∀ q, q < H.size → AX q → A0 q)
    (kx : ∀ (E : String) (ce : Cell) (q9 : Addr) (u : SX) (t : State) (H1 : Heap) (locs1 : List Loc), t.heap = H1 → s.vm.Alike t.vm → px u → BX E u t → H.size ≤ H1.size → (∀ q : Nat, q < H.size → ¬ AX q → H1[q]? = H[q]?) → va_S A0 H0 H1 locs1 → H1[q9]? = some ce → ce.vm = .none → s.vm.findClass E = some ce.cls → vx_W p l e R s m args below meth c H1 locs1 (cells + mc) (slots + ms) Q (F0 m pc ls rest) q9)
    (kk : ∀ (u : S) (t : State) (H1 : Heap) (locs1 : List Loc), t.heap = H1 → s.vm.Alike t.vm → post u → B u t → H.size ≤ H1.size → (∀ q : Nat, q < H.size → ¬ A1 q → H1[q]? = H[q]?) → va_S A0 H0 H1 locs1 → W p l e R s m args below meth c H1 locs1 (cells + mc) (slots + ms) Q (F0 m (pc + 3) ls (rest))) : W p l e R s m args below meth c H locs cells slots Q (F0 m pc ls st0) := by
  intro T hT X
  rcases hr T hT X with ⟨v, st₀, t, T', L, h0, X', hL, e1, e2, ⟨⟨u, hv, hp, hb⟩, hF⟩, st⟩ | ⟨q, st₀, t, T', L, E, ce, h0, X', hL, e1, e2, ⟨u, hp, hb, hF⟩, hce, hcv, hcl, st⟩
  · cases hv
    obtain ⟨k1, k2, k3⟩ := vx_keep h0 e1 hS hA hf hL hF
    obtain ⟨t2, a1, b1⟩ := kk u t T'.heap (locs ++ L) e1.symm (by rw [← e2]; exact X'.warmed.alike) hp hb k1 k2 k3 T' rfl X'
    exact ⟨t2, st t2 a1, b1⟩
  · obtain ⟨k1, k2, k3⟩ := vx_keep h0 e1 hS hAX hf hL hF
    obtain ⟨t2, a1, b1⟩ := kx E ce q u t T'.heap (locs ++ L) e1.symm (by rw [← e2]; exact X'.warmed.alike) hp hb k1 k2 k3 (by rw [e1]; exact hce) hcv hcl T' rfl X'
    exact ⟨t2, st.trans a1, b1⟩
/-- caught by the row x of this method's table; the rows ahead don't take it -/
theorem vx_catch {own name : String} {E : String} {ce : Cell} {q : Addr} (hown : s.vm.findClass own = some m.cls) (pre : List ExceptionTableEntry) (x : ExceptionTableEntry) (suf : List ExceptionTableEntry) (hsplit : c.exceptionTable.toList = pre ++ x :: suf)
    (hpass : ∀ z ∈ pre, covers z pc = false ∨ (z.catchType ≠ 0 ∧ ∃ nm : String, (Cond.classLink own z.catchType nm).before args s = true ∧ va_Nc E nm s)) (hx : covers x pc = true) (h0 : x.catchType ≠ 0)
    (hlink : (Cond.classLink own x.catchType name).before args s = true) (hcast : (Cond.castable E name).before args s = true) (hcell : H[q]? = some ce) (hv : ce.vm = .none) (hcl : s.vm.findClass E = some ce.cls)
    (kk : W p l e R s m args below meth c H locs cells slots Q (F0 m x.handlerPc ls [.ref q])) : vx_W p l e R s m args below meth c H locs cells slots Q (F0 m pc ls rest) q := by
  intro T hT X
  have hpl : e.platform.magicAccessors = ({} : Platform).magicAccessors := by rw [X.admits.platform]
  obtain ⟨c3, c4, hc3, hc4, hasg⟩ := Cond.castable_spec hcast
  cases Option.some.inj (hc3.symm.trans hcl)
  obtain ⟨c5, hc5, hcl5⟩ := Cond.classLink_spec hown hlink e.platform hpl
  cases Option.some.inj (hc4.symm.trans hc5)
  obtain ⟨vm', X', st⟩ := X.thenCaughtThrough q (g := F0 m pc ls rest) rfl (Steps.refl _) (by rw [hT]; exact hcell) (by rw [hv]; rfl) (by obtain ⟨k9, h9, -⟩ := Vm.findClass_spec hcl; exact ⟨k9, h9⟩) pre x suf hsplit
    (fun z hz => by
      rcases hpass z hz with h | ⟨hz0, nm, hl1, hn1⟩
      · exact Or.inl h
      · obtain ⟨c6, hc6, hcl6⟩ := Cond.classLink_spec hown hl1 e.platform hpl
        obtain ⟨a8, b8, h1, h2, h3⟩ := hn1
        cases Option.some.inj (h1.symm.trans hcl)
        cases Option.some.inj (h2.symm.trans hc6)
        exact Or.inr ⟨hz0, _, hcl6, h3⟩) hx (Or.inr ⟨h0, c4, hcl5, hasg⟩)
  obtain ⟨t, a1, b1⟩ := kk (T.setVm vm') hT X'
  exact ⟨t, st.trans a1, b1⟩
end Rows
section Ends
variable {p : Program} {l : Launch} {e : Env} {R : Room} {s : State} {m : MethodId} {args : Array Value} {below : List Frame} {meth : Method} {c : Code} {H : Heap} {locs : List Loc} {cells slots : Nat} {Q : State → Prop}
variable {mc ms : Nat} {free : Addr → Prop} {A0 A1 : Nat → Prop} {H0 : Heap} {a : Array Value} {ls : Array Slot} {st0 rest : List Value}
variable {Qc : Array Value → State → Outcome → State → Prop} {XC : String → State → State → Prop}
/-- what a body that may throw owes at its end -/
def vx_MQ (below : List Frame) (Qc : Array Value → State → Outcome → State → Prop) (XC : String → State → State → Prop) (a : Array Value) (s : State) (mc ms : Nat) (free : Addr → Prop) : State → Prop := fun t =>
  ∃ o, t.status = .running ∧ Ended t below o ∧ vx_Q Qc XC mc ms free a s o t
theorem vx_ret {g : JFrame} {mc ms : Nat} (k : W p l e R s m args below meth c H locs cells slots (MQ below Qc args s mc ms free) g) : W p l e R s m args below meth c H locs cells slots (vx_MQ below Qc XC args s mc ms free) g := by
  intro T hT X
  obtain ⟨t, a1, o, b1, b2, b3, b4⟩ := k T hT X
  exact ⟨t, a1, o, b1, b2, Or.inl ⟨b3, b4⟩⟩
/-- not caught here: it goes on to the caller -/
theorem vx_widen {g : JFrame} {q : Addr} {k n : Nat} (h1 : cells ≤ k) (h2 : slots ≤ n) (kk : vx_W p l e R s m args below meth c H locs k n Q g q) : vx_W p l e R s m args below meth c H locs cells slots Q g q := fun T hT X => kk T hT (stand_widen X h1 h2)
theorem vx_out {pc : Nat} {E : String} {ce : Cell} {q : Addr} {mc ms : Nat} (hout : ∀ x ∈ c.exceptionTable.toList, covers x pc = false) (hlocks : meth.locks = false) (hcell : H[q]? = some ce) (hv : ce.vm = .none) (hcl : s.vm.findClass E = some ce.cls)
    (hx : ∀ t : State, t.heap = H → s.vm.Alike t.vm → XC E s t) (hf : ∀ z ∈ locs, free z.base) (hc : cells ≤ mc) (hs : slots ≤ ms) :
    vx_W p l e R s m args below meth c H locs cells slots (vx_MQ below Qc XC args s mc ms free) (F0 m pc ls rest) q := by
  intro T hT X
  obtain ⟨st1, hrun, hend, hW, hsm⟩ := X.leaveThrown q (g := F0 m pc ls rest) rfl rfl rfl hout hlocks
  have hcell9 : (T.setFrames (.throwing q :: below)).heap[q]? = some ce := by
    show T.heap[q]? = some ce
    rw [hT]; exact hcell
  exact ⟨_, st1, .threw q, hrun, hend, Or.inr ⟨q, rfl, E, ce, locs, hx _ hT hW.alike, hcell9, hv, hcl, hW, hsm.mono hc hs, hf⟩⟩
theorem vx_frame {U : State} {k n : Nat} (h : s.sameButNew ({ U with vm := s.vm } : State) locs k n) : s.heap.size ≤ U.heap.size ∧ ∀ q : Nat, q < s.heap.size → (∀ z ∈ locs, z.base ≠ q) → U.heap[q]? = s.heap[q]? := by
  obtain ⟨-, h2, -, -, -, h6⟩ := h
  refine ⟨h2, fun q hq hz => ?_⟩
  obtain ⟨c9, e1, e2, e3, e4⟩ := h6 q _ (Array.getElem?_eq_getElem hq)
  have hs : c9.slots = (s.heap[q]).slots := Array.ext_getElem? fun i => e4 i fun hm => hz _ hm rfl
  have h9 : c9 = s.heap[q] := by
    rw [hs] at e2
    exact e2
  have e5 : U.heap[q]? = some c9 := e1
  rw [e5, h9, Array.getElem?_eq_getElem hq]
/-- the words of a throw but the four that speak of the heap -/
def vx_no (w : Cond) : Bool := decide (w ≠ .isRef (.static Bundle.tN "UNASSIGNED_STACK" Bundle.steD)) && decide (w ≠ .isRef (.static Bundle.tN "SUPPRESSED_SENTINEL" Bundle.listD)) && decide (w ≠ .laysStatic Bundle.tN "UNASSIGNED_STACK" Bundle.steD) && decide (w ≠ .laysStatic Bundle.tN "SUPPRESSED_SENTINEL" Bundle.listD)
def vx_at0 (own : String) (ic : Nat) (X : String) (names : List String) : List Cond := (Bundle.ownAtoms0 own ic X names).filter vx_no
def vx_atS (own : String) (ic : Nat) (X : String) (names : List String) : List Cond := (Bundle.ownAtoms own ic X names).filter vx_no
/-- a word that the tables alone decide, or a good one -/
def vx_ot (w : Cond) : Bool := w.onTables || goodWord w
theorem vx_ot_at {args a' : Array Value} {s U : State} {w : Cond} (hW : s.WarmedH U.vm) (hvm : s.vm = U.vm) (hg : vx_ot w = true) (h : w.before args s = true) : w.before a' U = true := by
  simp only [vx_ot, Bool.or_eq_true] at hg
  rcases hg with hg | hg
  · exact va_tabs hg hvm h
  · exact word_at hW (good_of_word hg) h
/-- a list's words: the good ones out of the method's own list, the others by premises of their own -/
theorem vx_hat {args : Array Value} {s : State} {L B : List Cond} (h1 : ∀ w ∈ L.filter goodWord, w.before args s = true) (h2 : ∀ w ∈ L.filter (fun w => !goodWord w), w ∈ B) (h3 : ∀ w ∈ B, w.before args s = true) : ∀ w ∈ L, w.before args s = true := by
  intro w hw
  by_cases g : goodWord w = true
  · exact h1 w (List.mem_filter.mpr ⟨hw, g⟩)
  · refine h3 w (h2 w (List.mem_filter.mpr ⟨hw, ?_⟩))
    show (!goodWord w) = true
    cases hgw : goodWord w
    · rfl
    · exact absurd hgw g
theorem vx_c {args : Array Value} {s : State} {w : Cond} {B : List Cond} (h : w.before args s = true) (t : ∀ w ∈ B, w.before args s = true) : ∀ w' ∈ w :: B, w'.before args s = true := fun w' h' => (List.mem_cons.mp h').elim (fun e => by rw [e]; exact h) (t w')
theorem vx_n {args : Array Value} {s : State} : ∀ w ∈ ([] : List Cond), w.before args s = true := fun _ h => nomatch h
theorem vx_own {args : Array Value} {s : State} {L : List Cond} (h1 : ∀ w ∈ L.filter vx_no, w.before args s = true)
    (hU : (Cond.isRef (.static Bundle.tN "UNASSIGNED_STACK" Bundle.steD)).before args s = true) (hN : (Cond.isRef (.static Bundle.tN "SUPPRESSED_SENTINEL" Bundle.listD)).before args s = true)
    (lU : (Cond.laysStatic Bundle.tN "UNASSIGNED_STACK" Bundle.steD).before args s = true) (lN : (Cond.laysStatic Bundle.tN "SUPPRESSED_SENTINEL" Bundle.listD).before args s = true) : ∀ w ∈ L, w.before args s = true := by
  intro w hw
  by_cases e1 : w = .isRef (.static Bundle.tN "UNASSIGNED_STACK" Bundle.steD)
  · rw [e1]; exact hU
  · by_cases e2 : w = .isRef (.static Bundle.tN "SUPPRESSED_SENTINEL" Bundle.listD)
    · rw [e2]; exact hN
    · by_cases e3 : w = .laysStatic Bundle.tN "UNASSIGNED_STACK" Bundle.steD
      · rw [e3]; exact lU
      · by_cases e4 : w = .laysStatic Bundle.tN "SUPPRESSED_SENTINEL" Bundle.listD
        · rw [e4]; exact lN
        · exact h1 w (List.mem_filter.mpr ⟨hw, by unfold vx_no; rw [decide_eq_true e1, decide_eq_true e2, decide_eq_true e3, decide_eq_true e4]; rfl⟩)
/-- where a static field lies, its class's statics cell in H -/
def vx_L (C n d : String) (A : Nat → Prop) (U : State) (H : Heap) : Prop := ∃ (c : ClassId) (k : Class) (i : Nat) (f : Field) (a : Nat) (cell : Cell), U.vm.findClass C = some c ∧ U.fieldFound? C n d = some (c, k, i, f) ∧ f.isStatic = true ∧ k.statics = some a ∧ H[a]? = some cell ∧ cell.vm.isStatics = true ∧ cell.cls = c ∧ f.slot < cell.slots.size ∧ k.staticTypes[f.slot]? = some f.type ∧ ¬ A a
theorem vx_L.moved {C n d : String} {A : Nat → Prop} {u U : State} {H : Heap} (hvm : u.vm.Alike U.vm) (h : vx_L C n d A u H) : vx_L C n d A U H := by
  obtain ⟨c, k, i, f, a, cell, h1, h2, h3, h4, h5, h6, h7, h8, h9, h10⟩ := h
  obtain ⟨k', hi', he⟩ := State.fieldFound?_setVm hvm h2
  exact ⟨c, k', i, f, a, cell, by rw [hvm.findClass]; exact h1, hi', h3, by rw [he]; exact h4, h5, h6, h7, h8, by rw [he]; exact h9, h10⟩
theorem vx_L.kept {C n d : String} {A : Nat → Prop} {U : State} {H H1 : Heap} (h : vx_L C n d A U H) (hq : ∀ a : Nat, a < H.size → ¬ A a → H1[a]? = H[a]?) : vx_L C n d A U H1 := by
  obtain ⟨c, k, i, f, a, cell, h1, h2, h3, h4, h5, h6, h7, h8, h9, h10⟩ := h
  exact ⟨c, k, i, f, a, cell, h1, h2, h3, h4, by rw [hq a (Array.getElem?_eq_some_iff.mp h5).1 h10]; exact h5, h6, h7, h8, h9, h10⟩
theorem vx_L.narrow {C n d : String} {A B : Nat → Prop} {U : State} {H : Heap} (h : vx_L C n d A U H) (hAB : ∀ q, B q → A q) : vx_L C n d B U H := by
  obtain ⟨c, k, i, f, a, cell, h1, h2, h3, h4, h5, h6, h7, h8, h9, h10⟩ := h
  exact ⟨c, k, i, f, a, cell, h1, h2, h3, h4, h5, h6, h7, h8, h9, fun z => h10 (hAB _ z)⟩
theorem vx_L.word {C n d : String} {A : Nat → Prop} {s : State} {args : Array Value} (h : vx_L C n d A s s.heap) : (Cond.laysStatic C n d).before args s = true := by
  obtain ⟨c, k, i, f, a, cell, h1, h2, h3, h4, h5, h6, h7, h8, h9, -⟩ := h
  show (Cond.laysStatic C n d).holds args s none s [] = true
  exact Cond.laysStatic_of h1 h2 h3 h4 h5 h6 h7 h8 h9
/-- .. and what it holds: null or some reference -/
def vx_Zq (C n d : String) (A : Nat → Prop) (U : State) (H : Heap) : Prop := va_Zq C n d A U H ∧ vx_L C n d A U H
theorem vx_Zq.moved {C n d : String} {A : Nat → Prop} {u U : State} {H : Heap} (hvm : u.vm.Alike U.vm) (h : vx_Zq C n d A u H) : vx_Zq C n d A U H := ⟨va_Zq.moved hvm h.1, vx_L.moved hvm h.2⟩
theorem vx_Zq.kept {C n d : String} {A : Nat → Prop} {U : State} {H H1 : Heap} (h : vx_Zq C n d A U H) (hq : ∀ a : Nat, a < H.size → ¬ A a → H1[a]? = H[a]?) : vx_Zq C n d A U H1 := ⟨va_Zq.kept h.1 hq, vx_L.kept h.2 hq⟩
theorem vx_Zq.narrow {C n d : String} {A B : Nat → Prop} {U : State} {H : Heap} (h : vx_Zq C n d A U H) (hAB : ∀ q, B q → A q) : vx_Zq C n d B U H := ⟨va_Zq.narrow h.1 hAB, vx_L.narrow h.2 hAB⟩
theorem vx_Zqof {args : Array Value} {s : State} {C n d : String} {A : Nat → Prop} (hl : (Cond.laysStatic C n d).before args s = true) (hini : (Cond.initialized C).before args s = true) (h : (Cond.isRef (.static C n d)).before args s = true) (hA : ∀ a : Nat, a < s.heap.size → ¬ A a) : vx_Zq C n d A s s.heap := by
  refine ⟨va_Zqof hl hini h hA, ?_⟩
  obtain ⟨c, k, i, f, a, cell, h1, h2, h3, h4, h5, h6, h7, h8, h9⟩ := Cond.laysStatic_spec hl
  exact ⟨c, k, i, f, a, cell, h1, h2, h3, h4, h5, h6, h7, h8, h9, hA a (Array.getElem?_eq_some_iff.mp h5).1⟩
theorem vx_isRef {C n d : String} {v : Value} {A : Nat → Prop} {s : State} {args : Array Value} (h : va_Z C n d v A s s.heap) (hv : v.isRef = true) : (Cond.isRef (.static C n d)).before args s = true := by
  obtain ⟨cf, kf, fi, f, a, cell, h1, h2, h3, h4, h5, h6, h7, -⟩ := h
  have he : (Term.static C n d).eval args s none [] s = some v := by
    simp [Term.eval, State.fieldNamed?, h1, h2, h4, h5, h6, h7]
  simp only [Cond.before, Cond.holds, Cond.value, he]
  cases v <;> simp_all [Value.isRef]
theorem vx_isRefq {C n d : String} {A : Nat → Prop} {s : State} {args : Array Value} (h : va_Zq C n d A s s.heap) : (Cond.isRef (.static C n d)).before args s = true := by
  rcases h with h | ⟨t, h⟩
  · exact vx_isRef h rfl
  · exact vx_isRef h rfl
/-- the same frame, seen from here: as if the method were called anew in this heap -/
theorem vx_rebase {T : State} (X : Stand p l e R s m args below meth c T locs cells slots) {R' : Room} (hf : R'.frames ≤ R.frames) (hl : R'.locals ≤ R.locals) (hc : cells + R'.cells ≤ R.cells) (hs : slots + R'.slots ≤ R.slots) :
    Stand p l e R' ((T.setVm s.vm).setFrames (.invoking m args :: below)) m args below meth c T [] 0 0 := by
  have htop : (T.setVm s.vm).topJava?.isSome := X.here.top
  have hF : ((T.setVm s.vm).setFrames (.invoking m args :: below)).frames = .invoking m args :: below := State.frames_setFrames _ (State.cur_lt_of_top htop)
  obtain ⟨g₀, hg0⟩ := Option.isSome_iff_exists.mp htop
  obtain ⟨r, hr⟩ := State.topJava?_eq_some.mp hg0
  have hl9 : e.platform.stackLimits (T.setVm s.vm).me = e.platform.stackLimits s.me := X.limits
  have hb9 : (T.setVm s.vm).me.stackBytes = s.me.stackBytes := X.bytes
  refine ⟨X.admits, X.cas, X.clock, hF, ?_, X.hears, X.method, X.code, X.here, X.tail, X.warmed, ?_, ?_, ?_⟩
  · have h := X.room
    have hU : ((T.setVm s.vm).setFrames (.invoking m args :: below)).localsInUse = s.localsInUse := by
      rw [State.localsInUse_invoking hF (meth := meth) (c := c) X.method X.code, State.localsInUse_invoking X.frames X.method X.code]
    simp only [State.hasRoom, Bool.and_eq_true, decide_eq_true_eq] at h ⊢
    obtain ⟨⟨⟨⟨h1, h2, h3, h4, h5, h6⟩, h7⟩, h8⟩, h9⟩ := h
    rw [X.frames, List.length_cons] at h2 h3
    have q1 := X.heapSize
    have q2 := X.used
    simp only [hF, hU, List.length_cons, State.stackLimits_setFrames, State.stackBytes_setFrames, hl9, hb9]
    refine ⟨⟨⟨⟨by omega, by omega, by omega, by omega, by omega, h6⟩, ?_⟩, ?_⟩, X.book⟩
    · show T.heap.size + R'.cells ≤ e.platform.maxCells
      omega
    · show T.slotsUsed + R'.slots ≤ e.platform.maxSlots
      omega
  · rw [State.stackLimits_setFrames]; rfl
  · rw [State.stackBytes_setFrames]; rfl
  · refine ⟨?_, Nat.le_refl _, Nat.le_refl _, ?_, ?_, fun a c9 h9 => ⟨c9, h9, rfl, rfl, fun _ _ => rfl⟩⟩
    · obtain ⟨t, ht, -⟩ := State.frames_cons hr
      show T.setVm s.vm = { ((T.setVm s.vm).setFrames (.invoking m args :: below)).setFrames (T.setVm s.vm).frames with heap := T.heap, slotsUsed := T.slotsUsed }
      rw [State.setFrames_setFrames, State.setFrames_self ht]
      rfl
    · show T.slotsUsed = T.slotsUsed + ((T.heap.toList.drop T.heap.size).map (·.slots.size)).sum
      rw [List.drop_eq_nil_of_le (Nat.le_of_eq Array.length_toList)]
      rfl
    · show ((T.heap.toList.drop T.heap.size).map (·.slots.size)).sum ≤ 0
      rw [List.drop_eq_nil_of_le (Nat.le_of_eq Array.length_toList)]
      exact Nat.le_refl _
/-- 'throw new E()': new; dup; invokespecial; athrow -/
theorem vx_throw0 {cc : ByteArray} {pc : Nat} (hexec : p.tables.exec = Jvm.exec) (hb : c.code = cc) (hl : l.stackTraces = false) {own cls : String} {names : List String} {ik ic mc ms : Nat} {A : Nat → Prop}
    (hown : s.vm.findClass own = some m.cls) (hcls : Bundle.fit cls = true) (hnames : ∀ n ∈ names, Bundle.fit n = true)
    (hk : (Cond.classLink own ik cls).before args s = true) (hini : (Cond.initialized cls).before args s = true) (hat : ∀ w ∈ vx_at0 own ic cls names, w.before args s = true)
    (hgood : ∀ w ∈ Cond.classLink own ik cls :: Cond.initialized cls :: vx_at0 own ic cls names, vx_ot w = true)
    (hU : vx_Zq Bundle.tN "UNASSIGNED_STACK" Bundle.steD A s s.heap) (hN : vx_Zq Bundle.tN "SUPPRESSED_SENTINEL" Bundle.listD A s s.heap) (hS : va_S A s.heap H locs) (hsize : ls.size = c.maxLocals)
    (d0 : decode cc pc = .ok (.new ik, 3)) (d3 : decode cc (pc + 3) = .ok (.dup, 1)) (d4 : decode cc (pc + 4) = .ok (.invokespecial ic, 3)) (d7 : decode cc (pc + 7) = .ok (.athrow, 1))
    (hout : ∀ x ∈ c.exceptionTable.toList, covers x (pc + 7) = false)
    (hRframes : names.length + 3 < R.frames) (hRlocals : (rest.map fun v => v.category).sum + (13 * (names.length + 1) + 42) ≤ R.locals) (hRcells : cells + 1 ≤ R.cells) (hRslots : slots + 6 ≤ R.slots) (hlocks : meth.locks = false)
    (hx : ∀ t : State, s.vm.Alike t.vm → H.size ≤ t.heap.size → (∀ q : Nat, q < H.size → t.heap[q]? = H[q]?) → XC cls s t)
    (hf : ∀ z ∈ locs, free z.base) (hc : cells + 1 ≤ mc) (hs : slots + 6 ≤ ms) :
    W p l e R s m args below meth c H locs cells slots (vx_MQ below Qc XC args s mc ms free) (F0 m pc ls rest) := by
  intro T hT X
  have htr : e.platform.stackTraces = false := (show e.platform.stackTraces = l.stackTraces by rw [X.admits.platform]).trans hl
  have Y := vx_rebase X (R' := { frames := R.frames, locals := R.locals, cells := 1, slots := 6 }) (Nat.le_refl _) (Nat.le_refl _) hRcells hRslots
  obtain ⟨s', hA⟩ : ∃ z, z = (T.setVm s.vm).setFrames (.invoking m args :: below) := ⟨_, rfl⟩
  rw [← hA] at Y
  have hvm : s'.vm = s.vm := by rw [hA]; rfl
  have hhp : s'.heap = H := by rw [hA]; exact hT
  have hW0 : s.WarmedH s'.vm := by rw [hvm]; exact State.WarmedH.refl s
  have hat' : ∀ w ∈ vx_at0 own ic cls names, w.before args s' = true := fun w hw => vx_ot_at hW0 hvm.symm (hgood w (List.mem_cons_of_mem _ (List.mem_cons_of_mem _ hw))) (hat w hw)
  have hk' : (Cond.classLink own ik cls).before args s' = true := vx_ot_at hW0 hvm.symm (hgood _ List.mem_cons_self) hk
  have hini' : (Cond.initialized cls).before args s' = true := vx_ot_at hW0 hvm.symm (hgood _ (List.mem_cons_of_mem _ List.mem_cons_self)) hini
  have hU' : vx_Zq Bundle.tN "UNASSIGNED_STACK" Bundle.steD A s' s'.heap := by rw [hhp]; exact vx_Zq.moved hW0.alike (hU.kept hS.2.1)
  have hN' : vx_Zq Bundle.tN "SUPPRESSED_SENTINEL" Bundle.listD A s' s'.heap := by rw [hhp]; exact vx_Zq.moved hW0.alike (hN.kept hS.2.1)
  have h : ∀ w ∈ Bundle.ownAtoms0 own ic cls names, w.before args s' = true := vx_own hat' (vx_isRefq hU'.1) (vx_isRefq hN'.1) hU'.2.word hN'.2.word
  have hown' : s'.vm.findClass own = some m.cls := by rw [hvm]; exact hown
  have hins : (Cond.instantiable cls 6).before args s' = true := h _ (by simp [Bundle.ownAtoms0])
  obtain ⟨vm₁, cX, kX, hfX, hkX, -, -, X₁, st1⟩ := Y.newCold hexec (own := own) (C := cls) (index := ik) (n := 6) hown' hk' hins hini'
    (g := F0 m pc ls rest) rfl (by rw [hb]; exact d0) (Nat.le_refl _) (Nat.le_refl _)
  generalize hT1 : (T.setVm vm₁).pushCell { cls := cX, slots := kX.instanceTypes.map defaultValue, vm := .none } = T1 at X₁ st1
  have hcat : (Value.ref T.heap.size).category = 1 := rfl
  have hcellA : T1.heap[T.heap.size]? = some (freshCell cX kX) := by rw [← hT1]; exact State.heap_pushCell_size _ _
  have d3' : decode c.code (pc + 3) = .ok (.dup, 1) := by rw [hb]; exact d3
  obtain ⟨U, hsteps, hrun, hend, hW, hsame, ce, hce, hO⟩ := X₁.ctorThrow0 hexec htr (own := own) (cls := cls) (names := names) (ic := ic) hown' hcls hnames h (fun x hx => nomatch hx) hfX hkX hcellA (by rw [hhp, hT]; exact Nat.le_refl _)
    (g := { method := m, pc := pc + 4, locals := ls, stack := .ref T.heap.size :: .ref T.heap.size :: rest, locked := none }) rfl hsize rfl rfl (rest := rest) rfl
    (by rw [hb]; exact d4) (by rw [hb]; exact d7) hout hRframes (by simp only [List.map_cons, List.sum_cons, hcat]; omega) hlocks
  obtain ⟨f1, f2⟩ := vx_frame hsame
  rw [hhp] at f1 f2
  have hWs : s.WarmedH U.vm := State.WarmedH.trans hW0 hW
  have hcl : s.vm.findClass cls = some ce.cls := by
    have h9 := hO.cls
    rw [hvm] at h9
    exact h9
  have hall : s.sameButNew ({ U with vm := s.vm } : State) locs mc ms := by
    subst hA
    obtain ⟨e1, e2⟩ := hsame
    rw [State.setFrames_setFrames] at e1
    have h2 : (T.setVm s.vm).sameButNew ({ U with vm := s.vm } : State) [] (0 + 1) (0 + 6) := ⟨e1, e2⟩
    have h3 := X.same.trans h2
    rw [List.append_nil] at h3
    exact h3.mono hc hs
  refine ⟨U, ?_, .threw T.heap.size, hrun, hend, Or.inr ⟨T.heap.size, rfl, cls, ce, locs, hx U hWs.alike f1 (fun q hq => f2 q hq (fun z hz => nomatch hz)), hce, hO.vm, hcl, hWs, hall, hf⟩⟩
  refine st1 _ ?_
  show Steps p.tables e below (T1.setTop { method := m, pc := pc + 3, locals := ls, stack := .ref T.heap.size :: rest, locked := none }) _
  jvm_step X₁.here [X₁.here.top, hexec, d3', Value.category]
  exact hsteps
/-- 'throw new E("text")': new; dup; ldc; invokespecial; athrow -/
theorem vx_throwS {cc : ByteArray} {pc : Nat} (hexec : p.tables.exec = Jvm.exec) (hb : c.code = cc) (hl : l.stackTraces = false) {own cls text : String} {names : List String} {ik is ic mc ms sa : Nat} {A : Nat → Prop}
    (hown : s.vm.findClass own = some m.cls) (hcls : Bundle.fit cls = true) (hnames : ∀ n ∈ names, Bundle.fit n = true)
    (hk : (Cond.classLink own ik cls).before args s = true) (hini : (Cond.initialized cls).before args s = true) (hstr : vk_R own is text sa s) (hat : ∀ w ∈ vx_atS own ic cls names, w.before args s = true)
    (hgood : ∀ w ∈ Cond.classLink own ik cls :: Cond.initialized cls :: vx_atS own ic cls names, vx_ot w = true)
    (hU : vx_Zq Bundle.tN "UNASSIGNED_STACK" Bundle.steD A s s.heap) (hN : vx_Zq Bundle.tN "SUPPRESSED_SENTINEL" Bundle.listD A s s.heap) (hS : va_S A s.heap H locs) (hsize : ls.size = c.maxLocals)
    (d0 : decode cc pc = .ok (.new ik, 3)) (d3 : decode cc (pc + 3) = .ok (.dup, 1)) (d4 : decode cc (pc + 4) = .ok (.ldc is, 2)) (d6 : decode cc (pc + 6) = .ok (.invokespecial ic, 3)) (d9 : decode cc (pc + 9) = .ok (.athrow, 1))
    (hout : ∀ x ∈ c.exceptionTable.toList, covers x (pc + 9) = false)
    (hRframes : names.length + 3 < R.frames) (hRlocals : (rest.map fun v => v.category).sum + (13 * (names.length + 1) + 43) ≤ R.locals) (hRcells : cells + 1 ≤ R.cells) (hRslots : slots + 6 ≤ R.slots) (hlocks : meth.locks = false)
    (hx : ∀ t : State, s.vm.Alike t.vm → H.size ≤ t.heap.size → (∀ q : Nat, q < H.size → t.heap[q]? = H[q]?) → XC cls s t)
    (hf : ∀ z ∈ locs, free z.base) (hc : cells + 1 ≤ mc) (hs : slots + 6 ≤ ms) :
    W p l e R s m args below meth c H locs cells slots (vx_MQ below Qc XC args s mc ms free) (F0 m pc ls rest) := by
  intro T hT X
  have htr : e.platform.stackTraces = false := (show e.platform.stackTraces = l.stackTraces by rw [X.admits.platform]).trans hl
  have Y := vx_rebase X (R' := { frames := R.frames, locals := R.locals, cells := 1, slots := 6 }) (Nat.le_refl _) (Nat.le_refl _) hRcells hRslots
  obtain ⟨s', hA⟩ : ∃ z, z = (T.setVm s.vm).setFrames (.invoking m args :: below) := ⟨_, rfl⟩
  rw [← hA] at Y
  have hvm : s'.vm = s.vm := by rw [hA]; rfl
  have hhp : s'.heap = H := by rw [hA]; exact hT
  have hW0 : s.WarmedH s'.vm := by rw [hvm]; exact State.WarmedH.refl s
  have hat' : ∀ w ∈ vx_atS own ic cls names, w.before args s' = true := fun w hw => vx_ot_at hW0 hvm.symm (hgood w (List.mem_cons_of_mem _ (List.mem_cons_of_mem _ hw))) (hat w hw)
  have hk' : (Cond.classLink own ik cls).before args s' = true := vx_ot_at hW0 hvm.symm (hgood _ List.mem_cons_self) hk
  have hini' : (Cond.initialized cls).before args s' = true := vx_ot_at hW0 hvm.symm (hgood _ (List.mem_cons_of_mem _ List.mem_cons_self)) hini
  have hU' : vx_Zq Bundle.tN "UNASSIGNED_STACK" Bundle.steD A s' s'.heap := by rw [hhp]; exact vx_Zq.moved hW0.alike (hU.kept hS.2.1)
  have hN' : vx_Zq Bundle.tN "SUPPRESSED_SENTINEL" Bundle.listD A s' s'.heap := by rw [hhp]; exact vx_Zq.moved hW0.alike (hN.kept hS.2.1)
  have h : ∀ w ∈ Bundle.ownAtoms own ic cls names, w.before args s' = true := vx_own hat' (vx_isRefq hU'.1) (vx_isRefq hN'.1) hU'.2.word hN'.2.word
  have hown' : s'.vm.findClass own = some m.cls := by rw [hvm]; exact hown
  have hins : (Cond.instantiable cls 6).before args s' = true := h _ (by simp [Bundle.ownAtoms])
  obtain ⟨vm₁, cX, kX, hfX, hkX, -, -, X₁, st1⟩ := Y.newCold hexec (own := own) (C := cls) (index := ik) (n := 6) hown' hk' hins hini'
    (g := F0 m pc ls rest) rfl (by rw [hb]; exact d0) (Nat.le_refl _) (Nat.le_refl _)
  generalize hT1 : (T.setVm vm₁).pushCell { cls := cX, slots := kX.instanceTypes.map defaultValue, vm := .none } = T1 at X₁ st1
  have hcat : (Value.ref T.heap.size).category = 1 := rfl
  have hcellA : T1.heap[T.heap.size]? = some (freshCell cX kX) := by rw [← hT1]; exact State.heap_pushCell_size _ _
  have d3' : decode c.code (pc + 3) = .ok (.dup, 1) := by rw [hb]; exact d3
  have d4' : decode c.code (pc + 4) = .ok (.ldc is, 2) := by rw [hb]; exact d4
  have hstr' : vk_R own is text sa s' := vk_R.warm hW0 hstr
  obtain ⟨U, hsteps, hrun, hend, hW, hsame, ce, hce, hO⟩ := X₁.ctorThrowS hexec htr (own := own) (cls := cls) (names := names) (ic := ic) hown' hcls hnames h (fun x hx => nomatch hx) hfX hkX hcellA (by rw [hhp, hT]; exact Nat.le_refl _) (msg := .ref sa) rfl
    (g := { method := m, pc := pc + 6, locals := ls, stack := .ref sa :: .ref T.heap.size :: .ref T.heap.size :: rest, locked := none }) rfl hsize rfl rfl (rest := rest) rfl
    (by rw [hb]; exact d6) (by rw [hb]; exact d9) hout hRframes (by simp only [List.map_cons, List.sum_cons, hcat]; omega) hlocks
  obtain ⟨f1, f2⟩ := vx_frame hsame
  rw [hhp] at f1 f2
  have hWs : s.WarmedH U.vm := State.WarmedH.trans hW0 hW
  have hcl : s.vm.findClass cls = some ce.cls := by
    have h9 := hO.cls
    rw [hvm] at h9
    exact h9
  have hall : s.sameButNew ({ U with vm := s.vm } : State) locs mc ms := by
    subst hA
    obtain ⟨e1, e2⟩ := hsame
    rw [State.setFrames_setFrames] at e1
    have h2 : (T.setVm s.vm).sameButNew ({ U with vm := s.vm } : State) [] (0 + 1) (0 + 6) := ⟨e1, e2⟩
    have h3 := X.same.trans h2
    rw [List.append_nil] at h3
    exact h3.mono hc hs
  refine ⟨U, ?_, .threw T.heap.size, hrun, hend, Or.inr ⟨T.heap.size, rfl, cls, ce, locs, hx U hWs.alike f1 (fun q hq => f2 q hq (fun z hz => nomatch hz)), hce, hO.vm, hcl, hWs, hall, hf⟩⟩
  refine st1 _ ?_
  show Steps p.tables e below (T1.setTop { method := m, pc := pc + 3, locals := ls, stack := .ref T.heap.size :: rest, locked := none }) _
  jvm_step X₁.here [X₁.here.top, hexec, d3', Value.category]
  exact X₁.ldcString hexec (own := own) (text := text) (index := is) (a := sa) hown' hstr'.1 hstr'.2
    (g := { method := m, pc := pc + 4, locals := ls, stack := .ref T.heap.size :: .ref T.heap.size :: rest, locked := none }) rfl d4' _ hsteps
/-- 'throw new E("text")', the text by a wide index -/
theorem vx_throwSW {cc : ByteArray} {pc : Nat} (hexec : p.tables.exec = Jvm.exec) (hb : c.code = cc) (hl : l.stackTraces = false) {own cls text : String} {names : List String} {ik is ic mc ms sa : Nat} {A : Nat → Prop}
    (hown : s.vm.findClass own = some m.cls) (hcls : Bundle.fit cls = true) (hnames : ∀ n ∈ names, Bundle.fit n = true)
    (hk : (Cond.classLink own ik cls).before args s = true) (hini : (Cond.initialized cls).before args s = true) (hstr : vk_R own is text sa s) (hat : ∀ w ∈ vx_atS own ic cls names, w.before args s = true)
    (hgood : ∀ w ∈ Cond.classLink own ik cls :: Cond.initialized cls :: vx_atS own ic cls names, vx_ot w = true)
    (hU : vx_Zq Bundle.tN "UNASSIGNED_STACK" Bundle.steD A s s.heap) (hN : vx_Zq Bundle.tN "SUPPRESSED_SENTINEL" Bundle.listD A s s.heap) (hS : va_S A s.heap H locs) (hsize : ls.size = c.maxLocals)
    (d0 : decode cc pc = .ok (.new ik, 3)) (d3 : decode cc (pc + 3) = .ok (.dup, 1)) (d4 : decode cc (pc + 4) = .ok (.ldc_w is, 3)) (d7 : decode cc (pc + 7) = .ok (.invokespecial ic, 3)) (d10 : decode cc (pc + 10) = .ok (.athrow, 1))
    (hout : ∀ x ∈ c.exceptionTable.toList, covers x (pc + 10) = false)
    (hRframes : names.length + 3 < R.frames) (hRlocals : (rest.map fun v => v.category).sum + (13 * (names.length + 1) + 43) ≤ R.locals) (hRcells : cells + 1 ≤ R.cells) (hRslots : slots + 6 ≤ R.slots) (hlocks : meth.locks = false)
    (hx : ∀ t : State, s.vm.Alike t.vm → H.size ≤ t.heap.size → (∀ q : Nat, q < H.size → t.heap[q]? = H[q]?) → XC cls s t)
    (hf : ∀ z ∈ locs, free z.base) (hc : cells + 1 ≤ mc) (hs : slots + 6 ≤ ms) :
    W p l e R s m args below meth c H locs cells slots (vx_MQ below Qc XC args s mc ms free) (F0 m pc ls rest) := by
  intro T hT X
  have htr : e.platform.stackTraces = false := (show e.platform.stackTraces = l.stackTraces by rw [X.admits.platform]).trans hl
  have Y := vx_rebase X (R' := { frames := R.frames, locals := R.locals, cells := 1, slots := 6 }) (Nat.le_refl _) (Nat.le_refl _) hRcells hRslots
  obtain ⟨s', hA⟩ : ∃ z, z = (T.setVm s.vm).setFrames (.invoking m args :: below) := ⟨_, rfl⟩
  rw [← hA] at Y
  have hvm : s'.vm = s.vm := by rw [hA]; rfl
  have hhp : s'.heap = H := by rw [hA]; exact hT
  have hW0 : s.WarmedH s'.vm := by rw [hvm]; exact State.WarmedH.refl s
  have hat' : ∀ w ∈ vx_atS own ic cls names, w.before args s' = true := fun w hw => vx_ot_at hW0 hvm.symm (hgood w (List.mem_cons_of_mem _ (List.mem_cons_of_mem _ hw))) (hat w hw)
  have hk' : (Cond.classLink own ik cls).before args s' = true := vx_ot_at hW0 hvm.symm (hgood _ List.mem_cons_self) hk
  have hini' : (Cond.initialized cls).before args s' = true := vx_ot_at hW0 hvm.symm (hgood _ (List.mem_cons_of_mem _ List.mem_cons_self)) hini
  have hU' : vx_Zq Bundle.tN "UNASSIGNED_STACK" Bundle.steD A s' s'.heap := by rw [hhp]; exact vx_Zq.moved hW0.alike (hU.kept hS.2.1)
  have hN' : vx_Zq Bundle.tN "SUPPRESSED_SENTINEL" Bundle.listD A s' s'.heap := by rw [hhp]; exact vx_Zq.moved hW0.alike (hN.kept hS.2.1)
  have h : ∀ w ∈ Bundle.ownAtoms own ic cls names, w.before args s' = true := vx_own hat' (vx_isRefq hU'.1) (vx_isRefq hN'.1) hU'.2.word hN'.2.word
  have hown' : s'.vm.findClass own = some m.cls := by rw [hvm]; exact hown
  have hins : (Cond.instantiable cls 6).before args s' = true := h _ (by simp [Bundle.ownAtoms])
  obtain ⟨vm₁, cX, kX, hfX, hkX, -, -, X₁, st1⟩ := Y.newCold hexec (own := own) (C := cls) (index := ik) (n := 6) hown' hk' hins hini'
    (g := F0 m pc ls rest) rfl (by rw [hb]; exact d0) (Nat.le_refl _) (Nat.le_refl _)
  generalize hT1 : (T.setVm vm₁).pushCell { cls := cX, slots := kX.instanceTypes.map defaultValue, vm := .none } = T1 at X₁ st1
  have hcat : (Value.ref T.heap.size).category = 1 := rfl
  have hcellA : T1.heap[T.heap.size]? = some (freshCell cX kX) := by rw [← hT1]; exact State.heap_pushCell_size _ _
  have d3' : decode c.code (pc + 3) = .ok (.dup, 1) := by rw [hb]; exact d3
  have d4' : decode c.code (pc + 4) = .ok (.ldc_w is, 3) := by rw [hb]; exact d4
  have hstr' : vk_R own is text sa s' := vk_R.warm hW0 hstr
  obtain ⟨U, hsteps, hrun, hend, hW, hsame, ce, hce, hO⟩ := X₁.ctorThrowS hexec htr (own := own) (cls := cls) (names := names) (ic := ic) hown' hcls hnames h (fun x hx => nomatch hx) hfX hkX hcellA (by rw [hhp, hT]; exact Nat.le_refl _) (msg := .ref sa) rfl
    (g := { method := m, pc := pc + 7, locals := ls, stack := .ref sa :: .ref T.heap.size :: .ref T.heap.size :: rest, locked := none }) rfl hsize rfl rfl (rest := rest) rfl
    (by rw [hb]; exact d7) (by rw [hb]; exact d10) hout hRframes (by simp only [List.map_cons, List.sum_cons, hcat]; omega) hlocks
  obtain ⟨f1, f2⟩ := vx_frame hsame
  rw [hhp] at f1 f2
  have hWs : s.WarmedH U.vm := State.WarmedH.trans hW0 hW
  have hcl : s.vm.findClass cls = some ce.cls := by
    have h9 := hO.cls
    rw [hvm] at h9
    exact h9
  have hall : s.sameButNew ({ U with vm := s.vm } : State) locs mc ms := by
    subst hA
    obtain ⟨e1, e2⟩ := hsame
    rw [State.setFrames_setFrames] at e1
    have h2 : (T.setVm s.vm).sameButNew ({ U with vm := s.vm } : State) [] (0 + 1) (0 + 6) := ⟨e1, e2⟩
    have h3 := X.same.trans h2
    rw [List.append_nil] at h3
    exact h3.mono hc hs
  refine ⟨U, ?_, .threw T.heap.size, hrun, hend, Or.inr ⟨T.heap.size, rfl, cls, ce, locs, hx U hWs.alike f1 (fun q hq => f2 q hq (fun z hz => nomatch hz)), hce, hO.vm, hcl, hWs, hall, hf⟩⟩
  refine st1 _ ?_
  show Steps p.tables e below (T1.setTop { method := m, pc := pc + 3, locals := ls, stack := .ref T.heap.size :: rest, locked := none }) _
  jvm_step X₁.here [X₁.here.top, hexec, d3', Value.category]
  exact X₁.ldcStringW hexec (own := own) (text := text) (index := is) (a := sa) hown' hstr'.1 hstr'.2
    (g := { method := m, pc := pc + 4, locals := ls, stack := .ref T.heap.size :: .ref T.heap.size :: rest, locked := none }) rfl d4' _ hsteps
end Ends
section Bodies
variable {l : Launch}
theorem vx_ofW {y : MethodName} {ws ws' : List Cond} {rm : Room} {Pc : Array Value → State → Prop} {Qc : Array Value → State → Outcome → State → Prop} {XC : String → State → State → Prop} {mc ms : Nat} {free : Addr → Prop} {cc : ByteArray} {maxL : Nat} {ret : Option FieldType}
    (hy : plainName y.cls = true) (hw : ws = Cond.code y cc maxL ret :: ws')
    (body : ∀ p e s m args below meth c s₁, BodyLoose p l y (headSpec ws rm) cc maxL ret e s m args below meth c s₁ → c.maxLocals = maxL → (∀ x ∈ c.exceptionTable.toList, False) → Pc args s →
      W p l e (headSpec ws rm).room s m args below meth c s.heap [] 0 0 (vx_MQ below Qc XC args s mc ms free) (entryFrame m args maxL)) : vx_Met l y ws rm Pc Qc XC mc ms free := by
  refine MetFree.of_bodyS (code := cc) (maxLocals := maxL) (ret := ret) hy ?_ ?_
  · intro args s m h hn
    obtain ⟨meth, c, h1, h2, h3, h4, h5, h6, -, -⟩ := Cond.code_spec hn (atoms_spec (ws := ws) h _ (by rw [hw]; exact List.mem_cons_self))
    exact ⟨meth, c, h1, h2, h3, h4, h5, h6⟩
  · intro p e s m args below meth c s₁ B hml hP _
    have hh0 : s₁.heap = s.heap := by rw [B.state]; rfl
    have ht : ∀ x ∈ c.exceptionTable.toList, False := by
      obtain ⟨meth9, c9, h1, h2, -, -, -, -, h7, -⟩ := Cond.code_spec B.named (atoms_spec (ws := ws) B.pre _ (by rw [hw]; exact List.mem_cons_self))
      cases Option.some.inj (h1.symm.trans B.method)
      cases Option.some.inj (h2.symm.trans (Stand.of_body B).code)
      intro x hx
      rw [Array.isEmpty_iff.mp h7] at hx
      cases hx
    obtain ⟨t, a1, o, b1, b2, b3⟩ := body p e s m args below meth c s₁ B hml ht hP s₁ hh0 (Stand.of_body B)
    exact ⟨t, o, a1, b1, b2, b3⟩
/-- the table of a body with handlers -/
theorem vx_table {p : Program} {x y : MethodName} {S : Spec} {cc bytes : ByteArray} {maxL maxL' : Nat} {ret ret' : Option FieldType} {e : Env} {s s₁ : State} {m : MethodId} {args : Array Value} {below : List Frame} {meth : Method} {c : Code} {hh : List (Nat × Nat × Nat × Nat)}
    (B : BodyLoose p l y S cc maxL ret e s m args below meth c s₁) (h : (Cond.codeWith y bytes maxL' ret' hh).before args s = true) : c.exceptionTable.toList = tableOf hh := by
  obtain ⟨m9, meth9, c9, hn9, h1, h2, -, -, h6, -⟩ := Cond.codeWith_spec h
  cases Option.some.inj (hn9.symm.trans B.named)
  cases Option.some.inj (h1.symm.trans B.method)
  cases Option.some.inj (h2.symm.trans (Stand.of_body B).code)
  rw [← h6, table_eq]
end Bodies
end VXA
/-! ===== END ===== -/
/-! ===== BEGIN a static call of a method with an exception table ===== -/
section VXS
variable {p : Program} {l : Launch} {e : Env} {R : Room} {s : State} {m : MethodId} {args : Array Value} {below : List Frame} {meth : Method} {c : Code} {T : State} {H : Heap} {locs : List Loc} {cells slots : Nat}
abbrev vx_CSW (R : Room) (s : State) (args : Array Value) (own : String) (index : Nat) (y : MethodName) (bytes : ByteArray) (maxL : Nat) (ret : Option FieldType) (hh : List (Nat × Nat × Nat × Nat)) (ws : List Cond) (rm : Room) (mc ms n : Nat) : Prop :=
  (rm.cells = mc ∧ rm.slots = ms ∧ rm.frames + 1 ≤ R.frames ∧ 8 + (maxL + 11) + rm.locals ≤ R.locals ∧ (∀ w ∈ ws, ∀ (a' : Array Value) (U : State), s.WarmedH U.vm → w.before a' U = true) ∧ Cond.codeWith y bytes maxL ret hh ∈ ws) ∧
  (Cond.codeWith y bytes maxL ret hh).before args s = true ∧ (Cond.initialized y.cls).before args s = true ∧ (y.cls ≠ "java/lang/invoke/MethodHandle" ∧ y.cls ≠ "java/lang/invoke/VarHandle") ∧
  (∀ sig, parseMethodDescriptor y.desc = some sig → n = sig.parameters.length) ∧ (Cond.methodLink own index y).before args s = true ∧ (Cond.static y).before args s = true
theorem vx_cwSW {own : String} {index maxL mc ms : Nat} {y : MethodName} {bytes : ByteArray} {ret : Option FieldType} {hh : List (Nat × Nat × Nat × Nat)} {Ts ws ws' : List Cond} {rm : Room} (n : Nat) (ht : ∀ w ∈ Ts, w.before args s = true) (hT : GoodIn Ts (va_wsS own index y ws)) (hw : ws = Cond.codeWith y bytes maxL ret hh :: ws') (hrc : rm.cells = mc) (hrs : rm.slots = ms)
    (hd : y.cls ≠ "java/lang/invoke/MethodHandle" ∧ y.cls ≠ "java/lang/invoke/VarHandle" ∧ (parseMethodDescriptor y.desc).map (fun d => d.parameters.length) = some n) (hR : rm.frames + 1 ≤ R.frames ∧ 8 + (maxL + 11) + rm.locals ≤ R.locals) :
    vx_CSW R s args own index y bytes maxL ret hh ws rm mc ms n := by
  have ok : ∀ w ∈ va_wsS own index y ws, w.before args s = true := fun w h => ht w (hT w h).1
  have hG : GoodIn Ts ws := fun w h => hT w (by unfold va_wsS; exact List.mem_append_right _ h)
  have hc : Cond.codeWith y bytes maxL ret hh ∈ ws := by rw [hw]; exact List.mem_cons_self
  refine ⟨⟨hrc, hrs, hR.1, hR.2, pay_in ht hG, hc⟩, ht _ (hG _ hc).1, ok _ (by simp [va_wsS]), ⟨hd.1, hd.2.1⟩, fun sig h => ?_, ok _ (by simp [va_wsS]), ok _ (by simp [va_wsS])⟩
  have h2 := hd.2.2
  rw [h] at h2
  exact (Option.some.inj h2).symm
theorem vx_callSW (X : Stand p l e R s m args below meth c T locs cells slots) (hexec : p.tables.exec = Jvm.exec) {own : String} {index : Nat} {y : MethodName} {bytes : ByteArray} {maxL : Nat} {ret : Option FieldType} {hh : List (Nat × Nat × Nat × Nat)}
    (hown : s.vm.findClass own = some m.cls) (hlink : (Cond.methodLink own index y).before args s = true) (hstat : (Cond.static y).before args s = true) (hinit : (Cond.initialized y.cls).before args s = true)
    (hcode : (Cond.codeWith y bytes maxL ret hh).before args s = true) (hy : y.cls ≠ "java/lang/invoke/MethodHandle" ∧ y.cls ≠ "java/lang/invoke/VarHandle")
    {W9 : Nat} {Pre : Pt → Array Value → Prop} {Post : Pt → Array Value → Option Value → Pt → Prop} (hK : Back l R p e below s args y 3 W9 Pre Post)
    {g : JFrame} (hg : g.method = m) (hsize : g.locals.size = c.maxLocals) {argsL rest : List Value} (hlen : ∀ sig, parseMethodDescriptor y.desc = some sig → argsL.length = sig.parameters.length)
    (hstack : g.stack = argsL.reverse ++ rest) (hW : 2 * g.monitorRoom + (rest.map fun v => v.category).sum ≤ W9) (hdg : decode c.code g.pc = .ok (.invokestatic index, 3))
    (hpre : ∀ vm₁, s.WarmedH vm₁ → Pre ⟨T.setVm vm₁, locs, cells, slots⟩ argsL.toArray) :
    ∃ (v : Option Value) (vm₁ : Vm) (B : Pt), s.WarmedH vm₁ ∧ Stand p l e R s m args below meth c B.U B.locs B.cells B.slots ∧ Post ⟨T.setVm vm₁, locs, cells, slots⟩ argsL.toArray v B ∧
      ∀ target, Steps p.tables e below (B.U.setTop { g with pc := g.pc + 3, stack := v.toList ++ rest }) target → Steps p.tables e below (T.setTop g) target := by
  obtain ⟨mk, methM, cM, hnamed, hmethM, -, -, -, -, -, -, hsigM⟩ := Cond.codeWith_spec hcode
  have hstatic : methM.isStatic = true := Cond.static_spec hnamed hmethM hstat
  obtain ⟨kP, hkP, -⟩ := className_of_methodNamed hnamed
  have hinitP : kP.init = .initialized := Cond.initialized_spec (findClass_of_methodNamed hnamed) hkP hinit
  obtain ⟨vm₁, X₁, hstep₁⟩ := X.invokestatic hexec hown hlink hnamed hmethM hstatic hkP hinitP hy (g := g) hg (argsL := argsL) (rest := rest) (hlen _ hsigM) hstack hdg
  obtain ⟨v, B, X', hpost, hsteps⟩ := hK m meth c ⟨T.setVm vm₁, locs, cells, slots⟩ { g with stack := rest } (.invokestatic index) mk argsL.toArray X₁ hg hsize hdg hW (X₁.named hnamed) (hpre vm₁ X₁.warmed)
  exact ⟨v, vm₁, B, X₁.warmed, X', hpost, fun target h => hstep₁ _ fun acts => by rw [doInvoke_state]; exact hsteps.trans h⟩
theorem vx_runSW {y : MethodName} {bytes cc : ByteArray} {maxL nL mc ms n index : Nat} {ret : Option FieldType} {hh : List (Nat × Nat × Nat × Nat)} {ws : List Cond} {rm : Room} {Pc : Array Value → State → Prop} {Qc : Array Value → State → Outcome → State → Prop} {free : Addr → Prop} {Ts : List Cond} {own : String} {As rest : List Value} {g : JFrame}
    (S : CallFix p m c cc nL s args Ts own) (hM : Met l y ws rm Pc Qc mc ms free) (cw : vx_CSW R s args own index y bytes maxL ret hh ws rm mc ms n) (hp : PreS s H Pc As)
    (hg : g.method = m) (hn : As.length = n) (hsize : g.locals.size = nL) (hstack : g.stack = As.reverse ++ rest) (hW : 2 * g.monitorRoom + (rest.map fun v => v.category).sum ≤ 8) (hdg : decode cc g.pc = .ok (.invokestatic index, 3)) (hf : cells + mc ≤ R.cells ∧ slots + ms ≤ R.slots) :
    va_Run p l e R s m args below meth c H locs cells slots mc ms g rest (Qc As.toArray) (free) := by
  obtain ⟨⟨hrc, hrs, hfr, hlo, hws, hcw⟩, hcode, hini, hy, hlen, hl, hstt⟩ := cw
  have hK : Back l R p e below s args y 3 8 (PreOf R mc ms Pc) (PostOf Qc mc ms free) := va_backW (hh := hh) (bytes := bytes) (maxL := maxL) (ret := ret) hM hp.1 hrc hrs hfr hlo hws hcw (fun a' U hW => word_at hW (Or.inl (by first | rfl | simp [Cond.onTables, Cond.keeps, Cond.steady])) hini)
  obtain ⟨hx, hb, hml, ho, -⟩ := S
  intro T hT X
  obtain ⟨v, vm₁, ⟨U', l2, c2, s2⟩, hW₁, X', ⟨g', mk, t, L, e1, e2, hq, h1, hL, h2, h3⟩, st⟩ := vx_callSW X hx (hh := hh) (bytes := bytes) (maxL := maxL) (ret := ret) ho hl hstt hini hcode hy hK hg (hsize.trans hml.symm) (argsL := As) (rest := rest) (fun sig h => hn.trans (hlen sig h)) hstack hW (by rw [hb]; exact hdg)
    (fun vm₁ hW₁ => ⟨hf.1, hf.2, hp.2 (T.setVm vm₁) hT hW₁⟩)
  dsimp only [Pt.U, Pt.locs, Pt.cells, Pt.slots] at X' e1 e2 h1 h2 h3 st
  subst h1; subst h2; subst h3
  exact ⟨v, (T.setVm vm₁).calling g' mk As.toArray, t, U', L, hT, X', hL, e1, e2, hq, st⟩
/-- not caught here, past rows that name other classes: it goes on to the caller -/
theorem vx_outP {p : Program} {l : Launch} {e : Env} {R : Room} {s : State} {m : MethodId} {args : Array Value} {below : List Frame} {meth : Method} {c : Code} {H : Heap} {locs : List Loc} {cells slots : Nat} {free : Addr → Prop} {ls : Array Slot} {rest : List Value} {Qc : Array Value → State → Outcome → State → Prop} {XC : String → State → State → Prop}
    {pc : Nat} {own E : String} {ce : Cell} {q : Addr} {mc ms : Nat} (hown : s.vm.findClass own = some m.cls) (hlocks : meth.locks = false)
    (hpass : ∀ z ∈ c.exceptionTable.toList, covers z pc = false ∨ (z.catchType ≠ 0 ∧ ∃ nm : String, (Cond.classLink own z.catchType nm).before args s = true ∧ va_Nc E nm s)) (hcell : H[q]? = some ce) (hv : ce.vm = .none) (hcl : s.vm.findClass E = some ce.cls)
    (hx : ∀ t : State, t.heap = H → s.vm.Alike t.vm → XC E s t) (hf : ∀ z ∈ locs, free z.base) (hc : cells ≤ mc) (hs : slots ≤ ms) :
    vx_W p l e R s m args below meth c H locs cells slots (vx_MQ below Qc XC args s mc ms free) (F0 m pc ls rest) q := by
  intro T hT X
  have hpl : e.platform.magicAccessors = ({} : Platform).magicAccessors := by rw [X.admits.platform]
  obtain ⟨vm', hW', X', st⟩ := X.outThrough hlocks q (g := F0 m pc ls rest) rfl rfl rfl (cell := ce) (by rw [hT]; exact hcell) (by rw [hv]; rfl)
    (by obtain ⟨k9, h9, -⟩ := Vm.findClass_spec hcl; exact ⟨k9, h9⟩) (fun z hz => by
      rcases hpass z hz with h | ⟨hz0, nm, hl1, hn1⟩
      · exact Or.inl h
      · obtain ⟨c6, hc6, hcl6⟩ := Cond.classLink_spec hown hl1 e.platform hpl
        obtain ⟨a8, b8, h1, h2, h3⟩ := hn1
        cases Option.some.inj (h1.symm.trans hcl)
        cases Option.some.inj (h2.symm.trans hc6)
        exact Or.inr ⟨hz0, _, hcl6, h3⟩)
  obtain ⟨g₀, hfr⟩ := X'.frames_eq
  have hcell9 : ((T.setVm vm').setFrames (.throwing q :: below)).heap[q]? = some ce := by
    show T.heap[q]? = some ce
    rw [hT]; exact hcell
  have hend : Ended ((T.setVm vm').setFrames (.throwing q :: below)) below (.threw q) := State.frames_setFrames _ (State.cur_lt_of_frames hfr)
  refine ⟨(T.setVm vm').setFrames (.throwing q :: below), ?_, .threw q, X'.here.running, hend, Or.inr ⟨q, rfl, E, ce, locs, hx _ hT (X'.ends _).1.alike, hcell9, hv, hcl, (X'.ends _).1, (X'.ends _).2.mono hc hs, hf⟩⟩
  rw [X.pushThrowing_eq]
  exact st
/-- a thing of a world lies in the heap -/
theorem vx_lt {D : va_G} {cl : List vw_C} {ws : va_W} {H1 : Heap} (h : va_P D cl ws H1) {k : Nat} {q : Nat × va_E} (hk : ws[k]? = some q) : q.1 < H1.size := (h k q hk).lt
end VXS
/-! ===== END ===== -/
/-! ===== BEGIN methods with a table of their own: called by a name, returning or throwing ===== -/
section VXH
/-! vx_backW, vx_callVX, vx_callSX, vx_callVW, vx_runVW, vx_runVX, vx_runSX, vx_ofWH follow the same proofs as their sisters above (Free/Laws.lean, Shelf42/LK1.lean); vx_outP calls Shelf42/NT130.lean (outThrough). -/
section
variable {l : Launch} {R : Room} {p : Program} {e : Env} {below : List Frame} {s : State} {sargs : Array Value} {y : MethodName} {len W9 : Nat}
theorem vx_backW {ws : List Cond} {rm : Room} {Pc : Array Value → State → Prop} {Qc : Array Value → State → Outcome → State → Prop} {XC : String → State → State → Prop} {mc ms : Nat} {free : Addr → Prop} {bytes : ByteArray} {maxL : Nat} {ret : Option FieldType} {hh : List (Nat × Nat × Nat × Nat)}
    (hM : vx_Met l y ws rm Pc Qc XC mc ms free) (hblind : FrameBlind Pc) (hrc : rm.cells = mc) (hrs : rm.slots = ms)
    (hframes : rm.frames + 1 ≤ R.frames) (hlocals : W9 + (maxL + 11) + rm.locals ≤ R.locals)
    (hws : ∀ w ∈ ws, ∀ a' U, s.WarmedH U.vm → w.before a' U = true) (hcode : Cond.codeWith y bytes maxL ret hh ∈ ws) (hinit : ∀ a' U, s.WarmedH U.vm → (Cond.initialized y.cls).before a' U = true) :
    vx_Back l R p e below s sargs y len W9 (PreOf R mc ms Pc) (PostOf Qc mc ms free) (vx_Post XC mc ms free) := by
  intro m meth c A g ig mk a X hg hsize hdg hW hn hp
  have h1 : (headSpec ws rm).pre.before a A.U = true := atoms_intro fun w hw => hws w hw _ _ X.warmed
  have h2 : (Cond.codeWith y bytes maxL ret hh).before a A.U = true := hws _ hcode _ _ X.warmed
  have h3 : (Cond.initialized y.cls).before a A.U = true := hinit _ _ X.warmed
  have h4 : A.cells + (headSpec ws rm).room.cells ≤ R.cells := by rw [show (headSpec ws rm).room.cells = mc from hrc]; exact hp.1
  have h5 : A.slots + (headSpec ws rm).room.slots ≤ R.slots := by rw [show (headSpec ws rm).room.slots = ms from hrs]; exact hp.2.1
  have hPc : Pc a (A.U.calling g mk a) := hblind _ _ _ _ hp.2.2
  obtain ⟨U, Ls, c0, s0⟩ := A
  dsimp only [Pt.U, Pt.locs, Pt.cells, Pt.slots] at h1 h2 h3 h4 h5 X hn hPc ⊢
  obtain ⟨m9, methY, cY, hn9, hmY, hcY, -, hlY, -⟩ := Cond.codeWith_spec h2
  cases Option.some.inj (hn9.symm.trans hn)
  obtain ⟨kY, hkY, -⟩ := className_of_methodNamed hn
  have hinitY : kY.init = .initialized := Cond.initialized_spec (findClass_of_methodNamed hn) hkY h3
  have h : At U g.method c below := by rw [hg]; exact X.here
  have hlocals9 : W9 + (maxL + 11) + (headSpec ws rm).room.locals ≤ R.locals := hlocals
  have happ : (headSpec ws rm).appliesLoose y e.platform (U.calling g mk a) = true :=
    Spec.appliesLoose_calling (g := g) h hdg hn hkY hinitY
      (X.room_calling (g := g) (R' := (headSpec ws rm).room) hsize hmY hcY hframes (by rw [hlY]; omega) h4 h5) h1
  obtain ⟨mid, hmid⟩ := h.above
  have hfr : (U.setTop g).frames = (.java g :: mid) ++ below := by rw [State.frames_setTop' g h.top, hmid]; rfl
  obtain ⟨o, s₂, hsteps, -, hend, hq⟩ := Steps.callFree hM p X.admits X.cas X.clock (acts := []) hfr happ hPc trivial
  have hq' : vx_Q Qc XC mc ms free a (U.calling g mk a) o s₂ := hq
  rw [State.frames_setTop' g h.top] at hend
  obtain ⟨g₀, hg0⟩ := Option.isSome_iff_exists.mp h.top
  obtain ⟨r, hr⟩ := State.topJava?_eq_some.mp hg0
  have hr' : (({ U with heap := s₂.heap, slotsUsed := s₂.slotsUsed } : State).setVm s₂.vm).frames = .java g₀ :: r := hr
  rcases hq' with ⟨hqc, L, hfe, hL⟩ | ⟨q, rfl, E, ce, L, hx, hce, hcv, hcl, hW₂, hsm, hL⟩
  · obtain ⟨⟨v, rfl⟩, hW₂, e2, q2, q3, q4, q5, q6⟩ := id hfe
    have e3 : s₂ = ({ (U.calling g mk a).setFrames s₂.frames with heap := s₂.heap, slotsUsed := s₂.slotsUsed } : State).setVm s₂.vm := by
      have : s₂ = ({ s₂ with vm := (U.calling g mk a).vm } : State).setVm s₂.vm := rfl
      rw [e2] at this
      exact this
    obtain ⟨c₂, i₂, len₂, hc₂, hd₂, hf₂⟩ := hend
    have hW' : U.WarmedH s₂.vm := hW₂
    have hcc : c₂ = c := by
      have h1 : s₂.code? g.method = U.code? g.method := by
        rw [State.code?_eq, State.code?_eq, hW'.alike.method?]
      exact Option.some.inj (hc₂.symm.trans (h1.trans h.code))
    subst hcc
    have hlen : len₂ = len := by rw [hdg] at hd₂; cases hd₂; rfl
    subst hlen
    have hs₂ : s₂ = (({ U with heap := s₂.heap, slotsUsed := s₂.slotsUsed } : State).setVm s₂.vm).setTop { g with pc := g.pc + len₂, stack := v.toList ++ g.stack } := by
      refine e3.trans ?_
      rw [hf₂, State.calling_eq h.top, State.setFrames_setFrames, State.setTop_of_frames _ hr', hr]
      rfl
    have hsame : U.sameButNew ({ U with heap := s₂.heap, slotsUsed := s₂.slotsUsed } : State) L mc ms := by
      refine ⟨?_, q2, q3, q4, q5, q6⟩
      obtain ⟨t, ht, -⟩ := State.frames_cons hr
      show ({ U with heap := s₂.heap, slotsUsed := s₂.slotsUsed } : State) = { U.setFrames U.frames with heap := s₂.heap, slotsUsed := s₂.slotsUsed }
      rw [State.setFrames_self ht]
    subst hg
    refine Or.inl ⟨v, ⟨(({ U with heap := s₂.heap, slotsUsed := s₂.slotsUsed } : State).setVm s₂.vm), Ls ++ L, c0 + mc, s0 + ms⟩,
      ⟨X.admits, X.cas, X.clock, X.frames, X.room, X.hears, X.method, X.code, (X.here.setHeapUsed s₂.heap s₂.slotsUsed).setVm hW'.alike, X.tail, State.WarmedH.trans X.warmed hW', X.limits, X.bytes, X.same.trans (hsame.setVm s.vm)⟩,
      ⟨g, mk, s₂, L, rfl, rfl, hqc, rfl, hL, rfl, rfl⟩, ?_⟩
    show Steps p.tables e below _ ((({ U with heap := s₂.heap, slotsUsed := s₂.slotsUsed } : State).setVm s₂.vm).setTop { g with pc := g.pc + len₂, stack := v.toList ++ g.stack })
    rw [← hs₂]
    exact hsteps
  · obtain ⟨e2, q2, q3, q4, q5, q6⟩ := id hsm
    have e3 : s₂ = ({ (U.calling g mk a).setFrames s₂.frames with heap := s₂.heap, slotsUsed := s₂.slotsUsed } : State).setVm s₂.vm := by
      have : s₂ = ({ s₂ with vm := (U.calling g mk a).vm } : State).setVm s₂.vm := rfl
      rw [e2] at this
      exact this
    have hf₂ : s₂.frames = .throwing q :: .java g :: U.frames.tail := hend
    have hW' : U.WarmedH s₂.vm := hW₂
    have hs₂ : s₂ = ((({ U with heap := s₂.heap, slotsUsed := s₂.slotsUsed } : State).setVm s₂.vm).setTop g).pushFrame (.throwing q) := by
      refine e3.trans ?_
      rw [hf₂, State.calling_eq h.top, State.setFrames_setFrames, State.pushFrame, State.frames_setTop _ hr', State.setTop_of_frames _ hr', State.setFrames_setFrames, hr]
      rfl
    have hsame : U.sameButNew ({ U with heap := s₂.heap, slotsUsed := s₂.slotsUsed } : State) L mc ms := by
      refine ⟨?_, q2, q3, q4, q5, q6⟩
      obtain ⟨t, ht, -⟩ := State.frames_cons hr
      show ({ U with heap := s₂.heap, slotsUsed := s₂.slotsUsed } : State) = { U.setFrames U.frames with heap := s₂.heap, slotsUsed := s₂.slotsUsed }
      rw [State.setFrames_self ht]
    subst hg
    refine Or.inr ⟨q, ⟨(({ U with heap := s₂.heap, slotsUsed := s₂.slotsUsed } : State).setVm s₂.vm), Ls ++ L, c0 + mc, s0 + ms⟩,
      ⟨X.admits, X.cas, X.clock, X.frames, X.room, X.hears, X.method, X.code, (X.here.setHeapUsed s₂.heap s₂.slotsUsed).setVm hW'.alike, X.tail, State.WarmedH.trans X.warmed hW', X.limits, X.bytes, X.same.trans (hsame.setVm s.vm)⟩,
      ⟨g, mk, s₂, L, E, ce, rfl, rfl, hx, hce, hcv, hcl, rfl, hL, rfl, rfl⟩, ?_⟩
    show Steps p.tables e below _ (((({ U with heap := s₂.heap, slotsUsed := s₂.slotsUsed } : State).setVm s₂.vm).setTop g).pushFrame (.throwing q))
    rw [← hs₂]
    exact hsteps
end
variable {p : Program} {l : Launch} {e : Env} {R : Room} {s : State} {m : MethodId} {args : Array Value} {below : List Frame} {meth : Method} {c : Code} {T : State} {H : Heap} {locs : List Loc} {cells slots : Nat}
theorem vx_callVX (X : Stand p l e R s m args below meth c T locs cells slots) (hexec : p.tables.exec = Jvm.exec) {own C : String} {index : Nat} {y : MethodName} {bytes : ByteArray} {maxL : Nat} {ret : Option FieldType} {hh : List (Nat × Nat × Nat × Nat)}
    (hown : s.vm.findClass own = some m.cls) (hlink : (Cond.methodLink own index y).before args s = true) (hinst : (Cond.instanceMethod y).before args s = true) (hsel : (Cond.selects C y y).before args s = true)
    (hcode : (Cond.codeWith y bytes maxL ret hh).before args s = true) (hy : y.cls ≠ "java/lang/invoke/MethodHandle" ∧ y.cls ≠ "java/lang/invoke/VarHandle")
    {W9 : Nat} {Pre : Pt → Array Value → Prop} {Post : Pt → Array Value → Option Value → Pt → Prop} {PostX : Pt → Array Value → Addr → Pt → Prop} (hK : vx_Back l R p e below s args y 3 W9 Pre Post PostX)
    {b : Addr} {cellB : Cell} (hcell : T.heap[b]? = some cellB) (hobj : cellB.vm.isStatics = false) (hcls : s.vm.findClass C = some cellB.cls)
    {g : JFrame} (hg : g.method = m) (hsize : g.locals.size = c.maxLocals) {argsL rest : List Value} (hlen : ∀ sig, parseMethodDescriptor y.desc = some sig → argsL.length = sig.parameters.length)
    (hstack : g.stack = argsL.reverse ++ .ref b :: rest) (hW : 2 * g.monitorRoom + (rest.map fun v => v.category).sum ≤ W9) (hdg : decode c.code g.pc = .ok (.invokevirtual index, 3))
    (hpre : ∀ vm₁, s.WarmedH vm₁ → Pre ⟨T.setVm vm₁, locs, cells, slots⟩ (Value.ref b :: argsL).toArray) :
    (∃ (v : Option Value) (vm₁ : Vm) (B : Pt), s.WarmedH vm₁ ∧ Stand p l e R s m args below meth c B.U B.locs B.cells B.slots ∧ Post ⟨T.setVm vm₁, locs, cells, slots⟩ (Value.ref b :: argsL).toArray v B ∧
      ∀ target, Steps p.tables e below (B.U.setTop { g with pc := g.pc + 3, stack := v.toList ++ rest }) target → Steps p.tables e below (T.setTop g) target) ∨
    (∃ (q : Addr) (vm₁ : Vm) (B : Pt), s.WarmedH vm₁ ∧ Stand p l e R s m args below meth c B.U B.locs B.cells B.slots ∧ PostX ⟨T.setVm vm₁, locs, cells, slots⟩ (Value.ref b :: argsL).toArray q B ∧
      Steps p.tables e below (T.setTop g) ((B.U.setTop { g with stack := rest }).pushFrame (.throwing q))) := by
  obtain ⟨mk, methM, hnamed, hmethM, hstM, habM⟩ := Cond.instanceMethod_spec hinst
  obtain ⟨m8, methM', cM, hn8, hmethM', -, -, -, -, -, -, hsigM⟩ := Cond.codeWith_spec hcode
  cases Option.some.inj (hn8.symm.trans hnamed)
  cases hmethM.symm.trans hmethM'
  obtain ⟨c2, r2, m2, q1, q2, q3, q4, kP, hkP, hkPi⟩ := Cond.selects_spec hsel
  cases hcls.symm.trans q1
  cases (State.methodFound?_of_named hnamed hy).symm.trans q2
  cases hnamed.symm.trans q3
  have hselP : selectMethod e.platform s.vm cellB.cls mk = .method mk := by rw [Launch.admits_selectMethod X.admits]; exact q4
  obtain ⟨vm₁, X₁, hstep₁⟩ := X.invokevirtual hexec hown hlink hnamed hmethM hstM hkP hkPi hy (a := b) (cell := cellB) hcell
    (fun z h => by rw [h] at hobj; cases hobj) hselP hmethM habM hkP hkPi (g := g) hg (argsL := argsL) (rest := rest) (hlen _ hsigM) hstack hdg
  rcases hK m meth c ⟨T.setVm vm₁, locs, cells, slots⟩ { g with stack := rest } (.invokevirtual index) mk (Value.ref b :: argsL).toArray X₁ hg hsize hdg hW (X₁.named hnamed) (hpre vm₁ X₁.warmed) with ⟨v, B, X', hpost, hsteps⟩ | ⟨q, B, X', hpost, hsteps⟩
  · exact Or.inl ⟨v, vm₁, B, X₁.warmed, X', hpost, fun target h => hstep₁ _ fun acts => by rw [doInvoke_state]; exact hsteps.trans h⟩
  · exact Or.inr ⟨q, vm₁, B, X₁.warmed, X', hpost, hstep₁ _ fun acts => by rw [doInvoke_state]; exact hsteps⟩
theorem vx_callSX (X : Stand p l e R s m args below meth c T locs cells slots) (hexec : p.tables.exec = Jvm.exec) {own : String} {index : Nat} {y : MethodName} {bytes : ByteArray} {maxL : Nat} {ret : Option FieldType} {hh : List (Nat × Nat × Nat × Nat)}
    (hown : s.vm.findClass own = some m.cls) (hlink : (Cond.methodLink own index y).before args s = true) (hstat : (Cond.static y).before args s = true) (hinit : (Cond.initialized y.cls).before args s = true)
    (hcode : (Cond.codeWith y bytes maxL ret hh).before args s = true) (hy : y.cls ≠ "java/lang/invoke/MethodHandle" ∧ y.cls ≠ "java/lang/invoke/VarHandle")
    {W9 : Nat} {Pre : Pt → Array Value → Prop} {Post : Pt → Array Value → Option Value → Pt → Prop} {PostX : Pt → Array Value → Addr → Pt → Prop} (hK : vx_Back l R p e below s args y 3 W9 Pre Post PostX)
    {g : JFrame} (hg : g.method = m) (hsize : g.locals.size = c.maxLocals) {argsL rest : List Value} (hlen : ∀ sig, parseMethodDescriptor y.desc = some sig → argsL.length = sig.parameters.length)
    (hstack : g.stack = argsL.reverse ++ rest) (hW : 2 * g.monitorRoom + (rest.map fun v => v.category).sum ≤ W9) (hdg : decode c.code g.pc = .ok (.invokestatic index, 3))
    (hpre : ∀ vm₁, s.WarmedH vm₁ → Pre ⟨T.setVm vm₁, locs, cells, slots⟩ argsL.toArray) :
    (∃ (v : Option Value) (vm₁ : Vm) (B : Pt), s.WarmedH vm₁ ∧ Stand p l e R s m args below meth c B.U B.locs B.cells B.slots ∧ Post ⟨T.setVm vm₁, locs, cells, slots⟩ argsL.toArray v B ∧
      ∀ target, Steps p.tables e below (B.U.setTop { g with pc := g.pc + 3, stack := v.toList ++ rest }) target → Steps p.tables e below (T.setTop g) target) ∨
    (∃ (q : Addr) (vm₁ : Vm) (B : Pt), s.WarmedH vm₁ ∧ Stand p l e R s m args below meth c B.U B.locs B.cells B.slots ∧ PostX ⟨T.setVm vm₁, locs, cells, slots⟩ argsL.toArray q B ∧
      Steps p.tables e below (T.setTop g) ((B.U.setTop { g with stack := rest }).pushFrame (.throwing q))) := by
  obtain ⟨mk, methM, cM, hnamed, hmethM, -, -, -, -, -, -, hsigM⟩ := Cond.codeWith_spec hcode
  have hstatic : methM.isStatic = true := Cond.static_spec hnamed hmethM hstat
  obtain ⟨kP, hkP, -⟩ := className_of_methodNamed hnamed
  have hinitP : kP.init = .initialized := Cond.initialized_spec (findClass_of_methodNamed hnamed) hkP hinit
  obtain ⟨vm₁, X₁, hstep₁⟩ := X.invokestatic hexec hown hlink hnamed hmethM hstatic hkP hinitP hy (g := g) hg (argsL := argsL) (rest := rest) (hlen _ hsigM) hstack hdg
  rcases hK m meth c ⟨T.setVm vm₁, locs, cells, slots⟩ { g with stack := rest } (.invokestatic index) mk argsL.toArray X₁ hg hsize hdg hW (X₁.named hnamed) (hpre vm₁ X₁.warmed) with ⟨v, B, X', hpost, hsteps⟩ | ⟨q, B, X', hpost, hsteps⟩
  · exact Or.inl ⟨v, vm₁, B, X₁.warmed, X', hpost, fun target h => hstep₁ _ fun acts => by rw [doInvoke_state]; exact hsteps.trans h⟩
  · exact Or.inr ⟨q, vm₁, B, X₁.warmed, X', hpost, hstep₁ _ fun acts => by rw [doInvoke_state]; exact hsteps⟩
theorem vx_callVW (X : Stand p l e R s m args below meth c T locs cells slots) (hexec : p.tables.exec = Jvm.exec) {own C : String} {index : Nat} {y : MethodName} {bytes : ByteArray} {maxL : Nat} {ret : Option FieldType} {hh : List (Nat × Nat × Nat × Nat)}
    (hown : s.vm.findClass own = some m.cls) (hlink : (Cond.methodLink own index y).before args s = true) (hinst : (Cond.instanceMethod y).before args s = true) (hsel : (Cond.selects C y y).before args s = true)
    (hcode : (Cond.codeWith y bytes maxL ret hh).before args s = true) (hy : y.cls ≠ "java/lang/invoke/MethodHandle" ∧ y.cls ≠ "java/lang/invoke/VarHandle")
    {W9 : Nat} {Pre : Pt → Array Value → Prop} {Post : Pt → Array Value → Option Value → Pt → Prop} (hK : Back l R p e below s args y 3 W9 Pre Post)
    {b : Addr} {cellB : Cell} (hcell : T.heap[b]? = some cellB) (hobj : cellB.vm.isStatics = false) (hcls : s.vm.findClass C = some cellB.cls)
    {g : JFrame} (hg : g.method = m) (hsize : g.locals.size = c.maxLocals) {argsL rest : List Value} (hlen : ∀ sig, parseMethodDescriptor y.desc = some sig → argsL.length = sig.parameters.length)
    (hstack : g.stack = argsL.reverse ++ .ref b :: rest) (hW : 2 * g.monitorRoom + (rest.map fun v => v.category).sum ≤ W9) (hdg : decode c.code g.pc = .ok (.invokevirtual index, 3))
    (hpre : ∀ vm₁, s.WarmedH vm₁ → Pre ⟨T.setVm vm₁, locs, cells, slots⟩ (Value.ref b :: argsL).toArray) :
    ∃ (v : Option Value) (vm₁ : Vm) (B : Pt), s.WarmedH vm₁ ∧ Stand p l e R s m args below meth c B.U B.locs B.cells B.slots ∧ Post ⟨T.setVm vm₁, locs, cells, slots⟩ (Value.ref b :: argsL).toArray v B ∧
      ∀ target, Steps p.tables e below (B.U.setTop { g with pc := g.pc + 3, stack := v.toList ++ rest }) target → Steps p.tables e below (T.setTop g) target := by
  obtain ⟨mk, methM, hnamed, hmethM, hstM, habM⟩ := Cond.instanceMethod_spec hinst
  obtain ⟨m8, methM', cM, hn8, hmethM', -, -, -, -, -, -, hsigM⟩ := Cond.codeWith_spec hcode
  cases Option.some.inj (hn8.symm.trans hnamed)
  cases hmethM.symm.trans hmethM'
  obtain ⟨c2, r2, m2, q1, q2, q3, q4, kP, hkP, hkPi⟩ := Cond.selects_spec hsel
  cases hcls.symm.trans q1
  cases (State.methodFound?_of_named hnamed hy).symm.trans q2
  cases hnamed.symm.trans q3
  have hselP : selectMethod e.platform s.vm cellB.cls mk = .method mk := by rw [Launch.admits_selectMethod X.admits]; exact q4
  obtain ⟨vm₁, X₁, hstep₁⟩ := X.invokevirtual hexec hown hlink hnamed hmethM hstM hkP hkPi hy (a := b) (cell := cellB) hcell
    (fun z h => by rw [h] at hobj; cases hobj) hselP hmethM habM hkP hkPi (g := g) hg (argsL := argsL) (rest := rest) (hlen _ hsigM) hstack hdg
  obtain ⟨v, B, X', hpost, hsteps⟩ := hK m meth c ⟨T.setVm vm₁, locs, cells, slots⟩ { g with stack := rest } (.invokevirtual index) mk (Value.ref b :: argsL).toArray X₁ hg hsize hdg hW (X₁.named hnamed) (hpre vm₁ X₁.warmed)
  exact ⟨v, vm₁, B, X₁.warmed, X', hpost, fun target h => hstep₁ _ fun acts => by rw [doInvoke_state]; exact hsteps.trans h⟩
abbrev vx_CVW (R : Room) (s : State) (args : Array Value) (own C : String) (index : Nat) (y : MethodName) (bytes : ByteArray) (maxL : Nat) (ret : Option FieldType) (hh : List (Nat × Nat × Nat × Nat)) (ws : List Cond) (rm : Room) (mc ms n : Nat) : Prop :=
  (rm.cells = mc ∧ rm.slots = ms ∧ rm.frames + 1 ≤ R.frames ∧ 8 + (maxL + 11) + rm.locals ≤ R.locals ∧ (∀ w ∈ ws, ∀ (a' : Array Value) (U : State), s.WarmedH U.vm → w.before a' U = true) ∧ Cond.codeWith y bytes maxL ret hh ∈ ws) ∧
  (Cond.codeWith y bytes maxL ret hh).before args s = true ∧ (Cond.initialized y.cls).before args s = true ∧ (y.cls ≠ "java/lang/invoke/MethodHandle" ∧ y.cls ≠ "java/lang/invoke/VarHandle") ∧
  (∀ sig, parseMethodDescriptor y.desc = some sig → n = sig.parameters.length) ∧ (Cond.methodLink own index y).before args s = true ∧ (Cond.instanceMethod y).before args s = true ∧ (Cond.selects C y y).before args s = true
theorem vx_cwVW {own C : String} {index maxL mc ms : Nat} {y : MethodName} {bytes : ByteArray} {ret : Option FieldType} {hh : List (Nat × Nat × Nat × Nat)} {Ts ws ws' : List Cond} {rm : Room} (n : Nat) (ht : ∀ w ∈ Ts, w.before args s = true) (hT : GoodIn Ts (wsV own index C y ws)) (hw : ws = Cond.codeWith y bytes maxL ret hh :: ws') (hrc : rm.cells = mc) (hrs : rm.slots = ms)
    (hd : y.cls = C ∧ y.cls ≠ "java/lang/invoke/MethodHandle" ∧ y.cls ≠ "java/lang/invoke/VarHandle" ∧ (parseMethodDescriptor y.desc).map (fun d => d.parameters.length) = some n) (hR : rm.frames + 1 ≤ R.frames ∧ 8 + (maxL + 11) + rm.locals ≤ R.locals) :
    vx_CVW R s args own C index y bytes maxL ret hh ws rm mc ms n := by
  obtain ⟨hC, hd⟩ := hd
  subst hC
  have ok : ∀ w ∈ wsV own index y.cls y ws, w.before args s = true := fun w h => ht w (hT w h).1
  have hG : GoodIn Ts ws := fun w h => hT w (by unfold wsV; exact List.mem_append_right _ h)
  have hc : Cond.codeWith y bytes maxL ret hh ∈ ws := by rw [hw]; exact List.mem_cons_self
  refine ⟨⟨hrc, hrs, hR.1, hR.2, pay_in ht hG, hc⟩, ht _ (hG _ hc).1, ok _ (by simp [wsV]), ⟨hd.1, hd.2.1⟩, fun sig h => ?_, ok _ (by simp [wsV]), ok _ (by simp [wsV]), ok _ (by simp [wsV])⟩
  have h2 := hd.2.2
  rw [h] at h2
  exact (Option.some.inj h2).symm
theorem vx_runVW {y : MethodName} {bytes cc : ByteArray} {maxL nL mc ms n index : Nat} {ret : Option FieldType} {hh : List (Nat × Nat × Nat × Nat)} {ws : List Cond} {rm : Room} {Pc : Array Value → State → Prop} {Qc : Array Value → State → Outcome → State → Prop} {free : Addr → Prop} {Ts : List Cond} {own C : String} {b : Addr} {As rest : List Value} {g : JFrame}
    (S : CallFix p m c cc nL s args Ts own) (hM : Met l y ws rm Pc Qc mc ms free) (cw : vx_CVW R s args own C index y bytes maxL ret hh ws rm mc ms n) (hp : PreV s H C b Pc As)
    (hg : g.method = m) (hn : As.length = n) (hsize : g.locals.size = nL) (hstack : g.stack = As.reverse ++ .ref b :: rest) (hW : 2 * g.monitorRoom + (rest.map fun v => v.category).sum ≤ 8) (hdg : decode cc g.pc = .ok (.invokevirtual index, 3)) (hf : cells + mc ≤ R.cells ∧ slots + ms ≤ R.slots) :
    va_Run p l e R s m args below meth c H locs cells slots mc ms g rest (Qc (Value.ref b :: As).toArray) free := by
  obtain ⟨⟨hrc, hrs, hfr, hlo, hws, hcw⟩, hcode, hini, hy, hlen, hl, hin, hse⟩ := cw
  have hK : Back l R p e below s args y 3 8 (PreOf R mc ms Pc) (PostOf Qc mc ms free) := va_backW (hh := hh) (bytes := bytes) (maxL := maxL) (ret := ret) hM hp.1 hrc hrs hfr hlo hws hcw (fun a' U hW => word_at hW (Or.inl (by first | rfl | simp [Cond.onTables, Cond.keeps, Cond.steady])) hini)
  obtain ⟨hx, hb, hml, ho, -⟩ := S
  obtain ⟨-, ⟨cellB, hcB, hoB, hclB⟩, hPc⟩ := hp
  intro T hT X
  obtain ⟨v, vm₁, ⟨U', l2, c2, s2⟩, hW₁, X', ⟨g', mk, t, L, e1, e2, hq, h1, hL, h2, h3⟩, st⟩ := vx_callVW X hx (C := C) (hh := hh) (bytes := bytes) (maxL := maxL) (ret := ret) ho hl hin hse hcode hy hK (by rw [hT]; exact hcB) hoB hclB hg (hsize.trans hml.symm) (argsL := As) (rest := rest) (fun sig h => hn.trans (hlen sig h)) hstack hW (by rw [hb]; exact hdg)
    (fun vm₁ hW₁ => ⟨hf.1, hf.2, hPc (T.setVm vm₁) hT hW₁⟩)
  dsimp only [Pt.U, Pt.locs, Pt.cells, Pt.slots] at X' e1 e2 h1 h2 h3 st
  subst h1; subst h2; subst h3
  exact ⟨v, (T.setVm vm₁).calling g' mk (Value.ref b :: As).toArray, t, U', L, hT, X', hL, e1, e2, hq, st⟩
section
variable {y : MethodName} {bytes cc : ByteArray} {maxL nL mc ms n index : Nat} {ret : Option FieldType} {ws : List Cond} {rm : Room} {Pc : Array Value → State → Prop} {Qc : Array Value → State → Outcome → State → Prop} {XC : String → State → State → Prop} {free : Addr → Prop} {Ts : List Cond} {own C : String} {b : Addr} {As rest : List Value} {g : JFrame}
theorem vx_runVX {hh : List (Nat × Nat × Nat × Nat)} (S : CallFix p m c cc nL s args Ts own) (hM : vx_Met l y ws rm Pc Qc XC mc ms free) (cw : vx_CVW R s args own C index y bytes maxL ret hh ws rm mc ms n) (hp : PreV s H C b Pc As)
    (hg : g.method = m) (hn : As.length = n) (hsize : g.locals.size = nL) (hstack : g.stack = As.reverse ++ .ref b :: rest) (hW : 2 * g.monitorRoom + (rest.map fun v => v.category).sum ≤ 8) (hdg : decode cc g.pc = .ok (.invokevirtual index, 3)) (hf : cells + mc ≤ R.cells ∧ slots + ms ≤ R.slots) :
    vx_Run p l e R s m args below meth c H locs cells slots mc ms g rest (Qc (Value.ref b :: As).toArray) XC free := by
  obtain ⟨⟨hrc, hrs, hfr, hlo, hws, hcw⟩, hcode, hini, hy, hlen, hl, hin, hse⟩ := cw
  have hK : vx_Back l R p e below s args y 3 8 (PreOf R mc ms Pc) (PostOf Qc mc ms free) (vx_Post XC mc ms free) := vx_backW (hh := hh) (bytes := bytes) (maxL := maxL) (ret := ret) hM hp.1 hrc hrs hfr hlo hws hcw (fun a' U hW => word_at hW (Or.inl (by first | rfl | simp [Cond.onTables, Cond.keeps, Cond.steady])) hini)
  obtain ⟨hx, hb, hml, ho, -⟩ := S
  obtain ⟨-, ⟨cellB, hcB, hoB, hclB⟩, hPc⟩ := hp
  intro T hT X
  rcases vx_callVX X hx (C := C) (hh := hh) (bytes := bytes) (maxL := maxL) (ret := ret) ho hl hin hse hcode hy hK (by rw [hT]; exact hcB) hoB hclB hg (hsize.trans hml.symm) (argsL := As) (rest := rest) (fun sig h => hn.trans (hlen sig h)) hstack hW (by rw [hb]; exact hdg)
    (fun vm₁ hW₁ => ⟨hf.1, hf.2, hPc (T.setVm vm₁) hT hW₁⟩) with ⟨v, vm₁, ⟨U', l2, c2, s2⟩, hW₁, X', ⟨g', mk, t, L, e1, e2, hq, h1, hL, h2, h3⟩, st⟩ | ⟨q, vm₁, ⟨U', l2, c2, s2⟩, hW₁, X', ⟨g', mk, t, L, E, ce, e1, e2, hq, hce, hcv, hcl, h1, hL, h2, h3⟩, st⟩
  · dsimp only [Pt.U, Pt.locs, Pt.cells, Pt.slots] at X' e1 e2 h1 h2 h3 st
    subst h1; subst h2; subst h3
    exact Or.inl ⟨v, (T.setVm vm₁).calling g' mk (Value.ref b :: As).toArray, t, U', L, hT, X', hL, e1, e2, hq, st⟩
  · dsimp only [Pt.U, Pt.locs, Pt.cells, Pt.slots] at X' e1 e2 h1 h2 h3 st hcl
    subst h1; subst h2; subst h3
    exact Or.inr ⟨q, (T.setVm vm₁).calling g' mk (Value.ref b :: As).toArray, t, U', L, E, ce, hT, X', hL, e1, e2, hq, hce, hcv, vx_cls hW₁ hcl, st⟩
theorem vx_runSX {hh : List (Nat × Nat × Nat × Nat)} (S : CallFix p m c cc nL s args Ts own) (hM : vx_Met l y ws rm Pc Qc XC mc ms free) (cw : vx_CSW R s args own index y bytes maxL ret hh ws rm mc ms n) (hp : PreS s H Pc As)
    (hg : g.method = m) (hn : As.length = n) (hsize : g.locals.size = nL) (hstack : g.stack = As.reverse ++ rest) (hW : 2 * g.monitorRoom + (rest.map fun v => v.category).sum ≤ 8) (hdg : decode cc g.pc = .ok (.invokestatic index, 3)) (hf : cells + mc ≤ R.cells ∧ slots + ms ≤ R.slots) :
    vx_Run p l e R s m args below meth c H locs cells slots mc ms g rest (Qc As.toArray) XC free := by
  obtain ⟨⟨hrc, hrs, hfr, hlo, hws, hcw⟩, hcode, hini, hy, hlen, hl, hstt⟩ := cw
  have hK : vx_Back l R p e below s args y 3 8 (PreOf R mc ms Pc) (PostOf Qc mc ms free) (vx_Post XC mc ms free) := vx_backW (hh := hh) (bytes := bytes) (maxL := maxL) (ret := ret) hM hp.1 hrc hrs hfr hlo hws hcw (fun a' U hW => word_at hW (Or.inl (by first | rfl | simp [Cond.onTables, Cond.keeps, Cond.steady])) hini)
  obtain ⟨hx, hb, hml, ho, -⟩ := S
  intro T hT X
  rcases vx_callSX X hx (hh := hh) (bytes := bytes) (maxL := maxL) (ret := ret) ho hl hstt hini hcode hy hK hg (hsize.trans hml.symm) (argsL := As) (rest := rest) (fun sig h => hn.trans (hlen sig h)) hstack hW (by rw [hb]; exact hdg)
    (fun vm₁ hW₁ => ⟨hf.1, hf.2, hp.2 (T.setVm vm₁) hT hW₁⟩) with ⟨v, vm₁, ⟨U', l2, c2, s2⟩, hW₁, X', ⟨g', mk, t, L, e1, e2, hq, h1, hL, h2, h3⟩, st⟩ | ⟨q, vm₁, ⟨U', l2, c2, s2⟩, hW₁, X', ⟨g', mk, t, L, E, ce, e1, e2, hq, hce, hcv, hcl, h1, hL, h2, h3⟩, st⟩
  · dsimp only [Pt.U, Pt.locs, Pt.cells, Pt.slots] at X' e1 e2 h1 h2 h3 st
    subst h1; subst h2; subst h3
    exact Or.inl ⟨v, (T.setVm vm₁).calling g' mk As.toArray, t, U', L, hT, X', hL, e1, e2, hq, st⟩
  · dsimp only [Pt.U, Pt.locs, Pt.cells, Pt.slots] at X' e1 e2 h1 h2 h3 st hcl
    subst h1; subst h2; subst h3
    exact Or.inr ⟨q, (T.setVm vm₁).calling g' mk As.toArray, t, U', L, E, ce, hT, X', hL, e1, e2, hq, hce, hcv, vx_cls hW₁ hcl, st⟩
end
end VXH
theorem vx_ofWH {l : Launch} {y : MethodName} {ws ws' : List Cond} {rm : Room} {Pc : Array Value → State → Prop} {Qc : Array Value → State → Outcome → State → Prop} {XC : String → State → State → Prop} {mc ms : Nat} {free : Addr → Prop} {cc : ByteArray} {maxL : Nat} {ret : Option FieldType} {hh : List (Nat × Nat × Nat × Nat)}
    (hy : plainName y.cls = true) (hw : ws = Cond.codeWith y cc maxL ret hh :: ws')
    (body : ∀ p e s m args below meth c s₁, BodyLoose p l y (headSpec ws rm) cc maxL ret e s m args below meth c s₁ → c.maxLocals = maxL → Pc args s →
      W p l e (headSpec ws rm).room s m args below meth c s.heap [] 0 0 (vx_MQ below Qc XC args s mc ms free) (entryFrame m args maxL)) : vx_Met l y ws rm Pc Qc XC mc ms free := by
  refine MetFree.of_bodyS (code := cc) (maxLocals := maxL) (ret := ret) hy ?_ ?_
  · intro args s m h hn
    obtain ⟨m9, meth, c, hn9, h1, h2, h3, h4, -, h5, h6, -⟩ := Cond.codeWith_spec (atoms_spec (ws := ws) h _ (by rw [hw]; exact List.mem_cons_self))
    cases hn.symm.trans hn9
    exact ⟨meth, c, h1, h2, h3, h4, h5, h6⟩
  · intro p e s m args below meth c s₁ B hml hP _
    have hh0 : s₁.heap = s.heap := by rw [B.state]; rfl
    obtain ⟨t, a1, o, b1, b2, b3⟩ := body p e s m args below meth c s₁ B hml hP s₁ hh0 (Stand.of_body B)
    exact ⟨t, o, a1, b1, b2, b3⟩
/-! ===== END ===== -/
end
section
def RX0 : String := "LoafRounds$Book"
def TX0 : u_T := fun k => match k with
  | 0 => ("LoafRounds$Book", "customerCount", "I", false)
  | 1 => ("LoafRounds$Book", "today", "I", false)
  | 2 => ("LoafRounds$Book", "baked", "I", false)
  | 3 => ("LoafRounds$Book", "stale", "I", false)
  | 4 => ("LoafRounds$Book", "coinsPaid", "I", false)
  | 5 => ("LoafRounds$Book", "coinsPaidBack", "I", false)
  | 6 => ("LoafRounds$Book", "customers", "[LLoafRounds$Customer;", true)
  | 7 => ("LoafRounds$Book", "shut", "[Z", true)
  | 8 => ("LoafRounds$Book", "order", "[I", true)
  | 9 => ("LoafRounds$Book", "settings", "[I", true)
  | _ => ("LoafRounds$Book", "visits", "[I", true)
def tyX0 : Nat → FieldType := fun k => match k with
  | 0 => .int
  | 1 => .int
  | 2 => .int
  | 3 => .int
  | 4 => .int
  | 5 => .int
  | 6 => .array (.object "LoafRounds$Customer")
  | 7 => .array .boolean
  | 8 => .array .int
  | 9 => .array .int
  | _ => .array .int
abbrev wsX00 : List Cond := u_ws RX0 TX0 11
theorem nmX0 : ∀ a, a < 11 → ∀ b, b < 11 → a ≠ b → (TX0 a).2.1 ≠ (TX0 b).2.1 := by decide +kernel
theorem tyX0_ok : ∀ k, k < 11 → parseFieldDescriptor (TX0 k).2.2.1 = some (tyX0 k) := by decide +kernel
abbrev cX0_init : ByteArray := prog_2_method_1_code
def yX0_init : MethodName := ⟨RX0, "<init>", "()V"⟩
abbrev cX0_makeNew : ByteArray := prog_2_method_2_code
def yX0_makeNew : MethodName := ⟨RX0, "makeNew", "()V"⟩
abbrev cX0_copyFrom : ByteArray := prog_2_method_3_code
def yX0_copyFrom : MethodName := ⟨RX0, "copyFrom", "(LLoafRounds$Book;)V"⟩
abbrev cX0_numberOf : ByteArray := prog_2_method_4_code
def yX0_numberOf : MethodName := ⟨RX0, "numberOf", "(I)I"⟩
abbrev cX0_sumOf : ByteArray := prog_2_method_5_code
def yX0_sumOf : MethodName := ⟨RX0, "sumOf", "(I)I"⟩
abbrev cX0_loavesGot : ByteArray := prog_2_method_6_code
def yX0_loavesGot : MethodName := ⟨RX0, "loavesGot", "()I"⟩
abbrev cX0_dueToAll : ByteArray := prog_2_method_7_code
def yX0_dueToAll : MethodName := ⟨RX0, "dueToAll", "()I"⟩
abbrev cX0_dueInOpenStreets : ByteArray := prog_2_method_8_code
def yX0_dueInOpenStreets : MethodName := ⟨RX0, "dueInOpenStreets", "(I)I"⟩
abbrev cX0_hasCustomer : ByteArray := prog_2_method_9_code
def yX0_hasCustomer : MethodName := ⟨RX0, "hasCustomer", "(I)Z"⟩
abbrev cX0_isShut : ByteArray := prog_2_method_10_code
def yX0_isShut : MethodName := ⟨RX0, "isShut", "(II)Z"⟩
abbrev cX0_refusalOf : ByteArray := prog_2_method_11_code
def yX0_refusalOf : MethodName := ⟨RX0, "refusalOf", "(IIII)LLoafRounds$Refusal;"⟩
abbrev cX0_firstRefusal : ByteArray := prog_2_method_12_code
def yX0_firstRefusal : MethodName := ⟨RX0, "firstRefusal", "(ZZZ)LLoafRounds$Refusal;"⟩
abbrev cX0_perform : ByteArray := prog_2_method_13_code
def yX0_perform : MethodName := ⟨RX0, "perform", "(IIII)I"⟩
abbrev cX0_addCustomer : ByteArray := prog_2_method_14_code
def yX0_addCustomer : MethodName := ⟨RX0, "addCustomer", "(II)I"⟩
abbrev cX0_closeStreet : ByteArray := prog_2_method_15_code
def yX0_closeStreet : MethodName := ⟨RX0, "closeStreet", "(IIZ)I"⟩
abbrev cX0_swapStreets : ByteArray := prog_2_method_16_code
def yX0_swapStreets : MethodName := ⟨RX0, "swapStreets", "(II)I"⟩
abbrev cX0_placeOf : ByteArray := prog_2_method_17_code
def yX0_placeOf : MethodName := ⟨RX0, "placeOf", "(I)I"⟩
abbrev cX0_takeOrder : ByteArray := prog_2_method_18_code
def yX0_takeOrder : MethodName := ⟨RX0, "takeOrder", "(I)V"⟩
abbrev cX0_orderAsNumber : ByteArray := prog_2_method_19_code
def yX0_orderAsNumber : MethodName := ⟨RX0, "orderAsNumber", "()I"⟩
abbrev cX0_changeSetting : ByteArray := prog_2_method_20_code
def yX0_changeSetting : MethodName := ⟨RX0, "changeSetting", "(II)I"⟩
abbrev cX0_deliver : ByteArray := prog_2_method_21_code
def yX0_deliver : MethodName := ⟨RX0, "deliver", "(I)I"⟩
abbrev cX0_planVisits : ByteArray := prog_2_method_22_code
def yX0_planVisits : MethodName := ⟨RX0, "planVisits", "()V"⟩
abbrev cX0_loavesFor : ByteArray := prog_2_method_23_code
def yX0_loavesFor : MethodName := ⟨RX0, "loavesFor", "(I)I"⟩
abbrev cX0_isReached : ByteArray := prog_2_method_24_code
def yX0_isReached : MethodName := ⟨RX0, "isReached", "(LLoafRounds$Customer;)Z"⟩
abbrev cX0_handOut : ByteArray := prog_2_method_25_code
def yX0_handOut : MethodName := ⟨RX0, "handOut", "(I)I"⟩
abbrev cX0_makeGood : ByteArray := prog_2_method_26_code
def yX0_makeGood : MethodName := ⟨RX0, "makeGood", "(I)I"⟩
abbrev cX0_payBack : ByteArray := prog_2_method_27_code
def yX0_payBack : MethodName := ⟨RX0, "payBack", "()V"⟩
abbrev cX0_reasonFor : ByteArray := prog_2_method_28_code
def yX0_reasonFor : MethodName := ⟨RX0, "reasonFor", "(I)I"⟩
abbrev cX0_leftBefore : ByteArray := prog_2_method_29_code
def yX0_leftBefore : MethodName := ⟨RX0, "leftBefore", "(I)I"⟩
def RX1 : String := "LoafRounds$Customer"
def TX1 : u_T := fun k => match k with
  | 0 => ("LoafRounds$Customer", "street", "I", false)
  | 1 => ("LoafRounds$Customer", "credit", "I", false)
  | 2 => ("LoafRounds$Customer", "got", "I", false)
  | 3 => ("LoafRounds$Customer", "madeGood", "I", false)
  | 4 => ("LoafRounds$Customer", "paidBack", "I", false)
  | 5 => ("LoafRounds$Customer", "missed", "I", false)
  | 6 => ("LoafRounds$Customer", "shortOnes", "I", false)
  | 7 => ("LoafRounds$Customer", "holidays", "I", false)
  | 8 => ("LoafRounds$Customer", "week", "[I", true)
  | 9 => ("LoafRounds$Customer", "firstDay", "[I", true)
  | _ => ("LoafRounds$Customer", "lastDay", "[I", true)
def tyX1 : Nat → FieldType := fun k => match k with
  | 0 => .int
  | 1 => .int
  | 2 => .int
  | 3 => .int
  | 4 => .int
  | 5 => .int
  | 6 => .int
  | 7 => .int
  | 8 => .array .int
  | 9 => .array .int
  | _ => .array .int
abbrev wsX10 : List Cond := u_ws RX1 TX1 11
theorem nmX1 : ∀ a, a < 11 → ∀ b, b < 11 → a ≠ b → (TX1 a).2.1 ≠ (TX1 b).2.1 := by decide +kernel
theorem tyX1_ok : ∀ k, k < 11 → parseFieldDescriptor (TX1 k).2.2.1 = some (tyX1 k) := by decide +kernel
abbrev cX1_init : ByteArray := prog_3_method_1_code
def yX1_init : MethodName := ⟨RX1, "<init>", "()V"⟩
abbrev cX1_start : ByteArray := prog_3_method_2_code
def yX1_start : MethodName := ⟨RX1, "start", "(II)V"⟩
abbrev cX1_copyFrom : ByteArray := prog_3_method_3_code
def yX1_copyFrom : MethodName := ⟨RX1, "copyFrom", "(LLoafRounds$Customer;)V"⟩
abbrev cX1_numberOf : ByteArray := prog_3_method_4_code
def yX1_numberOf : MethodName := ⟨RX1, "numberOf", "(I)I"⟩
abbrev cX1_loavesAWeek : ByteArray := prog_3_method_5_code
def yX1_loavesAWeek : MethodName := ⟨RX1, "loavesAWeek", "()I"⟩
abbrev cX1_putLoaves : ByteArray := prog_3_method_6_code
def yX1_putLoaves : MethodName := ⟨RX1, "putLoaves", "(II)I"⟩
abbrev cX1_addHoliday : ByteArray := prog_3_method_7_code
def yX1_addHoliday : MethodName := ⟨RX1, "addHoliday", "(II)I"⟩
abbrev cX1_dropHoliday : ByteArray := prog_3_method_8_code
def yX1_dropHoliday : MethodName := ⟨RX1, "dropHoliday", "(I)I"⟩
abbrev cX1_isAwayOn : ByteArray := prog_3_method_9_code
def yX1_isAwayOn : MethodName := ⟨RX1, "isAwayOn", "(I)Z"⟩
abbrev cX1_isInFirstHolidays : ByteArray := prog_3_method_10_code
def yX1_isInFirstHolidays : MethodName := ⟨RX1, "isInFirstHolidays", "(II)Z"⟩
abbrev cX1_dueOn : ByteArray := prog_3_method_11_code
def yX1_dueOn : MethodName := ⟨RX1, "dueOn", "(I)I"⟩
abbrev cX1_nextDueDay : ByteArray := prog_3_method_12_code
def yX1_nextDueDay : MethodName := ⟨RX1, "nextDueDay", "(I)I"⟩
abbrev cX1_dueDayByDay : ByteArray := prog_3_method_13_code
def yX1_dueDayByDay : MethodName := ⟨RX1, "dueDayByDay", "(II)I"⟩
abbrev cX1_dueByWeeks : ByteArray := prog_3_method_14_code
def yX1_dueByWeeks : MethodName := ⟨RX1, "dueByWeeks", "(II)I"⟩
abbrev cX1_orderedInHolidays : ByteArray := prog_3_method_15_code
def yX1_orderedInHolidays : MethodName := ⟨RX1, "orderedInHolidays", "(II)I"⟩
abbrev cX1_receive : ByteArray := prog_3_method_16_code
def yX1_receive : MethodName := ⟨RX1, "receive", "(II)V"⟩
abbrev cX1_receiveForCredit : ByteArray := prog_3_method_17_code
def yX1_receiveForCredit : MethodName := ⟨RX1, "receiveForCredit", "(I)V"⟩
abbrev cX1_cutCredit : ByteArray := prog_3_method_18_code
def yX1_cutCredit : MethodName := ⟨RX1, "cutCredit", "(I)I"⟩
def RX2 : String := "LoafRounds$Memory"
def TX2 : u_T := fun k => match k with
  | 0 => ("LoafRounds$Memory", "states", "[LLoafRounds$Book;", true)
  | 1 => ("LoafRounds$Memory", "count", "I", false)
  | _ => ("LoafRounds$Memory", "next", "I", false)
def tyX2 : Nat → FieldType := fun k => match k with
  | 0 => .array (.object "LoafRounds$Book")
  | 1 => .int
  | _ => .int
abbrev wsX20 : List Cond := u_ws RX2 TX2 3
theorem nmX2 : ∀ a, a < 3 → ∀ b, b < 3 → a ≠ b → (TX2 a).2.1 ≠ (TX2 b).2.1 := by decide +kernel
theorem tyX2_ok : ∀ k, k < 3 → parseFieldDescriptor (TX2 k).2.2.1 = some (tyX2 k) := by decide +kernel
abbrev cX2_init : ByteArray := prog_4_method_1_code
def yX2_init : MethodName := ⟨RX2, "<init>", "()V"⟩
abbrev cX2_forgetAll : ByteArray := prog_4_method_2_code
def yX2_forgetAll : MethodName := ⟨RX2, "forgetAll", "()V"⟩
abbrev cX2_keep : ByteArray := prog_4_method_3_code
def yX2_keep : MethodName := ⟨RX2, "keep", "(LLoafRounds$Book;)V"⟩
abbrev cX2_takeBack : ByteArray := prog_4_method_4_code
def yX2_takeBack : MethodName := ⟨RX2, "takeBack", "(LLoafRounds$Book;)I"⟩
def RX3 : String := "LoafRounds$Refusal"
def TX3 : u_T := fun k => match k with
  | _ => ("", "", "", false)
def tyX3 : Nat → FieldType := fun k => match k with
  | _ => .int
abbrev wsX30 : List Cond := u_ws RX3 TX3 0
theorem nmX3 : ∀ a, a < 0 → ∀ b, b < 0 → a ≠ b → (TX3 a).2.1 ≠ (TX3 b).2.1 := by decide +kernel
theorem tyX3_ok : ∀ k, k < 0 → parseFieldDescriptor (TX3 k).2.2.1 = some (tyX3 k) := by decide +kernel
def RX4 : String := "LoafRounds$Text"
def TX4 : u_T := fun k => match k with
  | 0 => ("LoafRounds$Text", "signs", "[C", true)
  | _ => ("LoafRounds$Text", "length", "I", false)
def tyX4 : Nat → FieldType := fun k => match k with
  | 0 => .array .char
  | _ => .int
abbrev wsX40 : List Cond := u_ws RX4 TX4 2
theorem nmX4 : ∀ a, a < 2 → ∀ b, b < 2 → a ≠ b → (TX4 a).2.1 ≠ (TX4 b).2.1 := by decide +kernel
theorem tyX4_ok : ∀ k, k < 2 → parseFieldDescriptor (TX4 k).2.2.1 = some (tyX4 k) := by decide +kernel
abbrev cX4_init : ByteArray := prog_6_method_1_code
def yX4_init : MethodName := ⟨RX4, "<init>", "()V"⟩
abbrev cX4_add : ByteArray := prog_6_method_2_code
def yX4_add : MethodName := ⟨RX4, "add", "(C)I"⟩
abbrev cX4_empty : ByteArray := prog_6_method_3_code
def yX4_empty : MethodName := ⟨RX4, "empty", "()I"⟩
abbrev cX4_signAt : ByteArray := prog_6_method_4_code
def yX4_signAt : MethodName := ⟨RX4, "signAt", "(I)C"⟩
abbrev cX4_formOf : ByteArray := prog_6_method_5_code
def yX4_formOf : MethodName := ⟨RX4, "formOf", "(C)Ljava/lang/String;"⟩
abbrev cX4_formLength : ByteArray := prog_6_method_6_code
def yX4_formLength : MethodName := ⟨RX4, "formLength", "(I)I"⟩
abbrev cX4_firstError : ByteArray := prog_6_method_7_code
def yX4_firstError : MethodName := ⟨RX4, "firstError", "()I"⟩
abbrev cX4_isAllowed : ByteArray := prog_6_method_8_code
def yX4_isAllowed : MethodName := ⟨RX4, "isAllowed", "(CI)Z"⟩
abbrev cX4_numberAt : ByteArray := prog_6_method_9_code
def yX4_numberAt : MethodName := ⟨RX4, "numberAt", "(II)I"⟩
abbrev cX4_doCommand : ByteArray := prog_6_method_10_code
def yX4_doCommand : MethodName := ⟨RX4, "doCommand", "(ILLoafRounds$Book;)I"⟩
def RX5 : String := "LoafRounds"
def TX5 : u_T := fun k => match k with
  | 0 => ("LoafRounds", "text", "LLoafRounds$Text;", true)
  | 1 => ("LoafRounds", "book", "LLoafRounds$Book;", true)
  | 2 => ("LoafRounds", "trial", "LLoafRounds$Book;", true)
  | 3 => ("LoafRounds", "memory", "LLoafRounds$Memory;", true)
  | 4 => ("LoafRounds", "slots", "[LLoafRounds$Book;", true)
  | _ => ("LoafRounds", "isSaved", "[Z", true)
def tyX5 : Nat → FieldType := fun k => match k with
  | 0 => .object "LoafRounds$Text"
  | 1 => .object "LoafRounds$Book"
  | 2 => .object "LoafRounds$Book"
  | 3 => .object "LoafRounds$Memory"
  | 4 => .array (.object "LoafRounds$Book")
  | _ => .array .boolean
abbrev wsX50 : List Cond := u_ws RX5 TX5 6
theorem nmX5 : ∀ a, a < 6 → ∀ b, b < 6 → a ≠ b → (TX5 a).2.1 ≠ (TX5 b).2.1 := by decide +kernel
theorem tyX5_ok : ∀ k, k < 6 → parseFieldDescriptor (TX5 k).2.2.1 = some (tyX5 k) := by decide +kernel
abbrev cX5_init : ByteArray := prog_1_method_1_code
def yX5_init : MethodName := ⟨RX5, "<init>", "()V"⟩
abbrev cX5_append : ByteArray := prog_1_method_2_code
def yX5_append : MethodName := ⟨RX5, "append", "(I)I"⟩
abbrev cX5_clearText : ByteArray := prog_1_method_3_code
def yX5_clearText : MethodName := ⟨RX5, "clearText", "()I"⟩
abbrev cX5_errorPosition : ByteArray := prog_1_method_4_code
def yX5_errorPosition : MethodName := ⟨RX5, "errorPosition", "()I"⟩
abbrev cX5_load : ByteArray := prog_1_method_5_code
def yX5_load : MethodName := ⟨RX5, "load", "()I"⟩
abbrev cX5_about : ByteArray := prog_1_method_6_code
def yX5_about : MethodName := ⟨RX5, "about", "(I)I"⟩
abbrev cX5_customerOf : ByteArray := prog_1_method_7_code
def yX5_customerOf : MethodName := ⟨RX5, "customerOf", "(II)I"⟩
abbrev cX5_ordered : ByteArray := prog_1_method_8_code
def yX5_ordered : MethodName := ⟨RX5, "ordered", "(II)I"⟩
abbrev cX5_away : ByteArray := prog_1_method_9_code
def yX5_away : MethodName := ⟨RX5, "away", "(III)I"⟩
abbrev cX5_isClosed : ByteArray := prog_1_method_10_code
def yX5_isClosed : MethodName := ⟨RX5, "isClosed", "(II)I"⟩
abbrev cX5_round : ByteArray := prog_1_method_11_code
def yX5_round : MethodName := ⟨RX5, "round", "(I)I"⟩
abbrev cX5_setting : ByteArray := prog_1_method_12_code
def yX5_setting : MethodName := ⟨RX5, "setting", "(I)I"⟩
abbrev cX5_due : ByteArray := prog_1_method_13_code
def yX5_due : MethodName := ⟨RX5, "due", "(IIII)I"⟩
abbrev cX5_customer : ByteArray := prog_1_method_14_code
def yX5_customer : MethodName := ⟨RX5, "customer", "(II)I"⟩
abbrev cX5_change : ByteArray := prog_1_method_15_code
def yX5_change : MethodName := ⟨RX5, "change", "(III)I"⟩
abbrev cX5_holiday : ByteArray := prog_1_method_16_code
def yX5_holiday : MethodName := ⟨RX5, "holiday", "(III)I"⟩
abbrev cX5_drop : ByteArray := prog_1_method_17_code
def yX5_drop : MethodName := ⟨RX5, "drop", "(II)I"⟩
abbrev cX5_close : ByteArray := prog_1_method_18_code
def yX5_close : MethodName := ⟨RX5, "close", "(IIZ)I"⟩
abbrev cX5_swap : ByteArray := prog_1_method_19_code
def yX5_swap : MethodName := ⟨RX5, "swap", "(II)I"⟩
abbrev cX5_set : ByteArray := prog_1_method_20_code
def yX5_set : MethodName := ⟨RX5, "set", "(II)I"⟩
abbrev cX5_days : ByteArray := prog_1_method_21_code
def yX5_days : MethodName := ⟨RX5, "days", "(I)I"⟩
abbrev cX5_undo : ByteArray := prog_1_method_22_code
def yX5_undo : MethodName := ⟨RX5, "undo", "()I"⟩
abbrev cX5_why : ByteArray := prog_1_method_23_code
def yX5_why : MethodName := ⟨RX5, "why", "(I)I"⟩
abbrev cX5_creditIn : ByteArray := prog_1_method_24_code
def yX5_creditIn : MethodName := ⟨RX5, "creditIn", "(II)I"⟩
abbrev cX5_clearIn : ByteArray := prog_1_method_25_code
def yX5_clearIn : MethodName := ⟨RX5, "clearIn", "(I)I"⟩
abbrev cX5_leastOven : ByteArray := prog_1_method_26_code
def yX5_leastOven : MethodName := ⟨RX5, "leastOven", "(I)I"⟩
abbrev cX5_bestRound : ByteArray := prog_1_method_27_code
def yX5_bestRound : MethodName := ⟨RX5, "bestRound", "(I)I"⟩
abbrev cX5_runScript : ByteArray := prog_1_method_28_code
def yX5_runScript : MethodName := ⟨RX5, "runScript", "(IJ)I"⟩
abbrev cX5_simulate : ByteArray := prog_1_method_29_code
def yX5_simulate : MethodName := ⟨RX5, "simulate", "(JI)I"⟩
abbrev cX5_save : ByteArray := prog_1_method_30_code
def yX5_save : MethodName := ⟨RX5, "save", "(I)I"⟩
abbrev cX5_restore : ByteArray := prog_1_method_31_code
def yX5_restore : MethodName := ⟨RX5, "restore", "(I)I"⟩
abbrev cX5_act : ByteArray := prog_1_method_32_code
def yX5_act : MethodName := ⟨RX5, "act", "(IIII)I"⟩
abbrev cX5_tellEachStreet : ByteArray := prog_1_method_33_code
def yX5_tellEachStreet : MethodName := ⟨RX5, "tellEachStreet", "(I)Z"⟩
abbrev cX5_succeeds : ByteArray := prog_1_method_34_code
def yX5_succeeds : MethodName := ⟨RX5, "succeeds", "(I)Z"⟩
abbrev cX5_takeTurn : ByteArray := prog_1_method_35_code
def yX5_takeTurn : MethodName := ⟨RX5, "takeTurn", "(I)V"⟩
abbrev cX5_demandPlace : ByteArray := prog_1_method_36_code
def yX5_demandPlace : MethodName := ⟨RX5, "demandPlace", "(Z)V"⟩
abbrev cX5_demandArgument : ByteArray := prog_1_method_37_code
def yX5_demandArgument : MethodName := ⟨RX5, "demandArgument", "(Z)V"⟩
abbrev cX5_demandState : ByteArray := prog_1_method_38_code
def yX5_demandState : MethodName := ⟨RX5, "demandState", "(Z)V"⟩
abbrev cX5_isWithin : ByteArray := prog_1_method_39_code
def yX5_isWithin : MethodName := ⟨RX5, "isWithin", "(III)Z"⟩
abbrev cX5_isStreet : ByteArray := prog_1_method_40_code
def yX5_isStreet : MethodName := ⟨RX5, "isStreet", "(I)Z"⟩
abbrev cX5_isWeekday : ByteArray := prog_1_method_41_code
def yX5_isWeekday : MethodName := ⟨RX5, "isWeekday", "(I)Z"⟩
abbrev cX5_isSetting : ByteArray := prog_1_method_42_code
def yX5_isSetting : MethodName := ⟨RX5, "isSetting", "(I)Z"⟩
abbrev cX5_isSlot : ByteArray := prog_1_method_43_code
def yX5_isSlot : MethodName := ⟨RX5, "isSlot", "(I)Z"⟩
abbrev cX5_weekdayOf : ByteArray := prog_1_method_44_code
def yX5_weekdayOf : MethodName := ⟨RX5, "weekdayOf", "(I)I"⟩
def RX6 : String := "LoafRoundsModel"
def TX6 : u_T := fun k => match k with
  | 0 => ("LoafRoundsModel", "refusal", "I", false)
  | 1 => ("LoafRoundsModel", "text", "[I", true)
  | 2 => ("LoafRoundsModel", "size", "I", false)
  | 3 => ("LoafRoundsModel", "now", "[I", true)
  | 4 => ("LoafRoundsModel", "trial", "[I", true)
  | 5 => ("LoafRoundsModel", "diary", "[I", true)
  | 6 => ("LoafRoundsModel", "acts", "I", false)
  | 7 => ("LoafRoundsModel", "kept", "[I", true)
  | 8 => ("LoafRoundsModel", "isKept", "[Z", true)
  | 9 => ("LoafRoundsModel", "spot", "I", false)
  | _ => ("LoafRoundsModel", "out", "I", false)
def tyX6 : Nat → FieldType := fun k => match k with
  | 0 => .int
  | 1 => .array .int
  | 2 => .int
  | 3 => .array .int
  | 4 => .array .int
  | 5 => .array .int
  | 6 => .int
  | 7 => .array .int
  | 8 => .array .boolean
  | 9 => .int
  | _ => .int
abbrev wsX60 : List Cond := u_ws RX6 TX6 11
theorem nmX6 : ∀ a, a < 11 → ∀ b, b < 11 → a ≠ b → (TX6 a).2.1 ≠ (TX6 b).2.1 := by decide +kernel
theorem tyX6_ok : ∀ k, k < 11 → parseFieldDescriptor (TX6 k).2.2.1 = some (tyX6 k) := by decide +kernel
abbrev cX6_init : ByteArray := prog_8_method_1_code
def yX6_init : MethodName := ⟨RX6, "<init>", "()V"⟩
abbrev cX6_thrown : ByteArray := prog_8_method_2_code
def yX6_thrown : MethodName := ⟨RX6, "thrown", "()I"⟩
abbrev cX6_refused : ByteArray := prog_8_method_3_code
def yX6_refused : MethodName := ⟨RX6, "refused", "(I)Z"⟩
abbrev cX6_in : ByteArray := prog_8_method_4_code
def yX6_in : MethodName := ⟨RX6, "in", "(JJJ)Z"⟩
abbrev cX6_copyState : ByteArray := prog_8_method_5_code
def yX6_copyState : MethodName := ⟨RX6, "copyState", "([II[II)V"⟩
abbrev cX6_clear : ByteArray := prog_8_method_6_code
def yX6_clear : MethodName := ⟨RX6, "clear", "([I)V"⟩
abbrev cX6_of : ByteArray := prog_8_method_7_code
def yX6_of : MethodName := ⟨RX6, "of", "([III)I"⟩
abbrev cX6_add : ByteArray := prog_8_method_8_code
def yX6_add : MethodName := ⟨RX6, "add", "([IIII)V"⟩
abbrev cX6_isCustomer : ByteArray := prog_8_method_9_code
def yX6_isCustomer : MethodName := ⟨RX6, "isCustomer", "([II)Z"⟩
abbrev cX6_isStreet : ByteArray := prog_8_method_10_code
def yX6_isStreet : MethodName := ⟨RX6, "isStreet", "(I)Z"⟩
abbrev cX6_isWeekday : ByteArray := prog_8_method_11_code
def yX6_isWeekday : MethodName := ⟨RX6, "isWeekday", "(I)Z"⟩
abbrev cX6_isSetting : ByteArray := prog_8_method_12_code
def yX6_isSetting : MethodName := ⟨RX6, "isSetting", "(II)Z"⟩
abbrev cX6_isAway : ByteArray := prog_8_method_13_code
def yX6_isAway : MethodName := ⟨RX6, "isAway", "([III)Z"⟩
abbrev cX6_dueOn : ByteArray := prog_8_method_14_code
def yX6_dueOn : MethodName := ⟨RX6, "dueOn", "([III)I"⟩
abbrev cX6_allDue : ByteArray := prog_8_method_15_code
def yX6_allDue : MethodName := ⟨RX6, "allDue", "([II)I"⟩
abbrev cX6_isOpen : ByteArray := prog_8_method_16_code
def yX6_isOpen : MethodName := ⟨RX6, "isOpen", "([III)Z"⟩
abbrev cX6_credits : ByteArray := prog_8_method_17_code
def yX6_credits : MethodName := ⟨RX6, "credits", "([I)I"⟩
abbrev cX6_baked : ByteArray := prog_8_method_18_code
def yX6_baked : MethodName := ⟨RX6, "baked", "([II)I"⟩
abbrev cX6_placeOf : ByteArray := prog_8_method_19_code
def yX6_placeOf : MethodName := ⟨RX6, "placeOf", "([II)I"⟩
abbrev cX6_inRound : ByteArray := prog_8_method_20_code
def yX6_inRound : MethodName := ⟨RX6, "inRound", "([II)I"⟩
abbrev cX6_giveDue : ByteArray := prog_8_method_21_code
def yX6_giveDue : MethodName := ⟨RX6, "giveDue", "([IIII)I"⟩
abbrev cX6_giveGood : ByteArray := prog_8_method_22_code
def yX6_giveGood : MethodName := ⟨RX6, "giveGood", "([IIII)I"⟩
abbrev cX6_payBack : ByteArray := prog_8_method_23_code
def yX6_payBack : MethodName := ⟨RX6, "payBack", "([II)V"⟩
abbrev cX6_day : ByteArray := prog_8_method_24_code
def yX6_day : MethodName := ⟨RX6, "day", "([I)V"⟩
abbrev cX6_daysOn : ByteArray := prog_8_method_25_code
def yX6_daysOn : MethodName := ⟨RX6, "daysOn", "([II)I"⟩
abbrev cX6_reason : ByteArray := prog_8_method_26_code
def yX6_reason : MethodName := ⟨RX6, "reason", "([II)I"⟩
abbrev cX6_customerOn : ByteArray := prog_8_method_27_code
def yX6_customerOn : MethodName := ⟨RX6, "customerOn", "([III)I"⟩
abbrev cX6_put : ByteArray := prog_8_method_28_code
def yX6_put : MethodName := ⟨RX6, "put", "([III)I"⟩
abbrev cX6_changeOn : ByteArray := prog_8_method_29_code
def yX6_changeOn : MethodName := ⟨RX6, "changeOn", "([IIII)I"⟩
abbrev cX6_isSpan : ByteArray := prog_8_method_30_code
def yX6_isSpan : MethodName := ⟨RX6, "isSpan", "(II)Z"⟩
abbrev cX6_holidayOn : ByteArray := prog_8_method_31_code
def yX6_holidayOn : MethodName := ⟨RX6, "holidayOn", "([IIII)I"⟩
abbrev cX6_dropOn : ByteArray := prog_8_method_32_code
def yX6_dropOn : MethodName := ⟨RX6, "dropOn", "([III)I"⟩
abbrev cX6_closeOn : ByteArray := prog_8_method_33_code
def yX6_closeOn : MethodName := ⟨RX6, "closeOn", "([IIIZ)I"⟩
abbrev cX6_swapOn : ByteArray := prog_8_method_34_code
def yX6_swapOn : MethodName := ⟨RX6, "swapOn", "([III)I"⟩
abbrev cX6_append : ByteArray := prog_8_method_35_code
def yX6_append : MethodName := ⟨RX6, "append", "(I)I"⟩
abbrev cX6_clearText : ByteArray := prog_8_method_36_code
def yX6_clearText : MethodName := ⟨RX6, "clearText", "()I"⟩
abbrev cX6_figures : ByteArray := prog_8_method_37_code
def yX6_figures : MethodName := ⟨RX6, "figures", "(IIII)I"⟩
abbrev cX6_done : ByteArray := prog_8_method_38_code
def yX6_done : MethodName := ⟨RX6, "done", "(Z)Z"⟩
abbrev cX6_customerSign : ByteArray := prog_8_method_39_code
def yX6_customerSign : MethodName := ⟨RX6, "customerSign", "()I"⟩
abbrev cX6_streetSign : ByteArray := prog_8_method_40_code
def yX6_streetSign : MethodName := ⟨RX6, "streetSign", "(I)I"⟩
abbrev cX6_readCustomer : ByteArray := prog_8_method_41_code
def yX6_readCustomer : MethodName := ⟨RX6, "readCustomer", "([I)Z"⟩
abbrev cX6_readChange : ByteArray := prog_8_method_42_code
def yX6_readChange : MethodName := ⟨RX6, "readChange", "([I)Z"⟩
abbrev cX6_readHoliday : ByteArray := prog_8_method_43_code
def yX6_readHoliday : MethodName := ⟨RX6, "readHoliday", "([I)Z"⟩
abbrev cX6_readClose : ByteArray := prog_8_method_44_code
def yX6_readClose : MethodName := ⟨RX6, "readClose", "([I)Z"⟩
abbrev cX6_readCommand : ByteArray := prog_8_method_45_code
def yX6_readCommand : MethodName := ⟨RX6, "readCommand", "([I)Z"⟩
abbrev cX6_readText : ByteArray := prog_8_method_46_code
def yX6_readText : MethodName := ⟨RX6, "readText", "([I)I"⟩
abbrev cX6_errorPosition : ByteArray := prog_8_method_47_code
def yX6_errorPosition : MethodName := ⟨RX6, "errorPosition", "()I"⟩
abbrev cX6_load : ByteArray := prog_8_method_48_code
def yX6_load : MethodName := ⟨RX6, "load", "()I"⟩
abbrev cX6_about : ByteArray := prog_8_method_49_code
def yX6_about : MethodName := ⟨RX6, "about", "(I)I"⟩
abbrev cX6_nextDue : ByteArray := prog_8_method_50_code
def yX6_nextDue : MethodName := ⟨RX6, "nextDue", "([II)I"⟩
abbrev cX6_customerOf : ByteArray := prog_8_method_51_code
def yX6_customerOf : MethodName := ⟨RX6, "customerOf", "(II)I"⟩
abbrev cX6_ordered : ByteArray := prog_8_method_52_code
def yX6_ordered : MethodName := ⟨RX6, "ordered", "(II)I"⟩
abbrev cX6_away : ByteArray := prog_8_method_53_code
def yX6_away : MethodName := ⟨RX6, "away", "(III)I"⟩
abbrev cX6_isClosed : ByteArray := prog_8_method_54_code
def yX6_isClosed : MethodName := ⟨RX6, "isClosed", "(II)I"⟩
abbrev cX6_round : ByteArray := prog_8_method_55_code
def yX6_round : MethodName := ⟨RX6, "round", "(I)I"⟩
abbrev cX6_setting : ByteArray := prog_8_method_56_code
def yX6_setting : MethodName := ⟨RX6, "setting", "(I)I"⟩
abbrev cX6_due : ByteArray := prog_8_method_57_code
def yX6_due : MethodName := ⟨RX6, "due", "(IIII)I"⟩
abbrev cX6_remember : ByteArray := prog_8_method_58_code
def yX6_remember : MethodName := ⟨RX6, "remember", "()V"⟩
abbrev cX6_customer : ByteArray := prog_8_method_59_code
def yX6_customer : MethodName := ⟨RX6, "customer", "(II)I"⟩
abbrev cX6_change : ByteArray := prog_8_method_60_code
def yX6_change : MethodName := ⟨RX6, "change", "(III)I"⟩
abbrev cX6_holiday : ByteArray := prog_8_method_61_code
def yX6_holiday : MethodName := ⟨RX6, "holiday", "(III)I"⟩
abbrev cX6_drop : ByteArray := prog_8_method_62_code
def yX6_drop : MethodName := ⟨RX6, "drop", "(II)I"⟩
abbrev cX6_close : ByteArray := prog_8_method_63_code
def yX6_close : MethodName := ⟨RX6, "close", "(IIZ)I"⟩
abbrev cX6_swap : ByteArray := prog_8_method_64_code
def yX6_swap : MethodName := ⟨RX6, "swap", "(II)I"⟩
abbrev cX6_set : ByteArray := prog_8_method_65_code
def yX6_set : MethodName := ⟨RX6, "set", "(II)I"⟩
abbrev cX6_days : ByteArray := prog_8_method_66_code
def yX6_days : MethodName := ⟨RX6, "days", "(I)I"⟩
abbrev cX6_undo : ByteArray := prog_8_method_67_code
def yX6_undo : MethodName := ⟨RX6, "undo", "()I"⟩
abbrev cX6_why : ByteArray := prog_8_method_68_code
def yX6_why : MethodName := ⟨RX6, "why", "(I)I"⟩
abbrev cX6_creditIn : ByteArray := prog_8_method_69_code
def yX6_creditIn : MethodName := ⟨RX6, "creditIn", "(II)I"⟩
abbrev cX6_clearIn : ByteArray := prog_8_method_70_code
def yX6_clearIn : MethodName := ⟨RX6, "clearIn", "(I)I"⟩
abbrev cX6_leastOven : ByteArray := prog_8_method_71_code
def yX6_leastOven : MethodName := ⟨RX6, "leastOven", "(I)I"⟩
abbrev cX6_isOrder : ByteArray := prog_8_method_72_code
def yX6_isOrder : MethodName := ⟨RX6, "isOrder", "(I)Z"⟩
abbrev cX6_bestRound : ByteArray := prog_8_method_73_code
def yX6_bestRound : MethodName := ⟨RX6, "bestRound", "(I)I"⟩
abbrev cX6_command : ByteArray := prog_8_method_74_code
def yX6_command : MethodName := ⟨RX6, "command", "(II)Z"⟩
abbrev cX6_runScript : ByteArray := prog_8_method_75_code
def yX6_runScript : MethodName := ⟨RX6, "runScript", "(IJ)I"⟩
abbrev cX6_turnCustomer : ByteArray := prog_8_method_76_code
def yX6_turnCustomer : MethodName := ⟨RX6, "turnCustomer", "([III)V"⟩
abbrev cX6_turnOf : ByteArray := prog_8_method_77_code
def yX6_turnOf : MethodName := ⟨RX6, "turnOf", "([III)V"⟩
abbrev cX6_simulate : ByteArray := prog_8_method_78_code
def yX6_simulate : MethodName := ⟨RX6, "simulate", "(JI)I"⟩
abbrev cX6_save : ByteArray := prog_8_method_79_code
def yX6_save : MethodName := ⟨RX6, "save", "(I)I"⟩
abbrev cX6_restore : ByteArray := prog_8_method_80_code
def yX6_restore : MethodName := ⟨RX6, "restore", "(I)I"⟩
def RJx29ce0 : String := "java/lang/Enum"
def TJx29ce0 : u_T := fun k => match k with
  | _ => ("", "", "", false)
def tyJx29ce0 : Nat → FieldType := fun k => match k with
  | _ => .int
abbrev wsJx29ce00 : List Cond := u_ws RJx29ce0 TJx29ce0 0
theorem nmJx29ce0 : ∀ a, a < 0 → ∀ b, b < 0 → a ≠ b → (TJx29ce0 a).2.1 ≠ (TJx29ce0 b).2.1 := by decide +kernel
theorem tyJx29ce0_ok : ∀ k, k < 0 → parseFieldDescriptor (TJx29ce0 k).2.2.1 = some (tyJx29ce0 k) := by decide +kernel
def RJ9 : String := "java/lang/Math"
def TJ9 : u_T := fun k => match k with
  | _ => ("", "", "", false)
def tyJ9 : Nat → FieldType := fun k => match k with
  | _ => .int
abbrev wsJ90 : List Cond := u_ws RJ9 TJ9 0
theorem nmJ9 : ∀ a, a < 0 → ∀ b, b < 0 → a ≠ b → (TJ9 a).2.1 ≠ (TJ9 b).2.1 := by decide +kernel
theorem tyJ9_ok : ∀ k, k < 0 → parseFieldDescriptor (TJ9 k).2.2.1 = some (tyJ9 k) := by decide +kernel
abbrev cJ9_floorMod_7cf53 : ByteArray := prog_14_method_50_code
def yJ9_floorMod_7cf53 : MethodName := ⟨RJ9, "floorMod", "(II)I"⟩
abbrev cJ9_max_7cf53 : ByteArray := prog_14_method_65_code
def yJ9_max_7cf53 : MethodName := ⟨RJ9, "max", "(II)I"⟩
abbrev cJ9_min_7cf53 : ByteArray := prog_14_method_69_code
def yJ9_min_7cf53 : MethodName := ⟨RJ9, "min", "(II)I"⟩
def RJ0 : String := "java/lang/String"
def TJ0 : u_T := fun k => match k with
  | _ => ("", "", "", false)
def tyJ0 : Nat → FieldType := fun k => match k with
  | _ => .int
abbrev wsJ00 : List Cond := u_ws RJ0 TJ0 0
theorem nmJ0 : ∀ a, a < 0 → ∀ b, b < 0 → a ≠ b → (TJ0 a).2.1 ≠ (TJ0 b).2.1 := by decide +kernel
theorem tyJ0_ok : ∀ k, k < 0 → parseFieldDescriptor (TJ0 k).2.2.1 = some (tyJ0 k) := by decide +kernel
abbrev cJ0_length_8abf5 : ByteArray := prog_16_method_54_code
def yJ0_length_8abf5 : MethodName := ⟨RJ0, "length", "()I"⟩
abbrev cJ0_isEmpty_aae02 : ByteArray := prog_16_method_55_code
def yJ0_isEmpty_aae02 : MethodName := ⟨RJ0, "isEmpty", "()Z"⟩
abbrev cJ0_charAt_5068e : ByteArray := prog_16_method_56_code
def yJ0_charAt_5068e : MethodName := ⟨RJ0, "charAt", "(I)C"⟩
abbrev cJ0_coder_7d493 : ByteArray := prog_16_method_152_code
def yJ0_coder_7d493 : MethodName := ⟨RJ0, "coder", "()B"⟩
abbrev cJ0_isLatin1_aae02 : ByteArray := prog_16_method_154_code
def yJ0_isLatin1_aae02 : MethodName := ⟨RJ0, "isLatin1", "()Z"⟩
abbrev cJ0_checkIndex_df160 : ByteArray := prog_16_method_155_code
def yJ0_checkIndex_df160 : MethodName := ⟨RJ0, "checkIndex", "(II)V"⟩
def RJ1 : String := "java/lang/StringLatin1"
def TJ1 : u_T := fun k => match k with
  | _ => ("", "", "", false)
def tyJ1 : Nat → FieldType := fun k => match k with
  | _ => .int
abbrev wsJ10 : List Cond := u_ws RJ1 TJ1 0
theorem nmJ1 : ∀ a, a < 0 → ∀ b, b < 0 → a ≠ b → (TJ1 a).2.1 ≠ (TJ1 b).2.1 := by decide +kernel
theorem tyJ1_ok : ∀ k, k < 0 → parseFieldDescriptor (TJ1 k).2.2.1 = some (tyJ1 k) := by decide +kernel
abbrev cJ1_charAt_3b067 : ByteArray := prog_17_method_2_code
def yJ1_charAt_3b067 : MethodName := ⟨RJ1, "charAt", "([BI)C"⟩
def RJ2 : String := "java/lang/StringUTF16"
def TJ2 : u_T := fun k => match k with
  | _ => ("", "", "", false)
def tyJ2 : Nat → FieldType := fun k => match k with
  | _ => .int
abbrev wsJ20 : List Cond := u_ws RJ2 TJ2 0
theorem nmJ2 : ∀ a, a < 0 → ∀ b, b < 0 → a ≠ b → (TJ2 a).2.1 ≠ (TJ2 b).2.1 := by decide +kernel
theorem tyJ2_ok : ∀ k, k < 0 → parseFieldDescriptor (TJ2 k).2.2.1 = some (tyJ2 k) := by decide +kernel
abbrev cJ2_getChar_3b067 : ByteArray := prog_18_method_5_code
def yJ2_getChar_3b067 : MethodName := ⟨RJ2, "getChar", "([BI)C"⟩
abbrev cJ2_length_9d52b : ByteArray := prog_18_method_6_code
def yJ2_length_9d52b : MethodName := ⟨RJ2, "length", "([B)I"⟩
abbrev cJ2_charAt_3b067 : ByteArray := prog_18_method_83_code
def yJ2_charAt_3b067 : MethodName := ⟨RJ2, "charAt", "([BI)C"⟩
abbrev cJ2_checkIndex_2214a : ByteArray := prog_18_method_91_code
def yJ2_checkIndex_2214a : MethodName := ⟨RJ2, "checkIndex", "(I[B)V"⟩
def RJ10 : String := "java/lang/System"
def TJ10 : u_T := fun k => match k with
  | _ => ("", "", "", false)
def tyJ10 : Nat → FieldType := fun k => match k with
  | _ => .int
abbrev wsJ100 : List Cond := u_ws RJ10 TJ10 0
theorem nmJ10 : ∀ a, a < 0 → ∀ b, b < 0 → a ≠ b → (TJ10 a).2.1 ≠ (TJ10 b).2.1 := by decide +kernel
theorem tyJ10_ok : ∀ k, k < 0 → parseFieldDescriptor (TJ10 k).2.2.1 = some (tyJ10 k) := by decide +kernel
def RJ3 : String := "jdk/internal/util/Preconditions"
def TJ3 : u_T := fun k => match k with
  | _ => ("", "", "", false)
def tyJ3 : Nat → FieldType := fun k => match k with
  | _ => .int
abbrev wsJ30 : List Cond := u_ws RJ3 TJ3 0
theorem nmJ3 : ∀ a, a < 0 → ∀ b, b < 0 → a ≠ b → (TJ3 a).2.1 ≠ (TJ3 b).2.1 := by decide +kernel
theorem tyJ3_ok : ∀ k, k < 0 → parseFieldDescriptor (TJ3 k).2.2.1 = some (tyJ3 k) := by decide +kernel
abbrev cJ3_checkIndex_8e157 : ByteArray := prog_21_method_11_code
def yJ3_checkIndex_8e157 : MethodName := ⟨RJ3, "checkIndex", "(IILjava/util/function/BiFunction;)I"⟩
def RL : String := "LoafRoundsLaw"
abbrev cL_append : ByteArray := method_3_code
def yL_append : MethodName := ⟨RL, "append", "(LLoafRounds;I[J)I"⟩
abbrev cL_load : ByteArray := method_4_code
def yL_load : MethodName := ⟨RL, "load", "(LLoafRounds;[J)I"⟩
abbrev cL_about : ByteArray := method_5_code
def yL_about : MethodName := ⟨RL, "about", "(LLoafRounds;I[J)I"⟩
abbrev cL_customerOf : ByteArray := method_6_code
def yL_customerOf : MethodName := ⟨RL, "customerOf", "(LLoafRounds;II[J)I"⟩
abbrev cL_ordered : ByteArray := method_7_code
def yL_ordered : MethodName := ⟨RL, "ordered", "(LLoafRounds;II[J)I"⟩
abbrev cL_away : ByteArray := method_8_code
def yL_away : MethodName := ⟨RL, "away", "(LLoafRounds;III[J)I"⟩
abbrev cL_isClosed : ByteArray := method_9_code
def yL_isClosed : MethodName := ⟨RL, "isClosed", "(LLoafRounds;II[J)I"⟩
abbrev cL_round : ByteArray := method_10_code
def yL_round : MethodName := ⟨RL, "round", "(LLoafRounds;I[J)I"⟩
abbrev cL_setting : ByteArray := method_11_code
def yL_setting : MethodName := ⟨RL, "setting", "(LLoafRounds;I[J)I"⟩
abbrev cL_due : ByteArray := method_12_code
def yL_due : MethodName := ⟨RL, "due", "(LLoafRounds;IIII[J)I"⟩
abbrev cL_customer : ByteArray := method_13_code
def yL_customer : MethodName := ⟨RL, "customer", "(LLoafRounds;II[J)I"⟩
abbrev cL_change : ByteArray := method_14_code
def yL_change : MethodName := ⟨RL, "change", "(LLoafRounds;III[J)I"⟩
abbrev cL_holiday : ByteArray := method_15_code
def yL_holiday : MethodName := ⟨RL, "holiday", "(LLoafRounds;III[J)I"⟩
abbrev cL_drop : ByteArray := method_16_code
def yL_drop : MethodName := ⟨RL, "drop", "(LLoafRounds;II[J)I"⟩
abbrev cL_close : ByteArray := method_17_code
def yL_close : MethodName := ⟨RL, "close", "(LLoafRounds;IIZ[J)I"⟩
abbrev cL_swap : ByteArray := method_18_code
def yL_swap : MethodName := ⟨RL, "swap", "(LLoafRounds;II[J)I"⟩
abbrev cL_set : ByteArray := method_19_code
def yL_set : MethodName := ⟨RL, "set", "(LLoafRounds;II[J)I"⟩
abbrev cL_days : ByteArray := method_20_code
def yL_days : MethodName := ⟨RL, "days", "(LLoafRounds;I[J)I"⟩
abbrev cL_undo : ByteArray := method_21_code
def yL_undo : MethodName := ⟨RL, "undo", "(LLoafRounds;[J)I"⟩
abbrev cL_why : ByteArray := method_22_code
def yL_why : MethodName := ⟨RL, "why", "(LLoafRounds;I[J)I"⟩
abbrev cL_creditIn : ByteArray := method_23_code
def yL_creditIn : MethodName := ⟨RL, "creditIn", "(LLoafRounds;II[J)I"⟩
abbrev cL_clearIn : ByteArray := method_24_code
def yL_clearIn : MethodName := ⟨RL, "clearIn", "(LLoafRounds;I[J)I"⟩
abbrev cL_leastOven : ByteArray := method_25_code
def yL_leastOven : MethodName := ⟨RL, "leastOven", "(LLoafRounds;I[J)I"⟩
abbrev cL_bestRound : ByteArray := method_26_code
def yL_bestRound : MethodName := ⟨RL, "bestRound", "(LLoafRounds;I[J)I"⟩
abbrev cL_runScript : ByteArray := method_27_code
def yL_runScript : MethodName := ⟨RL, "runScript", "(LLoafRounds;IJ[J)I"⟩
abbrev cL_simulate : ByteArray := method_28_code
def yL_simulate : MethodName := ⟨RL, "simulate", "(LLoafRounds;JI[J)I"⟩
abbrev cL_save : ByteArray := method_29_code
def yL_save : MethodName := ⟨RL, "save", "(LLoafRounds;I[J)I"⟩
abbrev cL_restore : ByteArray := method_30_code
def yL_restore : MethodName := ⟨RL, "restore", "(LLoafRounds;I[J)I"⟩
abbrev cL_law : ByteArray := code
def yL_law : MethodName := ⟨RL, "law", "([I)Z"⟩
abbrev vwCl : List vw_C := [(RX0, TX0, 11), (RX1, TX1, 11), (RX2, TX2, 3), (RX4, TX4, 2), (RX5, TX5, 6), (RX6, TX6, 11)]
end
section
theorem dX0_init_0 : decode cX0_init 0 = .ok (.aload_n 0, 1) := by decide +kernel
theorem dX0_init_1 : decode cX0_init 1 = .ok (.invokespecial 3, 3) := by decide +kernel
theorem dX0_init_4 : decode cX0_init 4 = .ok (.aload_n 0, 1) := by decide +kernel
theorem dX0_init_5 : decode cX0_init 5 = .ok (.bipush 10, 2) := by decide +kernel
theorem dX0_init_7 : decode cX0_init 7 = .ok (.anewarray 9, 3) := by decide +kernel
theorem dX0_init_10 : decode cX0_init 10 = .ok (.putfield 11, 3) := by decide +kernel
theorem dX0_init_13 : decode cX0_init 13 = .ok (.aload_n 0, 1) := by decide +kernel
theorem dX0_init_14 : decode cX0_init 14 = .ok (.bipush 28, 2) := by decide +kernel
theorem dX0_init_16 : decode cX0_init 16 = .ok (.newarray .boolean, 2) := by decide +kernel
theorem dX0_init_18 : decode cX0_init 18 = .ok (.putfield 17, 3) := by decide +kernel
theorem dX0_init_21 : decode cX0_init 21 = .ok (.aload_n 0, 1) := by decide +kernel
theorem dX0_init_22 : decode cX0_init 22 = .ok (.iconst 4, 1) := by decide +kernel
theorem dX0_init_23 : decode cX0_init 23 = .ok (.newarray .int, 2) := by decide +kernel
theorem dX0_init_25 : decode cX0_init 25 = .ok (.putfield 21, 3) := by decide +kernel
theorem dX0_init_28 : decode cX0_init 28 = .ok (.aload_n 0, 1) := by decide +kernel
theorem dX0_init_29 : decode cX0_init 29 = .ok (.iconst 5, 1) := by decide +kernel
theorem dX0_init_30 : decode cX0_init 30 = .ok (.newarray .int, 2) := by decide +kernel
theorem dX0_init_32 : decode cX0_init 32 = .ok (.putfield 25, 3) := by decide +kernel
theorem dX0_init_35 : decode cX0_init 35 = .ok (.aload_n 0, 1) := by decide +kernel
theorem dX0_init_36 : decode cX0_init 36 = .ok (.bipush 10, 2) := by decide +kernel
theorem dX0_init_38 : decode cX0_init 38 = .ok (.newarray .int, 2) := by decide +kernel
theorem dX0_init_40 : decode cX0_init 40 = .ok (.putfield 28, 3) := by decide +kernel
theorem dX0_init_43 : decode cX0_init 43 = .ok (.iconst 0, 1) := by decide +kernel
theorem dX0_init_44 : decode cX0_init 44 = .ok (.istore_n 1, 1) := by decide +kernel
theorem dX0_init_45 : decode cX0_init 45 = .ok (.iload_n 1, 1) := by decide +kernel
theorem dX0_init_46 : decode cX0_init 46 = .ok (.bipush 10, 2) := by decide +kernel
theorem dX0_init_48 : decode cX0_init 48 = .ok (.if_icmp .ge 22, 3) := by decide +kernel
theorem dX0_init_51 : decode cX0_init 51 = .ok (.aload_n 0, 1) := by decide +kernel
theorem dX0_init_52 : decode cX0_init 52 = .ok (.getfield 11, 3) := by decide +kernel
theorem dX0_init_55 : decode cX0_init 55 = .ok (.iload_n 1, 1) := by decide +kernel
theorem dX0_init_56 : decode cX0_init 56 = .ok (.new 9, 3) := by decide +kernel
theorem dX0_init_59 : decode cX0_init 59 = .ok (.dup, 1) := by decide +kernel
theorem dX0_init_60 : decode cX0_init 60 = .ok (.invokespecial 31, 3) := by decide +kernel
theorem dX0_init_63 : decode cX0_init 63 = .ok (.aastore, 1) := by decide +kernel
theorem dX0_init_64 : decode cX0_init 64 = .ok (.iinc 1 1, 3) := by decide +kernel
theorem dX0_init_67 : decode cX0_init 67 = .ok (.goto (-22), 3) := by decide +kernel
theorem dX0_init_70 : decode cX0_init 70 = .ok (.aload_n 0, 1) := by decide +kernel
theorem dX0_init_71 : decode cX0_init 71 = .ok (.invokevirtual 32, 3) := by decide +kernel
theorem dX0_init_74 : decode cX0_init 74 = .ok (.return_, 1) := by decide +kernel
theorem dX0_makeNew_0 : decode cX0_makeNew 0 = .ok (.aload_n 0, 1) := by decide +kernel
theorem dX0_makeNew_1 : decode cX0_makeNew 1 = .ok (.iconst 0, 1) := by decide +kernel
theorem dX0_makeNew_2 : decode cX0_makeNew 2 = .ok (.putfield 35, 3) := by decide +kernel
theorem dX0_makeNew_5 : decode cX0_makeNew 5 = .ok (.aload_n 0, 1) := by decide +kernel
theorem dX0_makeNew_6 : decode cX0_makeNew 6 = .ok (.iconst 0, 1) := by decide +kernel
theorem dX0_makeNew_7 : decode cX0_makeNew 7 = .ok (.putfield 39, 3) := by decide +kernel
theorem dX0_makeNew_10 : decode cX0_makeNew 10 = .ok (.aload_n 0, 1) := by decide +kernel
theorem dX0_makeNew_11 : decode cX0_makeNew 11 = .ok (.iconst 0, 1) := by decide +kernel
theorem dX0_makeNew_12 : decode cX0_makeNew 12 = .ok (.putfield 42, 3) := by decide +kernel
theorem dX0_makeNew_15 : decode cX0_makeNew 15 = .ok (.aload_n 0, 1) := by decide +kernel
theorem dX0_makeNew_16 : decode cX0_makeNew 16 = .ok (.iconst 0, 1) := by decide +kernel
theorem dX0_makeNew_17 : decode cX0_makeNew 17 = .ok (.putfield 45, 3) := by decide +kernel
theorem dX0_makeNew_20 : decode cX0_makeNew 20 = .ok (.aload_n 0, 1) := by decide +kernel
theorem dX0_makeNew_21 : decode cX0_makeNew 21 = .ok (.iconst 0, 1) := by decide +kernel
theorem dX0_makeNew_22 : decode cX0_makeNew 22 = .ok (.putfield 48, 3) := by decide +kernel
theorem dX0_makeNew_25 : decode cX0_makeNew 25 = .ok (.aload_n 0, 1) := by decide +kernel
theorem dX0_makeNew_26 : decode cX0_makeNew 26 = .ok (.iconst 0, 1) := by decide +kernel
theorem dX0_makeNew_27 : decode cX0_makeNew 27 = .ok (.putfield 51, 3) := by decide +kernel
theorem dX0_makeNew_30 : decode cX0_makeNew 30 = .ok (.iconst 0, 1) := by decide +kernel
theorem dX0_makeNew_31 : decode cX0_makeNew 31 = .ok (.istore_n 1, 1) := by decide +kernel
theorem dX0_makeNew_32 : decode cX0_makeNew 32 = .ok (.iload_n 1, 1) := by decide +kernel
theorem dX0_makeNew_33 : decode cX0_makeNew 33 = .ok (.bipush 28, 2) := by decide +kernel
theorem dX0_makeNew_35 : decode cX0_makeNew 35 = .ok (.if_icmp .ge 16, 3) := by decide +kernel
theorem dX0_makeNew_38 : decode cX0_makeNew 38 = .ok (.aload_n 0, 1) := by decide +kernel
theorem dX0_makeNew_39 : decode cX0_makeNew 39 = .ok (.getfield 17, 3) := by decide +kernel
theorem dX0_makeNew_42 : decode cX0_makeNew 42 = .ok (.iload_n 1, 1) := by decide +kernel
theorem dX0_makeNew_43 : decode cX0_makeNew 43 = .ok (.iconst 0, 1) := by decide +kernel
theorem dX0_makeNew_44 : decode cX0_makeNew 44 = .ok (.bastore, 1) := by decide +kernel
theorem dX0_makeNew_45 : decode cX0_makeNew 45 = .ok (.iinc 1 1, 3) := by decide +kernel
theorem dX0_makeNew_48 : decode cX0_makeNew 48 = .ok (.goto (-16), 3) := by decide +kernel
theorem dX0_makeNew_51 : decode cX0_makeNew 51 = .ok (.iconst 0, 1) := by decide +kernel
theorem dX0_makeNew_52 : decode cX0_makeNew 52 = .ok (.istore_n 1, 1) := by decide +kernel
theorem dX0_makeNew_53 : decode cX0_makeNew 53 = .ok (.iload_n 1, 1) := by decide +kernel
theorem dX0_makeNew_54 : decode cX0_makeNew 54 = .ok (.iconst 4, 1) := by decide +kernel
theorem dX0_makeNew_55 : decode cX0_makeNew 55 = .ok (.if_icmp .ge 16, 3) := by decide +kernel
theorem dX0_makeNew_58 : decode cX0_makeNew 58 = .ok (.aload_n 0, 1) := by decide +kernel
theorem dX0_makeNew_59 : decode cX0_makeNew 59 = .ok (.getfield 21, 3) := by decide +kernel
theorem dX0_makeNew_62 : decode cX0_makeNew 62 = .ok (.iload_n 1, 1) := by decide +kernel
theorem dX0_makeNew_63 : decode cX0_makeNew 63 = .ok (.iload_n 1, 1) := by decide +kernel
theorem dX0_makeNew_64 : decode cX0_makeNew 64 = .ok (.iastore, 1) := by decide +kernel
theorem dX0_makeNew_65 : decode cX0_makeNew 65 = .ok (.iinc 1 1, 3) := by decide +kernel
theorem dX0_makeNew_68 : decode cX0_makeNew 68 = .ok (.goto (-15), 3) := by decide +kernel
theorem dX0_makeNew_71 : decode cX0_makeNew 71 = .ok (.getstatic 54, 3) := by decide +kernel
theorem dX0_makeNew_74 : decode cX0_makeNew 74 = .ok (.iconst 0, 1) := by decide +kernel
theorem dX0_makeNew_75 : decode cX0_makeNew 75 = .ok (.aload_n 0, 1) := by decide +kernel
theorem dX0_makeNew_76 : decode cX0_makeNew 76 = .ok (.getfield 25, 3) := by decide +kernel
theorem dX0_makeNew_79 : decode cX0_makeNew 79 = .ok (.iconst 0, 1) := by decide +kernel
theorem dX0_makeNew_80 : decode cX0_makeNew 80 = .ok (.iconst 5, 1) := by decide +kernel
theorem dX0_makeNew_81 : decode cX0_makeNew 81 = .ok (.invokestatic 57, 3) := by decide +kernel
theorem dX0_makeNew_84 : decode cX0_makeNew 84 = .ok (.return_, 1) := by decide +kernel
theorem dX0_copyFrom_0 : decode cX0_copyFrom 0 = .ok (.aload_n 0, 1) := by decide +kernel
theorem dX0_copyFrom_1 : decode cX0_copyFrom 1 = .ok (.aload_n 1, 1) := by decide +kernel
theorem dX0_copyFrom_2 : decode cX0_copyFrom 2 = .ok (.getfield 35, 3) := by decide +kernel
theorem dX0_copyFrom_5 : decode cX0_copyFrom 5 = .ok (.putfield 35, 3) := by decide +kernel
theorem dX0_copyFrom_8 : decode cX0_copyFrom 8 = .ok (.aload_n 0, 1) := by decide +kernel
theorem dX0_copyFrom_9 : decode cX0_copyFrom 9 = .ok (.aload_n 1, 1) := by decide +kernel
theorem dX0_copyFrom_10 : decode cX0_copyFrom 10 = .ok (.getfield 39, 3) := by decide +kernel
theorem dX0_copyFrom_13 : decode cX0_copyFrom 13 = .ok (.putfield 39, 3) := by decide +kernel
theorem dX0_copyFrom_16 : decode cX0_copyFrom 16 = .ok (.aload_n 0, 1) := by decide +kernel
theorem dX0_copyFrom_17 : decode cX0_copyFrom 17 = .ok (.aload_n 1, 1) := by decide +kernel
theorem dX0_copyFrom_18 : decode cX0_copyFrom 18 = .ok (.getfield 42, 3) := by decide +kernel
theorem dX0_copyFrom_21 : decode cX0_copyFrom 21 = .ok (.putfield 42, 3) := by decide +kernel
theorem dX0_copyFrom_24 : decode cX0_copyFrom 24 = .ok (.aload_n 0, 1) := by decide +kernel
theorem dX0_copyFrom_25 : decode cX0_copyFrom 25 = .ok (.aload_n 1, 1) := by decide +kernel
theorem dX0_copyFrom_26 : decode cX0_copyFrom 26 = .ok (.getfield 45, 3) := by decide +kernel
theorem dX0_copyFrom_29 : decode cX0_copyFrom 29 = .ok (.putfield 45, 3) := by decide +kernel
theorem dX0_copyFrom_32 : decode cX0_copyFrom 32 = .ok (.aload_n 0, 1) := by decide +kernel
theorem dX0_copyFrom_33 : decode cX0_copyFrom 33 = .ok (.aload_n 1, 1) := by decide +kernel
theorem dX0_copyFrom_34 : decode cX0_copyFrom 34 = .ok (.getfield 48, 3) := by decide +kernel
theorem dX0_copyFrom_37 : decode cX0_copyFrom 37 = .ok (.putfield 48, 3) := by decide +kernel
theorem dX0_copyFrom_40 : decode cX0_copyFrom 40 = .ok (.aload_n 0, 1) := by decide +kernel
theorem dX0_copyFrom_41 : decode cX0_copyFrom 41 = .ok (.aload_n 1, 1) := by decide +kernel
theorem dX0_copyFrom_42 : decode cX0_copyFrom 42 = .ok (.getfield 51, 3) := by decide +kernel
theorem dX0_copyFrom_45 : decode cX0_copyFrom 45 = .ok (.putfield 51, 3) := by decide +kernel
theorem dX0_copyFrom_48 : decode cX0_copyFrom 48 = .ok (.iconst 0, 1) := by decide +kernel
theorem dX0_copyFrom_49 : decode cX0_copyFrom 49 = .ok (.istore_n 2, 1) := by decide +kernel
theorem dX0_copyFrom_50 : decode cX0_copyFrom 50 = .ok (.iload_n 2, 1) := by decide +kernel
theorem dX0_copyFrom_51 : decode cX0_copyFrom 51 = .ok (.aload_n 0, 1) := by decide +kernel
theorem dX0_copyFrom_52 : decode cX0_copyFrom 52 = .ok (.getfield 35, 3) := by decide +kernel
theorem dX0_copyFrom_55 : decode cX0_copyFrom 55 = .ok (.if_icmp .ge 24, 3) := by decide +kernel
theorem dX0_copyFrom_58 : decode cX0_copyFrom 58 = .ok (.aload_n 0, 1) := by decide +kernel
theorem dX0_copyFrom_59 : decode cX0_copyFrom 59 = .ok (.getfield 11, 3) := by decide +kernel
theorem dX0_copyFrom_62 : decode cX0_copyFrom 62 = .ok (.iload_n 2, 1) := by decide +kernel
theorem dX0_copyFrom_63 : decode cX0_copyFrom 63 = .ok (.aaload, 1) := by decide +kernel
theorem dX0_copyFrom_64 : decode cX0_copyFrom 64 = .ok (.aload_n 1, 1) := by decide +kernel
theorem dX0_copyFrom_65 : decode cX0_copyFrom 65 = .ok (.getfield 11, 3) := by decide +kernel
theorem dX0_copyFrom_68 : decode cX0_copyFrom 68 = .ok (.iload_n 2, 1) := by decide +kernel
theorem dX0_copyFrom_69 : decode cX0_copyFrom 69 = .ok (.aaload, 1) := by decide +kernel
theorem dX0_copyFrom_70 : decode cX0_copyFrom 70 = .ok (.invokevirtual 63, 3) := by decide +kernel
theorem dX0_copyFrom_73 : decode cX0_copyFrom 73 = .ok (.iinc 2 1, 3) := by decide +kernel
theorem dX0_copyFrom_76 : decode cX0_copyFrom 76 = .ok (.goto (-26), 3) := by decide +kernel
theorem dX0_copyFrom_79 : decode cX0_copyFrom 79 = .ok (.aload_n 1, 1) := by decide +kernel
theorem dX0_copyFrom_80 : decode cX0_copyFrom 80 = .ok (.getfield 17, 3) := by decide +kernel
theorem dX0_copyFrom_83 : decode cX0_copyFrom 83 = .ok (.iconst 0, 1) := by decide +kernel
theorem dX0_copyFrom_84 : decode cX0_copyFrom 84 = .ok (.aload_n 0, 1) := by decide +kernel
theorem dX0_copyFrom_85 : decode cX0_copyFrom 85 = .ok (.getfield 17, 3) := by decide +kernel
theorem dX0_copyFrom_88 : decode cX0_copyFrom 88 = .ok (.iconst 0, 1) := by decide +kernel
theorem dX0_copyFrom_89 : decode cX0_copyFrom 89 = .ok (.bipush 28, 2) := by decide +kernel
theorem dX0_copyFrom_91 : decode cX0_copyFrom 91 = .ok (.invokestatic 57, 3) := by decide +kernel
theorem dX0_copyFrom_94 : decode cX0_copyFrom 94 = .ok (.aload_n 1, 1) := by decide +kernel
theorem dX0_copyFrom_95 : decode cX0_copyFrom 95 = .ok (.getfield 21, 3) := by decide +kernel
theorem dX0_copyFrom_98 : decode cX0_copyFrom 98 = .ok (.iconst 0, 1) := by decide +kernel
theorem dX0_copyFrom_99 : decode cX0_copyFrom 99 = .ok (.aload_n 0, 1) := by decide +kernel
theorem dX0_copyFrom_100 : decode cX0_copyFrom 100 = .ok (.getfield 21, 3) := by decide +kernel
theorem dX0_copyFrom_103 : decode cX0_copyFrom 103 = .ok (.iconst 0, 1) := by decide +kernel
theorem dX0_copyFrom_104 : decode cX0_copyFrom 104 = .ok (.iconst 4, 1) := by decide +kernel
theorem dX0_copyFrom_105 : decode cX0_copyFrom 105 = .ok (.invokestatic 57, 3) := by decide +kernel
theorem dX0_copyFrom_108 : decode cX0_copyFrom 108 = .ok (.aload_n 1, 1) := by decide +kernel
theorem dX0_copyFrom_109 : decode cX0_copyFrom 109 = .ok (.getfield 25, 3) := by decide +kernel
theorem dX0_copyFrom_112 : decode cX0_copyFrom 112 = .ok (.iconst 0, 1) := by decide +kernel
theorem dX0_copyFrom_113 : decode cX0_copyFrom 113 = .ok (.aload_n 0, 1) := by decide +kernel
theorem dX0_copyFrom_114 : decode cX0_copyFrom 114 = .ok (.getfield 25, 3) := by decide +kernel
theorem dX0_copyFrom_117 : decode cX0_copyFrom 117 = .ok (.iconst 0, 1) := by decide +kernel
theorem dX0_copyFrom_118 : decode cX0_copyFrom 118 = .ok (.iconst 5, 1) := by decide +kernel
theorem dX0_copyFrom_119 : decode cX0_copyFrom 119 = .ok (.invokestatic 57, 3) := by decide +kernel
theorem dX0_copyFrom_122 : decode cX0_copyFrom 122 = .ok (.return_, 1) := by decide +kernel
theorem dX0_numberOf_0 : decode cX0_numberOf 0 = .ok (.iload_n 1, 1) := by decide +kernel
theorem dX0_numberOf_1 : decode cX0_numberOf 1 = .ok (.tableswitch 131 0 11 #[63, 68, 73, 78, 84, 90, 95, 101, 107, 112, 117, 124], 63) := by decide +kernel
theorem dX0_numberOf_64 : decode cX0_numberOf 64 = .ok (.aload_n 0, 1) := by decide +kernel
theorem dX0_numberOf_65 : decode cX0_numberOf 65 = .ok (.getfield 35, 3) := by decide +kernel
theorem dX0_numberOf_68 : decode cX0_numberOf 68 = .ok (.ireturn, 1) := by decide +kernel
theorem dX0_numberOf_69 : decode cX0_numberOf 69 = .ok (.aload_n 0, 1) := by decide +kernel
theorem dX0_numberOf_70 : decode cX0_numberOf 70 = .ok (.getfield 39, 3) := by decide +kernel
theorem dX0_numberOf_73 : decode cX0_numberOf 73 = .ok (.ireturn, 1) := by decide +kernel
theorem dX0_numberOf_74 : decode cX0_numberOf 74 = .ok (.aload_n 0, 1) := by decide +kernel
theorem dX0_numberOf_75 : decode cX0_numberOf 75 = .ok (.getfield 42, 3) := by decide +kernel
theorem dX0_numberOf_78 : decode cX0_numberOf 78 = .ok (.ireturn, 1) := by decide +kernel
theorem dX0_numberOf_79 : decode cX0_numberOf 79 = .ok (.aload_n 0, 1) := by decide +kernel
theorem dX0_numberOf_80 : decode cX0_numberOf 80 = .ok (.iconst 3, 1) := by decide +kernel
theorem dX0_numberOf_81 : decode cX0_numberOf 81 = .ok (.invokevirtual 67, 3) := by decide +kernel
theorem dX0_numberOf_84 : decode cX0_numberOf 84 = .ok (.ireturn, 1) := by decide +kernel
theorem dX0_numberOf_85 : decode cX0_numberOf 85 = .ok (.aload_n 0, 1) := by decide +kernel
theorem dX0_numberOf_86 : decode cX0_numberOf 86 = .ok (.iconst 4, 1) := by decide +kernel
theorem dX0_numberOf_87 : decode cX0_numberOf 87 = .ok (.invokevirtual 67, 3) := by decide +kernel
theorem dX0_numberOf_90 : decode cX0_numberOf 90 = .ok (.ireturn, 1) := by decide +kernel
theorem dX0_numberOf_91 : decode cX0_numberOf 91 = .ok (.aload_n 0, 1) := by decide +kernel
theorem dX0_numberOf_92 : decode cX0_numberOf 92 = .ok (.getfield 45, 3) := by decide +kernel
theorem dX0_numberOf_95 : decode cX0_numberOf 95 = .ok (.ireturn, 1) := by decide +kernel
theorem dX0_numberOf_96 : decode cX0_numberOf 96 = .ok (.aload_n 0, 1) := by decide +kernel
theorem dX0_numberOf_97 : decode cX0_numberOf 97 = .ok (.iconst 2, 1) := by decide +kernel
theorem dX0_numberOf_98 : decode cX0_numberOf 98 = .ok (.invokevirtual 67, 3) := by decide +kernel
theorem dX0_numberOf_101 : decode cX0_numberOf 101 = .ok (.ireturn, 1) := by decide +kernel
theorem dX0_numberOf_102 : decode cX0_numberOf 102 = .ok (.aload_n 0, 1) := by decide +kernel
theorem dX0_numberOf_103 : decode cX0_numberOf 103 = .ok (.iconst 5, 1) := by decide +kernel
theorem dX0_numberOf_104 : decode cX0_numberOf 104 = .ok (.invokevirtual 67, 3) := by decide +kernel
theorem dX0_numberOf_107 : decode cX0_numberOf 107 = .ok (.ireturn, 1) := by decide +kernel
theorem dX0_numberOf_108 : decode cX0_numberOf 108 = .ok (.aload_n 0, 1) := by decide +kernel
theorem dX0_numberOf_109 : decode cX0_numberOf 109 = .ok (.getfield 48, 3) := by decide +kernel
theorem dX0_numberOf_112 : decode cX0_numberOf 112 = .ok (.ireturn, 1) := by decide +kernel
theorem dX0_numberOf_113 : decode cX0_numberOf 113 = .ok (.aload_n 0, 1) := by decide +kernel
theorem dX0_numberOf_114 : decode cX0_numberOf 114 = .ok (.getfield 51, 3) := by decide +kernel
theorem dX0_numberOf_117 : decode cX0_numberOf 117 = .ok (.ireturn, 1) := by decide +kernel
theorem dX0_numberOf_118 : decode cX0_numberOf 118 = .ok (.aload_n 0, 1) := by decide +kernel
theorem dX0_numberOf_119 : decode cX0_numberOf 119 = .ok (.bipush 6, 2) := by decide +kernel
theorem dX0_numberOf_121 : decode cX0_numberOf 121 = .ok (.invokevirtual 67, 3) := by decide +kernel
theorem dX0_numberOf_124 : decode cX0_numberOf 124 = .ok (.ireturn, 1) := by decide +kernel
theorem dX0_numberOf_125 : decode cX0_numberOf 125 = .ok (.aload_n 0, 1) := by decide +kernel
theorem dX0_numberOf_126 : decode cX0_numberOf 126 = .ok (.bipush 7, 2) := by decide +kernel
theorem dX0_numberOf_128 : decode cX0_numberOf 128 = .ok (.invokevirtual 67, 3) := by decide +kernel
theorem dX0_numberOf_131 : decode cX0_numberOf 131 = .ok (.ireturn, 1) := by decide +kernel
theorem dX0_numberOf_132 : decode cX0_numberOf 132 = .ok (.aload_n 0, 1) := by decide +kernel
theorem dX0_numberOf_133 : decode cX0_numberOf 133 = .ok (.invokevirtual 71, 3) := by decide +kernel
theorem dX0_numberOf_136 : decode cX0_numberOf 136 = .ok (.ireturn, 1) := by decide +kernel
theorem dX0_sumOf_0 : decode cX0_sumOf 0 = .ok (.iconst 0, 1) := by decide +kernel
theorem dX0_sumOf_1 : decode cX0_sumOf 1 = .ok (.istore_n 2, 1) := by decide +kernel
theorem dX0_sumOf_2 : decode cX0_sumOf 2 = .ok (.iconst 0, 1) := by decide +kernel
theorem dX0_sumOf_3 : decode cX0_sumOf 3 = .ok (.istore_n 3, 1) := by decide +kernel
theorem dX0_sumOf_4 : decode cX0_sumOf 4 = .ok (.iload_n 3, 1) := by decide +kernel
theorem dX0_sumOf_5 : decode cX0_sumOf 5 = .ok (.aload_n 0, 1) := by decide +kernel
theorem dX0_sumOf_6 : decode cX0_sumOf 6 = .ok (.getfield 35, 3) := by decide +kernel
theorem dX0_sumOf_9 : decode cX0_sumOf 9 = .ok (.if_icmp .ge 22, 3) := by decide +kernel
theorem dX0_sumOf_12 : decode cX0_sumOf 12 = .ok (.iload_n 2, 1) := by decide +kernel
theorem dX0_sumOf_13 : decode cX0_sumOf 13 = .ok (.aload_n 0, 1) := by decide +kernel
theorem dX0_sumOf_14 : decode cX0_sumOf 14 = .ok (.getfield 11, 3) := by decide +kernel
theorem dX0_sumOf_17 : decode cX0_sumOf 17 = .ok (.iload_n 3, 1) := by decide +kernel
theorem dX0_sumOf_18 : decode cX0_sumOf 18 = .ok (.aaload, 1) := by decide +kernel
theorem dX0_sumOf_19 : decode cX0_sumOf 19 = .ok (.iload_n 1, 1) := by decide +kernel
theorem dX0_sumOf_20 : decode cX0_sumOf 20 = .ok (.invokevirtual 75, 3) := by decide +kernel
theorem dX0_sumOf_23 : decode cX0_sumOf 23 = .ok (.iadd, 1) := by decide +kernel
theorem dX0_sumOf_24 : decode cX0_sumOf 24 = .ok (.istore_n 2, 1) := by decide +kernel
theorem dX0_sumOf_25 : decode cX0_sumOf 25 = .ok (.iinc 3 1, 3) := by decide +kernel
theorem dX0_sumOf_28 : decode cX0_sumOf 28 = .ok (.goto (-24), 3) := by decide +kernel
theorem dX0_sumOf_31 : decode cX0_sumOf 31 = .ok (.iload_n 2, 1) := by decide +kernel
theorem dX0_sumOf_32 : decode cX0_sumOf 32 = .ok (.ireturn, 1) := by decide +kernel
theorem dX0_loavesGot_0 : decode cX0_loavesGot 0 = .ok (.aload_n 0, 1) := by decide +kernel
theorem dX0_loavesGot_1 : decode cX0_loavesGot 1 = .ok (.iconst 3, 1) := by decide +kernel
theorem dX0_loavesGot_2 : decode cX0_loavesGot 2 = .ok (.invokevirtual 67, 3) := by decide +kernel
theorem dX0_loavesGot_5 : decode cX0_loavesGot 5 = .ok (.aload_n 0, 1) := by decide +kernel
theorem dX0_loavesGot_6 : decode cX0_loavesGot 6 = .ok (.iconst 4, 1) := by decide +kernel
theorem dX0_loavesGot_7 : decode cX0_loavesGot 7 = .ok (.invokevirtual 67, 3) := by decide +kernel
theorem dX0_loavesGot_10 : decode cX0_loavesGot 10 = .ok (.iadd, 1) := by decide +kernel
theorem dX0_loavesGot_11 : decode cX0_loavesGot 11 = .ok (.ireturn, 1) := by decide +kernel
theorem dX0_dueToAll_0 : decode cX0_dueToAll 0 = .ok (.iconst 0, 1) := by decide +kernel
theorem dX0_dueToAll_1 : decode cX0_dueToAll 1 = .ok (.istore_n 1, 1) := by decide +kernel
theorem dX0_dueToAll_2 : decode cX0_dueToAll 2 = .ok (.iconst 0, 1) := by decide +kernel
theorem dX0_dueToAll_3 : decode cX0_dueToAll 3 = .ok (.istore_n 2, 1) := by decide +kernel
theorem dX0_dueToAll_4 : decode cX0_dueToAll 4 = .ok (.iload_n 2, 1) := by decide +kernel
theorem dX0_dueToAll_5 : decode cX0_dueToAll 5 = .ok (.aload_n 0, 1) := by decide +kernel
theorem dX0_dueToAll_6 : decode cX0_dueToAll 6 = .ok (.getfield 35, 3) := by decide +kernel
theorem dX0_dueToAll_9 : decode cX0_dueToAll 9 = .ok (.if_icmp .ge 25, 3) := by decide +kernel
theorem dX0_dueToAll_12 : decode cX0_dueToAll 12 = .ok (.iload_n 1, 1) := by decide +kernel
theorem dX0_dueToAll_13 : decode cX0_dueToAll 13 = .ok (.aload_n 0, 1) := by decide +kernel
theorem dX0_dueToAll_14 : decode cX0_dueToAll 14 = .ok (.getfield 11, 3) := by decide +kernel
theorem dX0_dueToAll_17 : decode cX0_dueToAll 17 = .ok (.iload_n 2, 1) := by decide +kernel
theorem dX0_dueToAll_18 : decode cX0_dueToAll 18 = .ok (.aaload, 1) := by decide +kernel
theorem dX0_dueToAll_19 : decode cX0_dueToAll 19 = .ok (.aload_n 0, 1) := by decide +kernel
theorem dX0_dueToAll_20 : decode cX0_dueToAll 20 = .ok (.getfield 39, 3) := by decide +kernel
theorem dX0_dueToAll_23 : decode cX0_dueToAll 23 = .ok (.invokevirtual 78, 3) := by decide +kernel
theorem dX0_dueToAll_26 : decode cX0_dueToAll 26 = .ok (.iadd, 1) := by decide +kernel
theorem dX0_dueToAll_27 : decode cX0_dueToAll 27 = .ok (.istore_n 1, 1) := by decide +kernel
theorem dX0_dueToAll_28 : decode cX0_dueToAll 28 = .ok (.iinc 2 1, 3) := by decide +kernel
theorem dX0_dueToAll_31 : decode cX0_dueToAll 31 = .ok (.goto (-27), 3) := by decide +kernel
theorem dX0_dueToAll_34 : decode cX0_dueToAll 34 = .ok (.iload_n 1, 1) := by decide +kernel
theorem dX0_dueToAll_35 : decode cX0_dueToAll 35 = .ok (.ireturn, 1) := by decide +kernel
theorem dX0_dueInOpenStreets_0 : decode cX0_dueInOpenStreets 0 = .ok (.iconst 0, 1) := by decide +kernel
theorem dX0_dueInOpenStreets_1 : decode cX0_dueInOpenStreets 1 = .ok (.istore_n 2, 1) := by decide +kernel
theorem dX0_dueInOpenStreets_2 : decode cX0_dueInOpenStreets 2 = .ok (.iconst 0, 1) := by decide +kernel
theorem dX0_dueInOpenStreets_3 : decode cX0_dueInOpenStreets 3 = .ok (.istore_n 3, 1) := by decide +kernel
theorem dX0_dueInOpenStreets_4 : decode cX0_dueInOpenStreets 4 = .ok (.iload_n 3, 1) := by decide +kernel
theorem dX0_dueInOpenStreets_5 : decode cX0_dueInOpenStreets 5 = .ok (.aload_n 0, 1) := by decide +kernel
theorem dX0_dueInOpenStreets_6 : decode cX0_dueInOpenStreets 6 = .ok (.getfield 35, 3) := by decide +kernel
theorem dX0_dueInOpenStreets_9 : decode cX0_dueInOpenStreets 9 = .ok (.if_icmp .ge 42, 3) := by decide +kernel
theorem dX0_dueInOpenStreets_12 : decode cX0_dueInOpenStreets 12 = .ok (.aload_n 0, 1) := by decide +kernel
theorem dX0_dueInOpenStreets_13 : decode cX0_dueInOpenStreets 13 = .ok (.aload_n 0, 1) := by decide +kernel
theorem dX0_dueInOpenStreets_14 : decode cX0_dueInOpenStreets 14 = .ok (.getfield 11, 3) := by decide +kernel
theorem dX0_dueInOpenStreets_17 : decode cX0_dueInOpenStreets 17 = .ok (.iload_n 3, 1) := by decide +kernel
theorem dX0_dueInOpenStreets_18 : decode cX0_dueInOpenStreets 18 = .ok (.aaload, 1) := by decide +kernel
theorem dX0_dueInOpenStreets_19 : decode cX0_dueInOpenStreets 19 = .ok (.getfield 81, 3) := by decide +kernel
theorem dX0_dueInOpenStreets_22 : decode cX0_dueInOpenStreets 22 = .ok (.iload_n 1, 1) := by decide +kernel
theorem dX0_dueInOpenStreets_23 : decode cX0_dueInOpenStreets 23 = .ok (.invokestatic 84, 3) := by decide +kernel
theorem dX0_dueInOpenStreets_26 : decode cX0_dueInOpenStreets 26 = .ok (.invokevirtual 87, 3) := by decide +kernel
theorem dX0_dueInOpenStreets_29 : decode cX0_dueInOpenStreets 29 = .ok (.ifCond .ne 16, 3) := by decide +kernel
theorem dX0_dueInOpenStreets_32 : decode cX0_dueInOpenStreets 32 = .ok (.iload_n 2, 1) := by decide +kernel
theorem dX0_dueInOpenStreets_33 : decode cX0_dueInOpenStreets 33 = .ok (.aload_n 0, 1) := by decide +kernel
theorem dX0_dueInOpenStreets_34 : decode cX0_dueInOpenStreets 34 = .ok (.getfield 11, 3) := by decide +kernel
theorem dX0_dueInOpenStreets_37 : decode cX0_dueInOpenStreets 37 = .ok (.iload_n 3, 1) := by decide +kernel
theorem dX0_dueInOpenStreets_38 : decode cX0_dueInOpenStreets 38 = .ok (.aaload, 1) := by decide +kernel
theorem dX0_dueInOpenStreets_39 : decode cX0_dueInOpenStreets 39 = .ok (.iload_n 1, 1) := by decide +kernel
theorem dX0_dueInOpenStreets_40 : decode cX0_dueInOpenStreets 40 = .ok (.invokevirtual 78, 3) := by decide +kernel
theorem dX0_dueInOpenStreets_43 : decode cX0_dueInOpenStreets 43 = .ok (.iadd, 1) := by decide +kernel
theorem dX0_dueInOpenStreets_44 : decode cX0_dueInOpenStreets 44 = .ok (.istore_n 2, 1) := by decide +kernel
theorem dX0_dueInOpenStreets_45 : decode cX0_dueInOpenStreets 45 = .ok (.iinc 3 1, 3) := by decide +kernel
theorem dX0_dueInOpenStreets_48 : decode cX0_dueInOpenStreets 48 = .ok (.goto (-44), 3) := by decide +kernel
theorem dX0_dueInOpenStreets_51 : decode cX0_dueInOpenStreets 51 = .ok (.iload_n 2, 1) := by decide +kernel
theorem dX0_dueInOpenStreets_52 : decode cX0_dueInOpenStreets 52 = .ok (.ireturn, 1) := by decide +kernel
theorem dX0_hasCustomer_0 : decode cX0_hasCustomer 0 = .ok (.iload_n 1, 1) := by decide +kernel
theorem dX0_hasCustomer_1 : decode cX0_hasCustomer 1 = .ok (.iconst 0, 1) := by decide +kernel
theorem dX0_hasCustomer_2 : decode cX0_hasCustomer 2 = .ok (.aload_n 0, 1) := by decide +kernel
theorem dX0_hasCustomer_3 : decode cX0_hasCustomer 3 = .ok (.getfield 35, 3) := by decide +kernel
theorem dX0_hasCustomer_6 : decode cX0_hasCustomer 6 = .ok (.iconst 1, 1) := by decide +kernel
theorem dX0_hasCustomer_7 : decode cX0_hasCustomer 7 = .ok (.isub, 1) := by decide +kernel
theorem dX0_hasCustomer_8 : decode cX0_hasCustomer 8 = .ok (.invokestatic 91, 3) := by decide +kernel
theorem dX0_hasCustomer_11 : decode cX0_hasCustomer 11 = .ok (.ireturn, 1) := by decide +kernel
theorem dX0_isShut_0 : decode cX0_isShut 0 = .ok (.aload_n 0, 1) := by decide +kernel
theorem dX0_isShut_1 : decode cX0_isShut 1 = .ok (.getfield 17, 3) := by decide +kernel
theorem dX0_isShut_4 : decode cX0_isShut 4 = .ok (.iload_n 1, 1) := by decide +kernel
theorem dX0_isShut_5 : decode cX0_isShut 5 = .ok (.bipush 7, 2) := by decide +kernel
theorem dX0_isShut_7 : decode cX0_isShut 7 = .ok (.imul, 1) := by decide +kernel
theorem dX0_isShut_8 : decode cX0_isShut 8 = .ok (.iload_n 2, 1) := by decide +kernel
theorem dX0_isShut_9 : decode cX0_isShut 9 = .ok (.iadd, 1) := by decide +kernel
theorem dX0_isShut_10 : decode cX0_isShut 10 = .ok (.baload, 1) := by decide +kernel
theorem dX0_isShut_11 : decode cX0_isShut 11 = .ok (.ireturn, 1) := by decide +kernel
theorem dX0_refusalOf_0 : decode cX0_refusalOf 0 = .ok (.iload_n 1, 1) := by decide +kernel
theorem dX0_refusalOf_1 : decode cX0_refusalOf 1 = .ok (.tableswitch 291 0 6 #[43, 72, 105, 168, 206, 231, 256], 43) := by decide +kernel
theorem dX0_refusalOf_44 : decode cX0_refusalOf 44 = .ok (.iload_n 2, 1) := by decide +kernel
theorem dX0_refusalOf_45 : decode cX0_refusalOf 45 = .ok (.invokestatic 95, 3) := by decide +kernel
theorem dX0_refusalOf_48 : decode cX0_refusalOf 48 = .ok (.iload_n 3, 1) := by decide +kernel
theorem dX0_refusalOf_49 : decode cX0_refusalOf 49 = .ok (.iconst 0, 1) := by decide +kernel
theorem dX0_refusalOf_50 : decode cX0_refusalOf 50 = .ok (.ldc 99, 2) := by decide +kernel
theorem dX0_refusalOf_52 : decode cX0_refusalOf 52 = .ok (.invokestatic 91, 3) := by decide +kernel
theorem dX0_refusalOf_55 : decode cX0_refusalOf 55 = .ok (.aload_n 0, 1) := by decide +kernel
theorem dX0_refusalOf_56 : decode cX0_refusalOf 56 = .ok (.getfield 35, 3) := by decide +kernel
theorem dX0_refusalOf_59 : decode cX0_refusalOf 59 = .ok (.bipush 10, 2) := by decide +kernel
theorem dX0_refusalOf_61 : decode cX0_refusalOf 61 = .ok (.if_icmp .ge 7, 3) := by decide +kernel
theorem dX0_refusalOf_64 : decode cX0_refusalOf 64 = .ok (.iconst 1, 1) := by decide +kernel
theorem dX0_refusalOf_65 : decode cX0_refusalOf 65 = .ok (.goto 4, 3) := by decide +kernel
theorem dX0_refusalOf_68 : decode cX0_refusalOf 68 = .ok (.iconst 0, 1) := by decide +kernel
theorem dX0_refusalOf_69 : decode cX0_refusalOf 69 = .ok (.invokestatic 100, 3) := by decide +kernel
theorem dX0_refusalOf_72 : decode cX0_refusalOf 72 = .ok (.areturn, 1) := by decide +kernel
theorem dX0_refusalOf_73 : decode cX0_refusalOf 73 = .ok (.aload_n 0, 1) := by decide +kernel
theorem dX0_refusalOf_74 : decode cX0_refusalOf 74 = .ok (.iload_n 2, 1) := by decide +kernel
theorem dX0_refusalOf_75 : decode cX0_refusalOf 75 = .ok (.invokevirtual 104, 3) := by decide +kernel
theorem dX0_refusalOf_78 : decode cX0_refusalOf 78 = .ok (.ifCond .eq 14, 3) := by decide +kernel
theorem dX0_refusalOf_81 : decode cX0_refusalOf 81 = .ok (.iload_n 3, 1) := by decide +kernel
theorem dX0_refusalOf_82 : decode cX0_refusalOf 82 = .ok (.invokestatic 107, 3) := by decide +kernel
theorem dX0_refusalOf_85 : decode cX0_refusalOf 85 = .ok (.ifCond .eq 7, 3) := by decide +kernel
theorem dX0_refusalOf_88 : decode cX0_refusalOf 88 = .ok (.iconst 1, 1) := by decide +kernel
theorem dX0_refusalOf_89 : decode cX0_refusalOf 89 = .ok (.goto 4, 3) := by decide +kernel
theorem dX0_refusalOf_92 : decode cX0_refusalOf 92 = .ok (.iconst 0, 1) := by decide +kernel
theorem dX0_refusalOf_93 : decode cX0_refusalOf 93 = .ok (.iload 4, 2) := by decide +kernel
theorem dX0_refusalOf_95 : decode cX0_refusalOf 95 = .ok (.iconst 0, 1) := by decide +kernel
theorem dX0_refusalOf_96 : decode cX0_refusalOf 96 = .ok (.bipush 9, 2) := by decide +kernel
theorem dX0_refusalOf_98 : decode cX0_refusalOf 98 = .ok (.invokestatic 91, 3) := by decide +kernel
theorem dX0_refusalOf_101 : decode cX0_refusalOf 101 = .ok (.iconst 1, 1) := by decide +kernel
theorem dX0_refusalOf_102 : decode cX0_refusalOf 102 = .ok (.invokestatic 100, 3) := by decide +kernel
theorem dX0_refusalOf_105 : decode cX0_refusalOf 105 = .ok (.areturn, 1) := by decide +kernel
theorem dX0_refusalOf_106 : decode cX0_refusalOf 106 = .ok (.aload_n 0, 1) := by decide +kernel
theorem dX0_refusalOf_107 : decode cX0_refusalOf 107 = .ok (.iload_n 2, 1) := by decide +kernel
theorem dX0_refusalOf_108 : decode cX0_refusalOf 108 = .ok (.invokevirtual 104, 3) := by decide +kernel
theorem dX0_refusalOf_111 : decode cX0_refusalOf 111 = .ok (.iload_n 3, 1) := by decide +kernel
theorem dX0_refusalOf_112 : decode cX0_refusalOf 112 = .ok (.iconst 0, 1) := by decide +kernel
theorem dX0_refusalOf_113 : decode cX0_refusalOf 113 = .ok (.sipush 999, 3) := by decide +kernel
theorem dX0_refusalOf_116 : decode cX0_refusalOf 116 = .ok (.invokestatic 91, 3) := by decide +kernel
theorem dX0_refusalOf_119 : decode cX0_refusalOf 119 = .ok (.ifCond .eq 19, 3) := by decide +kernel
theorem dX0_refusalOf_122 : decode cX0_refusalOf 122 = .ok (.iload 4, 2) := by decide +kernel
theorem dX0_refusalOf_124 : decode cX0_refusalOf 124 = .ok (.iload_n 3, 1) := by decide +kernel
theorem dX0_refusalOf_125 : decode cX0_refusalOf 125 = .ok (.sipush 999, 3) := by decide +kernel
theorem dX0_refusalOf_128 : decode cX0_refusalOf 128 = .ok (.invokestatic 91, 3) := by decide +kernel
theorem dX0_refusalOf_131 : decode cX0_refusalOf 131 = .ok (.ifCond .eq 7, 3) := by decide +kernel
theorem dX0_refusalOf_134 : decode cX0_refusalOf 134 = .ok (.iconst 1, 1) := by decide +kernel
theorem dX0_refusalOf_135 : decode cX0_refusalOf 135 = .ok (.goto 4, 3) := by decide +kernel
theorem dX0_refusalOf_138 : decode cX0_refusalOf 138 = .ok (.iconst 0, 1) := by decide +kernel
theorem dX0_refusalOf_139 : decode cX0_refusalOf 139 = .ok (.aload_n 0, 1) := by decide +kernel
theorem dX0_refusalOf_140 : decode cX0_refusalOf 140 = .ok (.iload_n 2, 1) := by decide +kernel
theorem dX0_refusalOf_141 : decode cX0_refusalOf 141 = .ok (.invokevirtual 104, 3) := by decide +kernel
theorem dX0_refusalOf_144 : decode cX0_refusalOf 144 = .ok (.ifCond .eq 20, 3) := by decide +kernel
theorem dX0_refusalOf_147 : decode cX0_refusalOf 147 = .ok (.aload_n 0, 1) := by decide +kernel
theorem dX0_refusalOf_148 : decode cX0_refusalOf 148 = .ok (.getfield 11, 3) := by decide +kernel
theorem dX0_refusalOf_151 : decode cX0_refusalOf 151 = .ok (.iload_n 2, 1) := by decide +kernel
theorem dX0_refusalOf_152 : decode cX0_refusalOf 152 = .ok (.aaload, 1) := by decide +kernel
theorem dX0_refusalOf_153 : decode cX0_refusalOf 153 = .ok (.getfield 110, 3) := by decide +kernel
theorem dX0_refusalOf_156 : decode cX0_refusalOf 156 = .ok (.iconst 3, 1) := by decide +kernel
theorem dX0_refusalOf_157 : decode cX0_refusalOf 157 = .ok (.if_icmp .ge 7, 3) := by decide +kernel
theorem dX0_refusalOf_160 : decode cX0_refusalOf 160 = .ok (.iconst 1, 1) := by decide +kernel
theorem dX0_refusalOf_161 : decode cX0_refusalOf 161 = .ok (.goto 4, 3) := by decide +kernel
theorem dX0_refusalOf_164 : decode cX0_refusalOf 164 = .ok (.iconst 0, 1) := by decide +kernel
theorem dX0_refusalOf_165 : decode cX0_refusalOf 165 = .ok (.invokestatic 100, 3) := by decide +kernel
theorem dX0_refusalOf_168 : decode cX0_refusalOf 168 = .ok (.areturn, 1) := by decide +kernel
theorem dX0_refusalOf_169 : decode cX0_refusalOf 169 = .ok (.aload_n 0, 1) := by decide +kernel
theorem dX0_refusalOf_170 : decode cX0_refusalOf 170 = .ok (.iload_n 2, 1) := by decide +kernel
theorem dX0_refusalOf_171 : decode cX0_refusalOf 171 = .ok (.invokevirtual 104, 3) := by decide +kernel
theorem dX0_refusalOf_174 : decode cX0_refusalOf 174 = .ok (.ifCond .eq 26, 3) := by decide +kernel
theorem dX0_refusalOf_177 : decode cX0_refusalOf 177 = .ok (.iload_n 3, 1) := by decide +kernel
theorem dX0_refusalOf_178 : decode cX0_refusalOf 178 = .ok (.iconst 0, 1) := by decide +kernel
theorem dX0_refusalOf_179 : decode cX0_refusalOf 179 = .ok (.aload_n 0, 1) := by decide +kernel
theorem dX0_refusalOf_180 : decode cX0_refusalOf 180 = .ok (.getfield 11, 3) := by decide +kernel
theorem dX0_refusalOf_183 : decode cX0_refusalOf 183 = .ok (.iload_n 2, 1) := by decide +kernel
theorem dX0_refusalOf_184 : decode cX0_refusalOf 184 = .ok (.aaload, 1) := by decide +kernel
theorem dX0_refusalOf_185 : decode cX0_refusalOf 185 = .ok (.getfield 110, 3) := by decide +kernel
theorem dX0_refusalOf_188 : decode cX0_refusalOf 188 = .ok (.iconst 1, 1) := by decide +kernel
theorem dX0_refusalOf_189 : decode cX0_refusalOf 189 = .ok (.isub, 1) := by decide +kernel
theorem dX0_refusalOf_190 : decode cX0_refusalOf 190 = .ok (.invokestatic 91, 3) := by decide +kernel
theorem dX0_refusalOf_193 : decode cX0_refusalOf 193 = .ok (.ifCond .eq 7, 3) := by decide +kernel
theorem dX0_refusalOf_196 : decode cX0_refusalOf 196 = .ok (.iconst 1, 1) := by decide +kernel
theorem dX0_refusalOf_197 : decode cX0_refusalOf 197 = .ok (.goto 4, 3) := by decide +kernel
theorem dX0_refusalOf_200 : decode cX0_refusalOf 200 = .ok (.iconst 0, 1) := by decide +kernel
theorem dX0_refusalOf_201 : decode cX0_refusalOf 201 = .ok (.iconst 1, 1) := by decide +kernel
theorem dX0_refusalOf_202 : decode cX0_refusalOf 202 = .ok (.iconst 1, 1) := by decide +kernel
theorem dX0_refusalOf_203 : decode cX0_refusalOf 203 = .ok (.invokestatic 100, 3) := by decide +kernel
theorem dX0_refusalOf_206 : decode cX0_refusalOf 206 = .ok (.areturn, 1) := by decide +kernel
theorem dX0_refusalOf_207 : decode cX0_refusalOf 207 = .ok (.iload_n 2, 1) := by decide +kernel
theorem dX0_refusalOf_208 : decode cX0_refusalOf 208 = .ok (.invokestatic 95, 3) := by decide +kernel
theorem dX0_refusalOf_211 : decode cX0_refusalOf 211 = .ok (.ifCond .eq 14, 3) := by decide +kernel
theorem dX0_refusalOf_214 : decode cX0_refusalOf 214 = .ok (.iload_n 3, 1) := by decide +kernel
theorem dX0_refusalOf_215 : decode cX0_refusalOf 215 = .ok (.invokestatic 107, 3) := by decide +kernel
theorem dX0_refusalOf_218 : decode cX0_refusalOf 218 = .ok (.ifCond .eq 7, 3) := by decide +kernel
theorem dX0_refusalOf_221 : decode cX0_refusalOf 221 = .ok (.iconst 1, 1) := by decide +kernel
theorem dX0_refusalOf_222 : decode cX0_refusalOf 222 = .ok (.goto 4, 3) := by decide +kernel
theorem dX0_refusalOf_225 : decode cX0_refusalOf 225 = .ok (.iconst 0, 1) := by decide +kernel
theorem dX0_refusalOf_226 : decode cX0_refusalOf 226 = .ok (.iconst 1, 1) := by decide +kernel
theorem dX0_refusalOf_227 : decode cX0_refusalOf 227 = .ok (.iconst 1, 1) := by decide +kernel
theorem dX0_refusalOf_228 : decode cX0_refusalOf 228 = .ok (.invokestatic 100, 3) := by decide +kernel
theorem dX0_refusalOf_231 : decode cX0_refusalOf 231 = .ok (.areturn, 1) := by decide +kernel
theorem dX0_refusalOf_232 : decode cX0_refusalOf 232 = .ok (.iload_n 2, 1) := by decide +kernel
theorem dX0_refusalOf_233 : decode cX0_refusalOf 233 = .ok (.invokestatic 95, 3) := by decide +kernel
theorem dX0_refusalOf_236 : decode cX0_refusalOf 236 = .ok (.ifCond .eq 14, 3) := by decide +kernel
theorem dX0_refusalOf_239 : decode cX0_refusalOf 239 = .ok (.iload_n 3, 1) := by decide +kernel
theorem dX0_refusalOf_240 : decode cX0_refusalOf 240 = .ok (.invokestatic 95, 3) := by decide +kernel
theorem dX0_refusalOf_243 : decode cX0_refusalOf 243 = .ok (.ifCond .eq 7, 3) := by decide +kernel
theorem dX0_refusalOf_246 : decode cX0_refusalOf 246 = .ok (.iconst 1, 1) := by decide +kernel
theorem dX0_refusalOf_247 : decode cX0_refusalOf 247 = .ok (.goto 4, 3) := by decide +kernel
theorem dX0_refusalOf_250 : decode cX0_refusalOf 250 = .ok (.iconst 0, 1) := by decide +kernel
theorem dX0_refusalOf_251 : decode cX0_refusalOf 251 = .ok (.iconst 1, 1) := by decide +kernel
theorem dX0_refusalOf_252 : decode cX0_refusalOf 252 = .ok (.iconst 1, 1) := by decide +kernel
theorem dX0_refusalOf_253 : decode cX0_refusalOf 253 = .ok (.invokestatic 100, 3) := by decide +kernel
theorem dX0_refusalOf_256 : decode cX0_refusalOf 256 = .ok (.areturn, 1) := by decide +kernel
theorem dX0_refusalOf_257 : decode cX0_refusalOf 257 = .ok (.iconst 1, 1) := by decide +kernel
theorem dX0_refusalOf_258 : decode cX0_refusalOf 258 = .ok (.iload_n 2, 1) := by decide +kernel
theorem dX0_refusalOf_259 : decode cX0_refusalOf 259 = .ok (.invokestatic 113, 3) := by decide +kernel
theorem dX0_refusalOf_262 : decode cX0_refusalOf 262 = .ok (.ifCond .eq 24, 3) := by decide +kernel
theorem dX0_refusalOf_265 : decode cX0_refusalOf 265 = .ok (.iload_n 3, 1) := by decide +kernel
theorem dX0_refusalOf_266 : decode cX0_refusalOf 266 = .ok (.getstatic 116, 3) := by decide +kernel
theorem dX0_refusalOf_269 : decode cX0_refusalOf 269 = .ok (.iload_n 2, 1) := by decide +kernel
theorem dX0_refusalOf_270 : decode cX0_refusalOf 270 = .ok (.iaload, 1) := by decide +kernel
theorem dX0_refusalOf_271 : decode cX0_refusalOf 271 = .ok (.getstatic 119, 3) := by decide +kernel
theorem dX0_refusalOf_274 : decode cX0_refusalOf 274 = .ok (.iload_n 2, 1) := by decide +kernel
theorem dX0_refusalOf_275 : decode cX0_refusalOf 275 = .ok (.iaload, 1) := by decide +kernel
theorem dX0_refusalOf_276 : decode cX0_refusalOf 276 = .ok (.invokestatic 91, 3) := by decide +kernel
theorem dX0_refusalOf_279 : decode cX0_refusalOf 279 = .ok (.ifCond .eq 7, 3) := by decide +kernel
theorem dX0_refusalOf_282 : decode cX0_refusalOf 282 = .ok (.iconst 1, 1) := by decide +kernel
theorem dX0_refusalOf_283 : decode cX0_refusalOf 283 = .ok (.goto 4, 3) := by decide +kernel
theorem dX0_refusalOf_286 : decode cX0_refusalOf 286 = .ok (.iconst 0, 1) := by decide +kernel
theorem dX0_refusalOf_287 : decode cX0_refusalOf 287 = .ok (.iconst 1, 1) := by decide +kernel
theorem dX0_refusalOf_288 : decode cX0_refusalOf 288 = .ok (.invokestatic 100, 3) := by decide +kernel
theorem dX0_refusalOf_291 : decode cX0_refusalOf 291 = .ok (.areturn, 1) := by decide +kernel
theorem dX0_refusalOf_292 : decode cX0_refusalOf 292 = .ok (.iconst 1, 1) := by decide +kernel
theorem dX0_refusalOf_293 : decode cX0_refusalOf 293 = .ok (.iload_n 2, 1) := by decide +kernel
theorem dX0_refusalOf_294 : decode cX0_refusalOf 294 = .ok (.iconst 1, 1) := by decide +kernel
theorem dX0_refusalOf_295 : decode cX0_refusalOf 295 = .ok (.bipush 60, 2) := by decide +kernel
theorem dX0_refusalOf_297 : decode cX0_refusalOf 297 = .ok (.invokestatic 91, 3) := by decide +kernel
theorem dX0_refusalOf_300 : decode cX0_refusalOf 300 = .ok (.iconst 1, 1) := by decide +kernel
theorem dX0_refusalOf_301 : decode cX0_refusalOf 301 = .ok (.invokestatic 100, 3) := by decide +kernel
theorem dX0_refusalOf_304 : decode cX0_refusalOf 304 = .ok (.areturn, 1) := by decide +kernel
theorem dX0_firstRefusal_0 : decode cX0_firstRefusal 0 = .ok (.iload_n 0, 1) := by decide +kernel
theorem dX0_firstRefusal_1 : decode cX0_firstRefusal 1 = .ok (.ifCond .ne 7, 3) := by decide +kernel
theorem dX0_firstRefusal_4 : decode cX0_firstRefusal 4 = .ok (.getstatic 122, 3) := by decide +kernel
theorem dX0_firstRefusal_7 : decode cX0_firstRefusal 7 = .ok (.areturn, 1) := by decide +kernel
theorem dX0_firstRefusal_8 : decode cX0_firstRefusal 8 = .ok (.iload_n 1, 1) := by decide +kernel
theorem dX0_firstRefusal_9 : decode cX0_firstRefusal 9 = .ok (.ifCond .ne 7, 3) := by decide +kernel
theorem dX0_firstRefusal_12 : decode cX0_firstRefusal 12 = .ok (.getstatic 128, 3) := by decide +kernel
theorem dX0_firstRefusal_15 : decode cX0_firstRefusal 15 = .ok (.areturn, 1) := by decide +kernel
theorem dX0_firstRefusal_16 : decode cX0_firstRefusal 16 = .ok (.iload_n 2, 1) := by decide +kernel
theorem dX0_firstRefusal_17 : decode cX0_firstRefusal 17 = .ok (.ifCond .eq 9, 3) := by decide +kernel
theorem dX0_firstRefusal_20 : decode cX0_firstRefusal 20 = .ok (.getstatic 131, 3) := by decide +kernel
theorem dX0_firstRefusal_23 : decode cX0_firstRefusal 23 = .ok (.goto 6, 3) := by decide +kernel
theorem dX0_firstRefusal_26 : decode cX0_firstRefusal 26 = .ok (.getstatic 134, 3) := by decide +kernel
theorem dX0_firstRefusal_29 : decode cX0_firstRefusal 29 = .ok (.areturn, 1) := by decide +kernel
theorem dX0_perform_0 : decode cX0_perform 0 = .ok (.aload_n 0, 1) := by decide +kernel
theorem dX0_perform_1 : decode cX0_perform 1 = .ok (.iload_n 1, 1) := by decide +kernel
theorem dX0_perform_2 : decode cX0_perform 2 = .ok (.iload_n 2, 1) := by decide +kernel
theorem dX0_perform_3 : decode cX0_perform 3 = .ok (.iload_n 3, 1) := by decide +kernel
theorem dX0_perform_4 : decode cX0_perform 4 = .ok (.iload 4, 2) := by decide +kernel
theorem dX0_perform_6 : decode cX0_perform 6 = .ok (.invokevirtual 137, 3) := by decide +kernel
theorem dX0_perform_9 : decode cX0_perform 9 = .ok (.getstatic 131, 3) := by decide +kernel
theorem dX0_perform_12 : decode cX0_perform 12 = .ok (.if_acmp .eq 5, 3) := by decide +kernel
theorem dX0_perform_15 : decode cX0_perform 15 = .ok (.iconst (-1), 1) := by decide +kernel
theorem dX0_perform_16 : decode cX0_perform 16 = .ok (.ireturn, 1) := by decide +kernel
theorem dX0_perform_17 : decode cX0_perform 17 = .ok (.iload_n 1, 1) := by decide +kernel
theorem dX0_perform_18 : decode cX0_perform 18 = .ok (.tableswitch 118 0 6 #[42, 49, 62, 75, 86, 104, 111], 42) := by decide +kernel
theorem dX0_perform_60 : decode cX0_perform 60 = .ok (.aload_n 0, 1) := by decide +kernel
theorem dX0_perform_61 : decode cX0_perform 61 = .ok (.iload_n 2, 1) := by decide +kernel
theorem dX0_perform_62 : decode cX0_perform 62 = .ok (.iload_n 3, 1) := by decide +kernel
theorem dX0_perform_63 : decode cX0_perform 63 = .ok (.invokevirtual 141, 3) := by decide +kernel
theorem dX0_perform_66 : decode cX0_perform 66 = .ok (.ireturn, 1) := by decide +kernel
theorem dX0_perform_67 : decode cX0_perform 67 = .ok (.aload_n 0, 1) := by decide +kernel
theorem dX0_perform_68 : decode cX0_perform 68 = .ok (.getfield 11, 3) := by decide +kernel
theorem dX0_perform_71 : decode cX0_perform 71 = .ok (.iload_n 2, 1) := by decide +kernel
theorem dX0_perform_72 : decode cX0_perform 72 = .ok (.aaload, 1) := by decide +kernel
theorem dX0_perform_73 : decode cX0_perform 73 = .ok (.iload_n 3, 1) := by decide +kernel
theorem dX0_perform_74 : decode cX0_perform 74 = .ok (.iload 4, 2) := by decide +kernel
theorem dX0_perform_76 : decode cX0_perform 76 = .ok (.invokevirtual 145, 3) := by decide +kernel
theorem dX0_perform_79 : decode cX0_perform 79 = .ok (.ireturn, 1) := by decide +kernel
theorem dX0_perform_80 : decode cX0_perform 80 = .ok (.aload_n 0, 1) := by decide +kernel
theorem dX0_perform_81 : decode cX0_perform 81 = .ok (.getfield 11, 3) := by decide +kernel
theorem dX0_perform_84 : decode cX0_perform 84 = .ok (.iload_n 2, 1) := by decide +kernel
theorem dX0_perform_85 : decode cX0_perform 85 = .ok (.aaload, 1) := by decide +kernel
theorem dX0_perform_86 : decode cX0_perform 86 = .ok (.iload_n 3, 1) := by decide +kernel
theorem dX0_perform_87 : decode cX0_perform 87 = .ok (.iload 4, 2) := by decide +kernel
theorem dX0_perform_89 : decode cX0_perform 89 = .ok (.invokevirtual 148, 3) := by decide +kernel
theorem dX0_perform_92 : decode cX0_perform 92 = .ok (.ireturn, 1) := by decide +kernel
theorem dX0_perform_93 : decode cX0_perform 93 = .ok (.aload_n 0, 1) := by decide +kernel
theorem dX0_perform_94 : decode cX0_perform 94 = .ok (.getfield 11, 3) := by decide +kernel
theorem dX0_perform_97 : decode cX0_perform 97 = .ok (.iload_n 2, 1) := by decide +kernel
theorem dX0_perform_98 : decode cX0_perform 98 = .ok (.aaload, 1) := by decide +kernel
theorem dX0_perform_99 : decode cX0_perform 99 = .ok (.iload_n 3, 1) := by decide +kernel
theorem dX0_perform_100 : decode cX0_perform 100 = .ok (.invokevirtual 151, 3) := by decide +kernel
theorem dX0_perform_103 : decode cX0_perform 103 = .ok (.ireturn, 1) := by decide +kernel
theorem dX0_perform_104 : decode cX0_perform 104 = .ok (.aload_n 0, 1) := by decide +kernel
theorem dX0_perform_105 : decode cX0_perform 105 = .ok (.iload_n 2, 1) := by decide +kernel
theorem dX0_perform_106 : decode cX0_perform 106 = .ok (.iload_n 3, 1) := by decide +kernel
theorem dX0_perform_107 : decode cX0_perform 107 = .ok (.iload 4, 2) := by decide +kernel
theorem dX0_perform_109 : decode cX0_perform 109 = .ok (.iconst 1, 1) := by decide +kernel
theorem dX0_perform_110 : decode cX0_perform 110 = .ok (.if_icmp .ne 7, 3) := by decide +kernel
theorem dX0_perform_113 : decode cX0_perform 113 = .ok (.iconst 1, 1) := by decide +kernel
theorem dX0_perform_114 : decode cX0_perform 114 = .ok (.goto 4, 3) := by decide +kernel
theorem dX0_perform_117 : decode cX0_perform 117 = .ok (.iconst 0, 1) := by decide +kernel
theorem dX0_perform_118 : decode cX0_perform 118 = .ok (.invokevirtual 154, 3) := by decide +kernel
theorem dX0_perform_121 : decode cX0_perform 121 = .ok (.ireturn, 1) := by decide +kernel
theorem dX0_perform_122 : decode cX0_perform 122 = .ok (.aload_n 0, 1) := by decide +kernel
theorem dX0_perform_123 : decode cX0_perform 123 = .ok (.iload_n 2, 1) := by decide +kernel
theorem dX0_perform_124 : decode cX0_perform 124 = .ok (.iload_n 3, 1) := by decide +kernel
theorem dX0_perform_125 : decode cX0_perform 125 = .ok (.invokevirtual 158, 3) := by decide +kernel
theorem dX0_perform_128 : decode cX0_perform 128 = .ok (.ireturn, 1) := by decide +kernel
theorem dX0_perform_129 : decode cX0_perform 129 = .ok (.aload_n 0, 1) := by decide +kernel
theorem dX0_perform_130 : decode cX0_perform 130 = .ok (.iload_n 2, 1) := by decide +kernel
theorem dX0_perform_131 : decode cX0_perform 131 = .ok (.iload_n 3, 1) := by decide +kernel
theorem dX0_perform_132 : decode cX0_perform 132 = .ok (.invokevirtual 161, 3) := by decide +kernel
theorem dX0_perform_135 : decode cX0_perform 135 = .ok (.ireturn, 1) := by decide +kernel
theorem dX0_perform_136 : decode cX0_perform 136 = .ok (.aload_n 0, 1) := by decide +kernel
theorem dX0_perform_137 : decode cX0_perform 137 = .ok (.iload_n 2, 1) := by decide +kernel
theorem dX0_perform_138 : decode cX0_perform 138 = .ok (.invokevirtual 164, 3) := by decide +kernel
theorem dX0_perform_141 : decode cX0_perform 141 = .ok (.ireturn, 1) := by decide +kernel
theorem dX0_addCustomer_0 : decode cX0_addCustomer 0 = .ok (.aload_n 0, 1) := by decide +kernel
theorem dX0_addCustomer_1 : decode cX0_addCustomer 1 = .ok (.getfield 11, 3) := by decide +kernel
theorem dX0_addCustomer_4 : decode cX0_addCustomer 4 = .ok (.aload_n 0, 1) := by decide +kernel
theorem dX0_addCustomer_5 : decode cX0_addCustomer 5 = .ok (.getfield 35, 3) := by decide +kernel
theorem dX0_addCustomer_8 : decode cX0_addCustomer 8 = .ok (.aaload, 1) := by decide +kernel
theorem dX0_addCustomer_9 : decode cX0_addCustomer 9 = .ok (.iload_n 1, 1) := by decide +kernel
theorem dX0_addCustomer_10 : decode cX0_addCustomer 10 = .ok (.iload_n 2, 1) := by decide +kernel
theorem dX0_addCustomer_11 : decode cX0_addCustomer 11 = .ok (.invokevirtual 167, 3) := by decide +kernel
theorem dX0_addCustomer_14 : decode cX0_addCustomer 14 = .ok (.aload_n 0, 1) := by decide +kernel
theorem dX0_addCustomer_15 : decode cX0_addCustomer 15 = .ok (.dup, 1) := by decide +kernel
theorem dX0_addCustomer_16 : decode cX0_addCustomer 16 = .ok (.getfield 35, 3) := by decide +kernel
theorem dX0_addCustomer_19 : decode cX0_addCustomer 19 = .ok (.iconst 1, 1) := by decide +kernel
theorem dX0_addCustomer_20 : decode cX0_addCustomer 20 = .ok (.iadd, 1) := by decide +kernel
theorem dX0_addCustomer_21 : decode cX0_addCustomer 21 = .ok (.putfield 35, 3) := by decide +kernel
theorem dX0_addCustomer_24 : decode cX0_addCustomer 24 = .ok (.aload_n 0, 1) := by decide +kernel
theorem dX0_addCustomer_25 : decode cX0_addCustomer 25 = .ok (.getfield 35, 3) := by decide +kernel
theorem dX0_addCustomer_28 : decode cX0_addCustomer 28 = .ok (.iconst 1, 1) := by decide +kernel
theorem dX0_addCustomer_29 : decode cX0_addCustomer 29 = .ok (.isub, 1) := by decide +kernel
theorem dX0_addCustomer_30 : decode cX0_addCustomer 30 = .ok (.ireturn, 1) := by decide +kernel
theorem dX0_closeStreet_0 : decode cX0_closeStreet 0 = .ok (.aload_n 0, 1) := by decide +kernel
theorem dX0_closeStreet_1 : decode cX0_closeStreet 1 = .ok (.getfield 17, 3) := by decide +kernel
theorem dX0_closeStreet_4 : decode cX0_closeStreet 4 = .ok (.iload_n 1, 1) := by decide +kernel
theorem dX0_closeStreet_5 : decode cX0_closeStreet 5 = .ok (.bipush 7, 2) := by decide +kernel
theorem dX0_closeStreet_7 : decode cX0_closeStreet 7 = .ok (.imul, 1) := by decide +kernel
theorem dX0_closeStreet_8 : decode cX0_closeStreet 8 = .ok (.iload_n 2, 1) := by decide +kernel
theorem dX0_closeStreet_9 : decode cX0_closeStreet 9 = .ok (.iadd, 1) := by decide +kernel
theorem dX0_closeStreet_10 : decode cX0_closeStreet 10 = .ok (.iload_n 3, 1) := by decide +kernel
theorem dX0_closeStreet_11 : decode cX0_closeStreet 11 = .ok (.bastore, 1) := by decide +kernel
theorem dX0_closeStreet_12 : decode cX0_closeStreet 12 = .ok (.iconst 0, 1) := by decide +kernel
theorem dX0_closeStreet_13 : decode cX0_closeStreet 13 = .ok (.istore 4, 2) := by decide +kernel
theorem dX0_closeStreet_15 : decode cX0_closeStreet 15 = .ok (.iconst 0, 1) := by decide +kernel
theorem dX0_closeStreet_16 : decode cX0_closeStreet 16 = .ok (.istore 5, 2) := by decide +kernel
theorem dX0_closeStreet_18 : decode cX0_closeStreet 18 = .ok (.iload 5, 2) := by decide +kernel
theorem dX0_closeStreet_20 : decode cX0_closeStreet 20 = .ok (.bipush 7, 2) := by decide +kernel
theorem dX0_closeStreet_22 : decode cX0_closeStreet 22 = .ok (.if_icmp .ge 22, 3) := by decide +kernel
theorem dX0_closeStreet_25 : decode cX0_closeStreet 25 = .ok (.aload_n 0, 1) := by decide +kernel
theorem dX0_closeStreet_26 : decode cX0_closeStreet 26 = .ok (.iload_n 1, 1) := by decide +kernel
theorem dX0_closeStreet_27 : decode cX0_closeStreet 27 = .ok (.iload 5, 2) := by decide +kernel
theorem dX0_closeStreet_29 : decode cX0_closeStreet 29 = .ok (.invokevirtual 87, 3) := by decide +kernel
theorem dX0_closeStreet_32 : decode cX0_closeStreet 32 = .ok (.ifCond .eq 6, 3) := by decide +kernel
theorem dX0_closeStreet_35 : decode cX0_closeStreet 35 = .ok (.iinc 4 1, 3) := by decide +kernel
theorem dX0_closeStreet_38 : decode cX0_closeStreet 38 = .ok (.iinc 5 1, 3) := by decide +kernel
theorem dX0_closeStreet_41 : decode cX0_closeStreet 41 = .ok (.goto (-23), 3) := by decide +kernel
theorem dX0_closeStreet_44 : decode cX0_closeStreet 44 = .ok (.iload 4, 2) := by decide +kernel
theorem dX0_closeStreet_46 : decode cX0_closeStreet 46 = .ok (.ireturn, 1) := by decide +kernel
theorem dX0_swapStreets_0 : decode cX0_swapStreets 0 = .ok (.aload_n 0, 1) := by decide +kernel
theorem dX0_swapStreets_1 : decode cX0_swapStreets 1 = .ok (.iload_n 1, 1) := by decide +kernel
theorem dX0_swapStreets_2 : decode cX0_swapStreets 2 = .ok (.invokevirtual 171, 3) := by decide +kernel
theorem dX0_swapStreets_5 : decode cX0_swapStreets 5 = .ok (.istore_n 3, 1) := by decide +kernel
theorem dX0_swapStreets_6 : decode cX0_swapStreets 6 = .ok (.aload_n 0, 1) := by decide +kernel
theorem dX0_swapStreets_7 : decode cX0_swapStreets 7 = .ok (.iload_n 2, 1) := by decide +kernel
theorem dX0_swapStreets_8 : decode cX0_swapStreets 8 = .ok (.invokevirtual 171, 3) := by decide +kernel
theorem dX0_swapStreets_11 : decode cX0_swapStreets 11 = .ok (.istore 4, 2) := by decide +kernel
theorem dX0_swapStreets_13 : decode cX0_swapStreets 13 = .ok (.aload_n 0, 1) := by decide +kernel
theorem dX0_swapStreets_14 : decode cX0_swapStreets 14 = .ok (.getfield 21, 3) := by decide +kernel
theorem dX0_swapStreets_17 : decode cX0_swapStreets 17 = .ok (.iload_n 3, 1) := by decide +kernel
theorem dX0_swapStreets_18 : decode cX0_swapStreets 18 = .ok (.iload_n 2, 1) := by decide +kernel
theorem dX0_swapStreets_19 : decode cX0_swapStreets 19 = .ok (.iastore, 1) := by decide +kernel
theorem dX0_swapStreets_20 : decode cX0_swapStreets 20 = .ok (.aload_n 0, 1) := by decide +kernel
theorem dX0_swapStreets_21 : decode cX0_swapStreets 21 = .ok (.getfield 21, 3) := by decide +kernel
theorem dX0_swapStreets_24 : decode cX0_swapStreets 24 = .ok (.iload 4, 2) := by decide +kernel
theorem dX0_swapStreets_26 : decode cX0_swapStreets 26 = .ok (.iload_n 1, 1) := by decide +kernel
theorem dX0_swapStreets_27 : decode cX0_swapStreets 27 = .ok (.iastore, 1) := by decide +kernel
theorem dX0_swapStreets_28 : decode cX0_swapStreets 28 = .ok (.iload 4, 2) := by decide +kernel
theorem dX0_swapStreets_30 : decode cX0_swapStreets 30 = .ok (.ireturn, 1) := by decide +kernel
theorem dX0_placeOf_0 : decode cX0_placeOf 0 = .ok (.iconst 0, 1) := by decide +kernel
theorem dX0_placeOf_1 : decode cX0_placeOf 1 = .ok (.istore_n 2, 1) := by decide +kernel
theorem dX0_placeOf_2 : decode cX0_placeOf 2 = .ok (.iconst 0, 1) := by decide +kernel
theorem dX0_placeOf_3 : decode cX0_placeOf 3 = .ok (.istore_n 3, 1) := by decide +kernel
theorem dX0_placeOf_4 : decode cX0_placeOf 4 = .ok (.iload_n 3, 1) := by decide +kernel
theorem dX0_placeOf_5 : decode cX0_placeOf 5 = .ok (.iconst 4, 1) := by decide +kernel
theorem dX0_placeOf_6 : decode cX0_placeOf 6 = .ok (.if_icmp .ge 21, 3) := by decide +kernel
theorem dX0_placeOf_9 : decode cX0_placeOf 9 = .ok (.aload_n 0, 1) := by decide +kernel
theorem dX0_placeOf_10 : decode cX0_placeOf 10 = .ok (.getfield 21, 3) := by decide +kernel
theorem dX0_placeOf_13 : decode cX0_placeOf 13 = .ok (.iload_n 3, 1) := by decide +kernel
theorem dX0_placeOf_14 : decode cX0_placeOf 14 = .ok (.iaload, 1) := by decide +kernel
theorem dX0_placeOf_15 : decode cX0_placeOf 15 = .ok (.iload_n 1, 1) := by decide +kernel
theorem dX0_placeOf_16 : decode cX0_placeOf 16 = .ok (.if_icmp .ne 5, 3) := by decide +kernel
theorem dX0_placeOf_19 : decode cX0_placeOf 19 = .ok (.iload_n 3, 1) := by decide +kernel
theorem dX0_placeOf_20 : decode cX0_placeOf 20 = .ok (.istore_n 2, 1) := by decide +kernel
theorem dX0_placeOf_21 : decode cX0_placeOf 21 = .ok (.iinc 3 1, 3) := by decide +kernel
theorem dX0_placeOf_24 : decode cX0_placeOf 24 = .ok (.goto (-20), 3) := by decide +kernel
theorem dX0_placeOf_27 : decode cX0_placeOf 27 = .ok (.iload_n 2, 1) := by decide +kernel
theorem dX0_placeOf_28 : decode cX0_placeOf 28 = .ok (.ireturn, 1) := by decide +kernel
theorem dX0_takeOrder_0 : decode cX0_takeOrder 0 = .ok (.iload_n 1, 1) := by decide +kernel
theorem dX0_takeOrder_1 : decode cX0_takeOrder 1 = .ok (.istore_n 2, 1) := by decide +kernel
theorem dX0_takeOrder_2 : decode cX0_takeOrder 2 = .ok (.iconst 3, 1) := by decide +kernel
theorem dX0_takeOrder_3 : decode cX0_takeOrder 3 = .ok (.istore_n 3, 1) := by decide +kernel
theorem dX0_takeOrder_4 : decode cX0_takeOrder 4 = .ok (.iload_n 3, 1) := by decide +kernel
theorem dX0_takeOrder_5 : decode cX0_takeOrder 5 = .ok (.ifCond .lt 22, 3) := by decide +kernel
theorem dX0_takeOrder_8 : decode cX0_takeOrder 8 = .ok (.aload_n 0, 1) := by decide +kernel
theorem dX0_takeOrder_9 : decode cX0_takeOrder 9 = .ok (.getfield 21, 3) := by decide +kernel
theorem dX0_takeOrder_12 : decode cX0_takeOrder 12 = .ok (.iload_n 3, 1) := by decide +kernel
theorem dX0_takeOrder_13 : decode cX0_takeOrder 13 = .ok (.iload_n 2, 1) := by decide +kernel
theorem dX0_takeOrder_14 : decode cX0_takeOrder 14 = .ok (.iconst 4, 1) := by decide +kernel
theorem dX0_takeOrder_15 : decode cX0_takeOrder 15 = .ok (.irem, 1) := by decide +kernel
theorem dX0_takeOrder_16 : decode cX0_takeOrder 16 = .ok (.iastore, 1) := by decide +kernel
theorem dX0_takeOrder_17 : decode cX0_takeOrder 17 = .ok (.iload_n 2, 1) := by decide +kernel
theorem dX0_takeOrder_18 : decode cX0_takeOrder 18 = .ok (.iconst 4, 1) := by decide +kernel
theorem dX0_takeOrder_19 : decode cX0_takeOrder 19 = .ok (.idiv, 1) := by decide +kernel
theorem dX0_takeOrder_20 : decode cX0_takeOrder 20 = .ok (.istore_n 2, 1) := by decide +kernel
theorem dX0_takeOrder_21 : decode cX0_takeOrder 21 = .ok (.iinc 3 (-1), 3) := by decide +kernel
theorem dX0_takeOrder_24 : decode cX0_takeOrder 24 = .ok (.goto (-20), 3) := by decide +kernel
theorem dX0_takeOrder_27 : decode cX0_takeOrder 27 = .ok (.return_, 1) := by decide +kernel
theorem dX0_orderAsNumber_0 : decode cX0_orderAsNumber 0 = .ok (.iconst 0, 1) := by decide +kernel
theorem dX0_orderAsNumber_1 : decode cX0_orderAsNumber 1 = .ok (.istore_n 1, 1) := by decide +kernel
theorem dX0_orderAsNumber_2 : decode cX0_orderAsNumber 2 = .ok (.iconst 0, 1) := by decide +kernel
theorem dX0_orderAsNumber_3 : decode cX0_orderAsNumber 3 = .ok (.istore_n 2, 1) := by decide +kernel
theorem dX0_orderAsNumber_4 : decode cX0_orderAsNumber 4 = .ok (.iload_n 2, 1) := by decide +kernel
theorem dX0_orderAsNumber_5 : decode cX0_orderAsNumber 5 = .ok (.iconst 4, 1) := by decide +kernel
theorem dX0_orderAsNumber_6 : decode cX0_orderAsNumber 6 = .ok (.if_icmp .ge 21, 3) := by decide +kernel
theorem dX0_orderAsNumber_9 : decode cX0_orderAsNumber 9 = .ok (.iload_n 1, 1) := by decide +kernel
theorem dX0_orderAsNumber_10 : decode cX0_orderAsNumber 10 = .ok (.bipush 10, 2) := by decide +kernel
theorem dX0_orderAsNumber_12 : decode cX0_orderAsNumber 12 = .ok (.imul, 1) := by decide +kernel
theorem dX0_orderAsNumber_13 : decode cX0_orderAsNumber 13 = .ok (.aload_n 0, 1) := by decide +kernel
theorem dX0_orderAsNumber_14 : decode cX0_orderAsNumber 14 = .ok (.getfield 21, 3) := by decide +kernel
theorem dX0_orderAsNumber_17 : decode cX0_orderAsNumber 17 = .ok (.iload_n 2, 1) := by decide +kernel
theorem dX0_orderAsNumber_18 : decode cX0_orderAsNumber 18 = .ok (.iaload, 1) := by decide +kernel
theorem dX0_orderAsNumber_19 : decode cX0_orderAsNumber 19 = .ok (.iadd, 1) := by decide +kernel
theorem dX0_orderAsNumber_20 : decode cX0_orderAsNumber 20 = .ok (.istore_n 1, 1) := by decide +kernel
theorem dX0_orderAsNumber_21 : decode cX0_orderAsNumber 21 = .ok (.iinc 2 1, 3) := by decide +kernel
theorem dX0_orderAsNumber_24 : decode cX0_orderAsNumber 24 = .ok (.goto (-20), 3) := by decide +kernel
theorem dX0_orderAsNumber_27 : decode cX0_orderAsNumber 27 = .ok (.iload_n 1, 1) := by decide +kernel
theorem dX0_orderAsNumber_28 : decode cX0_orderAsNumber 28 = .ok (.ireturn, 1) := by decide +kernel
theorem dX0_changeSetting_0 : decode cX0_changeSetting 0 = .ok (.aload_n 0, 1) := by decide +kernel
theorem dX0_changeSetting_1 : decode cX0_changeSetting 1 = .ok (.getfield 25, 3) := by decide +kernel
theorem dX0_changeSetting_4 : decode cX0_changeSetting 4 = .ok (.iload_n 1, 1) := by decide +kernel
theorem dX0_changeSetting_5 : decode cX0_changeSetting 5 = .ok (.iaload, 1) := by decide +kernel
theorem dX0_changeSetting_6 : decode cX0_changeSetting 6 = .ok (.istore_n 3, 1) := by decide +kernel
theorem dX0_changeSetting_7 : decode cX0_changeSetting 7 = .ok (.aload_n 0, 1) := by decide +kernel
theorem dX0_changeSetting_8 : decode cX0_changeSetting 8 = .ok (.getfield 25, 3) := by decide +kernel
theorem dX0_changeSetting_11 : decode cX0_changeSetting 11 = .ok (.iload_n 1, 1) := by decide +kernel
theorem dX0_changeSetting_12 : decode cX0_changeSetting 12 = .ok (.iload_n 2, 1) := by decide +kernel
theorem dX0_changeSetting_13 : decode cX0_changeSetting 13 = .ok (.iastore, 1) := by decide +kernel
theorem dX0_changeSetting_14 : decode cX0_changeSetting 14 = .ok (.iload_n 3, 1) := by decide +kernel
theorem dX0_changeSetting_15 : decode cX0_changeSetting 15 = .ok (.ireturn, 1) := by decide +kernel
theorem dX0_deliver_0 : decode cX0_deliver 0 = .ok (.iconst 0, 1) := by decide +kernel
theorem dX0_deliver_1 : decode cX0_deliver 1 = .ok (.istore_n 2, 1) := by decide +kernel
theorem dX0_deliver_2 : decode cX0_deliver 2 = .ok (.aload_n 0, 1) := by decide +kernel
theorem dX0_deliver_3 : decode cX0_deliver 3 = .ok (.invokevirtual 174, 3) := by decide +kernel
theorem dX0_deliver_6 : decode cX0_deliver 6 = .ok (.iconst 0, 1) := by decide +kernel
theorem dX0_deliver_7 : decode cX0_deliver 7 = .ok (.istore_n 3, 1) := by decide +kernel
theorem dX0_deliver_8 : decode cX0_deliver 8 = .ok (.iload_n 3, 1) := by decide +kernel
theorem dX0_deliver_9 : decode cX0_deliver 9 = .ok (.iload_n 1, 1) := by decide +kernel
theorem dX0_deliver_10 : decode cX0_deliver 10 = .ok (.if_icmp .ge 75, 3) := by decide +kernel
theorem dX0_deliver_13 : decode cX0_deliver 13 = .ok (.aload_n 0, 1) := by decide +kernel
theorem dX0_deliver_14 : decode cX0_deliver 14 = .ok (.aload_n 0, 1) := by decide +kernel
theorem dX0_deliver_15 : decode cX0_deliver 15 = .ok (.invokevirtual 71, 3) := by decide +kernel
theorem dX0_deliver_18 : decode cX0_deliver 18 = .ok (.invokevirtual 177, 3) := by decide +kernel
theorem dX0_deliver_21 : decode cX0_deliver 21 = .ok (.istore 4, 2) := by decide +kernel
theorem dX0_deliver_23 : decode cX0_deliver 23 = .ok (.aload_n 0, 1) := by decide +kernel
theorem dX0_deliver_24 : decode cX0_deliver 24 = .ok (.aload_n 0, 1) := by decide +kernel
theorem dX0_deliver_25 : decode cX0_deliver 25 = .ok (.iload 4, 2) := by decide +kernel
theorem dX0_deliver_27 : decode cX0_deliver 27 = .ok (.invokevirtual 180, 3) := by decide +kernel
theorem dX0_deliver_30 : decode cX0_deliver 30 = .ok (.invokevirtual 183, 3) := by decide +kernel
theorem dX0_deliver_33 : decode cX0_deliver 33 = .ok (.istore 5, 2) := by decide +kernel
theorem dX0_deliver_35 : decode cX0_deliver 35 = .ok (.aload_n 0, 1) := by decide +kernel
theorem dX0_deliver_36 : decode cX0_deliver 36 = .ok (.dup, 1) := by decide +kernel
theorem dX0_deliver_37 : decode cX0_deliver 37 = .ok (.getfield 42, 3) := by decide +kernel
theorem dX0_deliver_40 : decode cX0_deliver 40 = .ok (.iload 4, 2) := by decide +kernel
theorem dX0_deliver_42 : decode cX0_deliver 42 = .ok (.iadd, 1) := by decide +kernel
theorem dX0_deliver_43 : decode cX0_deliver 43 = .ok (.putfield 42, 3) := by decide +kernel
theorem dX0_deliver_46 : decode cX0_deliver 46 = .ok (.aload_n 0, 1) := by decide +kernel
theorem dX0_deliver_47 : decode cX0_deliver 47 = .ok (.dup, 1) := by decide +kernel
theorem dX0_deliver_48 : decode cX0_deliver 48 = .ok (.getfield 45, 3) := by decide +kernel
theorem dX0_deliver_51 : decode cX0_deliver 51 = .ok (.iload 5, 2) := by decide +kernel
theorem dX0_deliver_53 : decode cX0_deliver 53 = .ok (.iadd, 1) := by decide +kernel
theorem dX0_deliver_54 : decode cX0_deliver 54 = .ok (.putfield 45, 3) := by decide +kernel
theorem dX0_deliver_57 : decode cX0_deliver 57 = .ok (.iload_n 2, 1) := by decide +kernel
theorem dX0_deliver_58 : decode cX0_deliver 58 = .ok (.iload 4, 2) := by decide +kernel
theorem dX0_deliver_60 : decode cX0_deliver 60 = .ok (.iload 5, 2) := by decide +kernel
theorem dX0_deliver_62 : decode cX0_deliver 62 = .ok (.isub, 1) := by decide +kernel
theorem dX0_deliver_63 : decode cX0_deliver 63 = .ok (.iadd, 1) := by decide +kernel
theorem dX0_deliver_64 : decode cX0_deliver 64 = .ok (.istore_n 2, 1) := by decide +kernel
theorem dX0_deliver_65 : decode cX0_deliver 65 = .ok (.aload_n 0, 1) := by decide +kernel
theorem dX0_deliver_66 : decode cX0_deliver 66 = .ok (.invokevirtual 186, 3) := by decide +kernel
theorem dX0_deliver_69 : decode cX0_deliver 69 = .ok (.aload_n 0, 1) := by decide +kernel
theorem dX0_deliver_70 : decode cX0_deliver 70 = .ok (.dup, 1) := by decide +kernel
theorem dX0_deliver_71 : decode cX0_deliver 71 = .ok (.getfield 39, 3) := by decide +kernel
theorem dX0_deliver_74 : decode cX0_deliver 74 = .ok (.iconst 1, 1) := by decide +kernel
theorem dX0_deliver_75 : decode cX0_deliver 75 = .ok (.iadd, 1) := by decide +kernel
theorem dX0_deliver_76 : decode cX0_deliver 76 = .ok (.putfield 39, 3) := by decide +kernel
theorem dX0_deliver_79 : decode cX0_deliver 79 = .ok (.iinc 3 1, 3) := by decide +kernel
theorem dX0_deliver_82 : decode cX0_deliver 82 = .ok (.goto (-74), 3) := by decide +kernel
theorem dX0_deliver_85 : decode cX0_deliver 85 = .ok (.iload_n 2, 1) := by decide +kernel
theorem dX0_deliver_86 : decode cX0_deliver 86 = .ok (.ireturn, 1) := by decide +kernel
theorem dX0_planVisits_0 : decode cX0_planVisits 0 = .ok (.iconst 0, 1) := by decide +kernel
theorem dX0_planVisits_1 : decode cX0_planVisits 1 = .ok (.istore_n 1, 1) := by decide +kernel
theorem dX0_planVisits_2 : decode cX0_planVisits 2 = .ok (.iconst 0, 1) := by decide +kernel
theorem dX0_planVisits_3 : decode cX0_planVisits 3 = .ok (.istore_n 2, 1) := by decide +kernel
theorem dX0_planVisits_4 : decode cX0_planVisits 4 = .ok (.iload_n 2, 1) := by decide +kernel
theorem dX0_planVisits_5 : decode cX0_planVisits 5 = .ok (.iconst 4, 1) := by decide +kernel
theorem dX0_planVisits_6 : decode cX0_planVisits 6 = .ok (.if_icmp .ge 53, 3) := by decide +kernel
theorem dX0_planVisits_9 : decode cX0_planVisits 9 = .ok (.iconst 0, 1) := by decide +kernel
theorem dX0_planVisits_10 : decode cX0_planVisits 10 = .ok (.istore_n 3, 1) := by decide +kernel
theorem dX0_planVisits_11 : decode cX0_planVisits 11 = .ok (.iload_n 3, 1) := by decide +kernel
theorem dX0_planVisits_12 : decode cX0_planVisits 12 = .ok (.aload_n 0, 1) := by decide +kernel
theorem dX0_planVisits_13 : decode cX0_planVisits 13 = .ok (.getfield 35, 3) := by decide +kernel
theorem dX0_planVisits_16 : decode cX0_planVisits 16 = .ok (.if_icmp .ge 37, 3) := by decide +kernel
theorem dX0_planVisits_19 : decode cX0_planVisits 19 = .ok (.aload_n 0, 1) := by decide +kernel
theorem dX0_planVisits_20 : decode cX0_planVisits 20 = .ok (.getfield 11, 3) := by decide +kernel
theorem dX0_planVisits_23 : decode cX0_planVisits 23 = .ok (.iload_n 3, 1) := by decide +kernel
theorem dX0_planVisits_24 : decode cX0_planVisits 24 = .ok (.aaload, 1) := by decide +kernel
theorem dX0_planVisits_25 : decode cX0_planVisits 25 = .ok (.getfield 81, 3) := by decide +kernel
theorem dX0_planVisits_28 : decode cX0_planVisits 28 = .ok (.aload_n 0, 1) := by decide +kernel
theorem dX0_planVisits_29 : decode cX0_planVisits 29 = .ok (.getfield 21, 3) := by decide +kernel
theorem dX0_planVisits_32 : decode cX0_planVisits 32 = .ok (.iload_n 2, 1) := by decide +kernel
theorem dX0_planVisits_33 : decode cX0_planVisits 33 = .ok (.iaload, 1) := by decide +kernel
theorem dX0_planVisits_34 : decode cX0_planVisits 34 = .ok (.if_icmp .ne 13, 3) := by decide +kernel
theorem dX0_planVisits_37 : decode cX0_planVisits 37 = .ok (.aload_n 0, 1) := by decide +kernel
theorem dX0_planVisits_38 : decode cX0_planVisits 38 = .ok (.getfield 28, 3) := by decide +kernel
theorem dX0_planVisits_41 : decode cX0_planVisits 41 = .ok (.iload_n 1, 1) := by decide +kernel
theorem dX0_planVisits_42 : decode cX0_planVisits 42 = .ok (.iload_n 3, 1) := by decide +kernel
theorem dX0_planVisits_43 : decode cX0_planVisits 43 = .ok (.iastore, 1) := by decide +kernel
theorem dX0_planVisits_44 : decode cX0_planVisits 44 = .ok (.iinc 1 1, 3) := by decide +kernel
theorem dX0_planVisits_47 : decode cX0_planVisits 47 = .ok (.iinc 3 1, 3) := by decide +kernel
theorem dX0_planVisits_50 : decode cX0_planVisits 50 = .ok (.goto (-39), 3) := by decide +kernel
theorem dX0_planVisits_53 : decode cX0_planVisits 53 = .ok (.iinc 2 1, 3) := by decide +kernel
theorem dX0_planVisits_56 : decode cX0_planVisits 56 = .ok (.goto (-52), 3) := by decide +kernel
theorem dX0_planVisits_59 : decode cX0_planVisits 59 = .ok (.return_, 1) := by decide +kernel
theorem dX0_loavesFor_0 : decode cX0_loavesFor 0 = .ok (.iload_n 1, 1) := by decide +kernel
theorem dX0_loavesFor_1 : decode cX0_loavesFor 1 = .ok (.aload_n 0, 1) := by decide +kernel
theorem dX0_loavesFor_2 : decode cX0_loavesFor 2 = .ok (.getfield 25, 3) := by decide +kernel
theorem dX0_loavesFor_5 : decode cX0_loavesFor 5 = .ok (.iconst 1, 1) := by decide +kernel
theorem dX0_loavesFor_6 : decode cX0_loavesFor 6 = .ok (.iaload, 1) := by decide +kernel
theorem dX0_loavesFor_7 : decode cX0_loavesFor 7 = .ok (.iadd, 1) := by decide +kernel
theorem dX0_loavesFor_8 : decode cX0_loavesFor 8 = .ok (.aload_n 0, 1) := by decide +kernel
theorem dX0_loavesFor_9 : decode cX0_loavesFor 9 = .ok (.getfield 25, 3) := by decide +kernel
theorem dX0_loavesFor_12 : decode cX0_loavesFor 12 = .ok (.iconst 0, 1) := by decide +kernel
theorem dX0_loavesFor_13 : decode cX0_loavesFor 13 = .ok (.iaload, 1) := by decide +kernel
theorem dX0_loavesFor_14 : decode cX0_loavesFor 14 = .ok (.invokestatic 189, 3) := by decide +kernel
theorem dX0_loavesFor_17 : decode cX0_loavesFor 17 = .ok (.ireturn, 1) := by decide +kernel
theorem dX0_isReached_0 : decode cX0_isReached 0 = .ok (.aload_n 0, 1) := by decide +kernel
theorem dX0_isReached_1 : decode cX0_isReached 1 = .ok (.aload_n 1, 1) := by decide +kernel
theorem dX0_isReached_2 : decode cX0_isReached 2 = .ok (.getfield 81, 3) := by decide +kernel
theorem dX0_isReached_5 : decode cX0_isReached 5 = .ok (.aload_n 0, 1) := by decide +kernel
theorem dX0_isReached_6 : decode cX0_isReached 6 = .ok (.getfield 39, 3) := by decide +kernel
theorem dX0_isReached_9 : decode cX0_isReached 9 = .ok (.invokestatic 84, 3) := by decide +kernel
theorem dX0_isReached_12 : decode cX0_isReached 12 = .ok (.invokevirtual 87, 3) := by decide +kernel
theorem dX0_isReached_15 : decode cX0_isReached 15 = .ok (.ifCond .ne 7, 3) := by decide +kernel
theorem dX0_isReached_18 : decode cX0_isReached 18 = .ok (.iconst 1, 1) := by decide +kernel
theorem dX0_isReached_19 : decode cX0_isReached 19 = .ok (.goto 4, 3) := by decide +kernel
theorem dX0_isReached_22 : decode cX0_isReached 22 = .ok (.iconst 0, 1) := by decide +kernel
theorem dX0_isReached_23 : decode cX0_isReached 23 = .ok (.ireturn, 1) := by decide +kernel
theorem dX0_handOut_0 : decode cX0_handOut 0 = .ok (.iload_n 1, 1) := by decide +kernel
theorem dX0_handOut_1 : decode cX0_handOut 1 = .ok (.istore_n 2, 1) := by decide +kernel
theorem dX0_handOut_2 : decode cX0_handOut 2 = .ok (.iconst 0, 1) := by decide +kernel
theorem dX0_handOut_3 : decode cX0_handOut 3 = .ok (.istore_n 3, 1) := by decide +kernel
theorem dX0_handOut_4 : decode cX0_handOut 4 = .ok (.iload_n 3, 1) := by decide +kernel
theorem dX0_handOut_5 : decode cX0_handOut 5 = .ok (.aload_n 0, 1) := by decide +kernel
theorem dX0_handOut_6 : decode cX0_handOut 6 = .ok (.getfield 35, 3) := by decide +kernel
theorem dX0_handOut_9 : decode cX0_handOut 9 = .ok (.if_icmp .ge 86, 3) := by decide +kernel
theorem dX0_handOut_12 : decode cX0_handOut 12 = .ok (.aload_n 0, 1) := by decide +kernel
theorem dX0_handOut_13 : decode cX0_handOut 13 = .ok (.getfield 11, 3) := by decide +kernel
theorem dX0_handOut_16 : decode cX0_handOut 16 = .ok (.aload_n 0, 1) := by decide +kernel
theorem dX0_handOut_17 : decode cX0_handOut 17 = .ok (.getfield 28, 3) := by decide +kernel
theorem dX0_handOut_20 : decode cX0_handOut 20 = .ok (.iload_n 3, 1) := by decide +kernel
theorem dX0_handOut_21 : decode cX0_handOut 21 = .ok (.iaload, 1) := by decide +kernel
theorem dX0_handOut_22 : decode cX0_handOut 22 = .ok (.aaload, 1) := by decide +kernel
theorem dX0_handOut_23 : decode cX0_handOut 23 = .ok (.astore 4, 2) := by decide +kernel
theorem dX0_handOut_25 : decode cX0_handOut 25 = .ok (.aload 4, 2) := by decide +kernel
theorem dX0_handOut_27 : decode cX0_handOut 27 = .ok (.aload_n 0, 1) := by decide +kernel
theorem dX0_handOut_28 : decode cX0_handOut 28 = .ok (.getfield 39, 3) := by decide +kernel
theorem dX0_handOut_31 : decode cX0_handOut 31 = .ok (.invokevirtual 78, 3) := by decide +kernel
theorem dX0_handOut_34 : decode cX0_handOut 34 = .ok (.istore 5, 2) := by decide +kernel
theorem dX0_handOut_36 : decode cX0_handOut 36 = .ok (.aload_n 0, 1) := by decide +kernel
theorem dX0_handOut_37 : decode cX0_handOut 37 = .ok (.aload 4, 2) := by decide +kernel
theorem dX0_handOut_39 : decode cX0_handOut 39 = .ok (.invokevirtual 194, 3) := by decide +kernel
theorem dX0_handOut_42 : decode cX0_handOut 42 = .ok (.ifCond .eq 12, 3) := by decide +kernel
theorem dX0_handOut_45 : decode cX0_handOut 45 = .ok (.iload 5, 2) := by decide +kernel
theorem dX0_handOut_47 : decode cX0_handOut 47 = .ok (.iload_n 2, 1) := by decide +kernel
theorem dX0_handOut_48 : decode cX0_handOut 48 = .ok (.invokestatic 189, 3) := by decide +kernel
theorem dX0_handOut_51 : decode cX0_handOut 51 = .ok (.goto 4, 3) := by decide +kernel
theorem dX0_handOut_54 : decode cX0_handOut 54 = .ok (.iconst 0, 1) := by decide +kernel
theorem dX0_handOut_55 : decode cX0_handOut 55 = .ok (.istore 6, 2) := by decide +kernel
theorem dX0_handOut_57 : decode cX0_handOut 57 = .ok (.aload_n 0, 1) := by decide +kernel
theorem dX0_handOut_58 : decode cX0_handOut 58 = .ok (.dup, 1) := by decide +kernel
theorem dX0_handOut_59 : decode cX0_handOut 59 = .ok (.getfield 48, 3) := by decide +kernel
theorem dX0_handOut_62 : decode cX0_handOut 62 = .ok (.iload 5, 2) := by decide +kernel
theorem dX0_handOut_64 : decode cX0_handOut 64 = .ok (.aload_n 0, 1) := by decide +kernel
theorem dX0_handOut_65 : decode cX0_handOut 65 = .ok (.getfield 25, 3) := by decide +kernel
theorem dX0_handOut_68 : decode cX0_handOut 68 = .ok (.iconst 4, 1) := by decide +kernel
theorem dX0_handOut_69 : decode cX0_handOut 69 = .ok (.iaload, 1) := by decide +kernel
theorem dX0_handOut_70 : decode cX0_handOut 70 = .ok (.imul, 1) := by decide +kernel
theorem dX0_handOut_71 : decode cX0_handOut 71 = .ok (.iadd, 1) := by decide +kernel
theorem dX0_handOut_72 : decode cX0_handOut 72 = .ok (.putfield 48, 3) := by decide +kernel
theorem dX0_handOut_75 : decode cX0_handOut 75 = .ok (.aload 4, 2) := by decide +kernel
theorem dX0_handOut_77 : decode cX0_handOut 77 = .ok (.iload 5, 2) := by decide +kernel
theorem dX0_handOut_79 : decode cX0_handOut 79 = .ok (.iload 6, 2) := by decide +kernel
theorem dX0_handOut_81 : decode cX0_handOut 81 = .ok (.invokevirtual 198, 3) := by decide +kernel
theorem dX0_handOut_84 : decode cX0_handOut 84 = .ok (.iload_n 2, 1) := by decide +kernel
theorem dX0_handOut_85 : decode cX0_handOut 85 = .ok (.iload 6, 2) := by decide +kernel
theorem dX0_handOut_87 : decode cX0_handOut 87 = .ok (.isub, 1) := by decide +kernel
theorem dX0_handOut_88 : decode cX0_handOut 88 = .ok (.istore_n 2, 1) := by decide +kernel
theorem dX0_handOut_89 : decode cX0_handOut 89 = .ok (.iinc 3 1, 3) := by decide +kernel
theorem dX0_handOut_92 : decode cX0_handOut 92 = .ok (.goto (-88), 3) := by decide +kernel
theorem dX0_handOut_95 : decode cX0_handOut 95 = .ok (.iload_n 2, 1) := by decide +kernel
theorem dX0_handOut_96 : decode cX0_handOut 96 = .ok (.ireturn, 1) := by decide +kernel
theorem dX0_makeGood_0 : decode cX0_makeGood 0 = .ok (.iload_n 1, 1) := by decide +kernel
theorem dX0_makeGood_1 : decode cX0_makeGood 1 = .ok (.istore_n 2, 1) := by decide +kernel
theorem dX0_makeGood_2 : decode cX0_makeGood 2 = .ok (.iconst 0, 1) := by decide +kernel
theorem dX0_makeGood_3 : decode cX0_makeGood 3 = .ok (.istore_n 3, 1) := by decide +kernel
theorem dX0_makeGood_4 : decode cX0_makeGood 4 = .ok (.iload_n 3, 1) := by decide +kernel
theorem dX0_makeGood_5 : decode cX0_makeGood 5 = .ok (.aload_n 0, 1) := by decide +kernel
theorem dX0_makeGood_6 : decode cX0_makeGood 6 = .ok (.getfield 35, 3) := by decide +kernel
theorem dX0_makeGood_9 : decode cX0_makeGood 9 = .ok (.if_icmp .ge 75, 3) := by decide +kernel
theorem dX0_makeGood_12 : decode cX0_makeGood 12 = .ok (.aload_n 0, 1) := by decide +kernel
theorem dX0_makeGood_13 : decode cX0_makeGood 13 = .ok (.getfield 11, 3) := by decide +kernel
theorem dX0_makeGood_16 : decode cX0_makeGood 16 = .ok (.aload_n 0, 1) := by decide +kernel
theorem dX0_makeGood_17 : decode cX0_makeGood 17 = .ok (.getfield 28, 3) := by decide +kernel
theorem dX0_makeGood_20 : decode cX0_makeGood 20 = .ok (.iload_n 3, 1) := by decide +kernel
theorem dX0_makeGood_21 : decode cX0_makeGood 21 = .ok (.iaload, 1) := by decide +kernel
theorem dX0_makeGood_22 : decode cX0_makeGood 22 = .ok (.aaload, 1) := by decide +kernel
theorem dX0_makeGood_23 : decode cX0_makeGood 23 = .ok (.astore 4, 2) := by decide +kernel
theorem dX0_makeGood_25 : decode cX0_makeGood 25 = .ok (.aload_n 0, 1) := by decide +kernel
theorem dX0_makeGood_26 : decode cX0_makeGood 26 = .ok (.aload 4, 2) := by decide +kernel
theorem dX0_makeGood_28 : decode cX0_makeGood 28 = .ok (.invokevirtual 194, 3) := by decide +kernel
theorem dX0_makeGood_31 : decode cX0_makeGood 31 = .ok (.ifCond .eq 47, 3) := by decide +kernel
theorem dX0_makeGood_34 : decode cX0_makeGood 34 = .ok (.aload 4, 2) := by decide +kernel
theorem dX0_makeGood_36 : decode cX0_makeGood 36 = .ok (.aload_n 0, 1) := by decide +kernel
theorem dX0_makeGood_37 : decode cX0_makeGood 37 = .ok (.getfield 39, 3) := by decide +kernel
theorem dX0_makeGood_40 : decode cX0_makeGood 40 = .ok (.invokevirtual 201, 3) := by decide +kernel
theorem dX0_makeGood_43 : decode cX0_makeGood 43 = .ok (.ifCond .ne 35, 3) := by decide +kernel
theorem dX0_makeGood_46 : decode cX0_makeGood 46 = .ok (.iload_n 2, 1) := by decide +kernel
theorem dX0_makeGood_47 : decode cX0_makeGood 47 = .ok (.aload 4, 2) := by decide +kernel
theorem dX0_makeGood_49 : decode cX0_makeGood 49 = .ok (.getfield 204, 3) := by decide +kernel
theorem dX0_makeGood_52 : decode cX0_makeGood 52 = .ok (.aload_n 0, 1) := by decide +kernel
theorem dX0_makeGood_53 : decode cX0_makeGood 53 = .ok (.getfield 25, 3) := by decide +kernel
theorem dX0_makeGood_56 : decode cX0_makeGood 56 = .ok (.iconst 2, 1) := by decide +kernel
theorem dX0_makeGood_57 : decode cX0_makeGood 57 = .ok (.iaload, 1) := by decide +kernel
theorem dX0_makeGood_58 : decode cX0_makeGood 58 = .ok (.invokestatic 189, 3) := by decide +kernel
theorem dX0_makeGood_61 : decode cX0_makeGood 61 = .ok (.invokestatic 189, 3) := by decide +kernel
theorem dX0_makeGood_64 : decode cX0_makeGood 64 = .ok (.istore 5, 2) := by decide +kernel
theorem dX0_makeGood_66 : decode cX0_makeGood 66 = .ok (.aload 4, 2) := by decide +kernel
theorem dX0_makeGood_68 : decode cX0_makeGood 68 = .ok (.iload 5, 2) := by decide +kernel
theorem dX0_makeGood_70 : decode cX0_makeGood 70 = .ok (.invokevirtual 207, 3) := by decide +kernel
theorem dX0_makeGood_73 : decode cX0_makeGood 73 = .ok (.iload_n 2, 1) := by decide +kernel
theorem dX0_makeGood_74 : decode cX0_makeGood 74 = .ok (.iload 5, 2) := by decide +kernel
theorem dX0_makeGood_76 : decode cX0_makeGood 76 = .ok (.isub, 1) := by decide +kernel
theorem dX0_makeGood_77 : decode cX0_makeGood 77 = .ok (.istore_n 2, 1) := by decide +kernel
theorem dX0_makeGood_78 : decode cX0_makeGood 78 = .ok (.iinc 3 1, 3) := by decide +kernel
theorem dX0_makeGood_81 : decode cX0_makeGood 81 = .ok (.goto (-77), 3) := by decide +kernel
theorem dX0_makeGood_84 : decode cX0_makeGood 84 = .ok (.iload_n 2, 1) := by decide +kernel
theorem dX0_makeGood_85 : decode cX0_makeGood 85 = .ok (.ireturn, 1) := by decide +kernel
theorem dX0_payBack_0 : decode cX0_payBack 0 = .ok (.iconst 0, 1) := by decide +kernel
theorem dX0_payBack_1 : decode cX0_payBack 1 = .ok (.istore_n 1, 1) := by decide +kernel
theorem dX0_payBack_2 : decode cX0_payBack 2 = .ok (.iload_n 1, 1) := by decide +kernel
theorem dX0_payBack_3 : decode cX0_payBack 3 = .ok (.aload_n 0, 1) := by decide +kernel
theorem dX0_payBack_4 : decode cX0_payBack 4 = .ok (.getfield 35, 3) := by decide +kernel
theorem dX0_payBack_7 : decode cX0_payBack 7 = .ok (.if_icmp .ge 40, 3) := by decide +kernel
theorem dX0_payBack_10 : decode cX0_payBack 10 = .ok (.aload_n 0, 1) := by decide +kernel
theorem dX0_payBack_11 : decode cX0_payBack 11 = .ok (.dup, 1) := by decide +kernel
theorem dX0_payBack_12 : decode cX0_payBack 12 = .ok (.getfield 51, 3) := by decide +kernel
theorem dX0_payBack_15 : decode cX0_payBack 15 = .ok (.aload_n 0, 1) := by decide +kernel
theorem dX0_payBack_16 : decode cX0_payBack 16 = .ok (.getfield 11, 3) := by decide +kernel
theorem dX0_payBack_19 : decode cX0_payBack 19 = .ok (.iload_n 1, 1) := by decide +kernel
theorem dX0_payBack_20 : decode cX0_payBack 20 = .ok (.aaload, 1) := by decide +kernel
theorem dX0_payBack_21 : decode cX0_payBack 21 = .ok (.aload_n 0, 1) := by decide +kernel
theorem dX0_payBack_22 : decode cX0_payBack 22 = .ok (.getfield 25, 3) := by decide +kernel
theorem dX0_payBack_25 : decode cX0_payBack 25 = .ok (.iconst 3, 1) := by decide +kernel
theorem dX0_payBack_26 : decode cX0_payBack 26 = .ok (.iaload, 1) := by decide +kernel
theorem dX0_payBack_27 : decode cX0_payBack 27 = .ok (.invokevirtual 211, 3) := by decide +kernel
theorem dX0_payBack_30 : decode cX0_payBack 30 = .ok (.aload_n 0, 1) := by decide +kernel
theorem dX0_payBack_31 : decode cX0_payBack 31 = .ok (.getfield 25, 3) := by decide +kernel
theorem dX0_payBack_34 : decode cX0_payBack 34 = .ok (.iconst 4, 1) := by decide +kernel
theorem dX0_payBack_35 : decode cX0_payBack 35 = .ok (.iaload, 1) := by decide +kernel
theorem dX0_payBack_36 : decode cX0_payBack 36 = .ok (.imul, 1) := by decide +kernel
theorem dX0_payBack_37 : decode cX0_payBack 37 = .ok (.iadd, 1) := by decide +kernel
theorem dX0_payBack_38 : decode cX0_payBack 38 = .ok (.putfield 51, 3) := by decide +kernel
theorem dX0_payBack_41 : decode cX0_payBack 41 = .ok (.iinc 1 1, 3) := by decide +kernel
theorem dX0_payBack_44 : decode cX0_payBack 44 = .ok (.goto (-42), 3) := by decide +kernel
theorem dX0_payBack_47 : decode cX0_payBack 47 = .ok (.return_, 1) := by decide +kernel
theorem dX0_reasonFor_0 : decode cX0_reasonFor 0 = .ok (.aload_n 0, 1) := by decide +kernel
theorem dX0_reasonFor_1 : decode cX0_reasonFor 1 = .ok (.getfield 11, 3) := by decide +kernel
theorem dX0_reasonFor_4 : decode cX0_reasonFor 4 = .ok (.iload_n 1, 1) := by decide +kernel
theorem dX0_reasonFor_5 : decode cX0_reasonFor 5 = .ok (.aaload, 1) := by decide +kernel
theorem dX0_reasonFor_6 : decode cX0_reasonFor 6 = .ok (.astore_n 2, 1) := by decide +kernel
theorem dX0_reasonFor_7 : decode cX0_reasonFor 7 = .ok (.aload_n 2, 1) := by decide +kernel
theorem dX0_reasonFor_8 : decode cX0_reasonFor 8 = .ok (.getfield 214, 3) := by decide +kernel
theorem dX0_reasonFor_11 : decode cX0_reasonFor 11 = .ok (.aload_n 0, 1) := by decide +kernel
theorem dX0_reasonFor_12 : decode cX0_reasonFor 12 = .ok (.getfield 39, 3) := by decide +kernel
theorem dX0_reasonFor_15 : decode cX0_reasonFor 15 = .ok (.invokestatic 84, 3) := by decide +kernel
theorem dX0_reasonFor_18 : decode cX0_reasonFor 18 = .ok (.iaload, 1) := by decide +kernel
theorem dX0_reasonFor_19 : decode cX0_reasonFor 19 = .ok (.ifCond .ne 5, 3) := by decide +kernel
theorem dX0_reasonFor_22 : decode cX0_reasonFor 22 = .ok (.iconst 1, 1) := by decide +kernel
theorem dX0_reasonFor_23 : decode cX0_reasonFor 23 = .ok (.ireturn, 1) := by decide +kernel
theorem dX0_reasonFor_24 : decode cX0_reasonFor 24 = .ok (.aload_n 2, 1) := by decide +kernel
theorem dX0_reasonFor_25 : decode cX0_reasonFor 25 = .ok (.aload_n 0, 1) := by decide +kernel
theorem dX0_reasonFor_26 : decode cX0_reasonFor 26 = .ok (.getfield 39, 3) := by decide +kernel
theorem dX0_reasonFor_29 : decode cX0_reasonFor 29 = .ok (.invokevirtual 201, 3) := by decide +kernel
theorem dX0_reasonFor_32 : decode cX0_reasonFor 32 = .ok (.ifCond .eq 5, 3) := by decide +kernel
theorem dX0_reasonFor_35 : decode cX0_reasonFor 35 = .ok (.iconst 2, 1) := by decide +kernel
theorem dX0_reasonFor_36 : decode cX0_reasonFor 36 = .ok (.ireturn, 1) := by decide +kernel
theorem dX0_reasonFor_37 : decode cX0_reasonFor 37 = .ok (.aload_n 0, 1) := by decide +kernel
theorem dX0_reasonFor_38 : decode cX0_reasonFor 38 = .ok (.aload_n 2, 1) := by decide +kernel
theorem dX0_reasonFor_39 : decode cX0_reasonFor 39 = .ok (.invokevirtual 194, 3) := by decide +kernel
theorem dX0_reasonFor_42 : decode cX0_reasonFor 42 = .ok (.ifCond .ne 5, 3) := by decide +kernel
theorem dX0_reasonFor_45 : decode cX0_reasonFor 45 = .ok (.iconst 3, 1) := by decide +kernel
theorem dX0_reasonFor_46 : decode cX0_reasonFor 46 = .ok (.ireturn, 1) := by decide +kernel
theorem dX0_reasonFor_47 : decode cX0_reasonFor 47 = .ok (.aload_n 0, 1) := by decide +kernel
theorem dX0_reasonFor_48 : decode cX0_reasonFor 48 = .ok (.iload_n 1, 1) := by decide +kernel
theorem dX0_reasonFor_49 : decode cX0_reasonFor 49 = .ok (.invokevirtual 217, 3) := by decide +kernel
theorem dX0_reasonFor_52 : decode cX0_reasonFor 52 = .ok (.istore_n 3, 1) := by decide +kernel
theorem dX0_reasonFor_53 : decode cX0_reasonFor 53 = .ok (.iload_n 3, 1) := by decide +kernel
theorem dX0_reasonFor_54 : decode cX0_reasonFor 54 = .ok (.ifCond .ne 5, 3) := by decide +kernel
theorem dX0_reasonFor_57 : decode cX0_reasonFor 57 = .ok (.iconst 4, 1) := by decide +kernel
theorem dX0_reasonFor_58 : decode cX0_reasonFor 58 = .ok (.ireturn, 1) := by decide +kernel
theorem dX0_reasonFor_59 : decode cX0_reasonFor 59 = .ok (.iload_n 3, 1) := by decide +kernel
theorem dX0_reasonFor_60 : decode cX0_reasonFor 60 = .ok (.aload_n 2, 1) := by decide +kernel
theorem dX0_reasonFor_61 : decode cX0_reasonFor 61 = .ok (.aload_n 0, 1) := by decide +kernel
theorem dX0_reasonFor_62 : decode cX0_reasonFor 62 = .ok (.getfield 39, 3) := by decide +kernel
theorem dX0_reasonFor_65 : decode cX0_reasonFor 65 = .ok (.invokevirtual 78, 3) := by decide +kernel
theorem dX0_reasonFor_68 : decode cX0_reasonFor 68 = .ok (.if_icmp .ge 7, 3) := by decide +kernel
theorem dX0_reasonFor_71 : decode cX0_reasonFor 71 = .ok (.iconst 5, 1) := by decide +kernel
theorem dX0_reasonFor_72 : decode cX0_reasonFor 72 = .ok (.goto 4, 3) := by decide +kernel
theorem dX0_reasonFor_75 : decode cX0_reasonFor 75 = .ok (.iconst 0, 1) := by decide +kernel
theorem dX0_reasonFor_76 : decode cX0_reasonFor 76 = .ok (.ireturn, 1) := by decide +kernel
theorem dX0_leftBefore_0 : decode cX0_leftBefore 0 = .ok (.aload_n 0, 1) := by decide +kernel
theorem dX0_leftBefore_1 : decode cX0_leftBefore 1 = .ok (.invokevirtual 174, 3) := by decide +kernel
theorem dX0_leftBefore_4 : decode cX0_leftBefore 4 = .ok (.aload_n 0, 1) := by decide +kernel
theorem dX0_leftBefore_5 : decode cX0_leftBefore 5 = .ok (.aload_n 0, 1) := by decide +kernel
theorem dX0_leftBefore_6 : decode cX0_leftBefore 6 = .ok (.invokevirtual 71, 3) := by decide +kernel
theorem dX0_leftBefore_9 : decode cX0_leftBefore 9 = .ok (.invokevirtual 177, 3) := by decide +kernel
theorem dX0_leftBefore_12 : decode cX0_leftBefore 12 = .ok (.istore_n 2, 1) := by decide +kernel
theorem dX0_leftBefore_13 : decode cX0_leftBefore 13 = .ok (.iconst 0, 1) := by decide +kernel
theorem dX0_leftBefore_14 : decode cX0_leftBefore 14 = .ok (.istore_n 3, 1) := by decide +kernel
theorem dX0_leftBefore_15 : decode cX0_leftBefore 15 = .ok (.iload_n 3, 1) := by decide +kernel
theorem dX0_leftBefore_16 : decode cX0_leftBefore 16 = .ok (.aload_n 0, 1) := by decide +kernel
theorem dX0_leftBefore_17 : decode cX0_leftBefore 17 = .ok (.getfield 35, 3) := by decide +kernel
theorem dX0_leftBefore_20 : decode cX0_leftBefore 20 = .ok (.if_icmp .ge 57, 3) := by decide +kernel
theorem dX0_leftBefore_23 : decode cX0_leftBefore 23 = .ok (.aload_n 0, 1) := by decide +kernel
theorem dX0_leftBefore_24 : decode cX0_leftBefore 24 = .ok (.getfield 28, 3) := by decide +kernel
theorem dX0_leftBefore_27 : decode cX0_leftBefore 27 = .ok (.iload_n 3, 1) := by decide +kernel
theorem dX0_leftBefore_28 : decode cX0_leftBefore 28 = .ok (.iaload, 1) := by decide +kernel
theorem dX0_leftBefore_29 : decode cX0_leftBefore 29 = .ok (.iload_n 1, 1) := by decide +kernel
theorem dX0_leftBefore_30 : decode cX0_leftBefore 30 = .ok (.if_icmp .eq 47, 3) := by decide +kernel
theorem dX0_leftBefore_33 : decode cX0_leftBefore 33 = .ok (.aload_n 0, 1) := by decide +kernel
theorem dX0_leftBefore_34 : decode cX0_leftBefore 34 = .ok (.getfield 11, 3) := by decide +kernel
theorem dX0_leftBefore_37 : decode cX0_leftBefore 37 = .ok (.aload_n 0, 1) := by decide +kernel
theorem dX0_leftBefore_38 : decode cX0_leftBefore 38 = .ok (.getfield 28, 3) := by decide +kernel
theorem dX0_leftBefore_41 : decode cX0_leftBefore 41 = .ok (.iload_n 3, 1) := by decide +kernel
theorem dX0_leftBefore_42 : decode cX0_leftBefore 42 = .ok (.iaload, 1) := by decide +kernel
theorem dX0_leftBefore_43 : decode cX0_leftBefore 43 = .ok (.aaload, 1) := by decide +kernel
theorem dX0_leftBefore_44 : decode cX0_leftBefore 44 = .ok (.astore 4, 2) := by decide +kernel
theorem dX0_leftBefore_46 : decode cX0_leftBefore 46 = .ok (.aload_n 0, 1) := by decide +kernel
theorem dX0_leftBefore_47 : decode cX0_leftBefore 47 = .ok (.aload 4, 2) := by decide +kernel
theorem dX0_leftBefore_49 : decode cX0_leftBefore 49 = .ok (.invokevirtual 194, 3) := by decide +kernel
theorem dX0_leftBefore_52 : decode cX0_leftBefore 52 = .ok (.ifCond .eq 19, 3) := by decide +kernel
theorem dX0_leftBefore_55 : decode cX0_leftBefore 55 = .ok (.iload_n 2, 1) := by decide +kernel
theorem dX0_leftBefore_56 : decode cX0_leftBefore 56 = .ok (.iload_n 2, 1) := by decide +kernel
theorem dX0_leftBefore_57 : decode cX0_leftBefore 57 = .ok (.aload 4, 2) := by decide +kernel
theorem dX0_leftBefore_59 : decode cX0_leftBefore 59 = .ok (.aload_n 0, 1) := by decide +kernel
theorem dX0_leftBefore_60 : decode cX0_leftBefore 60 = .ok (.getfield 39, 3) := by decide +kernel
theorem dX0_leftBefore_63 : decode cX0_leftBefore 63 = .ok (.invokevirtual 78, 3) := by decide +kernel
theorem dX0_leftBefore_66 : decode cX0_leftBefore 66 = .ok (.invokestatic 189, 3) := by decide +kernel
theorem dX0_leftBefore_69 : decode cX0_leftBefore 69 = .ok (.isub, 1) := by decide +kernel
theorem dX0_leftBefore_70 : decode cX0_leftBefore 70 = .ok (.istore_n 2, 1) := by decide +kernel
theorem dX0_leftBefore_71 : decode cX0_leftBefore 71 = .ok (.iinc 3 1, 3) := by decide +kernel
theorem dX0_leftBefore_74 : decode cX0_leftBefore 74 = .ok (.goto (-59), 3) := by decide +kernel
theorem dX0_leftBefore_77 : decode cX0_leftBefore 77 = .ok (.iload_n 2, 1) := by decide +kernel
theorem dX0_leftBefore_78 : decode cX0_leftBefore 78 = .ok (.ireturn, 1) := by decide +kernel
end
section
theorem dX1_init_0 : decode cX1_init 0 = .ok (.aload_n 0, 1) := by decide +kernel
theorem dX1_init_1 : decode cX1_init 1 = .ok (.invokespecial 3, 3) := by decide +kernel
theorem dX1_init_4 : decode cX1_init 4 = .ok (.aload_n 0, 1) := by decide +kernel
theorem dX1_init_5 : decode cX1_init 5 = .ok (.bipush 7, 2) := by decide +kernel
theorem dX1_init_7 : decode cX1_init 7 = .ok (.newarray .int, 2) := by decide +kernel
theorem dX1_init_9 : decode cX1_init 9 = .ok (.putfield 9, 3) := by decide +kernel
theorem dX1_init_12 : decode cX1_init 12 = .ok (.aload_n 0, 1) := by decide +kernel
theorem dX1_init_13 : decode cX1_init 13 = .ok (.iconst 3, 1) := by decide +kernel
theorem dX1_init_14 : decode cX1_init 14 = .ok (.newarray .int, 2) := by decide +kernel
theorem dX1_init_16 : decode cX1_init 16 = .ok (.putfield 15, 3) := by decide +kernel
theorem dX1_init_19 : decode cX1_init 19 = .ok (.aload_n 0, 1) := by decide +kernel
theorem dX1_init_20 : decode cX1_init 20 = .ok (.iconst 3, 1) := by decide +kernel
theorem dX1_init_21 : decode cX1_init 21 = .ok (.newarray .int, 2) := by decide +kernel
theorem dX1_init_23 : decode cX1_init 23 = .ok (.putfield 18, 3) := by decide +kernel
theorem dX1_init_26 : decode cX1_init 26 = .ok (.return_, 1) := by decide +kernel
theorem dX1_start_0 : decode cX1_start 0 = .ok (.aload_n 0, 1) := by decide +kernel
theorem dX1_start_1 : decode cX1_start 1 = .ok (.iload_n 1, 1) := by decide +kernel
theorem dX1_start_2 : decode cX1_start 2 = .ok (.putfield 21, 3) := by decide +kernel
theorem dX1_start_5 : decode cX1_start 5 = .ok (.aload_n 0, 1) := by decide +kernel
theorem dX1_start_6 : decode cX1_start 6 = .ok (.iconst 0, 1) := by decide +kernel
theorem dX1_start_7 : decode cX1_start 7 = .ok (.putfield 25, 3) := by decide +kernel
theorem dX1_start_10 : decode cX1_start 10 = .ok (.aload_n 0, 1) := by decide +kernel
theorem dX1_start_11 : decode cX1_start 11 = .ok (.iconst 0, 1) := by decide +kernel
theorem dX1_start_12 : decode cX1_start 12 = .ok (.putfield 28, 3) := by decide +kernel
theorem dX1_start_15 : decode cX1_start 15 = .ok (.aload_n 0, 1) := by decide +kernel
theorem dX1_start_16 : decode cX1_start 16 = .ok (.iconst 0, 1) := by decide +kernel
theorem dX1_start_17 : decode cX1_start 17 = .ok (.putfield 31, 3) := by decide +kernel
theorem dX1_start_20 : decode cX1_start 20 = .ok (.aload_n 0, 1) := by decide +kernel
theorem dX1_start_21 : decode cX1_start 21 = .ok (.iconst 0, 1) := by decide +kernel
theorem dX1_start_22 : decode cX1_start 22 = .ok (.putfield 34, 3) := by decide +kernel
theorem dX1_start_25 : decode cX1_start 25 = .ok (.aload_n 0, 1) := by decide +kernel
theorem dX1_start_26 : decode cX1_start 26 = .ok (.iconst 0, 1) := by decide +kernel
theorem dX1_start_27 : decode cX1_start 27 = .ok (.putfield 37, 3) := by decide +kernel
theorem dX1_start_30 : decode cX1_start 30 = .ok (.aload_n 0, 1) := by decide +kernel
theorem dX1_start_31 : decode cX1_start 31 = .ok (.iconst 0, 1) := by decide +kernel
theorem dX1_start_32 : decode cX1_start 32 = .ok (.putfield 40, 3) := by decide +kernel
theorem dX1_start_35 : decode cX1_start 35 = .ok (.aload_n 0, 1) := by decide +kernel
theorem dX1_start_36 : decode cX1_start 36 = .ok (.iconst 0, 1) := by decide +kernel
theorem dX1_start_37 : decode cX1_start 37 = .ok (.putfield 43, 3) := by decide +kernel
theorem dX1_start_40 : decode cX1_start 40 = .ok (.iload_n 2, 1) := by decide +kernel
theorem dX1_start_41 : decode cX1_start 41 = .ok (.istore_n 3, 1) := by decide +kernel
theorem dX1_start_42 : decode cX1_start 42 = .ok (.bipush 6, 2) := by decide +kernel
theorem dX1_start_44 : decode cX1_start 44 = .ok (.istore 4, 2) := by decide +kernel
theorem dX1_start_46 : decode cX1_start 46 = .ok (.iload 4, 2) := by decide +kernel
theorem dX1_start_48 : decode cX1_start 48 = .ok (.ifCond .lt 25, 3) := by decide +kernel
theorem dX1_start_51 : decode cX1_start 51 = .ok (.aload_n 0, 1) := by decide +kernel
theorem dX1_start_52 : decode cX1_start 52 = .ok (.getfield 9, 3) := by decide +kernel
theorem dX1_start_55 : decode cX1_start 55 = .ok (.iload 4, 2) := by decide +kernel
theorem dX1_start_57 : decode cX1_start 57 = .ok (.iload_n 3, 1) := by decide +kernel
theorem dX1_start_58 : decode cX1_start 58 = .ok (.bipush 10, 2) := by decide +kernel
theorem dX1_start_60 : decode cX1_start 60 = .ok (.irem, 1) := by decide +kernel
theorem dX1_start_61 : decode cX1_start 61 = .ok (.iastore, 1) := by decide +kernel
theorem dX1_start_62 : decode cX1_start 62 = .ok (.iload_n 3, 1) := by decide +kernel
theorem dX1_start_63 : decode cX1_start 63 = .ok (.bipush 10, 2) := by decide +kernel
theorem dX1_start_65 : decode cX1_start 65 = .ok (.idiv, 1) := by decide +kernel
theorem dX1_start_66 : decode cX1_start 66 = .ok (.istore_n 3, 1) := by decide +kernel
theorem dX1_start_67 : decode cX1_start 67 = .ok (.iinc 4 (-1), 3) := by decide +kernel
theorem dX1_start_70 : decode cX1_start 70 = .ok (.goto (-24), 3) := by decide +kernel
theorem dX1_start_73 : decode cX1_start 73 = .ok (.return_, 1) := by decide +kernel
theorem dX1_copyFrom_0 : decode cX1_copyFrom 0 = .ok (.aload_n 0, 1) := by decide +kernel
theorem dX1_copyFrom_1 : decode cX1_copyFrom 1 = .ok (.aload_n 1, 1) := by decide +kernel
theorem dX1_copyFrom_2 : decode cX1_copyFrom 2 = .ok (.getfield 21, 3) := by decide +kernel
theorem dX1_copyFrom_5 : decode cX1_copyFrom 5 = .ok (.putfield 21, 3) := by decide +kernel
theorem dX1_copyFrom_8 : decode cX1_copyFrom 8 = .ok (.aload_n 0, 1) := by decide +kernel
theorem dX1_copyFrom_9 : decode cX1_copyFrom 9 = .ok (.aload_n 1, 1) := by decide +kernel
theorem dX1_copyFrom_10 : decode cX1_copyFrom 10 = .ok (.getfield 25, 3) := by decide +kernel
theorem dX1_copyFrom_13 : decode cX1_copyFrom 13 = .ok (.putfield 25, 3) := by decide +kernel
theorem dX1_copyFrom_16 : decode cX1_copyFrom 16 = .ok (.aload_n 0, 1) := by decide +kernel
theorem dX1_copyFrom_17 : decode cX1_copyFrom 17 = .ok (.aload_n 1, 1) := by decide +kernel
theorem dX1_copyFrom_18 : decode cX1_copyFrom 18 = .ok (.getfield 28, 3) := by decide +kernel
theorem dX1_copyFrom_21 : decode cX1_copyFrom 21 = .ok (.putfield 28, 3) := by decide +kernel
theorem dX1_copyFrom_24 : decode cX1_copyFrom 24 = .ok (.aload_n 0, 1) := by decide +kernel
theorem dX1_copyFrom_25 : decode cX1_copyFrom 25 = .ok (.aload_n 1, 1) := by decide +kernel
theorem dX1_copyFrom_26 : decode cX1_copyFrom 26 = .ok (.getfield 31, 3) := by decide +kernel
theorem dX1_copyFrom_29 : decode cX1_copyFrom 29 = .ok (.putfield 31, 3) := by decide +kernel
theorem dX1_copyFrom_32 : decode cX1_copyFrom 32 = .ok (.aload_n 0, 1) := by decide +kernel
theorem dX1_copyFrom_33 : decode cX1_copyFrom 33 = .ok (.aload_n 1, 1) := by decide +kernel
theorem dX1_copyFrom_34 : decode cX1_copyFrom 34 = .ok (.getfield 34, 3) := by decide +kernel
theorem dX1_copyFrom_37 : decode cX1_copyFrom 37 = .ok (.putfield 34, 3) := by decide +kernel
theorem dX1_copyFrom_40 : decode cX1_copyFrom 40 = .ok (.aload_n 0, 1) := by decide +kernel
theorem dX1_copyFrom_41 : decode cX1_copyFrom 41 = .ok (.aload_n 1, 1) := by decide +kernel
theorem dX1_copyFrom_42 : decode cX1_copyFrom 42 = .ok (.getfield 37, 3) := by decide +kernel
theorem dX1_copyFrom_45 : decode cX1_copyFrom 45 = .ok (.putfield 37, 3) := by decide +kernel
theorem dX1_copyFrom_48 : decode cX1_copyFrom 48 = .ok (.aload_n 0, 1) := by decide +kernel
theorem dX1_copyFrom_49 : decode cX1_copyFrom 49 = .ok (.aload_n 1, 1) := by decide +kernel
theorem dX1_copyFrom_50 : decode cX1_copyFrom 50 = .ok (.getfield 40, 3) := by decide +kernel
theorem dX1_copyFrom_53 : decode cX1_copyFrom 53 = .ok (.putfield 40, 3) := by decide +kernel
theorem dX1_copyFrom_56 : decode cX1_copyFrom 56 = .ok (.aload_n 0, 1) := by decide +kernel
theorem dX1_copyFrom_57 : decode cX1_copyFrom 57 = .ok (.aload_n 1, 1) := by decide +kernel
theorem dX1_copyFrom_58 : decode cX1_copyFrom 58 = .ok (.getfield 43, 3) := by decide +kernel
theorem dX1_copyFrom_61 : decode cX1_copyFrom 61 = .ok (.putfield 43, 3) := by decide +kernel
theorem dX1_copyFrom_64 : decode cX1_copyFrom 64 = .ok (.aload_n 1, 1) := by decide +kernel
theorem dX1_copyFrom_65 : decode cX1_copyFrom 65 = .ok (.getfield 9, 3) := by decide +kernel
theorem dX1_copyFrom_68 : decode cX1_copyFrom 68 = .ok (.iconst 0, 1) := by decide +kernel
theorem dX1_copyFrom_69 : decode cX1_copyFrom 69 = .ok (.aload_n 0, 1) := by decide +kernel
theorem dX1_copyFrom_70 : decode cX1_copyFrom 70 = .ok (.getfield 9, 3) := by decide +kernel
theorem dX1_copyFrom_73 : decode cX1_copyFrom 73 = .ok (.iconst 0, 1) := by decide +kernel
theorem dX1_copyFrom_74 : decode cX1_copyFrom 74 = .ok (.bipush 7, 2) := by decide +kernel
theorem dX1_copyFrom_76 : decode cX1_copyFrom 76 = .ok (.invokestatic 46, 3) := by decide +kernel
theorem dX1_copyFrom_79 : decode cX1_copyFrom 79 = .ok (.aload_n 1, 1) := by decide +kernel
theorem dX1_copyFrom_80 : decode cX1_copyFrom 80 = .ok (.getfield 15, 3) := by decide +kernel
theorem dX1_copyFrom_83 : decode cX1_copyFrom 83 = .ok (.iconst 0, 1) := by decide +kernel
theorem dX1_copyFrom_84 : decode cX1_copyFrom 84 = .ok (.aload_n 0, 1) := by decide +kernel
theorem dX1_copyFrom_85 : decode cX1_copyFrom 85 = .ok (.getfield 15, 3) := by decide +kernel
theorem dX1_copyFrom_88 : decode cX1_copyFrom 88 = .ok (.iconst 0, 1) := by decide +kernel
theorem dX1_copyFrom_89 : decode cX1_copyFrom 89 = .ok (.iconst 3, 1) := by decide +kernel
theorem dX1_copyFrom_90 : decode cX1_copyFrom 90 = .ok (.invokestatic 46, 3) := by decide +kernel
theorem dX1_copyFrom_93 : decode cX1_copyFrom 93 = .ok (.aload_n 1, 1) := by decide +kernel
theorem dX1_copyFrom_94 : decode cX1_copyFrom 94 = .ok (.getfield 18, 3) := by decide +kernel
theorem dX1_copyFrom_97 : decode cX1_copyFrom 97 = .ok (.iconst 0, 1) := by decide +kernel
theorem dX1_copyFrom_98 : decode cX1_copyFrom 98 = .ok (.aload_n 0, 1) := by decide +kernel
theorem dX1_copyFrom_99 : decode cX1_copyFrom 99 = .ok (.getfield 18, 3) := by decide +kernel
theorem dX1_copyFrom_102 : decode cX1_copyFrom 102 = .ok (.iconst 0, 1) := by decide +kernel
theorem dX1_copyFrom_103 : decode cX1_copyFrom 103 = .ok (.iconst 3, 1) := by decide +kernel
theorem dX1_copyFrom_104 : decode cX1_copyFrom 104 = .ok (.invokestatic 46, 3) := by decide +kernel
theorem dX1_copyFrom_107 : decode cX1_copyFrom 107 = .ok (.return_, 1) := by decide +kernel
theorem dX1_numberOf_0 : decode cX1_numberOf 0 = .ok (.iload_n 1, 1) := by decide +kernel
theorem dX1_numberOf_1 : decode cX1_numberOf 1 = .ok (.tableswitch 87 0 7 #[47, 52, 57, 62, 67, 72, 77, 82], 47) := by decide +kernel
theorem dX1_numberOf_48 : decode cX1_numberOf 48 = .ok (.aload_n 0, 1) := by decide +kernel
theorem dX1_numberOf_49 : decode cX1_numberOf 49 = .ok (.getfield 21, 3) := by decide +kernel
theorem dX1_numberOf_52 : decode cX1_numberOf 52 = .ok (.ireturn, 1) := by decide +kernel
theorem dX1_numberOf_53 : decode cX1_numberOf 53 = .ok (.aload_n 0, 1) := by decide +kernel
theorem dX1_numberOf_54 : decode cX1_numberOf 54 = .ok (.invokevirtual 52, 3) := by decide +kernel
theorem dX1_numberOf_57 : decode cX1_numberOf 57 = .ok (.ireturn, 1) := by decide +kernel
theorem dX1_numberOf_58 : decode cX1_numberOf 58 = .ok (.aload_n 0, 1) := by decide +kernel
theorem dX1_numberOf_59 : decode cX1_numberOf 59 = .ok (.getfield 25, 3) := by decide +kernel
theorem dX1_numberOf_62 : decode cX1_numberOf 62 = .ok (.ireturn, 1) := by decide +kernel
theorem dX1_numberOf_63 : decode cX1_numberOf 63 = .ok (.aload_n 0, 1) := by decide +kernel
theorem dX1_numberOf_64 : decode cX1_numberOf 64 = .ok (.getfield 28, 3) := by decide +kernel
theorem dX1_numberOf_67 : decode cX1_numberOf 67 = .ok (.ireturn, 1) := by decide +kernel
theorem dX1_numberOf_68 : decode cX1_numberOf 68 = .ok (.aload_n 0, 1) := by decide +kernel
theorem dX1_numberOf_69 : decode cX1_numberOf 69 = .ok (.getfield 31, 3) := by decide +kernel
theorem dX1_numberOf_72 : decode cX1_numberOf 72 = .ok (.ireturn, 1) := by decide +kernel
theorem dX1_numberOf_73 : decode cX1_numberOf 73 = .ok (.aload_n 0, 1) := by decide +kernel
theorem dX1_numberOf_74 : decode cX1_numberOf 74 = .ok (.getfield 34, 3) := by decide +kernel
theorem dX1_numberOf_77 : decode cX1_numberOf 77 = .ok (.ireturn, 1) := by decide +kernel
theorem dX1_numberOf_78 : decode cX1_numberOf 78 = .ok (.aload_n 0, 1) := by decide +kernel
theorem dX1_numberOf_79 : decode cX1_numberOf 79 = .ok (.getfield 37, 3) := by decide +kernel
theorem dX1_numberOf_82 : decode cX1_numberOf 82 = .ok (.ireturn, 1) := by decide +kernel
theorem dX1_numberOf_83 : decode cX1_numberOf 83 = .ok (.aload_n 0, 1) := by decide +kernel
theorem dX1_numberOf_84 : decode cX1_numberOf 84 = .ok (.getfield 40, 3) := by decide +kernel
theorem dX1_numberOf_87 : decode cX1_numberOf 87 = .ok (.ireturn, 1) := by decide +kernel
theorem dX1_numberOf_88 : decode cX1_numberOf 88 = .ok (.aload_n 0, 1) := by decide +kernel
theorem dX1_numberOf_89 : decode cX1_numberOf 89 = .ok (.getfield 43, 3) := by decide +kernel
theorem dX1_numberOf_92 : decode cX1_numberOf 92 = .ok (.ireturn, 1) := by decide +kernel
theorem dX1_loavesAWeek_0 : decode cX1_loavesAWeek 0 = .ok (.iconst 0, 1) := by decide +kernel
theorem dX1_loavesAWeek_1 : decode cX1_loavesAWeek 1 = .ok (.istore_n 1, 1) := by decide +kernel
theorem dX1_loavesAWeek_2 : decode cX1_loavesAWeek 2 = .ok (.iconst 0, 1) := by decide +kernel
theorem dX1_loavesAWeek_3 : decode cX1_loavesAWeek 3 = .ok (.istore_n 2, 1) := by decide +kernel
theorem dX1_loavesAWeek_4 : decode cX1_loavesAWeek 4 = .ok (.iload_n 2, 1) := by decide +kernel
theorem dX1_loavesAWeek_5 : decode cX1_loavesAWeek 5 = .ok (.bipush 7, 2) := by decide +kernel
theorem dX1_loavesAWeek_7 : decode cX1_loavesAWeek 7 = .ok (.if_icmp .ge 18, 3) := by decide +kernel
theorem dX1_loavesAWeek_10 : decode cX1_loavesAWeek 10 = .ok (.iload_n 1, 1) := by decide +kernel
theorem dX1_loavesAWeek_11 : decode cX1_loavesAWeek 11 = .ok (.aload_n 0, 1) := by decide +kernel
theorem dX1_loavesAWeek_12 : decode cX1_loavesAWeek 12 = .ok (.getfield 9, 3) := by decide +kernel
theorem dX1_loavesAWeek_15 : decode cX1_loavesAWeek 15 = .ok (.iload_n 2, 1) := by decide +kernel
theorem dX1_loavesAWeek_16 : decode cX1_loavesAWeek 16 = .ok (.iaload, 1) := by decide +kernel
theorem dX1_loavesAWeek_17 : decode cX1_loavesAWeek 17 = .ok (.iadd, 1) := by decide +kernel
theorem dX1_loavesAWeek_18 : decode cX1_loavesAWeek 18 = .ok (.istore_n 1, 1) := by decide +kernel
theorem dX1_loavesAWeek_19 : decode cX1_loavesAWeek 19 = .ok (.iinc 2 1, 3) := by decide +kernel
theorem dX1_loavesAWeek_22 : decode cX1_loavesAWeek 22 = .ok (.goto (-18), 3) := by decide +kernel
theorem dX1_loavesAWeek_25 : decode cX1_loavesAWeek 25 = .ok (.iload_n 1, 1) := by decide +kernel
theorem dX1_loavesAWeek_26 : decode cX1_loavesAWeek 26 = .ok (.ireturn, 1) := by decide +kernel
theorem dX1_putLoaves_0 : decode cX1_putLoaves 0 = .ok (.aload_n 0, 1) := by decide +kernel
theorem dX1_putLoaves_1 : decode cX1_putLoaves 1 = .ok (.getfield 9, 3) := by decide +kernel
theorem dX1_putLoaves_4 : decode cX1_putLoaves 4 = .ok (.iload_n 1, 1) := by decide +kernel
theorem dX1_putLoaves_5 : decode cX1_putLoaves 5 = .ok (.iaload, 1) := by decide +kernel
theorem dX1_putLoaves_6 : decode cX1_putLoaves 6 = .ok (.istore_n 3, 1) := by decide +kernel
theorem dX1_putLoaves_7 : decode cX1_putLoaves 7 = .ok (.aload_n 0, 1) := by decide +kernel
theorem dX1_putLoaves_8 : decode cX1_putLoaves 8 = .ok (.getfield 9, 3) := by decide +kernel
theorem dX1_putLoaves_11 : decode cX1_putLoaves 11 = .ok (.iload_n 1, 1) := by decide +kernel
theorem dX1_putLoaves_12 : decode cX1_putLoaves 12 = .ok (.iload_n 2, 1) := by decide +kernel
theorem dX1_putLoaves_13 : decode cX1_putLoaves 13 = .ok (.iastore, 1) := by decide +kernel
theorem dX1_putLoaves_14 : decode cX1_putLoaves 14 = .ok (.iload_n 3, 1) := by decide +kernel
theorem dX1_putLoaves_15 : decode cX1_putLoaves 15 = .ok (.ireturn, 1) := by decide +kernel
theorem dX1_addHoliday_0 : decode cX1_addHoliday 0 = .ok (.aload_n 0, 1) := by decide +kernel
theorem dX1_addHoliday_1 : decode cX1_addHoliday 1 = .ok (.getfield 15, 3) := by decide +kernel
theorem dX1_addHoliday_4 : decode cX1_addHoliday 4 = .ok (.aload_n 0, 1) := by decide +kernel
theorem dX1_addHoliday_5 : decode cX1_addHoliday 5 = .ok (.getfield 43, 3) := by decide +kernel
theorem dX1_addHoliday_8 : decode cX1_addHoliday 8 = .ok (.iload_n 1, 1) := by decide +kernel
theorem dX1_addHoliday_9 : decode cX1_addHoliday 9 = .ok (.iastore, 1) := by decide +kernel
theorem dX1_addHoliday_10 : decode cX1_addHoliday 10 = .ok (.aload_n 0, 1) := by decide +kernel
theorem dX1_addHoliday_11 : decode cX1_addHoliday 11 = .ok (.getfield 18, 3) := by decide +kernel
theorem dX1_addHoliday_14 : decode cX1_addHoliday 14 = .ok (.aload_n 0, 1) := by decide +kernel
theorem dX1_addHoliday_15 : decode cX1_addHoliday 15 = .ok (.getfield 43, 3) := by decide +kernel
theorem dX1_addHoliday_18 : decode cX1_addHoliday 18 = .ok (.iload_n 2, 1) := by decide +kernel
theorem dX1_addHoliday_19 : decode cX1_addHoliday 19 = .ok (.iastore, 1) := by decide +kernel
theorem dX1_addHoliday_20 : decode cX1_addHoliday 20 = .ok (.aload_n 0, 1) := by decide +kernel
theorem dX1_addHoliday_21 : decode cX1_addHoliday 21 = .ok (.dup, 1) := by decide +kernel
theorem dX1_addHoliday_22 : decode cX1_addHoliday 22 = .ok (.getfield 43, 3) := by decide +kernel
theorem dX1_addHoliday_25 : decode cX1_addHoliday 25 = .ok (.iconst 1, 1) := by decide +kernel
theorem dX1_addHoliday_26 : decode cX1_addHoliday 26 = .ok (.iadd, 1) := by decide +kernel
theorem dX1_addHoliday_27 : decode cX1_addHoliday 27 = .ok (.putfield 43, 3) := by decide +kernel
theorem dX1_addHoliday_30 : decode cX1_addHoliday 30 = .ok (.aload_n 0, 1) := by decide +kernel
theorem dX1_addHoliday_31 : decode cX1_addHoliday 31 = .ok (.getfield 43, 3) := by decide +kernel
theorem dX1_addHoliday_34 : decode cX1_addHoliday 34 = .ok (.ireturn, 1) := by decide +kernel
theorem dX1_dropHoliday_0 : decode cX1_dropHoliday 0 = .ok (.iload_n 1, 1) := by decide +kernel
theorem dX1_dropHoliday_1 : decode cX1_dropHoliday 1 = .ok (.istore_n 2, 1) := by decide +kernel
theorem dX1_dropHoliday_2 : decode cX1_dropHoliday 2 = .ok (.iload_n 2, 1) := by decide +kernel
theorem dX1_dropHoliday_3 : decode cX1_dropHoliday 3 = .ok (.iconst 1, 1) := by decide +kernel
theorem dX1_dropHoliday_4 : decode cX1_dropHoliday 4 = .ok (.iadd, 1) := by decide +kernel
theorem dX1_dropHoliday_5 : decode cX1_dropHoliday 5 = .ok (.aload_n 0, 1) := by decide +kernel
theorem dX1_dropHoliday_6 : decode cX1_dropHoliday 6 = .ok (.getfield 43, 3) := by decide +kernel
theorem dX1_dropHoliday_9 : decode cX1_dropHoliday 9 = .ok (.if_icmp .ge 37, 3) := by decide +kernel
theorem dX1_dropHoliday_12 : decode cX1_dropHoliday 12 = .ok (.aload_n 0, 1) := by decide +kernel
theorem dX1_dropHoliday_13 : decode cX1_dropHoliday 13 = .ok (.getfield 15, 3) := by decide +kernel
theorem dX1_dropHoliday_16 : decode cX1_dropHoliday 16 = .ok (.iload_n 2, 1) := by decide +kernel
theorem dX1_dropHoliday_17 : decode cX1_dropHoliday 17 = .ok (.aload_n 0, 1) := by decide +kernel
theorem dX1_dropHoliday_18 : decode cX1_dropHoliday 18 = .ok (.getfield 15, 3) := by decide +kernel
theorem dX1_dropHoliday_21 : decode cX1_dropHoliday 21 = .ok (.iload_n 2, 1) := by decide +kernel
theorem dX1_dropHoliday_22 : decode cX1_dropHoliday 22 = .ok (.iconst 1, 1) := by decide +kernel
theorem dX1_dropHoliday_23 : decode cX1_dropHoliday 23 = .ok (.iadd, 1) := by decide +kernel
theorem dX1_dropHoliday_24 : decode cX1_dropHoliday 24 = .ok (.iaload, 1) := by decide +kernel
theorem dX1_dropHoliday_25 : decode cX1_dropHoliday 25 = .ok (.iastore, 1) := by decide +kernel
theorem dX1_dropHoliday_26 : decode cX1_dropHoliday 26 = .ok (.aload_n 0, 1) := by decide +kernel
theorem dX1_dropHoliday_27 : decode cX1_dropHoliday 27 = .ok (.getfield 18, 3) := by decide +kernel
theorem dX1_dropHoliday_30 : decode cX1_dropHoliday 30 = .ok (.iload_n 2, 1) := by decide +kernel
theorem dX1_dropHoliday_31 : decode cX1_dropHoliday 31 = .ok (.aload_n 0, 1) := by decide +kernel
theorem dX1_dropHoliday_32 : decode cX1_dropHoliday 32 = .ok (.getfield 18, 3) := by decide +kernel
theorem dX1_dropHoliday_35 : decode cX1_dropHoliday 35 = .ok (.iload_n 2, 1) := by decide +kernel
theorem dX1_dropHoliday_36 : decode cX1_dropHoliday 36 = .ok (.iconst 1, 1) := by decide +kernel
theorem dX1_dropHoliday_37 : decode cX1_dropHoliday 37 = .ok (.iadd, 1) := by decide +kernel
theorem dX1_dropHoliday_38 : decode cX1_dropHoliday 38 = .ok (.iaload, 1) := by decide +kernel
theorem dX1_dropHoliday_39 : decode cX1_dropHoliday 39 = .ok (.iastore, 1) := by decide +kernel
theorem dX1_dropHoliday_40 : decode cX1_dropHoliday 40 = .ok (.iinc 2 1, 3) := by decide +kernel
theorem dX1_dropHoliday_43 : decode cX1_dropHoliday 43 = .ok (.goto (-41), 3) := by decide +kernel
theorem dX1_dropHoliday_46 : decode cX1_dropHoliday 46 = .ok (.aload_n 0, 1) := by decide +kernel
theorem dX1_dropHoliday_47 : decode cX1_dropHoliday 47 = .ok (.dup, 1) := by decide +kernel
theorem dX1_dropHoliday_48 : decode cX1_dropHoliday 48 = .ok (.getfield 43, 3) := by decide +kernel
theorem dX1_dropHoliday_51 : decode cX1_dropHoliday 51 = .ok (.iconst 1, 1) := by decide +kernel
theorem dX1_dropHoliday_52 : decode cX1_dropHoliday 52 = .ok (.isub, 1) := by decide +kernel
theorem dX1_dropHoliday_53 : decode cX1_dropHoliday 53 = .ok (.putfield 43, 3) := by decide +kernel
theorem dX1_dropHoliday_56 : decode cX1_dropHoliday 56 = .ok (.aload_n 0, 1) := by decide +kernel
theorem dX1_dropHoliday_57 : decode cX1_dropHoliday 57 = .ok (.getfield 43, 3) := by decide +kernel
theorem dX1_dropHoliday_60 : decode cX1_dropHoliday 60 = .ok (.ireturn, 1) := by decide +kernel
theorem dX1_isAwayOn_0 : decode cX1_isAwayOn 0 = .ok (.aload_n 0, 1) := by decide +kernel
theorem dX1_isAwayOn_1 : decode cX1_isAwayOn 1 = .ok (.iload_n 1, 1) := by decide +kernel
theorem dX1_isAwayOn_2 : decode cX1_isAwayOn 2 = .ok (.aload_n 0, 1) := by decide +kernel
theorem dX1_isAwayOn_3 : decode cX1_isAwayOn 3 = .ok (.getfield 43, 3) := by decide +kernel
theorem dX1_isAwayOn_6 : decode cX1_isAwayOn 6 = .ok (.invokevirtual 56, 3) := by decide +kernel
theorem dX1_isAwayOn_9 : decode cX1_isAwayOn 9 = .ok (.ireturn, 1) := by decide +kernel
theorem dX1_isInFirstHolidays_0 : decode cX1_isInFirstHolidays 0 = .ok (.iconst 0, 1) := by decide +kernel
theorem dX1_isInFirstHolidays_1 : decode cX1_isInFirstHolidays 1 = .ok (.istore_n 3, 1) := by decide +kernel
theorem dX1_isInFirstHolidays_2 : decode cX1_isInFirstHolidays 2 = .ok (.iload_n 3, 1) := by decide +kernel
theorem dX1_isInFirstHolidays_3 : decode cX1_isInFirstHolidays 3 = .ok (.iload_n 2, 1) := by decide +kernel
theorem dX1_isInFirstHolidays_4 : decode cX1_isInFirstHolidays 4 = .ok (.if_icmp .ge 31, 3) := by decide +kernel
theorem dX1_isInFirstHolidays_7 : decode cX1_isInFirstHolidays 7 = .ok (.iload_n 1, 1) := by decide +kernel
theorem dX1_isInFirstHolidays_8 : decode cX1_isInFirstHolidays 8 = .ok (.aload_n 0, 1) := by decide +kernel
theorem dX1_isInFirstHolidays_9 : decode cX1_isInFirstHolidays 9 = .ok (.getfield 15, 3) := by decide +kernel
theorem dX1_isInFirstHolidays_12 : decode cX1_isInFirstHolidays 12 = .ok (.iload_n 3, 1) := by decide +kernel
theorem dX1_isInFirstHolidays_13 : decode cX1_isInFirstHolidays 13 = .ok (.iaload, 1) := by decide +kernel
theorem dX1_isInFirstHolidays_14 : decode cX1_isInFirstHolidays 14 = .ok (.if_icmp .lt 15, 3) := by decide +kernel
theorem dX1_isInFirstHolidays_17 : decode cX1_isInFirstHolidays 17 = .ok (.iload_n 1, 1) := by decide +kernel
theorem dX1_isInFirstHolidays_18 : decode cX1_isInFirstHolidays 18 = .ok (.aload_n 0, 1) := by decide +kernel
theorem dX1_isInFirstHolidays_19 : decode cX1_isInFirstHolidays 19 = .ok (.getfield 18, 3) := by decide +kernel
theorem dX1_isInFirstHolidays_22 : decode cX1_isInFirstHolidays 22 = .ok (.iload_n 3, 1) := by decide +kernel
theorem dX1_isInFirstHolidays_23 : decode cX1_isInFirstHolidays 23 = .ok (.iaload, 1) := by decide +kernel
theorem dX1_isInFirstHolidays_24 : decode cX1_isInFirstHolidays 24 = .ok (.if_icmp .gt 5, 3) := by decide +kernel
theorem dX1_isInFirstHolidays_27 : decode cX1_isInFirstHolidays 27 = .ok (.iconst 1, 1) := by decide +kernel
theorem dX1_isInFirstHolidays_28 : decode cX1_isInFirstHolidays 28 = .ok (.ireturn, 1) := by decide +kernel
theorem dX1_isInFirstHolidays_29 : decode cX1_isInFirstHolidays 29 = .ok (.iinc 3 1, 3) := by decide +kernel
theorem dX1_isInFirstHolidays_32 : decode cX1_isInFirstHolidays 32 = .ok (.goto (-30), 3) := by decide +kernel
theorem dX1_isInFirstHolidays_35 : decode cX1_isInFirstHolidays 35 = .ok (.iconst 0, 1) := by decide +kernel
theorem dX1_isInFirstHolidays_36 : decode cX1_isInFirstHolidays 36 = .ok (.ireturn, 1) := by decide +kernel
theorem dX1_dueOn_0 : decode cX1_dueOn 0 = .ok (.aload_n 0, 1) := by decide +kernel
theorem dX1_dueOn_1 : decode cX1_dueOn 1 = .ok (.iload_n 1, 1) := by decide +kernel
theorem dX1_dueOn_2 : decode cX1_dueOn 2 = .ok (.aload_n 0, 1) := by decide +kernel
theorem dX1_dueOn_3 : decode cX1_dueOn 3 = .ok (.getfield 43, 3) := by decide +kernel
theorem dX1_dueOn_6 : decode cX1_dueOn 6 = .ok (.invokevirtual 56, 3) := by decide +kernel
theorem dX1_dueOn_9 : decode cX1_dueOn 9 = .ok (.ifCond .eq 7, 3) := by decide +kernel
theorem dX1_dueOn_12 : decode cX1_dueOn 12 = .ok (.iconst 0, 1) := by decide +kernel
theorem dX1_dueOn_13 : decode cX1_dueOn 13 = .ok (.goto 12, 3) := by decide +kernel
theorem dX1_dueOn_16 : decode cX1_dueOn 16 = .ok (.aload_n 0, 1) := by decide +kernel
theorem dX1_dueOn_17 : decode cX1_dueOn 17 = .ok (.getfield 9, 3) := by decide +kernel
theorem dX1_dueOn_20 : decode cX1_dueOn 20 = .ok (.iload_n 1, 1) := by decide +kernel
theorem dX1_dueOn_21 : decode cX1_dueOn 21 = .ok (.invokestatic 60, 3) := by decide +kernel
theorem dX1_dueOn_24 : decode cX1_dueOn 24 = .ok (.iaload, 1) := by decide +kernel
theorem dX1_dueOn_25 : decode cX1_dueOn 25 = .ok (.ireturn, 1) := by decide +kernel
theorem dX1_nextDueDay_0 : decode cX1_nextDueDay 0 = .ok (.iload_n 1, 1) := by decide +kernel
theorem dX1_nextDueDay_1 : decode cX1_nextDueDay 1 = .ok (.istore_n 2, 1) := by decide +kernel
theorem dX1_nextDueDay_2 : decode cX1_nextDueDay 2 = .ok (.iload_n 2, 1) := by decide +kernel
theorem dX1_nextDueDay_3 : decode cX1_nextDueDay 3 = .ok (.iload_n 1, 1) := by decide +kernel
theorem dX1_nextDueDay_4 : decode cX1_nextDueDay 4 = .ok (.sipush 200, 3) := by decide +kernel
theorem dX1_nextDueDay_7 : decode cX1_nextDueDay 7 = .ok (.iadd, 1) := by decide +kernel
theorem dX1_nextDueDay_8 : decode cX1_nextDueDay 8 = .ok (.if_icmp .gt 19, 3) := by decide +kernel
theorem dX1_nextDueDay_11 : decode cX1_nextDueDay 11 = .ok (.aload_n 0, 1) := by decide +kernel
theorem dX1_nextDueDay_12 : decode cX1_nextDueDay 12 = .ok (.iload_n 2, 1) := by decide +kernel
theorem dX1_nextDueDay_13 : decode cX1_nextDueDay 13 = .ok (.invokevirtual 64, 3) := by decide +kernel
theorem dX1_nextDueDay_16 : decode cX1_nextDueDay 16 = .ok (.ifCond .le 5, 3) := by decide +kernel
theorem dX1_nextDueDay_19 : decode cX1_nextDueDay 19 = .ok (.iload_n 2, 1) := by decide +kernel
theorem dX1_nextDueDay_20 : decode cX1_nextDueDay 20 = .ok (.ireturn, 1) := by decide +kernel
theorem dX1_nextDueDay_21 : decode cX1_nextDueDay 21 = .ok (.iinc 2 1, 3) := by decide +kernel
theorem dX1_nextDueDay_24 : decode cX1_nextDueDay 24 = .ok (.goto (-22), 3) := by decide +kernel
theorem dX1_nextDueDay_27 : decode cX1_nextDueDay 27 = .ok (.iconst (-1), 1) := by decide +kernel
theorem dX1_nextDueDay_28 : decode cX1_nextDueDay 28 = .ok (.ireturn, 1) := by decide +kernel
theorem dX1_dueDayByDay_0 : decode cX1_dueDayByDay 0 = .ok (.iconst 0, 1) := by decide +kernel
theorem dX1_dueDayByDay_1 : decode cX1_dueDayByDay 1 = .ok (.istore_n 3, 1) := by decide +kernel
theorem dX1_dueDayByDay_2 : decode cX1_dueDayByDay 2 = .ok (.iload_n 1, 1) := by decide +kernel
theorem dX1_dueDayByDay_3 : decode cX1_dueDayByDay 3 = .ok (.istore 4, 2) := by decide +kernel
theorem dX1_dueDayByDay_5 : decode cX1_dueDayByDay 5 = .ok (.iload 4, 2) := by decide +kernel
theorem dX1_dueDayByDay_7 : decode cX1_dueDayByDay 7 = .ok (.iload_n 1, 1) := by decide +kernel
theorem dX1_dueDayByDay_8 : decode cX1_dueDayByDay 8 = .ok (.iload_n 2, 1) := by decide +kernel
theorem dX1_dueDayByDay_9 : decode cX1_dueDayByDay 9 = .ok (.iadd, 1) := by decide +kernel
theorem dX1_dueDayByDay_10 : decode cX1_dueDayByDay 10 = .ok (.if_icmp .ge 18, 3) := by decide +kernel
theorem dX1_dueDayByDay_13 : decode cX1_dueDayByDay 13 = .ok (.iload_n 3, 1) := by decide +kernel
theorem dX1_dueDayByDay_14 : decode cX1_dueDayByDay 14 = .ok (.aload_n 0, 1) := by decide +kernel
theorem dX1_dueDayByDay_15 : decode cX1_dueDayByDay 15 = .ok (.iload 4, 2) := by decide +kernel
theorem dX1_dueDayByDay_17 : decode cX1_dueDayByDay 17 = .ok (.invokevirtual 64, 3) := by decide +kernel
theorem dX1_dueDayByDay_20 : decode cX1_dueDayByDay 20 = .ok (.iadd, 1) := by decide +kernel
theorem dX1_dueDayByDay_21 : decode cX1_dueDayByDay 21 = .ok (.istore_n 3, 1) := by decide +kernel
theorem dX1_dueDayByDay_22 : decode cX1_dueDayByDay 22 = .ok (.iinc 4 1, 3) := by decide +kernel
theorem dX1_dueDayByDay_25 : decode cX1_dueDayByDay 25 = .ok (.goto (-20), 3) := by decide +kernel
theorem dX1_dueDayByDay_28 : decode cX1_dueDayByDay 28 = .ok (.iload_n 3, 1) := by decide +kernel
theorem dX1_dueDayByDay_29 : decode cX1_dueDayByDay 29 = .ok (.ireturn, 1) := by decide +kernel
theorem dX1_dueByWeeks_0 : decode cX1_dueByWeeks 0 = .ok (.iload_n 2, 1) := by decide +kernel
theorem dX1_dueByWeeks_1 : decode cX1_dueByWeeks 1 = .ok (.bipush 7, 2) := by decide +kernel
theorem dX1_dueByWeeks_3 : decode cX1_dueByWeeks 3 = .ok (.idiv, 1) := by decide +kernel
theorem dX1_dueByWeeks_4 : decode cX1_dueByWeeks 4 = .ok (.istore_n 3, 1) := by decide +kernel
theorem dX1_dueByWeeks_5 : decode cX1_dueByWeeks 5 = .ok (.iload_n 3, 1) := by decide +kernel
theorem dX1_dueByWeeks_6 : decode cX1_dueByWeeks 6 = .ok (.aload_n 0, 1) := by decide +kernel
theorem dX1_dueByWeeks_7 : decode cX1_dueByWeeks 7 = .ok (.invokevirtual 52, 3) := by decide +kernel
theorem dX1_dueByWeeks_10 : decode cX1_dueByWeeks 10 = .ok (.imul, 1) := by decide +kernel
theorem dX1_dueByWeeks_11 : decode cX1_dueByWeeks 11 = .ok (.istore 4, 2) := by decide +kernel
theorem dX1_dueByWeeks_13 : decode cX1_dueByWeeks 13 = .ok (.iload_n 1, 1) := by decide +kernel
theorem dX1_dueByWeeks_14 : decode cX1_dueByWeeks 14 = .ok (.iload_n 3, 1) := by decide +kernel
theorem dX1_dueByWeeks_15 : decode cX1_dueByWeeks 15 = .ok (.bipush 7, 2) := by decide +kernel
theorem dX1_dueByWeeks_17 : decode cX1_dueByWeeks 17 = .ok (.imul, 1) := by decide +kernel
theorem dX1_dueByWeeks_18 : decode cX1_dueByWeeks 18 = .ok (.iadd, 1) := by decide +kernel
theorem dX1_dueByWeeks_19 : decode cX1_dueByWeeks 19 = .ok (.istore 5, 2) := by decide +kernel
theorem dX1_dueByWeeks_21 : decode cX1_dueByWeeks 21 = .ok (.iload 5, 2) := by decide +kernel
theorem dX1_dueByWeeks_23 : decode cX1_dueByWeeks 23 = .ok (.iload_n 1, 1) := by decide +kernel
theorem dX1_dueByWeeks_24 : decode cX1_dueByWeeks 24 = .ok (.iload_n 2, 1) := by decide +kernel
theorem dX1_dueByWeeks_25 : decode cX1_dueByWeeks 25 = .ok (.iadd, 1) := by decide +kernel
theorem dX1_dueByWeeks_26 : decode cX1_dueByWeeks 26 = .ok (.if_icmp .ge 24, 3) := by decide +kernel
theorem dX1_dueByWeeks_29 : decode cX1_dueByWeeks 29 = .ok (.iload 4, 2) := by decide +kernel
theorem dX1_dueByWeeks_31 : decode cX1_dueByWeeks 31 = .ok (.aload_n 0, 1) := by decide +kernel
theorem dX1_dueByWeeks_32 : decode cX1_dueByWeeks 32 = .ok (.getfield 9, 3) := by decide +kernel
theorem dX1_dueByWeeks_35 : decode cX1_dueByWeeks 35 = .ok (.iload 5, 2) := by decide +kernel
theorem dX1_dueByWeeks_37 : decode cX1_dueByWeeks 37 = .ok (.invokestatic 60, 3) := by decide +kernel
theorem dX1_dueByWeeks_40 : decode cX1_dueByWeeks 40 = .ok (.iaload, 1) := by decide +kernel
theorem dX1_dueByWeeks_41 : decode cX1_dueByWeeks 41 = .ok (.iadd, 1) := by decide +kernel
theorem dX1_dueByWeeks_42 : decode cX1_dueByWeeks 42 = .ok (.istore 4, 2) := by decide +kernel
theorem dX1_dueByWeeks_44 : decode cX1_dueByWeeks 44 = .ok (.iinc 5 1, 3) := by decide +kernel
theorem dX1_dueByWeeks_47 : decode cX1_dueByWeeks 47 = .ok (.goto (-26), 3) := by decide +kernel
theorem dX1_dueByWeeks_50 : decode cX1_dueByWeeks 50 = .ok (.iload 4, 2) := by decide +kernel
theorem dX1_dueByWeeks_52 : decode cX1_dueByWeeks 52 = .ok (.aload_n 0, 1) := by decide +kernel
theorem dX1_dueByWeeks_53 : decode cX1_dueByWeeks 53 = .ok (.iload_n 1, 1) := by decide +kernel
theorem dX1_dueByWeeks_54 : decode cX1_dueByWeeks 54 = .ok (.iload_n 1, 1) := by decide +kernel
theorem dX1_dueByWeeks_55 : decode cX1_dueByWeeks 55 = .ok (.iload_n 2, 1) := by decide +kernel
theorem dX1_dueByWeeks_56 : decode cX1_dueByWeeks 56 = .ok (.iadd, 1) := by decide +kernel
theorem dX1_dueByWeeks_57 : decode cX1_dueByWeeks 57 = .ok (.iconst 1, 1) := by decide +kernel
theorem dX1_dueByWeeks_58 : decode cX1_dueByWeeks 58 = .ok (.isub, 1) := by decide +kernel
theorem dX1_dueByWeeks_59 : decode cX1_dueByWeeks 59 = .ok (.invokevirtual 67, 3) := by decide +kernel
theorem dX1_dueByWeeks_62 : decode cX1_dueByWeeks 62 = .ok (.isub, 1) := by decide +kernel
theorem dX1_dueByWeeks_63 : decode cX1_dueByWeeks 63 = .ok (.ireturn, 1) := by decide +kernel
theorem dX1_orderedInHolidays_0 : decode cX1_orderedInHolidays 0 = .ok (.iconst 0, 1) := by decide +kernel
theorem dX1_orderedInHolidays_1 : decode cX1_orderedInHolidays 1 = .ok (.istore_n 3, 1) := by decide +kernel
theorem dX1_orderedInHolidays_2 : decode cX1_orderedInHolidays 2 = .ok (.iconst 0, 1) := by decide +kernel
theorem dX1_orderedInHolidays_3 : decode cX1_orderedInHolidays 3 = .ok (.istore 4, 2) := by decide +kernel
theorem dX1_orderedInHolidays_5 : decode cX1_orderedInHolidays 5 = .ok (.iload 4, 2) := by decide +kernel
theorem dX1_orderedInHolidays_7 : decode cX1_orderedInHolidays 7 = .ok (.aload_n 0, 1) := by decide +kernel
theorem dX1_orderedInHolidays_8 : decode cX1_orderedInHolidays 8 = .ok (.getfield 43, 3) := by decide +kernel
theorem dX1_orderedInHolidays_11 : decode cX1_orderedInHolidays 11 = .ok (.if_icmp .ge 72, 3) := by decide +kernel
theorem dX1_orderedInHolidays_14 : decode cX1_orderedInHolidays 14 = .ok (.iload_n 2, 1) := by decide +kernel
theorem dX1_orderedInHolidays_15 : decode cX1_orderedInHolidays 15 = .ok (.aload_n 0, 1) := by decide +kernel
theorem dX1_orderedInHolidays_16 : decode cX1_orderedInHolidays 16 = .ok (.getfield 18, 3) := by decide +kernel
theorem dX1_orderedInHolidays_19 : decode cX1_orderedInHolidays 19 = .ok (.iload 4, 2) := by decide +kernel
theorem dX1_orderedInHolidays_21 : decode cX1_orderedInHolidays 21 = .ok (.iaload, 1) := by decide +kernel
theorem dX1_orderedInHolidays_22 : decode cX1_orderedInHolidays 22 = .ok (.invokestatic 71, 3) := by decide +kernel
theorem dX1_orderedInHolidays_25 : decode cX1_orderedInHolidays 25 = .ok (.istore 5, 2) := by decide +kernel
theorem dX1_orderedInHolidays_27 : decode cX1_orderedInHolidays 27 = .ok (.iload_n 1, 1) := by decide +kernel
theorem dX1_orderedInHolidays_28 : decode cX1_orderedInHolidays 28 = .ok (.aload_n 0, 1) := by decide +kernel
theorem dX1_orderedInHolidays_29 : decode cX1_orderedInHolidays 29 = .ok (.getfield 15, 3) := by decide +kernel
theorem dX1_orderedInHolidays_32 : decode cX1_orderedInHolidays 32 = .ok (.iload 4, 2) := by decide +kernel
theorem dX1_orderedInHolidays_34 : decode cX1_orderedInHolidays 34 = .ok (.iaload, 1) := by decide +kernel
theorem dX1_orderedInHolidays_35 : decode cX1_orderedInHolidays 35 = .ok (.invokestatic 76, 3) := by decide +kernel
theorem dX1_orderedInHolidays_38 : decode cX1_orderedInHolidays 38 = .ok (.istore 6, 2) := by decide +kernel
theorem dX1_orderedInHolidays_40 : decode cX1_orderedInHolidays 40 = .ok (.iload 6, 2) := by decide +kernel
theorem dX1_orderedInHolidays_42 : decode cX1_orderedInHolidays 42 = .ok (.iload 5, 2) := by decide +kernel
theorem dX1_orderedInHolidays_44 : decode cX1_orderedInHolidays 44 = .ok (.if_icmp .gt 33, 3) := by decide +kernel
theorem dX1_orderedInHolidays_47 : decode cX1_orderedInHolidays 47 = .ok (.aload_n 0, 1) := by decide +kernel
theorem dX1_orderedInHolidays_48 : decode cX1_orderedInHolidays 48 = .ok (.iload 6, 2) := by decide +kernel
theorem dX1_orderedInHolidays_50 : decode cX1_orderedInHolidays 50 = .ok (.iload 4, 2) := by decide +kernel
theorem dX1_orderedInHolidays_52 : decode cX1_orderedInHolidays 52 = .ok (.invokevirtual 56, 3) := by decide +kernel
theorem dX1_orderedInHolidays_55 : decode cX1_orderedInHolidays 55 = .ok (.ifCond .ne 16, 3) := by decide +kernel
theorem dX1_orderedInHolidays_58 : decode cX1_orderedInHolidays 58 = .ok (.iload_n 3, 1) := by decide +kernel
theorem dX1_orderedInHolidays_59 : decode cX1_orderedInHolidays 59 = .ok (.aload_n 0, 1) := by decide +kernel
theorem dX1_orderedInHolidays_60 : decode cX1_orderedInHolidays 60 = .ok (.getfield 9, 3) := by decide +kernel
theorem dX1_orderedInHolidays_63 : decode cX1_orderedInHolidays 63 = .ok (.iload 6, 2) := by decide +kernel
theorem dX1_orderedInHolidays_65 : decode cX1_orderedInHolidays 65 = .ok (.invokestatic 60, 3) := by decide +kernel
theorem dX1_orderedInHolidays_68 : decode cX1_orderedInHolidays 68 = .ok (.iaload, 1) := by decide +kernel
theorem dX1_orderedInHolidays_69 : decode cX1_orderedInHolidays 69 = .ok (.iadd, 1) := by decide +kernel
theorem dX1_orderedInHolidays_70 : decode cX1_orderedInHolidays 70 = .ok (.istore_n 3, 1) := by decide +kernel
theorem dX1_orderedInHolidays_71 : decode cX1_orderedInHolidays 71 = .ok (.iinc 6 1, 3) := by decide +kernel
theorem dX1_orderedInHolidays_74 : decode cX1_orderedInHolidays 74 = .ok (.goto (-34), 3) := by decide +kernel
theorem dX1_orderedInHolidays_77 : decode cX1_orderedInHolidays 77 = .ok (.iinc 4 1, 3) := by decide +kernel
theorem dX1_orderedInHolidays_80 : decode cX1_orderedInHolidays 80 = .ok (.goto (-75), 3) := by decide +kernel
theorem dX1_orderedInHolidays_83 : decode cX1_orderedInHolidays 83 = .ok (.iload_n 3, 1) := by decide +kernel
theorem dX1_orderedInHolidays_84 : decode cX1_orderedInHolidays 84 = .ok (.ireturn, 1) := by decide +kernel
theorem dX1_receive_0 : decode cX1_receive 0 = .ok (.aload_n 0, 1) := by decide +kernel
theorem dX1_receive_1 : decode cX1_receive 1 = .ok (.dup, 1) := by decide +kernel
theorem dX1_receive_2 : decode cX1_receive 2 = .ok (.getfield 28, 3) := by decide +kernel
theorem dX1_receive_5 : decode cX1_receive 5 = .ok (.iload_n 2, 1) := by decide +kernel
theorem dX1_receive_6 : decode cX1_receive 6 = .ok (.iadd, 1) := by decide +kernel
theorem dX1_receive_7 : decode cX1_receive 7 = .ok (.putfield 28, 3) := by decide +kernel
theorem dX1_receive_10 : decode cX1_receive 10 = .ok (.aload_n 0, 1) := by decide +kernel
theorem dX1_receive_11 : decode cX1_receive 11 = .ok (.dup, 1) := by decide +kernel
theorem dX1_receive_12 : decode cX1_receive 12 = .ok (.getfield 25, 3) := by decide +kernel
theorem dX1_receive_15 : decode cX1_receive 15 = .ok (.iload_n 1, 1) := by decide +kernel
theorem dX1_receive_16 : decode cX1_receive 16 = .ok (.iload_n 2, 1) := by decide +kernel
theorem dX1_receive_17 : decode cX1_receive 17 = .ok (.isub, 1) := by decide +kernel
theorem dX1_receive_18 : decode cX1_receive 18 = .ok (.iadd, 1) := by decide +kernel
theorem dX1_receive_19 : decode cX1_receive 19 = .ok (.putfield 25, 3) := by decide +kernel
theorem dX1_receive_22 : decode cX1_receive 22 = .ok (.iload_n 1, 1) := by decide +kernel
theorem dX1_receive_23 : decode cX1_receive 23 = .ok (.ifCond .le 20, 3) := by decide +kernel
theorem dX1_receive_26 : decode cX1_receive 26 = .ok (.iload_n 2, 1) := by decide +kernel
theorem dX1_receive_27 : decode cX1_receive 27 = .ok (.ifCond .ne 16, 3) := by decide +kernel
theorem dX1_receive_30 : decode cX1_receive 30 = .ok (.aload_n 0, 1) := by decide +kernel
theorem dX1_receive_31 : decode cX1_receive 31 = .ok (.dup, 1) := by decide +kernel
theorem dX1_receive_32 : decode cX1_receive 32 = .ok (.getfield 37, 3) := by decide +kernel
theorem dX1_receive_35 : decode cX1_receive 35 = .ok (.iconst 1, 1) := by decide +kernel
theorem dX1_receive_36 : decode cX1_receive 36 = .ok (.iadd, 1) := by decide +kernel
theorem dX1_receive_37 : decode cX1_receive 37 = .ok (.putfield 37, 3) := by decide +kernel
theorem dX1_receive_40 : decode cX1_receive 40 = .ok (.goto 18, 3) := by decide +kernel
theorem dX1_receive_43 : decode cX1_receive 43 = .ok (.iload_n 2, 1) := by decide +kernel
theorem dX1_receive_44 : decode cX1_receive 44 = .ok (.iload_n 1, 1) := by decide +kernel
theorem dX1_receive_45 : decode cX1_receive 45 = .ok (.if_icmp .ge 13, 3) := by decide +kernel
theorem dX1_receive_48 : decode cX1_receive 48 = .ok (.aload_n 0, 1) := by decide +kernel
theorem dX1_receive_49 : decode cX1_receive 49 = .ok (.dup, 1) := by decide +kernel
theorem dX1_receive_50 : decode cX1_receive 50 = .ok (.getfield 40, 3) := by decide +kernel
theorem dX1_receive_53 : decode cX1_receive 53 = .ok (.iconst 1, 1) := by decide +kernel
theorem dX1_receive_54 : decode cX1_receive 54 = .ok (.iadd, 1) := by decide +kernel
theorem dX1_receive_55 : decode cX1_receive 55 = .ok (.putfield 40, 3) := by decide +kernel
theorem dX1_receive_58 : decode cX1_receive 58 = .ok (.return_, 1) := by decide +kernel
theorem dX1_receiveForCredit_0 : decode cX1_receiveForCredit 0 = .ok (.aload_n 0, 1) := by decide +kernel
theorem dX1_receiveForCredit_1 : decode cX1_receiveForCredit 1 = .ok (.dup, 1) := by decide +kernel
theorem dX1_receiveForCredit_2 : decode cX1_receiveForCredit 2 = .ok (.getfield 31, 3) := by decide +kernel
theorem dX1_receiveForCredit_5 : decode cX1_receiveForCredit 5 = .ok (.iload_n 1, 1) := by decide +kernel
theorem dX1_receiveForCredit_6 : decode cX1_receiveForCredit 6 = .ok (.iadd, 1) := by decide +kernel
theorem dX1_receiveForCredit_7 : decode cX1_receiveForCredit 7 = .ok (.putfield 31, 3) := by decide +kernel
theorem dX1_receiveForCredit_10 : decode cX1_receiveForCredit 10 = .ok (.aload_n 0, 1) := by decide +kernel
theorem dX1_receiveForCredit_11 : decode cX1_receiveForCredit 11 = .ok (.dup, 1) := by decide +kernel
theorem dX1_receiveForCredit_12 : decode cX1_receiveForCredit 12 = .ok (.getfield 25, 3) := by decide +kernel
theorem dX1_receiveForCredit_15 : decode cX1_receiveForCredit 15 = .ok (.iload_n 1, 1) := by decide +kernel
theorem dX1_receiveForCredit_16 : decode cX1_receiveForCredit 16 = .ok (.isub, 1) := by decide +kernel
theorem dX1_receiveForCredit_17 : decode cX1_receiveForCredit 17 = .ok (.putfield 25, 3) := by decide +kernel
theorem dX1_receiveForCredit_20 : decode cX1_receiveForCredit 20 = .ok (.return_, 1) := by decide +kernel
theorem dX1_cutCredit_0 : decode cX1_cutCredit 0 = .ok (.iconst 0, 1) := by decide +kernel
theorem dX1_cutCredit_1 : decode cX1_cutCredit 1 = .ok (.aload_n 0, 1) := by decide +kernel
theorem dX1_cutCredit_2 : decode cX1_cutCredit 2 = .ok (.getfield 25, 3) := by decide +kernel
theorem dX1_cutCredit_5 : decode cX1_cutCredit 5 = .ok (.iload_n 1, 1) := by decide +kernel
theorem dX1_cutCredit_6 : decode cX1_cutCredit 6 = .ok (.isub, 1) := by decide +kernel
theorem dX1_cutCredit_7 : decode cX1_cutCredit 7 = .ok (.invokestatic 76, 3) := by decide +kernel
theorem dX1_cutCredit_10 : decode cX1_cutCredit 10 = .ok (.istore_n 2, 1) := by decide +kernel
theorem dX1_cutCredit_11 : decode cX1_cutCredit 11 = .ok (.aload_n 0, 1) := by decide +kernel
theorem dX1_cutCredit_12 : decode cX1_cutCredit 12 = .ok (.dup, 1) := by decide +kernel
theorem dX1_cutCredit_13 : decode cX1_cutCredit 13 = .ok (.getfield 25, 3) := by decide +kernel
theorem dX1_cutCredit_16 : decode cX1_cutCredit 16 = .ok (.iload_n 2, 1) := by decide +kernel
theorem dX1_cutCredit_17 : decode cX1_cutCredit 17 = .ok (.isub, 1) := by decide +kernel
theorem dX1_cutCredit_18 : decode cX1_cutCredit 18 = .ok (.putfield 25, 3) := by decide +kernel
theorem dX1_cutCredit_21 : decode cX1_cutCredit 21 = .ok (.aload_n 0, 1) := by decide +kernel
theorem dX1_cutCredit_22 : decode cX1_cutCredit 22 = .ok (.dup, 1) := by decide +kernel
theorem dX1_cutCredit_23 : decode cX1_cutCredit 23 = .ok (.getfield 34, 3) := by decide +kernel
theorem dX1_cutCredit_26 : decode cX1_cutCredit 26 = .ok (.iload_n 2, 1) := by decide +kernel
theorem dX1_cutCredit_27 : decode cX1_cutCredit 27 = .ok (.iadd, 1) := by decide +kernel
theorem dX1_cutCredit_28 : decode cX1_cutCredit 28 = .ok (.putfield 34, 3) := by decide +kernel
theorem dX1_cutCredit_31 : decode cX1_cutCredit 31 = .ok (.iload_n 2, 1) := by decide +kernel
theorem dX1_cutCredit_32 : decode cX1_cutCredit 32 = .ok (.ireturn, 1) := by decide +kernel
end
section
theorem dX2_init_0 : decode cX2_init 0 = .ok (.aload_n 0, 1) := by decide +kernel
theorem dX2_init_1 : decode cX2_init 1 = .ok (.invokespecial 3, 3) := by decide +kernel
theorem dX2_init_4 : decode cX2_init 4 = .ok (.aload_n 0, 1) := by decide +kernel
theorem dX2_init_5 : decode cX2_init 5 = .ok (.bipush 14, 2) := by decide +kernel
theorem dX2_init_7 : decode cX2_init 7 = .ok (.anewarray 9, 3) := by decide +kernel
theorem dX2_init_10 : decode cX2_init 10 = .ok (.putfield 11, 3) := by decide +kernel
theorem dX2_init_13 : decode cX2_init 13 = .ok (.iconst 0, 1) := by decide +kernel
theorem dX2_init_14 : decode cX2_init 14 = .ok (.istore_n 1, 1) := by decide +kernel
theorem dX2_init_15 : decode cX2_init 15 = .ok (.iload_n 1, 1) := by decide +kernel
theorem dX2_init_16 : decode cX2_init 16 = .ok (.bipush 14, 2) := by decide +kernel
theorem dX2_init_18 : decode cX2_init 18 = .ok (.if_icmp .ge 22, 3) := by decide +kernel
theorem dX2_init_21 : decode cX2_init 21 = .ok (.aload_n 0, 1) := by decide +kernel
theorem dX2_init_22 : decode cX2_init 22 = .ok (.getfield 11, 3) := by decide +kernel
theorem dX2_init_25 : decode cX2_init 25 = .ok (.iload_n 1, 1) := by decide +kernel
theorem dX2_init_26 : decode cX2_init 26 = .ok (.new 9, 3) := by decide +kernel
theorem dX2_init_29 : decode cX2_init 29 = .ok (.dup, 1) := by decide +kernel
theorem dX2_init_30 : decode cX2_init 30 = .ok (.invokespecial 17, 3) := by decide +kernel
theorem dX2_init_33 : decode cX2_init 33 = .ok (.aastore, 1) := by decide +kernel
theorem dX2_init_34 : decode cX2_init 34 = .ok (.iinc 1 1, 3) := by decide +kernel
theorem dX2_init_37 : decode cX2_init 37 = .ok (.goto (-22), 3) := by decide +kernel
theorem dX2_init_40 : decode cX2_init 40 = .ok (.return_, 1) := by decide +kernel
theorem dX2_forgetAll_0 : decode cX2_forgetAll 0 = .ok (.aload_n 0, 1) := by decide +kernel
theorem dX2_forgetAll_1 : decode cX2_forgetAll 1 = .ok (.iconst 0, 1) := by decide +kernel
theorem dX2_forgetAll_2 : decode cX2_forgetAll 2 = .ok (.putfield 18, 3) := by decide +kernel
theorem dX2_forgetAll_5 : decode cX2_forgetAll 5 = .ok (.aload_n 0, 1) := by decide +kernel
theorem dX2_forgetAll_6 : decode cX2_forgetAll 6 = .ok (.iconst 0, 1) := by decide +kernel
theorem dX2_forgetAll_7 : decode cX2_forgetAll 7 = .ok (.putfield 22, 3) := by decide +kernel
theorem dX2_forgetAll_10 : decode cX2_forgetAll 10 = .ok (.return_, 1) := by decide +kernel
theorem dX2_keep_0 : decode cX2_keep 0 = .ok (.aload_n 0, 1) := by decide +kernel
theorem dX2_keep_1 : decode cX2_keep 1 = .ok (.getfield 11, 3) := by decide +kernel
theorem dX2_keep_4 : decode cX2_keep 4 = .ok (.aload_n 0, 1) := by decide +kernel
theorem dX2_keep_5 : decode cX2_keep 5 = .ok (.getfield 22, 3) := by decide +kernel
theorem dX2_keep_8 : decode cX2_keep 8 = .ok (.aaload, 1) := by decide +kernel
theorem dX2_keep_9 : decode cX2_keep 9 = .ok (.aload_n 1, 1) := by decide +kernel
theorem dX2_keep_10 : decode cX2_keep 10 = .ok (.invokevirtual 25, 3) := by decide +kernel
theorem dX2_keep_13 : decode cX2_keep 13 = .ok (.aload_n 0, 1) := by decide +kernel
theorem dX2_keep_14 : decode cX2_keep 14 = .ok (.aload_n 0, 1) := by decide +kernel
theorem dX2_keep_15 : decode cX2_keep 15 = .ok (.getfield 22, 3) := by decide +kernel
theorem dX2_keep_18 : decode cX2_keep 18 = .ok (.iconst 1, 1) := by decide +kernel
theorem dX2_keep_19 : decode cX2_keep 19 = .ok (.iadd, 1) := by decide +kernel
theorem dX2_keep_20 : decode cX2_keep 20 = .ok (.bipush 14, 2) := by decide +kernel
theorem dX2_keep_22 : decode cX2_keep 22 = .ok (.irem, 1) := by decide +kernel
theorem dX2_keep_23 : decode cX2_keep 23 = .ok (.putfield 22, 3) := by decide +kernel
theorem dX2_keep_26 : decode cX2_keep 26 = .ok (.aload_n 0, 1) := by decide +kernel
theorem dX2_keep_27 : decode cX2_keep 27 = .ok (.aload_n 0, 1) := by decide +kernel
theorem dX2_keep_28 : decode cX2_keep 28 = .ok (.getfield 18, 3) := by decide +kernel
theorem dX2_keep_31 : decode cX2_keep 31 = .ok (.iconst 1, 1) := by decide +kernel
theorem dX2_keep_32 : decode cX2_keep 32 = .ok (.iadd, 1) := by decide +kernel
theorem dX2_keep_33 : decode cX2_keep 33 = .ok (.bipush 14, 2) := by decide +kernel
theorem dX2_keep_35 : decode cX2_keep 35 = .ok (.invokestatic 29, 3) := by decide +kernel
theorem dX2_keep_38 : decode cX2_keep 38 = .ok (.putfield 18, 3) := by decide +kernel
theorem dX2_keep_41 : decode cX2_keep 41 = .ok (.return_, 1) := by decide +kernel
theorem dX2_takeBack_0 : decode cX2_takeBack 0 = .ok (.aload_n 0, 1) := by decide +kernel
theorem dX2_takeBack_1 : decode cX2_takeBack 1 = .ok (.aload_n 0, 1) := by decide +kernel
theorem dX2_takeBack_2 : decode cX2_takeBack 2 = .ok (.getfield 22, 3) := by decide +kernel
theorem dX2_takeBack_5 : decode cX2_takeBack 5 = .ok (.bipush 14, 2) := by decide +kernel
theorem dX2_takeBack_7 : decode cX2_takeBack 7 = .ok (.iadd, 1) := by decide +kernel
theorem dX2_takeBack_8 : decode cX2_takeBack 8 = .ok (.iconst 1, 1) := by decide +kernel
theorem dX2_takeBack_9 : decode cX2_takeBack 9 = .ok (.isub, 1) := by decide +kernel
theorem dX2_takeBack_10 : decode cX2_takeBack 10 = .ok (.bipush 14, 2) := by decide +kernel
theorem dX2_takeBack_12 : decode cX2_takeBack 12 = .ok (.irem, 1) := by decide +kernel
theorem dX2_takeBack_13 : decode cX2_takeBack 13 = .ok (.putfield 22, 3) := by decide +kernel
theorem dX2_takeBack_16 : decode cX2_takeBack 16 = .ok (.aload_n 1, 1) := by decide +kernel
theorem dX2_takeBack_17 : decode cX2_takeBack 17 = .ok (.aload_n 0, 1) := by decide +kernel
theorem dX2_takeBack_18 : decode cX2_takeBack 18 = .ok (.getfield 11, 3) := by decide +kernel
theorem dX2_takeBack_21 : decode cX2_takeBack 21 = .ok (.aload_n 0, 1) := by decide +kernel
theorem dX2_takeBack_22 : decode cX2_takeBack 22 = .ok (.getfield 22, 3) := by decide +kernel
theorem dX2_takeBack_25 : decode cX2_takeBack 25 = .ok (.aaload, 1) := by decide +kernel
theorem dX2_takeBack_26 : decode cX2_takeBack 26 = .ok (.invokevirtual 25, 3) := by decide +kernel
theorem dX2_takeBack_29 : decode cX2_takeBack 29 = .ok (.aload_n 0, 1) := by decide +kernel
theorem dX2_takeBack_30 : decode cX2_takeBack 30 = .ok (.dup, 1) := by decide +kernel
theorem dX2_takeBack_31 : decode cX2_takeBack 31 = .ok (.getfield 18, 3) := by decide +kernel
theorem dX2_takeBack_34 : decode cX2_takeBack 34 = .ok (.iconst 1, 1) := by decide +kernel
theorem dX2_takeBack_35 : decode cX2_takeBack 35 = .ok (.isub, 1) := by decide +kernel
theorem dX2_takeBack_36 : decode cX2_takeBack 36 = .ok (.putfield 18, 3) := by decide +kernel
theorem dX2_takeBack_39 : decode cX2_takeBack 39 = .ok (.aload_n 0, 1) := by decide +kernel
theorem dX2_takeBack_40 : decode cX2_takeBack 40 = .ok (.getfield 18, 3) := by decide +kernel
theorem dX2_takeBack_43 : decode cX2_takeBack 43 = .ok (.ireturn, 1) := by decide +kernel
theorem dX4_init_0 : decode cX4_init 0 = .ok (.aload_n 0, 1) := by decide +kernel
theorem dX4_init_1 : decode cX4_init 1 = .ok (.invokespecial 3, 3) := by decide +kernel
theorem dX4_init_4 : decode cX4_init 4 = .ok (.aload_n 0, 1) := by decide +kernel
theorem dX4_init_5 : decode cX4_init 5 = .ok (.bipush 120, 2) := by decide +kernel
theorem dX4_init_7 : decode cX4_init 7 = .ok (.newarray .char, 2) := by decide +kernel
theorem dX4_init_9 : decode cX4_init 9 = .ok (.putfield 9, 3) := by decide +kernel
theorem dX4_init_12 : decode cX4_init 12 = .ok (.return_, 1) := by decide +kernel
theorem dX4_add_0 : decode cX4_add 0 = .ok (.aload_n 0, 1) := by decide +kernel
theorem dX4_add_1 : decode cX4_add 1 = .ok (.getfield 9, 3) := by decide +kernel
theorem dX4_add_4 : decode cX4_add 4 = .ok (.aload_n 0, 1) := by decide +kernel
theorem dX4_add_5 : decode cX4_add 5 = .ok (.getfield 15, 3) := by decide +kernel
theorem dX4_add_8 : decode cX4_add 8 = .ok (.iload_n 1, 1) := by decide +kernel
theorem dX4_add_9 : decode cX4_add 9 = .ok (.castore, 1) := by decide +kernel
theorem dX4_add_10 : decode cX4_add 10 = .ok (.aload_n 0, 1) := by decide +kernel
theorem dX4_add_11 : decode cX4_add 11 = .ok (.dup, 1) := by decide +kernel
theorem dX4_add_12 : decode cX4_add 12 = .ok (.getfield 15, 3) := by decide +kernel
theorem dX4_add_15 : decode cX4_add 15 = .ok (.iconst 1, 1) := by decide +kernel
theorem dX4_add_16 : decode cX4_add 16 = .ok (.iadd, 1) := by decide +kernel
theorem dX4_add_17 : decode cX4_add 17 = .ok (.putfield 15, 3) := by decide +kernel
theorem dX4_add_20 : decode cX4_add 20 = .ok (.aload_n 0, 1) := by decide +kernel
theorem dX4_add_21 : decode cX4_add 21 = .ok (.getfield 15, 3) := by decide +kernel
theorem dX4_add_24 : decode cX4_add 24 = .ok (.ireturn, 1) := by decide +kernel
theorem dX4_empty_0 : decode cX4_empty 0 = .ok (.aload_n 0, 1) := by decide +kernel
theorem dX4_empty_1 : decode cX4_empty 1 = .ok (.getfield 15, 3) := by decide +kernel
theorem dX4_empty_4 : decode cX4_empty 4 = .ok (.istore_n 1, 1) := by decide +kernel
theorem dX4_empty_5 : decode cX4_empty 5 = .ok (.aload_n 0, 1) := by decide +kernel
theorem dX4_empty_6 : decode cX4_empty 6 = .ok (.iconst 0, 1) := by decide +kernel
theorem dX4_empty_7 : decode cX4_empty 7 = .ok (.putfield 15, 3) := by decide +kernel
theorem dX4_empty_10 : decode cX4_empty 10 = .ok (.iload_n 1, 1) := by decide +kernel
theorem dX4_empty_11 : decode cX4_empty 11 = .ok (.ireturn, 1) := by decide +kernel
theorem dX4_signAt_0 : decode cX4_signAt 0 = .ok (.iload_n 1, 1) := by decide +kernel
theorem dX4_signAt_1 : decode cX4_signAt 1 = .ok (.ifCond .lt 20, 3) := by decide +kernel
theorem dX4_signAt_4 : decode cX4_signAt 4 = .ok (.iload_n 1, 1) := by decide +kernel
theorem dX4_signAt_5 : decode cX4_signAt 5 = .ok (.aload_n 0, 1) := by decide +kernel
theorem dX4_signAt_6 : decode cX4_signAt 6 = .ok (.getfield 15, 3) := by decide +kernel
theorem dX4_signAt_9 : decode cX4_signAt 9 = .ok (.if_icmp .ge 12, 3) := by decide +kernel
theorem dX4_signAt_12 : decode cX4_signAt 12 = .ok (.aload_n 0, 1) := by decide +kernel
theorem dX4_signAt_13 : decode cX4_signAt 13 = .ok (.getfield 9, 3) := by decide +kernel
theorem dX4_signAt_16 : decode cX4_signAt 16 = .ok (.iload_n 1, 1) := by decide +kernel
theorem dX4_signAt_17 : decode cX4_signAt 17 = .ok (.caload, 1) := by decide +kernel
theorem dX4_signAt_18 : decode cX4_signAt 18 = .ok (.goto 4, 3) := by decide +kernel
theorem dX4_signAt_21 : decode cX4_signAt 21 = .ok (.iconst 0, 1) := by decide +kernel
theorem dX4_signAt_22 : decode cX4_signAt 22 = .ok (.ireturn, 1) := by decide +kernel
theorem dX4_formOf_0 : decode cX4_formOf 0 = .ok (.iload_n 0, 1) := by decide +kernel
theorem dX4_formOf_1 : decode cX4_formOf 1 = .ok (.tableswitch 124 99 120 #[103, 121, 124, 124, 124, 109, 124, 124, 124, 124, 124, 106, 124, 124, 124, 124, 118, 124, 124, 115, 124, 112], 103) := by decide +kernel
theorem dX4_formOf_104 : decode cX4_formOf 104 = .ok (.ldc 19, 2) := by decide +kernel
theorem dX4_formOf_106 : decode cX4_formOf 106 = .ok (.areturn, 1) := by decide +kernel
theorem dX4_formOf_107 : decode cX4_formOf 107 = .ok (.ldc 21, 2) := by decide +kernel
theorem dX4_formOf_109 : decode cX4_formOf 109 = .ok (.areturn, 1) := by decide +kernel
theorem dX4_formOf_110 : decode cX4_formOf 110 = .ok (.ldc 23, 2) := by decide +kernel
theorem dX4_formOf_112 : decode cX4_formOf 112 = .ok (.areturn, 1) := by decide +kernel
theorem dX4_formOf_113 : decode cX4_formOf 113 = .ok (.ldc 25, 2) := by decide +kernel
theorem dX4_formOf_115 : decode cX4_formOf 115 = .ok (.areturn, 1) := by decide +kernel
theorem dX4_formOf_116 : decode cX4_formOf 116 = .ok (.ldc 27, 2) := by decide +kernel
theorem dX4_formOf_118 : decode cX4_formOf 118 = .ok (.areturn, 1) := by decide +kernel
theorem dX4_formOf_119 : decode cX4_formOf 119 = .ok (.ldc 29, 2) := by decide +kernel
theorem dX4_formOf_121 : decode cX4_formOf 121 = .ok (.areturn, 1) := by decide +kernel
theorem dX4_formOf_122 : decode cX4_formOf 122 = .ok (.ldc 31, 2) := by decide +kernel
theorem dX4_formOf_124 : decode cX4_formOf 124 = .ok (.areturn, 1) := by decide +kernel
theorem dX4_formOf_125 : decode cX4_formOf 125 = .ok (.ldc 33, 2) := by decide +kernel
theorem dX4_formOf_127 : decode cX4_formOf 127 = .ok (.areturn, 1) := by decide +kernel
theorem dX4_formLength_0 : decode cX4_formLength 0 = .ok (.aload_n 0, 1) := by decide +kernel
theorem dX4_formLength_1 : decode cX4_formLength 1 = .ok (.iload_n 1, 1) := by decide +kernel
theorem dX4_formLength_2 : decode cX4_formLength 2 = .ok (.invokevirtual 35, 3) := by decide +kernel
theorem dX4_formLength_5 : decode cX4_formLength 5 = .ok (.invokestatic 39, 3) := by decide +kernel
theorem dX4_formLength_8 : decode cX4_formLength 8 = .ok (.invokevirtual 43, 3) := by decide +kernel
theorem dX4_formLength_11 : decode cX4_formLength 11 = .ok (.ireturn, 1) := by decide +kernel
theorem dX4_firstError_0 : decode cX4_firstError 0 = .ok (.aload_n 0, 1) := by decide +kernel
theorem dX4_firstError_1 : decode cX4_firstError 1 = .ok (.iconst 0, 1) := by decide +kernel
theorem dX4_firstError_2 : decode cX4_firstError 2 = .ok (.invokevirtual 35, 3) := by decide +kernel
theorem dX4_firstError_5 : decode cX4_firstError 5 = .ok (.bipush 66, 2) := by decide +kernel
theorem dX4_firstError_7 : decode cX4_firstError 7 = .ok (.if_icmp .eq 5, 3) := by decide +kernel
theorem dX4_firstError_10 : decode cX4_firstError 10 = .ok (.iconst 0, 1) := by decide +kernel
theorem dX4_firstError_11 : decode cX4_firstError 11 = .ok (.ireturn, 1) := by decide +kernel
theorem dX4_firstError_12 : decode cX4_firstError 12 = .ok (.iconst 1, 1) := by decide +kernel
theorem dX4_firstError_13 : decode cX4_firstError 13 = .ok (.istore_n 1, 1) := by decide +kernel
theorem dX4_firstError_14 : decode cX4_firstError 14 = .ok (.iload_n 1, 1) := by decide +kernel
theorem dX4_firstError_15 : decode cX4_firstError 15 = .ok (.aload_n 0, 1) := by decide +kernel
theorem dX4_firstError_16 : decode cX4_firstError 16 = .ok (.getfield 15, 3) := by decide +kernel
theorem dX4_firstError_19 : decode cX4_firstError 19 = .ok (.if_icmp .ge 73, 3) := by decide +kernel
theorem dX4_firstError_22 : decode cX4_firstError 22 = .ok (.aload_n 0, 1) := by decide +kernel
theorem dX4_firstError_23 : decode cX4_firstError 23 = .ok (.iload_n 1, 1) := by decide +kernel
theorem dX4_firstError_24 : decode cX4_firstError 24 = .ok (.invokevirtual 35, 3) := by decide +kernel
theorem dX4_firstError_27 : decode cX4_firstError 27 = .ok (.invokestatic 39, 3) := by decide +kernel
theorem dX4_firstError_30 : decode cX4_firstError 30 = .ok (.astore_n 2, 1) := by decide +kernel
theorem dX4_firstError_31 : decode cX4_firstError 31 = .ok (.aload_n 2, 1) := by decide +kernel
theorem dX4_firstError_32 : decode cX4_firstError 32 = .ok (.invokevirtual 48, 3) := by decide +kernel
theorem dX4_firstError_35 : decode cX4_firstError 35 = .ok (.ifCond .eq 5, 3) := by decide +kernel
theorem dX4_firstError_38 : decode cX4_firstError 38 = .ok (.iload_n 1, 1) := by decide +kernel
theorem dX4_firstError_39 : decode cX4_firstError 39 = .ok (.ireturn, 1) := by decide +kernel
theorem dX4_firstError_40 : decode cX4_firstError 40 = .ok (.iconst 0, 1) := by decide +kernel
theorem dX4_firstError_41 : decode cX4_firstError 41 = .ok (.istore_n 3, 1) := by decide +kernel
theorem dX4_firstError_42 : decode cX4_firstError 42 = .ok (.iload_n 3, 1) := by decide +kernel
theorem dX4_firstError_43 : decode cX4_firstError 43 = .ok (.aload_n 2, 1) := by decide +kernel
theorem dX4_firstError_44 : decode cX4_firstError 44 = .ok (.invokevirtual 43, 3) := by decide +kernel
theorem dX4_firstError_47 : decode cX4_firstError 47 = .ok (.if_icmp .ge 32, 3) := by decide +kernel
theorem dX4_firstError_50 : decode cX4_firstError 50 = .ok (.aload_n 0, 1) := by decide +kernel
theorem dX4_firstError_51 : decode cX4_firstError 51 = .ok (.aload_n 2, 1) := by decide +kernel
theorem dX4_firstError_52 : decode cX4_firstError 52 = .ok (.iload_n 3, 1) := by decide +kernel
theorem dX4_firstError_53 : decode cX4_firstError 53 = .ok (.invokevirtual 52, 3) := by decide +kernel
theorem dX4_firstError_56 : decode cX4_firstError 56 = .ok (.iload_n 1, 1) := by decide +kernel
theorem dX4_firstError_57 : decode cX4_firstError 57 = .ok (.iconst 1, 1) := by decide +kernel
theorem dX4_firstError_58 : decode cX4_firstError 58 = .ok (.iadd, 1) := by decide +kernel
theorem dX4_firstError_59 : decode cX4_firstError 59 = .ok (.iload_n 3, 1) := by decide +kernel
theorem dX4_firstError_60 : decode cX4_firstError 60 = .ok (.iadd, 1) := by decide +kernel
theorem dX4_firstError_61 : decode cX4_firstError 61 = .ok (.invokevirtual 55, 3) := by decide +kernel
theorem dX4_firstError_64 : decode cX4_firstError 64 = .ok (.ifCond .ne 9, 3) := by decide +kernel
theorem dX4_firstError_67 : decode cX4_firstError 67 = .ok (.iload_n 1, 1) := by decide +kernel
theorem dX4_firstError_68 : decode cX4_firstError 68 = .ok (.iconst 1, 1) := by decide +kernel
theorem dX4_firstError_69 : decode cX4_firstError 69 = .ok (.iadd, 1) := by decide +kernel
theorem dX4_firstError_70 : decode cX4_firstError 70 = .ok (.iload_n 3, 1) := by decide +kernel
theorem dX4_firstError_71 : decode cX4_firstError 71 = .ok (.iadd, 1) := by decide +kernel
theorem dX4_firstError_72 : decode cX4_firstError 72 = .ok (.ireturn, 1) := by decide +kernel
theorem dX4_firstError_73 : decode cX4_firstError 73 = .ok (.iinc 3 1, 3) := by decide +kernel
theorem dX4_firstError_76 : decode cX4_firstError 76 = .ok (.goto (-34), 3) := by decide +kernel
theorem dX4_firstError_79 : decode cX4_firstError 79 = .ok (.iload_n 1, 1) := by decide +kernel
theorem dX4_firstError_80 : decode cX4_firstError 80 = .ok (.iconst 1, 1) := by decide +kernel
theorem dX4_firstError_81 : decode cX4_firstError 81 = .ok (.aload_n 0, 1) := by decide +kernel
theorem dX4_firstError_82 : decode cX4_firstError 82 = .ok (.iload_n 1, 1) := by decide +kernel
theorem dX4_firstError_83 : decode cX4_firstError 83 = .ok (.invokevirtual 59, 3) := by decide +kernel
theorem dX4_firstError_86 : decode cX4_firstError 86 = .ok (.iadd, 1) := by decide +kernel
theorem dX4_firstError_87 : decode cX4_firstError 87 = .ok (.iadd, 1) := by decide +kernel
theorem dX4_firstError_88 : decode cX4_firstError 88 = .ok (.istore_n 1, 1) := by decide +kernel
theorem dX4_firstError_89 : decode cX4_firstError 89 = .ok (.goto (-75), 3) := by decide +kernel
theorem dX4_firstError_92 : decode cX4_firstError 92 = .ok (.iconst (-1), 1) := by decide +kernel
theorem dX4_firstError_93 : decode cX4_firstError 93 = .ok (.ireturn, 1) := by decide +kernel
theorem dX4_isAllowed_0 : decode cX4_isAllowed 0 = .ok (.aload_n 0, 1) := by decide +kernel
theorem dX4_isAllowed_1 : decode cX4_isAllowed 1 = .ok (.iload_n 2, 1) := by decide +kernel
theorem dX4_isAllowed_2 : decode cX4_isAllowed 2 = .ok (.invokevirtual 35, 3) := by decide +kernel
theorem dX4_isAllowed_5 : decode cX4_isAllowed 5 = .ok (.istore_n 3, 1) := by decide +kernel
theorem dX4_isAllowed_6 : decode cX4_isAllowed 6 = .ok (.iload_n 1, 1) := by decide +kernel
theorem dX4_isAllowed_7 : decode cX4_isAllowed 7 = .ok (.bipush 43, 2) := by decide +kernel
theorem dX4_isAllowed_9 : decode cX4_isAllowed 9 = .ok (.if_icmp .ne 21, 3) := by decide +kernel
theorem dX4_isAllowed_12 : decode cX4_isAllowed 12 = .ok (.iload_n 3, 1) := by decide +kernel
theorem dX4_isAllowed_13 : decode cX4_isAllowed 13 = .ok (.bipush 43, 2) := by decide +kernel
theorem dX4_isAllowed_15 : decode cX4_isAllowed 15 = .ok (.if_icmp .eq 9, 3) := by decide +kernel
theorem dX4_isAllowed_18 : decode cX4_isAllowed 18 = .ok (.iload_n 3, 1) := by decide +kernel
theorem dX4_isAllowed_19 : decode cX4_isAllowed 19 = .ok (.bipush 45, 2) := by decide +kernel
theorem dX4_isAllowed_21 : decode cX4_isAllowed 21 = .ok (.if_icmp .ne 7, 3) := by decide +kernel
theorem dX4_isAllowed_24 : decode cX4_isAllowed 24 = .ok (.iconst 1, 1) := by decide +kernel
theorem dX4_isAllowed_25 : decode cX4_isAllowed 25 = .ok (.goto 4, 3) := by decide +kernel
theorem dX4_isAllowed_28 : decode cX4_isAllowed 28 = .ok (.iconst 0, 1) := by decide +kernel
theorem dX4_isAllowed_29 : decode cX4_isAllowed 29 = .ok (.ireturn, 1) := by decide +kernel
theorem dX4_isAllowed_30 : decode cX4_isAllowed 30 = .ok (.iload_n 1, 1) := by decide +kernel
theorem dX4_isAllowed_31 : decode cX4_isAllowed 31 = .ok (.bipush 100, 2) := by decide +kernel
theorem dX4_isAllowed_33 : decode cX4_isAllowed 33 = .ok (.if_icmp .ne 54, 3) := by decide +kernel
theorem dX4_isAllowed_36 : decode cX4_isAllowed 36 = .ok (.aload_n 0, 1) := by decide +kernel
theorem dX4_isAllowed_37 : decode cX4_isAllowed 37 = .ok (.iload_n 2, 1) := by decide +kernel
theorem dX4_isAllowed_38 : decode cX4_isAllowed 38 = .ok (.iconst 1, 1) := by decide +kernel
theorem dX4_isAllowed_39 : decode cX4_isAllowed 39 = .ok (.isub, 1) := by decide +kernel
theorem dX4_isAllowed_40 : decode cX4_isAllowed 40 = .ok (.invokevirtual 35, 3) := by decide +kernel
theorem dX4_isAllowed_43 : decode cX4_isAllowed 43 = .ok (.istore 4, 2) := by decide +kernel
theorem dX4_isAllowed_45 : decode cX4_isAllowed 45 = .ok (.iload_n 3, 1) := by decide +kernel
theorem dX4_isAllowed_46 : decode cX4_isAllowed 46 = .ok (.iload 4, 2) := by decide +kernel
theorem dX4_isAllowed_48 : decode cX4_isAllowed 48 = .ok (.bipush 48, 2) := by decide +kernel
theorem dX4_isAllowed_50 : decode cX4_isAllowed 50 = .ok (.if_icmp .ne 8, 3) := by decide +kernel
theorem dX4_isAllowed_53 : decode cX4_isAllowed 53 = .ok (.bipush 49, 2) := by decide +kernel
theorem dX4_isAllowed_55 : decode cX4_isAllowed 55 = .ok (.goto 5, 3) := by decide +kernel
theorem dX4_isAllowed_58 : decode cX4_isAllowed 58 = .ok (.bipush 48, 2) := by decide +kernel
theorem dX4_isAllowed_60 : decode cX4_isAllowed 60 = .ok (.if_icmp .lt 25, 3) := by decide +kernel
theorem dX4_isAllowed_63 : decode cX4_isAllowed 63 = .ok (.iload_n 3, 1) := by decide +kernel
theorem dX4_isAllowed_64 : decode cX4_isAllowed 64 = .ok (.iload 4, 2) := by decide +kernel
theorem dX4_isAllowed_66 : decode cX4_isAllowed 66 = .ok (.bipush 54, 2) := by decide +kernel
theorem dX4_isAllowed_68 : decode cX4_isAllowed 68 = .ok (.if_icmp .ne 8, 3) := by decide +kernel
theorem dX4_isAllowed_71 : decode cX4_isAllowed 71 = .ok (.bipush 48, 2) := by decide +kernel
theorem dX4_isAllowed_73 : decode cX4_isAllowed 73 = .ok (.goto 5, 3) := by decide +kernel
theorem dX4_isAllowed_76 : decode cX4_isAllowed 76 = .ok (.bipush 57, 2) := by decide +kernel
theorem dX4_isAllowed_78 : decode cX4_isAllowed 78 = .ok (.if_icmp .gt 7, 3) := by decide +kernel
theorem dX4_isAllowed_81 : decode cX4_isAllowed 81 = .ok (.iconst 1, 1) := by decide +kernel
theorem dX4_isAllowed_82 : decode cX4_isAllowed 82 = .ok (.goto 4, 3) := by decide +kernel
theorem dX4_isAllowed_85 : decode cX4_isAllowed 85 = .ok (.iconst 0, 1) := by decide +kernel
theorem dX4_isAllowed_86 : decode cX4_isAllowed 86 = .ok (.ireturn, 1) := by decide +kernel
theorem dX4_isAllowed_87 : decode cX4_isAllowed 87 = .ok (.iload_n 3, 1) := by decide +kernel
theorem dX4_isAllowed_88 : decode cX4_isAllowed 88 = .ok (.bipush 48, 2) := by decide +kernel
theorem dX4_isAllowed_90 : decode cX4_isAllowed 90 = .ok (.if_icmp .lt 12, 3) := by decide +kernel
theorem dX4_isAllowed_93 : decode cX4_isAllowed 93 = .ok (.iload_n 3, 1) := by decide +kernel
theorem dX4_isAllowed_94 : decode cX4_isAllowed 94 = .ok (.iload_n 1, 1) := by decide +kernel
theorem dX4_isAllowed_95 : decode cX4_isAllowed 95 = .ok (.if_icmp .gt 7, 3) := by decide +kernel
theorem dX4_isAllowed_98 : decode cX4_isAllowed 98 = .ok (.iconst 1, 1) := by decide +kernel
theorem dX4_isAllowed_99 : decode cX4_isAllowed 99 = .ok (.goto 4, 3) := by decide +kernel
theorem dX4_isAllowed_102 : decode cX4_isAllowed 102 = .ok (.iconst 0, 1) := by decide +kernel
theorem dX4_isAllowed_103 : decode cX4_isAllowed 103 = .ok (.ireturn, 1) := by decide +kernel
theorem dX4_numberAt_0 : decode cX4_numberAt 0 = .ok (.iconst 0, 1) := by decide +kernel
theorem dX4_numberAt_1 : decode cX4_numberAt 1 = .ok (.istore_n 3, 1) := by decide +kernel
theorem dX4_numberAt_2 : decode cX4_numberAt 2 = .ok (.iconst 0, 1) := by decide +kernel
theorem dX4_numberAt_3 : decode cX4_numberAt 3 = .ok (.istore 4, 2) := by decide +kernel
theorem dX4_numberAt_5 : decode cX4_numberAt 5 = .ok (.iload 4, 2) := by decide +kernel
theorem dX4_numberAt_7 : decode cX4_numberAt 7 = .ok (.iload_n 2, 1) := by decide +kernel
theorem dX4_numberAt_8 : decode cX4_numberAt 8 = .ok (.if_icmp .ge 26, 3) := by decide +kernel
theorem dX4_numberAt_11 : decode cX4_numberAt 11 = .ok (.iload_n 3, 1) := by decide +kernel
theorem dX4_numberAt_12 : decode cX4_numberAt 12 = .ok (.bipush 10, 2) := by decide +kernel
theorem dX4_numberAt_14 : decode cX4_numberAt 14 = .ok (.imul, 1) := by decide +kernel
theorem dX4_numberAt_15 : decode cX4_numberAt 15 = .ok (.aload_n 0, 1) := by decide +kernel
theorem dX4_numberAt_16 : decode cX4_numberAt 16 = .ok (.iload_n 1, 1) := by decide +kernel
theorem dX4_numberAt_17 : decode cX4_numberAt 17 = .ok (.iload 4, 2) := by decide +kernel
theorem dX4_numberAt_19 : decode cX4_numberAt 19 = .ok (.iadd, 1) := by decide +kernel
theorem dX4_numberAt_20 : decode cX4_numberAt 20 = .ok (.invokevirtual 35, 3) := by decide +kernel
theorem dX4_numberAt_23 : decode cX4_numberAt 23 = .ok (.iadd, 1) := by decide +kernel
theorem dX4_numberAt_24 : decode cX4_numberAt 24 = .ok (.bipush 48, 2) := by decide +kernel
theorem dX4_numberAt_26 : decode cX4_numberAt 26 = .ok (.isub, 1) := by decide +kernel
theorem dX4_numberAt_27 : decode cX4_numberAt 27 = .ok (.istore_n 3, 1) := by decide +kernel
theorem dX4_numberAt_28 : decode cX4_numberAt 28 = .ok (.iinc 4 1, 3) := by decide +kernel
theorem dX4_numberAt_31 : decode cX4_numberAt 31 = .ok (.goto (-26), 3) := by decide +kernel
theorem dX4_numberAt_34 : decode cX4_numberAt 34 = .ok (.iload_n 3, 1) := by decide +kernel
theorem dX4_numberAt_35 : decode cX4_numberAt 35 = .ok (.ireturn, 1) := by decide +kernel
theorem dX4_doCommand_0 : decode cX4_doCommand 0 = .ok (.aload_n 0, 1) := by decide +kernel
theorem dX4_doCommand_1 : decode cX4_doCommand 1 = .ok (.iload_n 1, 1) := by decide +kernel
theorem dX4_doCommand_2 : decode cX4_doCommand 2 = .ok (.iconst 1, 1) := by decide +kernel
theorem dX4_doCommand_3 : decode cX4_doCommand 3 = .ok (.iadd, 1) := by decide +kernel
theorem dX4_doCommand_4 : decode cX4_doCommand 4 = .ok (.iconst 1, 1) := by decide +kernel
theorem dX4_doCommand_5 : decode cX4_doCommand 5 = .ok (.invokevirtual 63, 3) := by decide +kernel
theorem dX4_doCommand_8 : decode cX4_doCommand 8 = .ok (.istore_n 3, 1) := by decide +kernel
theorem dX4_doCommand_9 : decode cX4_doCommand 9 = .ok (.aload_n 0, 1) := by decide +kernel
theorem dX4_doCommand_10 : decode cX4_doCommand 10 = .ok (.iload_n 1, 1) := by decide +kernel
theorem dX4_doCommand_11 : decode cX4_doCommand 11 = .ok (.invokevirtual 35, 3) := by decide +kernel
theorem dX4_doCommand_14 : decode cX4_doCommand 14 = .ok (.lookupswitch 186 #[(99, 58), (104, 98), (110, 75), (115, 169), (118, 153), (120, 121)], 58) := by decide +kernel
theorem dX4_doCommand_72 : decode cX4_doCommand 72 = .ok (.aload_n 2, 1) := by decide +kernel
theorem dX4_doCommand_73 : decode cX4_doCommand 73 = .ok (.iconst 0, 1) := by decide +kernel
theorem dX4_doCommand_74 : decode cX4_doCommand 74 = .ok (.iload_n 3, 1) := by decide +kernel
theorem dX4_doCommand_75 : decode cX4_doCommand 75 = .ok (.aload_n 0, 1) := by decide +kernel
theorem dX4_doCommand_76 : decode cX4_doCommand 76 = .ok (.iload_n 1, 1) := by decide +kernel
theorem dX4_doCommand_77 : decode cX4_doCommand 77 = .ok (.iconst 2, 1) := by decide +kernel
theorem dX4_doCommand_78 : decode cX4_doCommand 78 = .ok (.iadd, 1) := by decide +kernel
theorem dX4_doCommand_79 : decode cX4_doCommand 79 = .ok (.bipush 7, 2) := by decide +kernel
theorem dX4_doCommand_81 : decode cX4_doCommand 81 = .ok (.invokevirtual 63, 3) := by decide +kernel
theorem dX4_doCommand_84 : decode cX4_doCommand 84 = .ok (.iconst 0, 1) := by decide +kernel
theorem dX4_doCommand_85 : decode cX4_doCommand 85 = .ok (.invokevirtual 67, 3) := by decide +kernel
theorem dX4_doCommand_88 : decode cX4_doCommand 88 = .ok (.ireturn, 1) := by decide +kernel
theorem dX4_doCommand_89 : decode cX4_doCommand 89 = .ok (.aload_n 2, 1) := by decide +kernel
theorem dX4_doCommand_90 : decode cX4_doCommand 90 = .ok (.iconst 1, 1) := by decide +kernel
theorem dX4_doCommand_91 : decode cX4_doCommand 91 = .ok (.iload_n 3, 1) := by decide +kernel
theorem dX4_doCommand_92 : decode cX4_doCommand 92 = .ok (.aload_n 0, 1) := by decide +kernel
theorem dX4_doCommand_93 : decode cX4_doCommand 93 = .ok (.iload_n 1, 1) := by decide +kernel
theorem dX4_doCommand_94 : decode cX4_doCommand 94 = .ok (.iconst 2, 1) := by decide +kernel
theorem dX4_doCommand_95 : decode cX4_doCommand 95 = .ok (.iadd, 1) := by decide +kernel
theorem dX4_doCommand_96 : decode cX4_doCommand 96 = .ok (.iconst 1, 1) := by decide +kernel
theorem dX4_doCommand_97 : decode cX4_doCommand 97 = .ok (.invokevirtual 63, 3) := by decide +kernel
theorem dX4_doCommand_100 : decode cX4_doCommand 100 = .ok (.aload_n 0, 1) := by decide +kernel
theorem dX4_doCommand_101 : decode cX4_doCommand 101 = .ok (.iload_n 1, 1) := by decide +kernel
theorem dX4_doCommand_102 : decode cX4_doCommand 102 = .ok (.iconst 3, 1) := by decide +kernel
theorem dX4_doCommand_103 : decode cX4_doCommand 103 = .ok (.iadd, 1) := by decide +kernel
theorem dX4_doCommand_104 : decode cX4_doCommand 104 = .ok (.iconst 1, 1) := by decide +kernel
theorem dX4_doCommand_105 : decode cX4_doCommand 105 = .ok (.invokevirtual 63, 3) := by decide +kernel
theorem dX4_doCommand_108 : decode cX4_doCommand 108 = .ok (.invokevirtual 67, 3) := by decide +kernel
theorem dX4_doCommand_111 : decode cX4_doCommand 111 = .ok (.ireturn, 1) := by decide +kernel
theorem dX4_doCommand_112 : decode cX4_doCommand 112 = .ok (.aload_n 2, 1) := by decide +kernel
theorem dX4_doCommand_113 : decode cX4_doCommand 113 = .ok (.iconst 2, 1) := by decide +kernel
theorem dX4_doCommand_114 : decode cX4_doCommand 114 = .ok (.iload_n 3, 1) := by decide +kernel
theorem dX4_doCommand_115 : decode cX4_doCommand 115 = .ok (.aload_n 0, 1) := by decide +kernel
theorem dX4_doCommand_116 : decode cX4_doCommand 116 = .ok (.iload_n 1, 1) := by decide +kernel
theorem dX4_doCommand_117 : decode cX4_doCommand 117 = .ok (.iconst 2, 1) := by decide +kernel
theorem dX4_doCommand_118 : decode cX4_doCommand 118 = .ok (.iadd, 1) := by decide +kernel
theorem dX4_doCommand_119 : decode cX4_doCommand 119 = .ok (.iconst 2, 1) := by decide +kernel
theorem dX4_doCommand_120 : decode cX4_doCommand 120 = .ok (.invokevirtual 63, 3) := by decide +kernel
theorem dX4_doCommand_123 : decode cX4_doCommand 123 = .ok (.aload_n 0, 1) := by decide +kernel
theorem dX4_doCommand_124 : decode cX4_doCommand 124 = .ok (.iload_n 1, 1) := by decide +kernel
theorem dX4_doCommand_125 : decode cX4_doCommand 125 = .ok (.iconst 4, 1) := by decide +kernel
theorem dX4_doCommand_126 : decode cX4_doCommand 126 = .ok (.iadd, 1) := by decide +kernel
theorem dX4_doCommand_127 : decode cX4_doCommand 127 = .ok (.iconst 2, 1) := by decide +kernel
theorem dX4_doCommand_128 : decode cX4_doCommand 128 = .ok (.invokevirtual 63, 3) := by decide +kernel
theorem dX4_doCommand_131 : decode cX4_doCommand 131 = .ok (.invokevirtual 67, 3) := by decide +kernel
theorem dX4_doCommand_134 : decode cX4_doCommand 134 = .ok (.ireturn, 1) := by decide +kernel
theorem dX4_doCommand_135 : decode cX4_doCommand 135 = .ok (.aload_n 2, 1) := by decide +kernel
theorem dX4_doCommand_136 : decode cX4_doCommand 136 = .ok (.iconst 4, 1) := by decide +kernel
theorem dX4_doCommand_137 : decode cX4_doCommand 137 = .ok (.iload_n 3, 1) := by decide +kernel
theorem dX4_doCommand_138 : decode cX4_doCommand 138 = .ok (.aload_n 0, 1) := by decide +kernel
theorem dX4_doCommand_139 : decode cX4_doCommand 139 = .ok (.iload_n 1, 1) := by decide +kernel
theorem dX4_doCommand_140 : decode cX4_doCommand 140 = .ok (.iconst 2, 1) := by decide +kernel
theorem dX4_doCommand_141 : decode cX4_doCommand 141 = .ok (.iadd, 1) := by decide +kernel
theorem dX4_doCommand_142 : decode cX4_doCommand 142 = .ok (.iconst 1, 1) := by decide +kernel
theorem dX4_doCommand_143 : decode cX4_doCommand 143 = .ok (.invokevirtual 63, 3) := by decide +kernel
theorem dX4_doCommand_146 : decode cX4_doCommand 146 = .ok (.aload_n 0, 1) := by decide +kernel
theorem dX4_doCommand_147 : decode cX4_doCommand 147 = .ok (.iload_n 1, 1) := by decide +kernel
theorem dX4_doCommand_148 : decode cX4_doCommand 148 = .ok (.iconst 3, 1) := by decide +kernel
theorem dX4_doCommand_149 : decode cX4_doCommand 149 = .ok (.iadd, 1) := by decide +kernel
theorem dX4_doCommand_150 : decode cX4_doCommand 150 = .ok (.invokevirtual 35, 3) := by decide +kernel
theorem dX4_doCommand_153 : decode cX4_doCommand 153 = .ok (.bipush 43, 2) := by decide +kernel
theorem dX4_doCommand_155 : decode cX4_doCommand 155 = .ok (.if_icmp .ne 7, 3) := by decide +kernel
theorem dX4_doCommand_158 : decode cX4_doCommand 158 = .ok (.iconst 1, 1) := by decide +kernel
theorem dX4_doCommand_159 : decode cX4_doCommand 159 = .ok (.goto 4, 3) := by decide +kernel
theorem dX4_doCommand_162 : decode cX4_doCommand 162 = .ok (.iconst 0, 1) := by decide +kernel
theorem dX4_doCommand_163 : decode cX4_doCommand 163 = .ok (.invokevirtual 67, 3) := by decide +kernel
theorem dX4_doCommand_166 : decode cX4_doCommand 166 = .ok (.ireturn, 1) := by decide +kernel
theorem dX4_doCommand_167 : decode cX4_doCommand 167 = .ok (.aload_n 2, 1) := by decide +kernel
theorem dX4_doCommand_168 : decode cX4_doCommand 168 = .ok (.iconst 5, 1) := by decide +kernel
theorem dX4_doCommand_169 : decode cX4_doCommand 169 = .ok (.iload_n 3, 1) := by decide +kernel
theorem dX4_doCommand_170 : decode cX4_doCommand 170 = .ok (.aload_n 0, 1) := by decide +kernel
theorem dX4_doCommand_171 : decode cX4_doCommand 171 = .ok (.iload_n 1, 1) := by decide +kernel
theorem dX4_doCommand_172 : decode cX4_doCommand 172 = .ok (.iconst 2, 1) := by decide +kernel
theorem dX4_doCommand_173 : decode cX4_doCommand 173 = .ok (.iadd, 1) := by decide +kernel
theorem dX4_doCommand_174 : decode cX4_doCommand 174 = .ok (.iconst 1, 1) := by decide +kernel
theorem dX4_doCommand_175 : decode cX4_doCommand 175 = .ok (.invokevirtual 63, 3) := by decide +kernel
theorem dX4_doCommand_178 : decode cX4_doCommand 178 = .ok (.iconst 0, 1) := by decide +kernel
theorem dX4_doCommand_179 : decode cX4_doCommand 179 = .ok (.invokevirtual 67, 3) := by decide +kernel
theorem dX4_doCommand_182 : decode cX4_doCommand 182 = .ok (.ireturn, 1) := by decide +kernel
theorem dX4_doCommand_183 : decode cX4_doCommand 183 = .ok (.aload_n 2, 1) := by decide +kernel
theorem dX4_doCommand_184 : decode cX4_doCommand 184 = .ok (.bipush 6, 2) := by decide +kernel
theorem dX4_doCommand_186 : decode cX4_doCommand 186 = .ok (.iload_n 3, 1) := by decide +kernel
theorem dX4_doCommand_187 : decode cX4_doCommand 187 = .ok (.aload_n 0, 1) := by decide +kernel
theorem dX4_doCommand_188 : decode cX4_doCommand 188 = .ok (.iload_n 1, 1) := by decide +kernel
theorem dX4_doCommand_189 : decode cX4_doCommand 189 = .ok (.iconst 2, 1) := by decide +kernel
theorem dX4_doCommand_190 : decode cX4_doCommand 190 = .ok (.iadd, 1) := by decide +kernel
theorem dX4_doCommand_191 : decode cX4_doCommand 191 = .ok (.iconst 2, 1) := by decide +kernel
theorem dX4_doCommand_192 : decode cX4_doCommand 192 = .ok (.invokevirtual 63, 3) := by decide +kernel
theorem dX4_doCommand_195 : decode cX4_doCommand 195 = .ok (.iconst 0, 1) := by decide +kernel
theorem dX4_doCommand_196 : decode cX4_doCommand 196 = .ok (.invokevirtual 67, 3) := by decide +kernel
theorem dX4_doCommand_199 : decode cX4_doCommand 199 = .ok (.ireturn, 1) := by decide +kernel
theorem dX4_doCommand_200 : decode cX4_doCommand 200 = .ok (.aload_n 2, 1) := by decide +kernel
theorem dX4_doCommand_201 : decode cX4_doCommand 201 = .ok (.bipush 7, 2) := by decide +kernel
theorem dX4_doCommand_203 : decode cX4_doCommand 203 = .ok (.aload_n 0, 1) := by decide +kernel
theorem dX4_doCommand_204 : decode cX4_doCommand 204 = .ok (.iload_n 1, 1) := by decide +kernel
theorem dX4_doCommand_205 : decode cX4_doCommand 205 = .ok (.iconst 1, 1) := by decide +kernel
theorem dX4_doCommand_206 : decode cX4_doCommand 206 = .ok (.iadd, 1) := by decide +kernel
theorem dX4_doCommand_207 : decode cX4_doCommand 207 = .ok (.iconst 2, 1) := by decide +kernel
theorem dX4_doCommand_208 : decode cX4_doCommand 208 = .ok (.invokevirtual 63, 3) := by decide +kernel
theorem dX4_doCommand_211 : decode cX4_doCommand 211 = .ok (.iconst 0, 1) := by decide +kernel
theorem dX4_doCommand_212 : decode cX4_doCommand 212 = .ok (.iconst 0, 1) := by decide +kernel
theorem dX4_doCommand_213 : decode cX4_doCommand 213 = .ok (.invokevirtual 67, 3) := by decide +kernel
theorem dX4_doCommand_216 : decode cX4_doCommand 216 = .ok (.ireturn, 1) := by decide +kernel
end
section
theorem dX5_init_0 : decode cX5_init 0 = .ok (.aload_n 0, 1) := by decide +kernel
theorem dX5_init_1 : decode cX5_init 1 = .ok (.invokespecial 1, 3) := by decide +kernel
theorem dX5_init_4 : decode cX5_init 4 = .ok (.aload_n 0, 1) := by decide +kernel
theorem dX5_init_5 : decode cX5_init 5 = .ok (.new 7, 3) := by decide +kernel
theorem dX5_init_8 : decode cX5_init 8 = .ok (.dup, 1) := by decide +kernel
theorem dX5_init_9 : decode cX5_init 9 = .ok (.invokespecial 9, 3) := by decide +kernel
theorem dX5_init_12 : decode cX5_init 12 = .ok (.putfield 10, 3) := by decide +kernel
theorem dX5_init_15 : decode cX5_init 15 = .ok (.aload_n 0, 1) := by decide +kernel
theorem dX5_init_16 : decode cX5_init 16 = .ok (.new 16, 3) := by decide +kernel
theorem dX5_init_19 : decode cX5_init 19 = .ok (.dup, 1) := by decide +kernel
theorem dX5_init_20 : decode cX5_init 20 = .ok (.invokespecial 18, 3) := by decide +kernel
theorem dX5_init_23 : decode cX5_init 23 = .ok (.putfield 19, 3) := by decide +kernel
theorem dX5_init_26 : decode cX5_init 26 = .ok (.aload_n 0, 1) := by decide +kernel
theorem dX5_init_27 : decode cX5_init 27 = .ok (.new 16, 3) := by decide +kernel
theorem dX5_init_30 : decode cX5_init 30 = .ok (.dup, 1) := by decide +kernel
theorem dX5_init_31 : decode cX5_init 31 = .ok (.invokespecial 18, 3) := by decide +kernel
theorem dX5_init_34 : decode cX5_init 34 = .ok (.putfield 23, 3) := by decide +kernel
theorem dX5_init_37 : decode cX5_init 37 = .ok (.aload_n 0, 1) := by decide +kernel
theorem dX5_init_38 : decode cX5_init 38 = .ok (.new 26, 3) := by decide +kernel
theorem dX5_init_41 : decode cX5_init 41 = .ok (.dup, 1) := by decide +kernel
theorem dX5_init_42 : decode cX5_init 42 = .ok (.invokespecial 28, 3) := by decide +kernel
theorem dX5_init_45 : decode cX5_init 45 = .ok (.putfield 29, 3) := by decide +kernel
theorem dX5_init_48 : decode cX5_init 48 = .ok (.aload_n 0, 1) := by decide +kernel
theorem dX5_init_49 : decode cX5_init 49 = .ok (.iconst 2, 1) := by decide +kernel
theorem dX5_init_50 : decode cX5_init 50 = .ok (.anewarray 16, 3) := by decide +kernel
theorem dX5_init_53 : decode cX5_init 53 = .ok (.putfield 33, 3) := by decide +kernel
theorem dX5_init_56 : decode cX5_init 56 = .ok (.aload_n 0, 1) := by decide +kernel
theorem dX5_init_57 : decode cX5_init 57 = .ok (.iconst 2, 1) := by decide +kernel
theorem dX5_init_58 : decode cX5_init 58 = .ok (.newarray .boolean, 2) := by decide +kernel
theorem dX5_init_60 : decode cX5_init 60 = .ok (.putfield 37, 3) := by decide +kernel
theorem dX5_init_63 : decode cX5_init 63 = .ok (.iconst 0, 1) := by decide +kernel
theorem dX5_init_64 : decode cX5_init 64 = .ok (.istore_n 1, 1) := by decide +kernel
theorem dX5_init_65 : decode cX5_init 65 = .ok (.iload_n 1, 1) := by decide +kernel
theorem dX5_init_66 : decode cX5_init 66 = .ok (.iconst 2, 1) := by decide +kernel
theorem dX5_init_67 : decode cX5_init 67 = .ok (.if_icmp .ge 22, 3) := by decide +kernel
theorem dX5_init_70 : decode cX5_init 70 = .ok (.aload_n 0, 1) := by decide +kernel
theorem dX5_init_71 : decode cX5_init 71 = .ok (.getfield 33, 3) := by decide +kernel
theorem dX5_init_74 : decode cX5_init 74 = .ok (.iload_n 1, 1) := by decide +kernel
theorem dX5_init_75 : decode cX5_init 75 = .ok (.new 16, 3) := by decide +kernel
theorem dX5_init_78 : decode cX5_init 78 = .ok (.dup, 1) := by decide +kernel
theorem dX5_init_79 : decode cX5_init 79 = .ok (.invokespecial 18, 3) := by decide +kernel
theorem dX5_init_82 : decode cX5_init 82 = .ok (.aastore, 1) := by decide +kernel
theorem dX5_init_83 : decode cX5_init 83 = .ok (.iinc 1 1, 3) := by decide +kernel
theorem dX5_init_86 : decode cX5_init 86 = .ok (.goto (-21), 3) := by decide +kernel
theorem dX5_init_89 : decode cX5_init 89 = .ok (.return_, 1) := by decide +kernel
theorem dX5_append_0 : decode cX5_append 0 = .ok (.iload_n 1, 1) := by decide +kernel
theorem dX5_append_1 : decode cX5_append 1 = .ok (.iconst 0, 1) := by decide +kernel
theorem dX5_append_2 : decode cX5_append 2 = .ok (.sipush 255, 3) := by decide +kernel
theorem dX5_append_5 : decode cX5_append 5 = .ok (.invokestatic 41, 3) := by decide +kernel
theorem dX5_append_8 : decode cX5_append 8 = .ok (.invokestatic 45, 3) := by decide +kernel
theorem dX5_append_11 : decode cX5_append 11 = .ok (.aload_n 0, 1) := by decide +kernel
theorem dX5_append_12 : decode cX5_append 12 = .ok (.getfield 10, 3) := by decide +kernel
theorem dX5_append_15 : decode cX5_append 15 = .ok (.getfield 49, 3) := by decide +kernel
theorem dX5_append_18 : decode cX5_append 18 = .ok (.bipush 120, 2) := by decide +kernel
theorem dX5_append_20 : decode cX5_append 20 = .ok (.if_icmp .ge 7, 3) := by decide +kernel
theorem dX5_append_23 : decode cX5_append 23 = .ok (.iconst 1, 1) := by decide +kernel
theorem dX5_append_24 : decode cX5_append 24 = .ok (.goto 4, 3) := by decide +kernel
theorem dX5_append_27 : decode cX5_append 27 = .ok (.iconst 0, 1) := by decide +kernel
theorem dX5_append_28 : decode cX5_append 28 = .ok (.invokestatic 53, 3) := by decide +kernel
theorem dX5_append_31 : decode cX5_append 31 = .ok (.aload_n 0, 1) := by decide +kernel
theorem dX5_append_32 : decode cX5_append 32 = .ok (.getfield 10, 3) := by decide +kernel
theorem dX5_append_35 : decode cX5_append 35 = .ok (.iload_n 1, 1) := by decide +kernel
theorem dX5_append_36 : decode cX5_append 36 = .ok (.i2c, 1) := by decide +kernel
theorem dX5_append_37 : decode cX5_append 37 = .ok (.invokevirtual 56, 3) := by decide +kernel
theorem dX5_append_40 : decode cX5_append 40 = .ok (.ireturn, 1) := by decide +kernel
theorem dX5_clearText_0 : decode cX5_clearText 0 = .ok (.aload_n 0, 1) := by decide +kernel
theorem dX5_clearText_1 : decode cX5_clearText 1 = .ok (.getfield 10, 3) := by decide +kernel
theorem dX5_clearText_4 : decode cX5_clearText 4 = .ok (.invokevirtual 60, 3) := by decide +kernel
theorem dX5_clearText_7 : decode cX5_clearText 7 = .ok (.ireturn, 1) := by decide +kernel
theorem dX5_errorPosition_0 : decode cX5_errorPosition 0 = .ok (.aload_n 0, 1) := by decide +kernel
theorem dX5_errorPosition_1 : decode cX5_errorPosition 1 = .ok (.getfield 10, 3) := by decide +kernel
theorem dX5_errorPosition_4 : decode cX5_errorPosition 4 = .ok (.invokevirtual 64, 3) := by decide +kernel
theorem dX5_errorPosition_7 : decode cX5_errorPosition 7 = .ok (.ireturn, 1) := by decide +kernel
theorem dX5_load_0 : decode cX5_load 0 = .ok (.aload_n 0, 1) := by decide +kernel
theorem dX5_load_1 : decode cX5_load 1 = .ok (.getfield 10, 3) := by decide +kernel
theorem dX5_load_4 : decode cX5_load 4 = .ok (.invokevirtual 64, 3) := by decide +kernel
theorem dX5_load_7 : decode cX5_load 7 = .ok (.iconst (-1), 1) := by decide +kernel
theorem dX5_load_8 : decode cX5_load 8 = .ok (.if_icmp .ne 7, 3) := by decide +kernel
theorem dX5_load_11 : decode cX5_load 11 = .ok (.iconst 1, 1) := by decide +kernel
theorem dX5_load_12 : decode cX5_load 12 = .ok (.goto 4, 3) := by decide +kernel
theorem dX5_load_15 : decode cX5_load 15 = .ok (.iconst 0, 1) := by decide +kernel
theorem dX5_load_16 : decode cX5_load 16 = .ok (.invokestatic 53, 3) := by decide +kernel
theorem dX5_load_19 : decode cX5_load 19 = .ok (.aload_n 0, 1) := by decide +kernel
theorem dX5_load_20 : decode cX5_load 20 = .ok (.getfield 19, 3) := by decide +kernel
theorem dX5_load_23 : decode cX5_load 23 = .ok (.invokevirtual 67, 3) := by decide +kernel
theorem dX5_load_26 : decode cX5_load 26 = .ok (.aload_n 0, 1) := by decide +kernel
theorem dX5_load_27 : decode cX5_load 27 = .ok (.getfield 29, 3) := by decide +kernel
theorem dX5_load_30 : decode cX5_load 30 = .ok (.invokevirtual 70, 3) := by decide +kernel
theorem dX5_load_33 : decode cX5_load 33 = .ok (.iconst 0, 1) := by decide +kernel
theorem dX5_load_34 : decode cX5_load 34 = .ok (.istore_n 1, 1) := by decide +kernel
theorem dX5_load_35 : decode cX5_load 35 = .ok (.iload_n 1, 1) := by decide +kernel
theorem dX5_load_36 : decode cX5_load 36 = .ok (.iconst 2, 1) := by decide +kernel
theorem dX5_load_37 : decode cX5_load 37 = .ok (.if_icmp .ge 16, 3) := by decide +kernel
theorem dX5_load_40 : decode cX5_load 40 = .ok (.aload_n 0, 1) := by decide +kernel
theorem dX5_load_41 : decode cX5_load 41 = .ok (.getfield 37, 3) := by decide +kernel
theorem dX5_load_44 : decode cX5_load 44 = .ok (.iload_n 1, 1) := by decide +kernel
theorem dX5_load_45 : decode cX5_load 45 = .ok (.iconst 0, 1) := by decide +kernel
theorem dX5_load_46 : decode cX5_load 46 = .ok (.bastore, 1) := by decide +kernel
theorem dX5_load_47 : decode cX5_load 47 = .ok (.iinc 1 1, 3) := by decide +kernel
theorem dX5_load_50 : decode cX5_load 50 = .ok (.goto (-15), 3) := by decide +kernel
theorem dX5_load_53 : decode cX5_load 53 = .ok (.iconst 0, 1) := by decide +kernel
theorem dX5_load_54 : decode cX5_load 54 = .ok (.istore_n 1, 1) := by decide +kernel
theorem dX5_load_55 : decode cX5_load 55 = .ok (.iconst 1, 1) := by decide +kernel
theorem dX5_load_56 : decode cX5_load 56 = .ok (.istore_n 2, 1) := by decide +kernel
theorem dX5_load_57 : decode cX5_load 57 = .ok (.iload_n 2, 1) := by decide +kernel
theorem dX5_load_58 : decode cX5_load 58 = .ok (.aload_n 0, 1) := by decide +kernel
theorem dX5_load_59 : decode cX5_load 59 = .ok (.getfield 10, 3) := by decide +kernel
theorem dX5_load_62 : decode cX5_load 62 = .ok (.getfield 49, 3) := by decide +kernel
theorem dX5_load_65 : decode cX5_load 65 = .ok (.if_icmp .ge 38, 3) := by decide +kernel
theorem dX5_load_68 : decode cX5_load 68 = .ok (.aload_n 0, 1) := by decide +kernel
theorem dX5_load_69 : decode cX5_load 69 = .ok (.getfield 10, 3) := by decide +kernel
theorem dX5_load_72 : decode cX5_load 72 = .ok (.iload_n 2, 1) := by decide +kernel
theorem dX5_load_73 : decode cX5_load 73 = .ok (.aload_n 0, 1) := by decide +kernel
theorem dX5_load_74 : decode cX5_load 74 = .ok (.getfield 19, 3) := by decide +kernel
theorem dX5_load_77 : decode cX5_load 77 = .ok (.invokevirtual 73, 3) := by decide +kernel
theorem dX5_load_80 : decode cX5_load 80 = .ok (.iconst (-1), 1) := by decide +kernel
theorem dX5_load_81 : decode cX5_load 81 = .ok (.if_icmp .ne 6, 3) := by decide +kernel
theorem dX5_load_84 : decode cX5_load 84 = .ok (.iinc 1 1, 3) := by decide +kernel
theorem dX5_load_87 : decode cX5_load 87 = .ok (.iload_n 2, 1) := by decide +kernel
theorem dX5_load_88 : decode cX5_load 88 = .ok (.iconst 1, 1) := by decide +kernel
theorem dX5_load_89 : decode cX5_load 89 = .ok (.aload_n 0, 1) := by decide +kernel
theorem dX5_load_90 : decode cX5_load 90 = .ok (.getfield 10, 3) := by decide +kernel
theorem dX5_load_93 : decode cX5_load 93 = .ok (.iload_n 2, 1) := by decide +kernel
theorem dX5_load_94 : decode cX5_load 94 = .ok (.invokevirtual 77, 3) := by decide +kernel
theorem dX5_load_97 : decode cX5_load 97 = .ok (.iadd, 1) := by decide +kernel
theorem dX5_load_98 : decode cX5_load 98 = .ok (.iadd, 1) := by decide +kernel
theorem dX5_load_99 : decode cX5_load 99 = .ok (.istore_n 2, 1) := by decide +kernel
theorem dX5_load_100 : decode cX5_load 100 = .ok (.goto (-43), 3) := by decide +kernel
theorem dX5_load_103 : decode cX5_load 103 = .ok (.iload_n 1, 1) := by decide +kernel
theorem dX5_load_104 : decode cX5_load 104 = .ok (.ireturn, 1) := by decide +kernel
theorem dX5_about_0 : decode cX5_about 0 = .ok (.iload_n 1, 1) := by decide +kernel
theorem dX5_about_1 : decode cX5_about 1 = .ok (.iconst 0, 1) := by decide +kernel
theorem dX5_about_2 : decode cX5_about 2 = .ok (.bipush 12, 2) := by decide +kernel
theorem dX5_about_4 : decode cX5_about 4 = .ok (.invokestatic 41, 3) := by decide +kernel
theorem dX5_about_7 : decode cX5_about 7 = .ok (.invokestatic 45, 3) := by decide +kernel
theorem dX5_about_10 : decode cX5_about 10 = .ok (.aload_n 0, 1) := by decide +kernel
theorem dX5_about_11 : decode cX5_about 11 = .ok (.getfield 19, 3) := by decide +kernel
theorem dX5_about_14 : decode cX5_about 14 = .ok (.iload_n 1, 1) := by decide +kernel
theorem dX5_about_15 : decode cX5_about 15 = .ok (.invokevirtual 81, 3) := by decide +kernel
theorem dX5_about_18 : decode cX5_about 18 = .ok (.ireturn, 1) := by decide +kernel
theorem dX5_customerOf_0 : decode cX5_customerOf 0 = .ok (.aload_n 0, 1) := by decide +kernel
theorem dX5_customerOf_1 : decode cX5_customerOf 1 = .ok (.getfield 19, 3) := by decide +kernel
theorem dX5_customerOf_4 : decode cX5_customerOf 4 = .ok (.iload_n 1, 1) := by decide +kernel
theorem dX5_customerOf_5 : decode cX5_customerOf 5 = .ok (.invokevirtual 84, 3) := by decide +kernel
theorem dX5_customerOf_8 : decode cX5_customerOf 8 = .ok (.invokestatic 88, 3) := by decide +kernel
theorem dX5_customerOf_11 : decode cX5_customerOf 11 = .ok (.iload_n 2, 1) := by decide +kernel
theorem dX5_customerOf_12 : decode cX5_customerOf 12 = .ok (.iconst 0, 1) := by decide +kernel
theorem dX5_customerOf_13 : decode cX5_customerOf 13 = .ok (.bipush 10, 2) := by decide +kernel
theorem dX5_customerOf_15 : decode cX5_customerOf 15 = .ok (.invokestatic 41, 3) := by decide +kernel
theorem dX5_customerOf_18 : decode cX5_customerOf 18 = .ok (.invokestatic 45, 3) := by decide +kernel
theorem dX5_customerOf_21 : decode cX5_customerOf 21 = .ok (.iload_n 2, 1) := by decide +kernel
theorem dX5_customerOf_22 : decode cX5_customerOf 22 = .ok (.lookupswitch 66 #[(9, 26), (10, 46)], 26) := by decide +kernel
theorem dX5_customerOf_48 : decode cX5_customerOf 48 = .ok (.aload_n 0, 1) := by decide +kernel
theorem dX5_customerOf_49 : decode cX5_customerOf 49 = .ok (.getfield 19, 3) := by decide +kernel
theorem dX5_customerOf_52 : decode cX5_customerOf 52 = .ok (.getfield 91, 3) := by decide +kernel
theorem dX5_customerOf_55 : decode cX5_customerOf 55 = .ok (.iload_n 1, 1) := by decide +kernel
theorem dX5_customerOf_56 : decode cX5_customerOf 56 = .ok (.aaload, 1) := by decide +kernel
theorem dX5_customerOf_57 : decode cX5_customerOf 57 = .ok (.aload_n 0, 1) := by decide +kernel
theorem dX5_customerOf_58 : decode cX5_customerOf 58 = .ok (.getfield 19, 3) := by decide +kernel
theorem dX5_customerOf_61 : decode cX5_customerOf 61 = .ok (.getfield 95, 3) := by decide +kernel
theorem dX5_customerOf_64 : decode cX5_customerOf 64 = .ok (.invokevirtual 98, 3) := by decide +kernel
theorem dX5_customerOf_67 : decode cX5_customerOf 67 = .ok (.ireturn, 1) := by decide +kernel
theorem dX5_customerOf_68 : decode cX5_customerOf 68 = .ok (.aload_n 0, 1) := by decide +kernel
theorem dX5_customerOf_69 : decode cX5_customerOf 69 = .ok (.getfield 19, 3) := by decide +kernel
theorem dX5_customerOf_72 : decode cX5_customerOf 72 = .ok (.getfield 91, 3) := by decide +kernel
theorem dX5_customerOf_75 : decode cX5_customerOf 75 = .ok (.iload_n 1, 1) := by decide +kernel
theorem dX5_customerOf_76 : decode cX5_customerOf 76 = .ok (.aaload, 1) := by decide +kernel
theorem dX5_customerOf_77 : decode cX5_customerOf 77 = .ok (.aload_n 0, 1) := by decide +kernel
theorem dX5_customerOf_78 : decode cX5_customerOf 78 = .ok (.getfield 19, 3) := by decide +kernel
theorem dX5_customerOf_81 : decode cX5_customerOf 81 = .ok (.getfield 95, 3) := by decide +kernel
theorem dX5_customerOf_84 : decode cX5_customerOf 84 = .ok (.invokevirtual 103, 3) := by decide +kernel
theorem dX5_customerOf_87 : decode cX5_customerOf 87 = .ok (.ireturn, 1) := by decide +kernel
theorem dX5_customerOf_88 : decode cX5_customerOf 88 = .ok (.aload_n 0, 1) := by decide +kernel
theorem dX5_customerOf_89 : decode cX5_customerOf 89 = .ok (.getfield 19, 3) := by decide +kernel
theorem dX5_customerOf_92 : decode cX5_customerOf 92 = .ok (.getfield 91, 3) := by decide +kernel
theorem dX5_customerOf_95 : decode cX5_customerOf 95 = .ok (.iload_n 1, 1) := by decide +kernel
theorem dX5_customerOf_96 : decode cX5_customerOf 96 = .ok (.aaload, 1) := by decide +kernel
theorem dX5_customerOf_97 : decode cX5_customerOf 97 = .ok (.iload_n 2, 1) := by decide +kernel
theorem dX5_customerOf_98 : decode cX5_customerOf 98 = .ok (.invokevirtual 106, 3) := by decide +kernel
theorem dX5_customerOf_101 : decode cX5_customerOf 101 = .ok (.ireturn, 1) := by decide +kernel
theorem dX5_ordered_0 : decode cX5_ordered 0 = .ok (.aload_n 0, 1) := by decide +kernel
theorem dX5_ordered_1 : decode cX5_ordered 1 = .ok (.getfield 19, 3) := by decide +kernel
theorem dX5_ordered_4 : decode cX5_ordered 4 = .ok (.iload_n 1, 1) := by decide +kernel
theorem dX5_ordered_5 : decode cX5_ordered 5 = .ok (.invokevirtual 84, 3) := by decide +kernel
theorem dX5_ordered_8 : decode cX5_ordered 8 = .ok (.ifCond .eq 14, 3) := by decide +kernel
theorem dX5_ordered_11 : decode cX5_ordered 11 = .ok (.iload_n 2, 1) := by decide +kernel
theorem dX5_ordered_12 : decode cX5_ordered 12 = .ok (.invokestatic 107, 3) := by decide +kernel
theorem dX5_ordered_15 : decode cX5_ordered 15 = .ok (.ifCond .eq 7, 3) := by decide +kernel
theorem dX5_ordered_18 : decode cX5_ordered 18 = .ok (.iconst 1, 1) := by decide +kernel
theorem dX5_ordered_19 : decode cX5_ordered 19 = .ok (.goto 4, 3) := by decide +kernel
theorem dX5_ordered_22 : decode cX5_ordered 22 = .ok (.iconst 0, 1) := by decide +kernel
theorem dX5_ordered_23 : decode cX5_ordered 23 = .ok (.invokestatic 88, 3) := by decide +kernel
theorem dX5_ordered_26 : decode cX5_ordered 26 = .ok (.aload_n 0, 1) := by decide +kernel
theorem dX5_ordered_27 : decode cX5_ordered 27 = .ok (.getfield 19, 3) := by decide +kernel
theorem dX5_ordered_30 : decode cX5_ordered 30 = .ok (.getfield 91, 3) := by decide +kernel
theorem dX5_ordered_33 : decode cX5_ordered 33 = .ok (.iload_n 1, 1) := by decide +kernel
theorem dX5_ordered_34 : decode cX5_ordered 34 = .ok (.aaload, 1) := by decide +kernel
theorem dX5_ordered_35 : decode cX5_ordered 35 = .ok (.getfield 110, 3) := by decide +kernel
theorem dX5_ordered_38 : decode cX5_ordered 38 = .ok (.iload_n 2, 1) := by decide +kernel
theorem dX5_ordered_39 : decode cX5_ordered 39 = .ok (.iaload, 1) := by decide +kernel
theorem dX5_ordered_40 : decode cX5_ordered 40 = .ok (.ireturn, 1) := by decide +kernel
theorem dX5_away_0 : decode cX5_away 0 = .ok (.aload_n 0, 1) := by decide +kernel
theorem dX5_away_1 : decode cX5_away 1 = .ok (.getfield 19, 3) := by decide +kernel
theorem dX5_away_4 : decode cX5_away 4 = .ok (.iload_n 1, 1) := by decide +kernel
theorem dX5_away_5 : decode cX5_away 5 = .ok (.invokevirtual 84, 3) := by decide +kernel
theorem dX5_away_8 : decode cX5_away 8 = .ok (.ifCond .eq 16, 3) := by decide +kernel
theorem dX5_away_11 : decode cX5_away 11 = .ok (.iload_n 2, 1) := by decide +kernel
theorem dX5_away_12 : decode cX5_away 12 = .ok (.iconst 0, 1) := by decide +kernel
theorem dX5_away_13 : decode cX5_away 13 = .ok (.iconst 2, 1) := by decide +kernel
theorem dX5_away_14 : decode cX5_away 14 = .ok (.invokestatic 41, 3) := by decide +kernel
theorem dX5_away_17 : decode cX5_away 17 = .ok (.ifCond .eq 7, 3) := by decide +kernel
theorem dX5_away_20 : decode cX5_away 20 = .ok (.iconst 1, 1) := by decide +kernel
theorem dX5_away_21 : decode cX5_away 21 = .ok (.goto 4, 3) := by decide +kernel
theorem dX5_away_24 : decode cX5_away 24 = .ok (.iconst 0, 1) := by decide +kernel
theorem dX5_away_25 : decode cX5_away 25 = .ok (.invokestatic 88, 3) := by decide +kernel
theorem dX5_away_28 : decode cX5_away 28 = .ok (.iload_n 3, 1) := by decide +kernel
theorem dX5_away_29 : decode cX5_away 29 = .ok (.iconst 0, 1) := by decide +kernel
theorem dX5_away_30 : decode cX5_away 30 = .ok (.iconst 1, 1) := by decide +kernel
theorem dX5_away_31 : decode cX5_away 31 = .ok (.invokestatic 41, 3) := by decide +kernel
theorem dX5_away_34 : decode cX5_away 34 = .ok (.invokestatic 45, 3) := by decide +kernel
theorem dX5_away_37 : decode cX5_away 37 = .ok (.aload_n 0, 1) := by decide +kernel
theorem dX5_away_38 : decode cX5_away 38 = .ok (.getfield 19, 3) := by decide +kernel
theorem dX5_away_41 : decode cX5_away 41 = .ok (.getfield 91, 3) := by decide +kernel
theorem dX5_away_44 : decode cX5_away 44 = .ok (.iload_n 1, 1) := by decide +kernel
theorem dX5_away_45 : decode cX5_away 45 = .ok (.aaload, 1) := by decide +kernel
theorem dX5_away_46 : decode cX5_away 46 = .ok (.astore 4, 2) := by decide +kernel
theorem dX5_away_48 : decode cX5_away 48 = .ok (.iload_n 2, 1) := by decide +kernel
theorem dX5_away_49 : decode cX5_away 49 = .ok (.aload 4, 2) := by decide +kernel
theorem dX5_away_51 : decode cX5_away 51 = .ok (.getfield 114, 3) := by decide +kernel
theorem dX5_away_54 : decode cX5_away 54 = .ok (.if_icmp .lt 5, 3) := by decide +kernel
theorem dX5_away_57 : decode cX5_away 57 = .ok (.iconst (-1), 1) := by decide +kernel
theorem dX5_away_58 : decode cX5_away 58 = .ok (.ireturn, 1) := by decide +kernel
theorem dX5_away_59 : decode cX5_away 59 = .ok (.iload_n 3, 1) := by decide +kernel
theorem dX5_away_60 : decode cX5_away 60 = .ok (.ifCond .ne 13, 3) := by decide +kernel
theorem dX5_away_63 : decode cX5_away 63 = .ok (.aload 4, 2) := by decide +kernel
theorem dX5_away_65 : decode cX5_away 65 = .ok (.getfield 117, 3) := by decide +kernel
theorem dX5_away_68 : decode cX5_away 68 = .ok (.iload_n 2, 1) := by decide +kernel
theorem dX5_away_69 : decode cX5_away 69 = .ok (.iaload, 1) := by decide +kernel
theorem dX5_away_70 : decode cX5_away 70 = .ok (.goto 10, 3) := by decide +kernel
theorem dX5_away_73 : decode cX5_away 73 = .ok (.aload 4, 2) := by decide +kernel
theorem dX5_away_75 : decode cX5_away 75 = .ok (.getfield 120, 3) := by decide +kernel
theorem dX5_away_78 : decode cX5_away 78 = .ok (.iload_n 2, 1) := by decide +kernel
theorem dX5_away_79 : decode cX5_away 79 = .ok (.iaload, 1) := by decide +kernel
theorem dX5_away_80 : decode cX5_away 80 = .ok (.ireturn, 1) := by decide +kernel
theorem dX5_isClosed_0 : decode cX5_isClosed 0 = .ok (.iload_n 1, 1) := by decide +kernel
theorem dX5_isClosed_1 : decode cX5_isClosed 1 = .ok (.invokestatic 123, 3) := by decide +kernel
theorem dX5_isClosed_4 : decode cX5_isClosed 4 = .ok (.ifCond .eq 14, 3) := by decide +kernel
theorem dX5_isClosed_7 : decode cX5_isClosed 7 = .ok (.iload_n 2, 1) := by decide +kernel
theorem dX5_isClosed_8 : decode cX5_isClosed 8 = .ok (.invokestatic 107, 3) := by decide +kernel
theorem dX5_isClosed_11 : decode cX5_isClosed 11 = .ok (.ifCond .eq 7, 3) := by decide +kernel
theorem dX5_isClosed_14 : decode cX5_isClosed 14 = .ok (.iconst 1, 1) := by decide +kernel
theorem dX5_isClosed_15 : decode cX5_isClosed 15 = .ok (.goto 4, 3) := by decide +kernel
theorem dX5_isClosed_18 : decode cX5_isClosed 18 = .ok (.iconst 0, 1) := by decide +kernel
theorem dX5_isClosed_19 : decode cX5_isClosed 19 = .ok (.invokestatic 88, 3) := by decide +kernel
theorem dX5_isClosed_22 : decode cX5_isClosed 22 = .ok (.aload_n 0, 1) := by decide +kernel
theorem dX5_isClosed_23 : decode cX5_isClosed 23 = .ok (.getfield 19, 3) := by decide +kernel
theorem dX5_isClosed_26 : decode cX5_isClosed 26 = .ok (.iload_n 1, 1) := by decide +kernel
theorem dX5_isClosed_27 : decode cX5_isClosed 27 = .ok (.iload_n 2, 1) := by decide +kernel
theorem dX5_isClosed_28 : decode cX5_isClosed 28 = .ok (.invokevirtual 126, 3) := by decide +kernel
theorem dX5_isClosed_31 : decode cX5_isClosed 31 = .ok (.ifCond .eq 7, 3) := by decide +kernel
theorem dX5_isClosed_34 : decode cX5_isClosed 34 = .ok (.iconst 1, 1) := by decide +kernel
theorem dX5_isClosed_35 : decode cX5_isClosed 35 = .ok (.goto 4, 3) := by decide +kernel
theorem dX5_isClosed_38 : decode cX5_isClosed 38 = .ok (.iconst 0, 1) := by decide +kernel
theorem dX5_isClosed_39 : decode cX5_isClosed 39 = .ok (.ireturn, 1) := by decide +kernel
theorem dX5_round_0 : decode cX5_round 0 = .ok (.iload_n 1, 1) := by decide +kernel
theorem dX5_round_1 : decode cX5_round 1 = .ok (.iconst 0, 1) := by decide +kernel
theorem dX5_round_2 : decode cX5_round 2 = .ok (.iconst 3, 1) := by decide +kernel
theorem dX5_round_3 : decode cX5_round 3 = .ok (.invokestatic 41, 3) := by decide +kernel
theorem dX5_round_6 : decode cX5_round 6 = .ok (.invokestatic 88, 3) := by decide +kernel
theorem dX5_round_9 : decode cX5_round 9 = .ok (.aload_n 0, 1) := by decide +kernel
theorem dX5_round_10 : decode cX5_round 10 = .ok (.getfield 19, 3) := by decide +kernel
theorem dX5_round_13 : decode cX5_round 13 = .ok (.getfield 130, 3) := by decide +kernel
theorem dX5_round_16 : decode cX5_round 16 = .ok (.iload_n 1, 1) := by decide +kernel
theorem dX5_round_17 : decode cX5_round 17 = .ok (.iaload, 1) := by decide +kernel
theorem dX5_round_18 : decode cX5_round 18 = .ok (.ireturn, 1) := by decide +kernel
theorem dX5_setting_0 : decode cX5_setting 0 = .ok (.iload_n 1, 1) := by decide +kernel
theorem dX5_setting_1 : decode cX5_setting 1 = .ok (.invokestatic 133, 3) := by decide +kernel
theorem dX5_setting_4 : decode cX5_setting 4 = .ok (.invokestatic 45, 3) := by decide +kernel
theorem dX5_setting_7 : decode cX5_setting 7 = .ok (.aload_n 0, 1) := by decide +kernel
theorem dX5_setting_8 : decode cX5_setting 8 = .ok (.getfield 19, 3) := by decide +kernel
theorem dX5_setting_11 : decode cX5_setting 11 = .ok (.getfield 136, 3) := by decide +kernel
theorem dX5_setting_14 : decode cX5_setting 14 = .ok (.iload_n 1, 1) := by decide +kernel
theorem dX5_setting_15 : decode cX5_setting 15 = .ok (.iaload, 1) := by decide +kernel
theorem dX5_setting_16 : decode cX5_setting 16 = .ok (.ireturn, 1) := by decide +kernel
theorem dX5_due_0 : decode cX5_due 0 = .ok (.aload_n 0, 1) := by decide +kernel
theorem dX5_due_1 : decode cX5_due 1 = .ok (.getfield 19, 3) := by decide +kernel
theorem dX5_due_4 : decode cX5_due 4 = .ok (.iload_n 1, 1) := by decide +kernel
theorem dX5_due_5 : decode cX5_due 5 = .ok (.invokevirtual 84, 3) := by decide +kernel
theorem dX5_due_8 : decode cX5_due 8 = .ok (.invokestatic 88, 3) := by decide +kernel
theorem dX5_due_11 : decode cX5_due 11 = .ok (.iload_n 2, 1) := by decide +kernel
theorem dX5_due_12 : decode cX5_due 12 = .ok (.iconst 0, 1) := by decide +kernel
theorem dX5_due_13 : decode cX5_due 13 = .ok (.sipush 999, 3) := by decide +kernel
theorem dX5_due_16 : decode cX5_due 16 = .ok (.invokestatic 41, 3) := by decide +kernel
theorem dX5_due_19 : decode cX5_due 19 = .ok (.invokestatic 45, 3) := by decide +kernel
theorem dX5_due_22 : decode cX5_due 22 = .ok (.iload_n 3, 1) := by decide +kernel
theorem dX5_due_23 : decode cX5_due 23 = .ok (.iconst 0, 1) := by decide +kernel
theorem dX5_due_24 : decode cX5_due 24 = .ok (.sipush 500, 3) := by decide +kernel
theorem dX5_due_27 : decode cX5_due 27 = .ok (.invokestatic 41, 3) := by decide +kernel
theorem dX5_due_30 : decode cX5_due 30 = .ok (.invokestatic 45, 3) := by decide +kernel
theorem dX5_due_33 : decode cX5_due 33 = .ok (.iload 4, 2) := by decide +kernel
theorem dX5_due_35 : decode cX5_due 35 = .ok (.iconst 0, 1) := by decide +kernel
theorem dX5_due_36 : decode cX5_due 36 = .ok (.iconst 1, 1) := by decide +kernel
theorem dX5_due_37 : decode cX5_due 37 = .ok (.invokestatic 41, 3) := by decide +kernel
theorem dX5_due_40 : decode cX5_due 40 = .ok (.invokestatic 45, 3) := by decide +kernel
theorem dX5_due_43 : decode cX5_due 43 = .ok (.aload_n 0, 1) := by decide +kernel
theorem dX5_due_44 : decode cX5_due 44 = .ok (.getfield 19, 3) := by decide +kernel
theorem dX5_due_47 : decode cX5_due 47 = .ok (.getfield 91, 3) := by decide +kernel
theorem dX5_due_50 : decode cX5_due 50 = .ok (.iload_n 1, 1) := by decide +kernel
theorem dX5_due_51 : decode cX5_due 51 = .ok (.aaload, 1) := by decide +kernel
theorem dX5_due_52 : decode cX5_due 52 = .ok (.astore 5, 2) := by decide +kernel
theorem dX5_due_54 : decode cX5_due 54 = .ok (.iload 4, 2) := by decide +kernel
theorem dX5_due_56 : decode cX5_due 56 = .ok (.ifCond .ne 13, 3) := by decide +kernel
theorem dX5_due_59 : decode cX5_due 59 = .ok (.aload 5, 2) := by decide +kernel
theorem dX5_due_61 : decode cX5_due 61 = .ok (.iload_n 2, 1) := by decide +kernel
theorem dX5_due_62 : decode cX5_due 62 = .ok (.iload_n 3, 1) := by decide +kernel
theorem dX5_due_63 : decode cX5_due 63 = .ok (.invokevirtual 139, 3) := by decide +kernel
theorem dX5_due_66 : decode cX5_due 66 = .ok (.goto 10, 3) := by decide +kernel
theorem dX5_due_69 : decode cX5_due 69 = .ok (.aload 5, 2) := by decide +kernel
theorem dX5_due_71 : decode cX5_due 71 = .ok (.iload_n 2, 1) := by decide +kernel
theorem dX5_due_72 : decode cX5_due 72 = .ok (.iload_n 3, 1) := by decide +kernel
theorem dX5_due_73 : decode cX5_due 73 = .ok (.invokevirtual 143, 3) := by decide +kernel
theorem dX5_due_76 : decode cX5_due 76 = .ok (.ireturn, 1) := by decide +kernel
theorem dX5_customer_0 : decode cX5_customer 0 = .ok (.aload_n 0, 1) := by decide +kernel
theorem dX5_customer_1 : decode cX5_customer 1 = .ok (.iconst 0, 1) := by decide +kernel
theorem dX5_customer_2 : decode cX5_customer 2 = .ok (.iload_n 1, 1) := by decide +kernel
theorem dX5_customer_3 : decode cX5_customer 3 = .ok (.iload_n 2, 1) := by decide +kernel
theorem dX5_customer_4 : decode cX5_customer 4 = .ok (.iconst 0, 1) := by decide +kernel
theorem dX5_customer_5 : decode cX5_customer 5 = .ok (.invokevirtual 146, 3) := by decide +kernel
theorem dX5_customer_8 : decode cX5_customer 8 = .ok (.ireturn, 1) := by decide +kernel
theorem dX5_change_0 : decode cX5_change 0 = .ok (.aload_n 0, 1) := by decide +kernel
theorem dX5_change_1 : decode cX5_change 1 = .ok (.iconst 1, 1) := by decide +kernel
theorem dX5_change_2 : decode cX5_change 2 = .ok (.iload_n 1, 1) := by decide +kernel
theorem dX5_change_3 : decode cX5_change 3 = .ok (.iload_n 2, 1) := by decide +kernel
theorem dX5_change_4 : decode cX5_change 4 = .ok (.iload_n 3, 1) := by decide +kernel
theorem dX5_change_5 : decode cX5_change 5 = .ok (.invokevirtual 146, 3) := by decide +kernel
theorem dX5_change_8 : decode cX5_change 8 = .ok (.ireturn, 1) := by decide +kernel
theorem dX5_holiday_0 : decode cX5_holiday 0 = .ok (.aload_n 0, 1) := by decide +kernel
theorem dX5_holiday_1 : decode cX5_holiday 1 = .ok (.iconst 2, 1) := by decide +kernel
theorem dX5_holiday_2 : decode cX5_holiday 2 = .ok (.iload_n 1, 1) := by decide +kernel
theorem dX5_holiday_3 : decode cX5_holiday 3 = .ok (.iload_n 2, 1) := by decide +kernel
theorem dX5_holiday_4 : decode cX5_holiday 4 = .ok (.iload_n 3, 1) := by decide +kernel
theorem dX5_holiday_5 : decode cX5_holiday 5 = .ok (.invokevirtual 146, 3) := by decide +kernel
theorem dX5_holiday_8 : decode cX5_holiday 8 = .ok (.ireturn, 1) := by decide +kernel
theorem dX5_drop_0 : decode cX5_drop 0 = .ok (.aload_n 0, 1) := by decide +kernel
theorem dX5_drop_1 : decode cX5_drop 1 = .ok (.iconst 3, 1) := by decide +kernel
theorem dX5_drop_2 : decode cX5_drop 2 = .ok (.iload_n 1, 1) := by decide +kernel
theorem dX5_drop_3 : decode cX5_drop 3 = .ok (.iload_n 2, 1) := by decide +kernel
theorem dX5_drop_4 : decode cX5_drop 4 = .ok (.iconst 0, 1) := by decide +kernel
theorem dX5_drop_5 : decode cX5_drop 5 = .ok (.invokevirtual 146, 3) := by decide +kernel
theorem dX5_drop_8 : decode cX5_drop 8 = .ok (.ireturn, 1) := by decide +kernel
theorem dX5_close_0 : decode cX5_close 0 = .ok (.aload_n 0, 1) := by decide +kernel
theorem dX5_close_1 : decode cX5_close 1 = .ok (.iconst 4, 1) := by decide +kernel
theorem dX5_close_2 : decode cX5_close 2 = .ok (.iload_n 1, 1) := by decide +kernel
theorem dX5_close_3 : decode cX5_close 3 = .ok (.iload_n 2, 1) := by decide +kernel
theorem dX5_close_4 : decode cX5_close 4 = .ok (.iload_n 3, 1) := by decide +kernel
theorem dX5_close_5 : decode cX5_close 5 = .ok (.ifCond .eq 7, 3) := by decide +kernel
theorem dX5_close_8 : decode cX5_close 8 = .ok (.iconst 1, 1) := by decide +kernel
theorem dX5_close_9 : decode cX5_close 9 = .ok (.goto 4, 3) := by decide +kernel
theorem dX5_close_12 : decode cX5_close 12 = .ok (.iconst 0, 1) := by decide +kernel
theorem dX5_close_13 : decode cX5_close 13 = .ok (.invokevirtual 146, 3) := by decide +kernel
theorem dX5_close_16 : decode cX5_close 16 = .ok (.ireturn, 1) := by decide +kernel
theorem dX5_swap_0 : decode cX5_swap 0 = .ok (.aload_n 0, 1) := by decide +kernel
theorem dX5_swap_1 : decode cX5_swap 1 = .ok (.iconst 5, 1) := by decide +kernel
theorem dX5_swap_2 : decode cX5_swap 2 = .ok (.iload_n 1, 1) := by decide +kernel
theorem dX5_swap_3 : decode cX5_swap 3 = .ok (.iload_n 2, 1) := by decide +kernel
theorem dX5_swap_4 : decode cX5_swap 4 = .ok (.iconst 0, 1) := by decide +kernel
theorem dX5_swap_5 : decode cX5_swap 5 = .ok (.invokevirtual 146, 3) := by decide +kernel
theorem dX5_swap_8 : decode cX5_swap 8 = .ok (.ireturn, 1) := by decide +kernel
theorem dX5_set_0 : decode cX5_set 0 = .ok (.aload_n 0, 1) := by decide +kernel
theorem dX5_set_1 : decode cX5_set 1 = .ok (.bipush 6, 2) := by decide +kernel
theorem dX5_set_3 : decode cX5_set 3 = .ok (.iload_n 1, 1) := by decide +kernel
theorem dX5_set_4 : decode cX5_set 4 = .ok (.iload_n 2, 1) := by decide +kernel
theorem dX5_set_5 : decode cX5_set 5 = .ok (.iconst 0, 1) := by decide +kernel
theorem dX5_set_6 : decode cX5_set 6 = .ok (.invokevirtual 146, 3) := by decide +kernel
theorem dX5_set_9 : decode cX5_set 9 = .ok (.ireturn, 1) := by decide +kernel
theorem dX5_days_0 : decode cX5_days 0 = .ok (.aload_n 0, 1) := by decide +kernel
theorem dX5_days_1 : decode cX5_days 1 = .ok (.bipush 7, 2) := by decide +kernel
theorem dX5_days_3 : decode cX5_days 3 = .ok (.iload_n 1, 1) := by decide +kernel
theorem dX5_days_4 : decode cX5_days 4 = .ok (.iconst 0, 1) := by decide +kernel
theorem dX5_days_5 : decode cX5_days 5 = .ok (.iconst 0, 1) := by decide +kernel
theorem dX5_days_6 : decode cX5_days 6 = .ok (.invokevirtual 146, 3) := by decide +kernel
theorem dX5_days_9 : decode cX5_days 9 = .ok (.ireturn, 1) := by decide +kernel
theorem dX5_undo_0 : decode cX5_undo 0 = .ok (.aload_n 0, 1) := by decide +kernel
theorem dX5_undo_1 : decode cX5_undo 1 = .ok (.getfield 29, 3) := by decide +kernel
theorem dX5_undo_4 : decode cX5_undo 4 = .ok (.getfield 150, 3) := by decide +kernel
theorem dX5_undo_7 : decode cX5_undo 7 = .ok (.ifCond .le 7, 3) := by decide +kernel
theorem dX5_undo_10 : decode cX5_undo 10 = .ok (.iconst 1, 1) := by decide +kernel
theorem dX5_undo_11 : decode cX5_undo 11 = .ok (.goto 4, 3) := by decide +kernel
theorem dX5_undo_14 : decode cX5_undo 14 = .ok (.iconst 0, 1) := by decide +kernel
theorem dX5_undo_15 : decode cX5_undo 15 = .ok (.invokestatic 53, 3) := by decide +kernel
theorem dX5_undo_18 : decode cX5_undo 18 = .ok (.aload_n 0, 1) := by decide +kernel
theorem dX5_undo_19 : decode cX5_undo 19 = .ok (.getfield 29, 3) := by decide +kernel
theorem dX5_undo_22 : decode cX5_undo 22 = .ok (.aload_n 0, 1) := by decide +kernel
theorem dX5_undo_23 : decode cX5_undo 23 = .ok (.getfield 19, 3) := by decide +kernel
theorem dX5_undo_26 : decode cX5_undo 26 = .ok (.invokevirtual 153, 3) := by decide +kernel
theorem dX5_undo_29 : decode cX5_undo 29 = .ok (.ireturn, 1) := by decide +kernel
theorem dX5_why_0 : decode cX5_why 0 = .ok (.aload_n 0, 1) := by decide +kernel
theorem dX5_why_1 : decode cX5_why 1 = .ok (.getfield 19, 3) := by decide +kernel
theorem dX5_why_4 : decode cX5_why 4 = .ok (.iload_n 1, 1) := by decide +kernel
theorem dX5_why_5 : decode cX5_why 5 = .ok (.invokevirtual 84, 3) := by decide +kernel
theorem dX5_why_8 : decode cX5_why 8 = .ok (.invokestatic 88, 3) := by decide +kernel
theorem dX5_why_11 : decode cX5_why 11 = .ok (.aload_n 0, 1) := by decide +kernel
theorem dX5_why_12 : decode cX5_why 12 = .ok (.getfield 19, 3) := by decide +kernel
theorem dX5_why_15 : decode cX5_why 15 = .ok (.iload_n 1, 1) := by decide +kernel
theorem dX5_why_16 : decode cX5_why 16 = .ok (.invokevirtual 157, 3) := by decide +kernel
theorem dX5_why_19 : decode cX5_why 19 = .ok (.ireturn, 1) := by decide +kernel
theorem dX5_creditIn_0 : decode cX5_creditIn 0 = .ok (.aload_n 0, 1) := by decide +kernel
theorem dX5_creditIn_1 : decode cX5_creditIn 1 = .ok (.getfield 19, 3) := by decide +kernel
theorem dX5_creditIn_4 : decode cX5_creditIn 4 = .ok (.iload_n 1, 1) := by decide +kernel
theorem dX5_creditIn_5 : decode cX5_creditIn 5 = .ok (.invokevirtual 84, 3) := by decide +kernel
theorem dX5_creditIn_8 : decode cX5_creditIn 8 = .ok (.invokestatic 88, 3) := by decide +kernel
theorem dX5_creditIn_11 : decode cX5_creditIn 11 = .ok (.iload_n 2, 1) := by decide +kernel
theorem dX5_creditIn_12 : decode cX5_creditIn 12 = .ok (.iconst 0, 1) := by decide +kernel
theorem dX5_creditIn_13 : decode cX5_creditIn 13 = .ok (.sipush 200, 3) := by decide +kernel
theorem dX5_creditIn_16 : decode cX5_creditIn 16 = .ok (.invokestatic 41, 3) := by decide +kernel
theorem dX5_creditIn_19 : decode cX5_creditIn 19 = .ok (.invokestatic 45, 3) := by decide +kernel
theorem dX5_creditIn_22 : decode cX5_creditIn 22 = .ok (.aload_n 0, 1) := by decide +kernel
theorem dX5_creditIn_23 : decode cX5_creditIn 23 = .ok (.getfield 23, 3) := by decide +kernel
theorem dX5_creditIn_26 : decode cX5_creditIn 26 = .ok (.aload_n 0, 1) := by decide +kernel
theorem dX5_creditIn_27 : decode cX5_creditIn 27 = .ok (.getfield 19, 3) := by decide +kernel
theorem dX5_creditIn_30 : decode cX5_creditIn 30 = .ok (.invokevirtual 160, 3) := by decide +kernel
theorem dX5_creditIn_33 : decode cX5_creditIn 33 = .ok (.aload_n 0, 1) := by decide +kernel
theorem dX5_creditIn_34 : decode cX5_creditIn 34 = .ok (.getfield 23, 3) := by decide +kernel
theorem dX5_creditIn_37 : decode cX5_creditIn 37 = .ok (.iload_n 2, 1) := by decide +kernel
theorem dX5_creditIn_38 : decode cX5_creditIn 38 = .ok (.invokevirtual 164, 3) := by decide +kernel
theorem dX5_creditIn_41 : decode cX5_creditIn 41 = .ok (.pop, 1) := by decide +kernel
theorem dX5_creditIn_42 : decode cX5_creditIn 42 = .ok (.aload_n 0, 1) := by decide +kernel
theorem dX5_creditIn_43 : decode cX5_creditIn 43 = .ok (.getfield 23, 3) := by decide +kernel
theorem dX5_creditIn_46 : decode cX5_creditIn 46 = .ok (.getfield 91, 3) := by decide +kernel
theorem dX5_creditIn_49 : decode cX5_creditIn 49 = .ok (.iload_n 1, 1) := by decide +kernel
theorem dX5_creditIn_50 : decode cX5_creditIn 50 = .ok (.aaload, 1) := by decide +kernel
theorem dX5_creditIn_51 : decode cX5_creditIn 51 = .ok (.getfield 167, 3) := by decide +kernel
theorem dX5_creditIn_54 : decode cX5_creditIn 54 = .ok (.ireturn, 1) := by decide +kernel
theorem dX5_clearIn_0 : decode cX5_clearIn 0 = .ok (.aload_n 0, 1) := by decide +kernel
theorem dX5_clearIn_1 : decode cX5_clearIn 1 = .ok (.getfield 19, 3) := by decide +kernel
theorem dX5_clearIn_4 : decode cX5_clearIn 4 = .ok (.iload_n 1, 1) := by decide +kernel
theorem dX5_clearIn_5 : decode cX5_clearIn 5 = .ok (.invokevirtual 84, 3) := by decide +kernel
theorem dX5_clearIn_8 : decode cX5_clearIn 8 = .ok (.invokestatic 88, 3) := by decide +kernel
theorem dX5_clearIn_11 : decode cX5_clearIn 11 = .ok (.aload_n 0, 1) := by decide +kernel
theorem dX5_clearIn_12 : decode cX5_clearIn 12 = .ok (.getfield 23, 3) := by decide +kernel
theorem dX5_clearIn_15 : decode cX5_clearIn 15 = .ok (.aload_n 0, 1) := by decide +kernel
theorem dX5_clearIn_16 : decode cX5_clearIn 16 = .ok (.getfield 19, 3) := by decide +kernel
theorem dX5_clearIn_19 : decode cX5_clearIn 19 = .ok (.invokevirtual 160, 3) := by decide +kernel
theorem dX5_clearIn_22 : decode cX5_clearIn 22 = .ok (.iconst 0, 1) := by decide +kernel
theorem dX5_clearIn_23 : decode cX5_clearIn 23 = .ok (.istore_n 2, 1) := by decide +kernel
theorem dX5_clearIn_24 : decode cX5_clearIn 24 = .ok (.iload_n 2, 1) := by decide +kernel
theorem dX5_clearIn_25 : decode cX5_clearIn 25 = .ok (.sipush 200, 3) := by decide +kernel
theorem dX5_clearIn_28 : decode cX5_clearIn 28 = .ok (.if_icmp .gt 35, 3) := by decide +kernel
theorem dX5_clearIn_31 : decode cX5_clearIn 31 = .ok (.aload_n 0, 1) := by decide +kernel
theorem dX5_clearIn_32 : decode cX5_clearIn 32 = .ok (.getfield 23, 3) := by decide +kernel
theorem dX5_clearIn_35 : decode cX5_clearIn 35 = .ok (.getfield 91, 3) := by decide +kernel
theorem dX5_clearIn_38 : decode cX5_clearIn 38 = .ok (.iload_n 1, 1) := by decide +kernel
theorem dX5_clearIn_39 : decode cX5_clearIn 39 = .ok (.aaload, 1) := by decide +kernel
theorem dX5_clearIn_40 : decode cX5_clearIn 40 = .ok (.getfield 167, 3) := by decide +kernel
theorem dX5_clearIn_43 : decode cX5_clearIn 43 = .ok (.ifCond .ne 5, 3) := by decide +kernel
theorem dX5_clearIn_46 : decode cX5_clearIn 46 = .ok (.iload_n 2, 1) := by decide +kernel
theorem dX5_clearIn_47 : decode cX5_clearIn 47 = .ok (.ireturn, 1) := by decide +kernel
theorem dX5_clearIn_48 : decode cX5_clearIn 48 = .ok (.aload_n 0, 1) := by decide +kernel
theorem dX5_clearIn_49 : decode cX5_clearIn 49 = .ok (.getfield 23, 3) := by decide +kernel
theorem dX5_clearIn_52 : decode cX5_clearIn 52 = .ok (.iconst 1, 1) := by decide +kernel
theorem dX5_clearIn_53 : decode cX5_clearIn 53 = .ok (.invokevirtual 164, 3) := by decide +kernel
theorem dX5_clearIn_56 : decode cX5_clearIn 56 = .ok (.pop, 1) := by decide +kernel
theorem dX5_clearIn_57 : decode cX5_clearIn 57 = .ok (.iinc 2 1, 3) := by decide +kernel
theorem dX5_clearIn_60 : decode cX5_clearIn 60 = .ok (.goto (-36), 3) := by decide +kernel
theorem dX5_clearIn_63 : decode cX5_clearIn 63 = .ok (.iconst (-1), 1) := by decide +kernel
theorem dX5_clearIn_64 : decode cX5_clearIn 64 = .ok (.ireturn, 1) := by decide +kernel
theorem dX5_leastOven_0 : decode cX5_leastOven 0 = .ok (.iload_n 1, 1) := by decide +kernel
theorem dX5_leastOven_1 : decode cX5_leastOven 1 = .ok (.iconst 1, 1) := by decide +kernel
theorem dX5_leastOven_2 : decode cX5_leastOven 2 = .ok (.bipush 60, 2) := by decide +kernel
theorem dX5_leastOven_4 : decode cX5_leastOven 4 = .ok (.invokestatic 41, 3) := by decide +kernel
theorem dX5_leastOven_7 : decode cX5_leastOven 7 = .ok (.invokestatic 45, 3) := by decide +kernel
theorem dX5_leastOven_10 : decode cX5_leastOven 10 = .ok (.iconst 0, 1) := by decide +kernel
theorem dX5_leastOven_11 : decode cX5_leastOven 11 = .ok (.istore_n 2, 1) := by decide +kernel
theorem dX5_leastOven_12 : decode cX5_leastOven 12 = .ok (.aload_n 0, 1) := by decide +kernel
theorem dX5_leastOven_13 : decode cX5_leastOven 13 = .ok (.getfield 19, 3) := by decide +kernel
theorem dX5_leastOven_16 : decode cX5_leastOven 16 = .ok (.getfield 95, 3) := by decide +kernel
theorem dX5_leastOven_19 : decode cX5_leastOven 19 = .ok (.istore_n 3, 1) := by decide +kernel
theorem dX5_leastOven_20 : decode cX5_leastOven 20 = .ok (.iload_n 3, 1) := by decide +kernel
theorem dX5_leastOven_21 : decode cX5_leastOven 21 = .ok (.aload_n 0, 1) := by decide +kernel
theorem dX5_leastOven_22 : decode cX5_leastOven 22 = .ok (.getfield 19, 3) := by decide +kernel
theorem dX5_leastOven_25 : decode cX5_leastOven 25 = .ok (.getfield 95, 3) := by decide +kernel
theorem dX5_leastOven_28 : decode cX5_leastOven 28 = .ok (.iload_n 1, 1) := by decide +kernel
theorem dX5_leastOven_29 : decode cX5_leastOven 29 = .ok (.iadd, 1) := by decide +kernel
theorem dX5_leastOven_30 : decode cX5_leastOven 30 = .ok (.if_icmp .ge 22, 3) := by decide +kernel
theorem dX5_leastOven_33 : decode cX5_leastOven 33 = .ok (.iload_n 2, 1) := by decide +kernel
theorem dX5_leastOven_34 : decode cX5_leastOven 34 = .ok (.aload_n 0, 1) := by decide +kernel
theorem dX5_leastOven_35 : decode cX5_leastOven 35 = .ok (.getfield 19, 3) := by decide +kernel
theorem dX5_leastOven_38 : decode cX5_leastOven 38 = .ok (.iload_n 3, 1) := by decide +kernel
theorem dX5_leastOven_39 : decode cX5_leastOven 39 = .ok (.invokevirtual 170, 3) := by decide +kernel
theorem dX5_leastOven_42 : decode cX5_leastOven 42 = .ok (.invokestatic 173, 3) := by decide +kernel
theorem dX5_leastOven_45 : decode cX5_leastOven 45 = .ok (.istore_n 2, 1) := by decide +kernel
theorem dX5_leastOven_46 : decode cX5_leastOven 46 = .ok (.iinc 3 1, 3) := by decide +kernel
theorem dX5_leastOven_49 : decode cX5_leastOven 49 = .ok (.goto (-29), 3) := by decide +kernel
theorem dX5_leastOven_52 : decode cX5_leastOven 52 = .ok (.iload_n 2, 1) := by decide +kernel
theorem dX5_leastOven_53 : decode cX5_leastOven 53 = .ok (.ireturn, 1) := by decide +kernel
theorem dX5_bestRound_0 : decode cX5_bestRound 0 = .ok (.iload_n 1, 1) := by decide +kernel
theorem dX5_bestRound_1 : decode cX5_bestRound 1 = .ok (.iconst 1, 1) := by decide +kernel
theorem dX5_bestRound_2 : decode cX5_bestRound 2 = .ok (.bipush 30, 2) := by decide +kernel
theorem dX5_bestRound_4 : decode cX5_bestRound 4 = .ok (.invokestatic 41, 3) := by decide +kernel
theorem dX5_bestRound_7 : decode cX5_bestRound 7 = .ok (.invokestatic 45, 3) := by decide +kernel
theorem dX5_bestRound_10 : decode cX5_bestRound 10 = .ok (.iconst (-1), 1) := by decide +kernel
theorem dX5_bestRound_11 : decode cX5_bestRound 11 = .ok (.istore_n 2, 1) := by decide +kernel
theorem dX5_bestRound_12 : decode cX5_bestRound 12 = .ok (.iconst 0, 1) := by decide +kernel
theorem dX5_bestRound_13 : decode cX5_bestRound 13 = .ok (.istore_n 3, 1) := by decide +kernel
theorem dX5_bestRound_14 : decode cX5_bestRound 14 = .ok (.iconst 0, 1) := by decide +kernel
theorem dX5_bestRound_15 : decode cX5_bestRound 15 = .ok (.istore 4, 2) := by decide +kernel
theorem dX5_bestRound_17 : decode cX5_bestRound 17 = .ok (.iload 4, 2) := by decide +kernel
theorem dX5_bestRound_19 : decode cX5_bestRound 19 = .ok (.sipush 256, 3) := by decide +kernel
theorem dX5_bestRound_22 : decode cX5_bestRound 22 = .ok (.if_icmp .ge 78, 3) := by decide +kernel
theorem dX5_bestRound_25 : decode cX5_bestRound 25 = .ok (.iload 4, 2) := by decide +kernel
theorem dX5_bestRound_27 : decode cX5_bestRound 27 = .ok (.invokestatic 178, 3) := by decide +kernel
theorem dX5_bestRound_30 : decode cX5_bestRound 30 = .ok (.ifCond .eq 64, 3) := by decide +kernel
theorem dX5_bestRound_33 : decode cX5_bestRound 33 = .ok (.aload_n 0, 1) := by decide +kernel
theorem dX5_bestRound_34 : decode cX5_bestRound 34 = .ok (.getfield 23, 3) := by decide +kernel
theorem dX5_bestRound_37 : decode cX5_bestRound 37 = .ok (.aload_n 0, 1) := by decide +kernel
theorem dX5_bestRound_38 : decode cX5_bestRound 38 = .ok (.getfield 19, 3) := by decide +kernel
theorem dX5_bestRound_41 : decode cX5_bestRound 41 = .ok (.invokevirtual 160, 3) := by decide +kernel
theorem dX5_bestRound_44 : decode cX5_bestRound 44 = .ok (.aload_n 0, 1) := by decide +kernel
theorem dX5_bestRound_45 : decode cX5_bestRound 45 = .ok (.getfield 23, 3) := by decide +kernel
theorem dX5_bestRound_48 : decode cX5_bestRound 48 = .ok (.iload 4, 2) := by decide +kernel
theorem dX5_bestRound_50 : decode cX5_bestRound 50 = .ok (.invokevirtual 181, 3) := by decide +kernel
theorem dX5_bestRound_53 : decode cX5_bestRound 53 = .ok (.aload_n 0, 1) := by decide +kernel
theorem dX5_bestRound_54 : decode cX5_bestRound 54 = .ok (.getfield 23, 3) := by decide +kernel
theorem dX5_bestRound_57 : decode cX5_bestRound 57 = .ok (.iload_n 1, 1) := by decide +kernel
theorem dX5_bestRound_58 : decode cX5_bestRound 58 = .ok (.invokevirtual 164, 3) := by decide +kernel
theorem dX5_bestRound_61 : decode cX5_bestRound 61 = .ok (.pop, 1) := by decide +kernel
theorem dX5_bestRound_62 : decode cX5_bestRound 62 = .ok (.aload_n 0, 1) := by decide +kernel
theorem dX5_bestRound_63 : decode cX5_bestRound 63 = .ok (.getfield 23, 3) := by decide +kernel
theorem dX5_bestRound_66 : decode cX5_bestRound 66 = .ok (.iconst 2, 1) := by decide +kernel
theorem dX5_bestRound_67 : decode cX5_bestRound 67 = .ok (.invokevirtual 185, 3) := by decide +kernel
theorem dX5_bestRound_70 : decode cX5_bestRound 70 = .ok (.istore 5, 2) := by decide +kernel
theorem dX5_bestRound_72 : decode cX5_bestRound 72 = .ok (.iload_n 2, 1) := by decide +kernel
theorem dX5_bestRound_73 : decode cX5_bestRound 73 = .ok (.iconst (-1), 1) := by decide +kernel
theorem dX5_bestRound_74 : decode cX5_bestRound 74 = .ok (.if_icmp .eq 9, 3) := by decide +kernel
theorem dX5_bestRound_77 : decode cX5_bestRound 77 = .ok (.iload 5, 2) := by decide +kernel
theorem dX5_bestRound_79 : decode cX5_bestRound 79 = .ok (.iload_n 3, 1) := by decide +kernel
theorem dX5_bestRound_80 : decode cX5_bestRound 80 = .ok (.if_icmp .ge 14, 3) := by decide +kernel
theorem dX5_bestRound_83 : decode cX5_bestRound 83 = .ok (.aload_n 0, 1) := by decide +kernel
theorem dX5_bestRound_84 : decode cX5_bestRound 84 = .ok (.getfield 23, 3) := by decide +kernel
theorem dX5_bestRound_87 : decode cX5_bestRound 87 = .ok (.invokevirtual 188, 3) := by decide +kernel
theorem dX5_bestRound_90 : decode cX5_bestRound 90 = .ok (.istore_n 2, 1) := by decide +kernel
theorem dX5_bestRound_91 : decode cX5_bestRound 91 = .ok (.iload 5, 2) := by decide +kernel
theorem dX5_bestRound_93 : decode cX5_bestRound 93 = .ok (.istore_n 3, 1) := by decide +kernel
theorem dX5_bestRound_94 : decode cX5_bestRound 94 = .ok (.iinc 4 1, 3) := by decide +kernel
theorem dX5_bestRound_97 : decode cX5_bestRound 97 = .ok (.goto (-80), 3) := by decide +kernel
theorem dX5_bestRound_100 : decode cX5_bestRound 100 = .ok (.iload_n 2, 1) := by decide +kernel
theorem dX5_bestRound_101 : decode cX5_bestRound 101 = .ok (.ireturn, 1) := by decide +kernel
theorem dX5_runScript_0 : decode cX5_runScript 0 = .ok (.iload_n 1, 1) := by decide +kernel
theorem dX5_runScript_1 : decode cX5_runScript 1 = .ok (.iconst 1, 1) := by decide +kernel
theorem dX5_runScript_2 : decode cX5_runScript 2 = .ok (.iconst 3, 1) := by decide +kernel
theorem dX5_runScript_3 : decode cX5_runScript 3 = .ok (.invokestatic 41, 3) := by decide +kernel
theorem dX5_runScript_6 : decode cX5_runScript 6 = .ok (.invokestatic 45, 3) := by decide +kernel
theorem dX5_runScript_9 : decode cX5_runScript 9 = .ok (.lconst 1, 1) := by decide +kernel
theorem dX5_runScript_10 : decode cX5_runScript 10 = .ok (.lstore 4, 2) := by decide +kernel
theorem dX5_runScript_12 : decode cX5_runScript 12 = .ok (.iconst 0, 1) := by decide +kernel
theorem dX5_runScript_13 : decode cX5_runScript 13 = .ok (.istore 6, 2) := by decide +kernel
theorem dX5_runScript_15 : decode cX5_runScript 15 = .ok (.iload 6, 2) := by decide +kernel
theorem dX5_runScript_17 : decode cX5_runScript 17 = .ok (.iload_n 1, 1) := by decide +kernel
theorem dX5_runScript_18 : decode cX5_runScript 18 = .ok (.if_icmp .ge 17, 3) := by decide +kernel
theorem dX5_runScript_21 : decode cX5_runScript 21 = .ok (.lload 4, 2) := by decide +kernel
theorem dX5_runScript_23 : decode cX5_runScript 23 = .ok (.ldc2_w 191, 3) := by decide +kernel
theorem dX5_runScript_26 : decode cX5_runScript 26 = .ok (.lmul, 1) := by decide +kernel
theorem dX5_runScript_27 : decode cX5_runScript 27 = .ok (.lstore 4, 2) := by decide +kernel
theorem dX5_runScript_29 : decode cX5_runScript 29 = .ok (.iinc 6 1, 3) := by decide +kernel
theorem dX5_runScript_32 : decode cX5_runScript 32 = .ok (.goto (-17), 3) := by decide +kernel
theorem dX5_runScript_35 : decode cX5_runScript 35 = .ok (.lload_n 2, 1) := by decide +kernel
theorem dX5_runScript_36 : decode cX5_runScript 36 = .ok (.lconst 0, 1) := by decide +kernel
theorem dX5_runScript_37 : decode cX5_runScript 37 = .ok (.lcmp, 1) := by decide +kernel
theorem dX5_runScript_38 : decode cX5_runScript 38 = .ok (.ifCond .lt 14, 3) := by decide +kernel
theorem dX5_runScript_41 : decode cX5_runScript 41 = .ok (.lload_n 2, 1) := by decide +kernel
theorem dX5_runScript_42 : decode cX5_runScript 42 = .ok (.lload 4, 2) := by decide +kernel
theorem dX5_runScript_44 : decode cX5_runScript 44 = .ok (.lcmp, 1) := by decide +kernel
theorem dX5_runScript_45 : decode cX5_runScript 45 = .ok (.ifCond .ge 7, 3) := by decide +kernel
theorem dX5_runScript_48 : decode cX5_runScript 48 = .ok (.iconst 1, 1) := by decide +kernel
theorem dX5_runScript_49 : decode cX5_runScript 49 = .ok (.goto 4, 3) := by decide +kernel
theorem dX5_runScript_52 : decode cX5_runScript 52 = .ok (.iconst 0, 1) := by decide +kernel
theorem dX5_runScript_53 : decode cX5_runScript 53 = .ok (.invokestatic 45, 3) := by decide +kernel
theorem dX5_runScript_56 : decode cX5_runScript 56 = .ok (.aload_n 0, 1) := by decide +kernel
theorem dX5_runScript_57 : decode cX5_runScript 57 = .ok (.getfield 23, 3) := by decide +kernel
theorem dX5_runScript_60 : decode cX5_runScript 60 = .ok (.aload_n 0, 1) := by decide +kernel
theorem dX5_runScript_61 : decode cX5_runScript 61 = .ok (.getfield 19, 3) := by decide +kernel
theorem dX5_runScript_64 : decode cX5_runScript 64 = .ok (.invokevirtual 160, 3) := by decide +kernel
theorem dX5_runScript_67 : decode cX5_runScript 67 = .ok (.iconst 0, 1) := by decide +kernel
theorem dX5_runScript_68 : decode cX5_runScript 68 = .ok (.istore 6, 2) := by decide +kernel
theorem dX5_runScript_70 : decode cX5_runScript 70 = .ok (.iload 6, 2) := by decide +kernel
theorem dX5_runScript_72 : decode cX5_runScript 72 = .ok (.iload_n 1, 1) := by decide +kernel
theorem dX5_runScript_73 : decode cX5_runScript 73 = .ok (.if_icmp .ge 36, 3) := by decide +kernel
theorem dX5_runScript_76 : decode cX5_runScript 76 = .ok (.lload 4, 2) := by decide +kernel
theorem dX5_runScript_78 : decode cX5_runScript 78 = .ok (.ldc2_w 191, 3) := by decide +kernel
theorem dX5_runScript_81 : decode cX5_runScript 81 = .ok (.ldiv, 1) := by decide +kernel
theorem dX5_runScript_82 : decode cX5_runScript 82 = .ok (.lstore 4, 2) := by decide +kernel
theorem dX5_runScript_84 : decode cX5_runScript 84 = .ok (.aload_n 0, 1) := by decide +kernel
theorem dX5_runScript_85 : decode cX5_runScript 85 = .ok (.lload_n 2, 1) := by decide +kernel
theorem dX5_runScript_86 : decode cX5_runScript 86 = .ok (.lload 4, 2) := by decide +kernel
theorem dX5_runScript_88 : decode cX5_runScript 88 = .ok (.ldiv, 1) := by decide +kernel
theorem dX5_runScript_89 : decode cX5_runScript 89 = .ok (.ldc2_w 191, 3) := by decide +kernel
theorem dX5_runScript_92 : decode cX5_runScript 92 = .ok (.lrem, 1) := by decide +kernel
theorem dX5_runScript_93 : decode cX5_runScript 93 = .ok (.l2i, 1) := by decide +kernel
theorem dX5_runScript_94 : decode cX5_runScript 94 = .ok (.invokevirtual 193, 3) := by decide +kernel
theorem dX5_runScript_97 : decode cX5_runScript 97 = .ok (.ifCond .ne 6, 3) := by decide +kernel
theorem dX5_runScript_100 : decode cX5_runScript 100 = .ok (.iload 6, 2) := by decide +kernel
theorem dX5_runScript_102 : decode cX5_runScript 102 = .ok (.ireturn, 1) := by decide +kernel
theorem dX5_runScript_103 : decode cX5_runScript 103 = .ok (.iinc 6 1, 3) := by decide +kernel
theorem dX5_runScript_106 : decode cX5_runScript 106 = .ok (.goto (-36), 3) := by decide +kernel
theorem dX5_runScript_109 : decode cX5_runScript 109 = .ok (.iconst (-1), 1) := by decide +kernel
theorem dX5_runScript_110 : decode cX5_runScript 110 = .ok (.ireturn, 1) := by decide +kernel
theorem dX5_simulate_0 : decode cX5_simulate 0 = .ok (.iload_n 3, 1) := by decide +kernel
theorem dX5_simulate_1 : decode cX5_simulate 1 = .ok (.iconst 1, 1) := by decide +kernel
theorem dX5_simulate_2 : decode cX5_simulate 2 = .ok (.bipush 60, 2) := by decide +kernel
theorem dX5_simulate_4 : decode cX5_simulate 4 = .ok (.invokestatic 41, 3) := by decide +kernel
theorem dX5_simulate_7 : decode cX5_simulate 7 = .ok (.invokestatic 45, 3) := by decide +kernel
theorem dX5_simulate_10 : decode cX5_simulate 10 = .ok (.aload_n 0, 1) := by decide +kernel
theorem dX5_simulate_11 : decode cX5_simulate 11 = .ok (.getfield 23, 3) := by decide +kernel
theorem dX5_simulate_14 : decode cX5_simulate 14 = .ok (.aload_n 0, 1) := by decide +kernel
theorem dX5_simulate_15 : decode cX5_simulate 15 = .ok (.getfield 19, 3) := by decide +kernel
theorem dX5_simulate_18 : decode cX5_simulate 18 = .ok (.invokevirtual 160, 3) := by decide +kernel
theorem dX5_simulate_21 : decode cX5_simulate 21 = .ok (.lload_n 1, 1) := by decide +kernel
theorem dX5_simulate_22 : decode cX5_simulate 22 = .ok (.lstore 4, 2) := by decide +kernel
theorem dX5_simulate_24 : decode cX5_simulate 24 = .ok (.iconst 0, 1) := by decide +kernel
theorem dX5_simulate_25 : decode cX5_simulate 25 = .ok (.istore 6, 2) := by decide +kernel
theorem dX5_simulate_27 : decode cX5_simulate 27 = .ok (.iload 6, 2) := by decide +kernel
theorem dX5_simulate_29 : decode cX5_simulate 29 = .ok (.iload_n 3, 1) := by decide +kernel
theorem dX5_simulate_30 : decode cX5_simulate 30 = .ok (.if_icmp .ge 31, 3) := by decide +kernel
theorem dX5_simulate_33 : decode cX5_simulate 33 = .ok (.lload 4, 2) := by decide +kernel
theorem dX5_simulate_35 : decode cX5_simulate 35 = .ok (.ldc2_w 196, 3) := by decide +kernel
theorem dX5_simulate_38 : decode cX5_simulate 38 = .ok (.lmul, 1) := by decide +kernel
theorem dX5_simulate_39 : decode cX5_simulate 39 = .ok (.ldc2_w 198, 3) := by decide +kernel
theorem dX5_simulate_42 : decode cX5_simulate 42 = .ok (.ladd, 1) := by decide +kernel
theorem dX5_simulate_43 : decode cX5_simulate 43 = .ok (.lstore 4, 2) := by decide +kernel
theorem dX5_simulate_45 : decode cX5_simulate 45 = .ok (.aload_n 0, 1) := by decide +kernel
theorem dX5_simulate_46 : decode cX5_simulate 46 = .ok (.lload 4, 2) := by decide +kernel
theorem dX5_simulate_48 : decode cX5_simulate 48 = .ok (.bipush 33, 2) := by decide +kernel
theorem dX5_simulate_50 : decode cX5_simulate 50 = .ok (.lushr, 1) := by decide +kernel
theorem dX5_simulate_51 : decode cX5_simulate 51 = .ok (.l2i, 1) := by decide +kernel
theorem dX5_simulate_52 : decode cX5_simulate 52 = .ok (.invokevirtual 200, 3) := by decide +kernel
theorem dX5_simulate_55 : decode cX5_simulate 55 = .ok (.iinc 6 1, 3) := by decide +kernel
theorem dX5_simulate_58 : decode cX5_simulate 58 = .ok (.goto (-31), 3) := by decide +kernel
theorem dX5_simulate_61 : decode cX5_simulate 61 = .ok (.aload_n 0, 1) := by decide +kernel
theorem dX5_simulate_62 : decode cX5_simulate 62 = .ok (.getfield 23, 3) := by decide +kernel
theorem dX5_simulate_65 : decode cX5_simulate 65 = .ok (.iconst 3, 1) := by decide +kernel
theorem dX5_simulate_66 : decode cX5_simulate 66 = .ok (.invokevirtual 185, 3) := by decide +kernel
theorem dX5_simulate_69 : decode cX5_simulate 69 = .ok (.aload_n 0, 1) := by decide +kernel
theorem dX5_simulate_70 : decode cX5_simulate 70 = .ok (.getfield 19, 3) := by decide +kernel
theorem dX5_simulate_73 : decode cX5_simulate 73 = .ok (.iconst 3, 1) := by decide +kernel
theorem dX5_simulate_74 : decode cX5_simulate 74 = .ok (.invokevirtual 185, 3) := by decide +kernel
theorem dX5_simulate_77 : decode cX5_simulate 77 = .ok (.isub, 1) := by decide +kernel
theorem dX5_simulate_78 : decode cX5_simulate 78 = .ok (.istore 6, 2) := by decide +kernel
theorem dX5_simulate_80 : decode cX5_simulate 80 = .ok (.sipush 1000, 3) := by decide +kernel
theorem dX5_simulate_83 : decode cX5_simulate 83 = .ok (.iload 6, 2) := by decide +kernel
theorem dX5_simulate_85 : decode cX5_simulate 85 = .ok (.sipush 1000, 3) := by decide +kernel
theorem dX5_simulate_88 : decode cX5_simulate 88 = .ok (.irem, 1) := by decide +kernel
theorem dX5_simulate_89 : decode cX5_simulate 89 = .ok (.imul, 1) := by decide +kernel
theorem dX5_simulate_90 : decode cX5_simulate 90 = .ok (.aload_n 0, 1) := by decide +kernel
theorem dX5_simulate_91 : decode cX5_simulate 91 = .ok (.getfield 23, 3) := by decide +kernel
theorem dX5_simulate_94 : decode cX5_simulate 94 = .ok (.iconst 2, 1) := by decide +kernel
theorem dX5_simulate_95 : decode cX5_simulate 95 = .ok (.invokevirtual 185, 3) := by decide +kernel
theorem dX5_simulate_98 : decode cX5_simulate 98 = .ok (.iadd, 1) := by decide +kernel
theorem dX5_simulate_99 : decode cX5_simulate 99 = .ok (.ireturn, 1) := by decide +kernel
theorem dX5_save_0 : decode cX5_save 0 = .ok (.iload_n 1, 1) := by decide +kernel
theorem dX5_save_1 : decode cX5_save 1 = .ok (.invokestatic 203, 3) := by decide +kernel
theorem dX5_save_4 : decode cX5_save 4 = .ok (.invokestatic 88, 3) := by decide +kernel
theorem dX5_save_7 : decode cX5_save 7 = .ok (.aload_n 0, 1) := by decide +kernel
theorem dX5_save_8 : decode cX5_save 8 = .ok (.getfield 33, 3) := by decide +kernel
theorem dX5_save_11 : decode cX5_save 11 = .ok (.iload_n 1, 1) := by decide +kernel
theorem dX5_save_12 : decode cX5_save 12 = .ok (.aaload, 1) := by decide +kernel
theorem dX5_save_13 : decode cX5_save 13 = .ok (.aload_n 0, 1) := by decide +kernel
theorem dX5_save_14 : decode cX5_save 14 = .ok (.getfield 19, 3) := by decide +kernel
theorem dX5_save_17 : decode cX5_save 17 = .ok (.invokevirtual 160, 3) := by decide +kernel
theorem dX5_save_20 : decode cX5_save 20 = .ok (.aload_n 0, 1) := by decide +kernel
theorem dX5_save_21 : decode cX5_save 21 = .ok (.getfield 37, 3) := by decide +kernel
theorem dX5_save_24 : decode cX5_save 24 = .ok (.iload_n 1, 1) := by decide +kernel
theorem dX5_save_25 : decode cX5_save 25 = .ok (.iconst 1, 1) := by decide +kernel
theorem dX5_save_26 : decode cX5_save 26 = .ok (.bastore, 1) := by decide +kernel
theorem dX5_save_27 : decode cX5_save 27 = .ok (.aload_n 0, 1) := by decide +kernel
theorem dX5_save_28 : decode cX5_save 28 = .ok (.getfield 19, 3) := by decide +kernel
theorem dX5_save_31 : decode cX5_save 31 = .ok (.getfield 95, 3) := by decide +kernel
theorem dX5_save_34 : decode cX5_save 34 = .ok (.ireturn, 1) := by decide +kernel
theorem dX5_restore_0 : decode cX5_restore 0 = .ok (.iload_n 1, 1) := by decide +kernel
theorem dX5_restore_1 : decode cX5_restore 1 = .ok (.invokestatic 203, 3) := by decide +kernel
theorem dX5_restore_4 : decode cX5_restore 4 = .ok (.invokestatic 88, 3) := by decide +kernel
theorem dX5_restore_7 : decode cX5_restore 7 = .ok (.aload_n 0, 1) := by decide +kernel
theorem dX5_restore_8 : decode cX5_restore 8 = .ok (.getfield 37, 3) := by decide +kernel
theorem dX5_restore_11 : decode cX5_restore 11 = .ok (.iload_n 1, 1) := by decide +kernel
theorem dX5_restore_12 : decode cX5_restore 12 = .ok (.baload, 1) := by decide +kernel
theorem dX5_restore_13 : decode cX5_restore 13 = .ok (.invokestatic 53, 3) := by decide +kernel
theorem dX5_restore_16 : decode cX5_restore 16 = .ok (.aload_n 0, 1) := by decide +kernel
theorem dX5_restore_17 : decode cX5_restore 17 = .ok (.getfield 19, 3) := by decide +kernel
theorem dX5_restore_20 : decode cX5_restore 20 = .ok (.aload_n 0, 1) := by decide +kernel
theorem dX5_restore_21 : decode cX5_restore 21 = .ok (.getfield 33, 3) := by decide +kernel
theorem dX5_restore_24 : decode cX5_restore 24 = .ok (.iload_n 1, 1) := by decide +kernel
theorem dX5_restore_25 : decode cX5_restore 25 = .ok (.aaload, 1) := by decide +kernel
theorem dX5_restore_26 : decode cX5_restore 26 = .ok (.invokevirtual 160, 3) := by decide +kernel
theorem dX5_restore_29 : decode cX5_restore 29 = .ok (.aload_n 0, 1) := by decide +kernel
theorem dX5_restore_30 : decode cX5_restore 30 = .ok (.getfield 29, 3) := by decide +kernel
theorem dX5_restore_33 : decode cX5_restore 33 = .ok (.invokevirtual 70, 3) := by decide +kernel
theorem dX5_restore_36 : decode cX5_restore 36 = .ok (.aload_n 0, 1) := by decide +kernel
theorem dX5_restore_37 : decode cX5_restore 37 = .ok (.getfield 19, 3) := by decide +kernel
theorem dX5_restore_40 : decode cX5_restore 40 = .ok (.getfield 95, 3) := by decide +kernel
theorem dX5_restore_43 : decode cX5_restore 43 = .ok (.ireturn, 1) := by decide +kernel
theorem dX5_act_0 : decode cX5_act 0 = .ok (.aload_n 0, 1) := by decide +kernel
theorem dX5_act_1 : decode cX5_act 1 = .ok (.getfield 19, 3) := by decide +kernel
theorem dX5_act_4 : decode cX5_act 4 = .ok (.iload_n 1, 1) := by decide +kernel
theorem dX5_act_5 : decode cX5_act 5 = .ok (.iload_n 2, 1) := by decide +kernel
theorem dX5_act_6 : decode cX5_act 6 = .ok (.iload_n 3, 1) := by decide +kernel
theorem dX5_act_7 : decode cX5_act 7 = .ok (.iload 4, 2) := by decide +kernel
theorem dX5_act_9 : decode cX5_act 9 = .ok (.invokevirtual 206, 3) := by decide +kernel
theorem dX5_act_12 : decode cX5_act 12 = .ok (.astore 5, 2) := by decide +kernel
theorem dX5_act_14 : decode cX5_act 14 = .ok (.aload 5, 2) := by decide +kernel
theorem dX5_act_16 : decode cX5_act 16 = .ok (.getstatic 210, 3) := by decide +kernel
theorem dX5_act_19 : decode cX5_act 19 = .ok (.if_acmp .eq 7, 3) := by decide +kernel
theorem dX5_act_22 : decode cX5_act 22 = .ok (.iconst 1, 1) := by decide +kernel
theorem dX5_act_23 : decode cX5_act 23 = .ok (.goto 4, 3) := by decide +kernel
theorem dX5_act_26 : decode cX5_act 26 = .ok (.iconst 0, 1) := by decide +kernel
theorem dX5_act_27 : decode cX5_act 27 = .ok (.invokestatic 88, 3) := by decide +kernel
theorem dX5_act_30 : decode cX5_act 30 = .ok (.aload 5, 2) := by decide +kernel
theorem dX5_act_32 : decode cX5_act 32 = .ok (.getstatic 216, 3) := by decide +kernel
theorem dX5_act_35 : decode cX5_act 35 = .ok (.if_acmp .eq 7, 3) := by decide +kernel
theorem dX5_act_38 : decode cX5_act 38 = .ok (.iconst 1, 1) := by decide +kernel
theorem dX5_act_39 : decode cX5_act 39 = .ok (.goto 4, 3) := by decide +kernel
theorem dX5_act_42 : decode cX5_act 42 = .ok (.iconst 0, 1) := by decide +kernel
theorem dX5_act_43 : decode cX5_act 43 = .ok (.invokestatic 45, 3) := by decide +kernel
theorem dX5_act_46 : decode cX5_act 46 = .ok (.aload 5, 2) := by decide +kernel
theorem dX5_act_48 : decode cX5_act 48 = .ok (.getstatic 219, 3) := by decide +kernel
theorem dX5_act_51 : decode cX5_act 51 = .ok (.if_acmp .eq 7, 3) := by decide +kernel
theorem dX5_act_54 : decode cX5_act 54 = .ok (.iconst 1, 1) := by decide +kernel
theorem dX5_act_55 : decode cX5_act 55 = .ok (.goto 4, 3) := by decide +kernel
theorem dX5_act_58 : decode cX5_act 58 = .ok (.iconst 0, 1) := by decide +kernel
theorem dX5_act_59 : decode cX5_act 59 = .ok (.invokestatic 53, 3) := by decide +kernel
theorem dX5_act_62 : decode cX5_act 62 = .ok (.aload_n 0, 1) := by decide +kernel
theorem dX5_act_63 : decode cX5_act 63 = .ok (.getfield 29, 3) := by decide +kernel
theorem dX5_act_66 : decode cX5_act 66 = .ok (.aload_n 0, 1) := by decide +kernel
theorem dX5_act_67 : decode cX5_act 67 = .ok (.getfield 19, 3) := by decide +kernel
theorem dX5_act_70 : decode cX5_act 70 = .ok (.invokevirtual 222, 3) := by decide +kernel
theorem dX5_act_73 : decode cX5_act 73 = .ok (.aload_n 0, 1) := by decide +kernel
theorem dX5_act_74 : decode cX5_act 74 = .ok (.getfield 19, 3) := by decide +kernel
theorem dX5_act_77 : decode cX5_act 77 = .ok (.iload_n 1, 1) := by decide +kernel
theorem dX5_act_78 : decode cX5_act 78 = .ok (.iload_n 2, 1) := by decide +kernel
theorem dX5_act_79 : decode cX5_act 79 = .ok (.iload_n 3, 1) := by decide +kernel
theorem dX5_act_80 : decode cX5_act 80 = .ok (.iload 4, 2) := by decide +kernel
theorem dX5_act_82 : decode cX5_act 82 = .ok (.invokevirtual 225, 3) := by decide +kernel
theorem dX5_act_85 : decode cX5_act 85 = .ok (.ireturn, 1) := by decide +kernel
theorem dX5_tellEachStreet_0 : decode cX5_tellEachStreet 0 = .ok (.iconst 0, 1) := by decide +kernel
theorem dX5_tellEachStreet_1 : decode cX5_tellEachStreet 1 = .ok (.istore_n 1, 1) := by decide +kernel
theorem dX5_tellEachStreet_2 : decode cX5_tellEachStreet 2 = .ok (.iload_n 0, 1) := by decide +kernel
theorem dX5_tellEachStreet_3 : decode cX5_tellEachStreet 3 = .ok (.istore_n 2, 1) := by decide +kernel
theorem dX5_tellEachStreet_4 : decode cX5_tellEachStreet 4 = .ok (.iconst 0, 1) := by decide +kernel
theorem dX5_tellEachStreet_5 : decode cX5_tellEachStreet 5 = .ok (.istore_n 3, 1) := by decide +kernel
theorem dX5_tellEachStreet_6 : decode cX5_tellEachStreet 6 = .ok (.iload_n 3, 1) := by decide +kernel
theorem dX5_tellEachStreet_7 : decode cX5_tellEachStreet 7 = .ok (.iconst 4, 1) := by decide +kernel
theorem dX5_tellEachStreet_8 : decode cX5_tellEachStreet 8 = .ok (.if_icmp .ge 21, 3) := by decide +kernel
theorem dX5_tellEachStreet_11 : decode cX5_tellEachStreet 11 = .ok (.iload_n 1, 1) := by decide +kernel
theorem dX5_tellEachStreet_12 : decode cX5_tellEachStreet 12 = .ok (.iconst 1, 1) := by decide +kernel
theorem dX5_tellEachStreet_13 : decode cX5_tellEachStreet 13 = .ok (.iload_n 2, 1) := by decide +kernel
theorem dX5_tellEachStreet_14 : decode cX5_tellEachStreet 14 = .ok (.iconst 4, 1) := by decide +kernel
theorem dX5_tellEachStreet_15 : decode cX5_tellEachStreet 15 = .ok (.irem, 1) := by decide +kernel
theorem dX5_tellEachStreet_16 : decode cX5_tellEachStreet 16 = .ok (.ishl, 1) := by decide +kernel
theorem dX5_tellEachStreet_17 : decode cX5_tellEachStreet 17 = .ok (.ior, 1) := by decide +kernel
theorem dX5_tellEachStreet_18 : decode cX5_tellEachStreet 18 = .ok (.istore_n 1, 1) := by decide +kernel
theorem dX5_tellEachStreet_19 : decode cX5_tellEachStreet 19 = .ok (.iload_n 2, 1) := by decide +kernel
theorem dX5_tellEachStreet_20 : decode cX5_tellEachStreet 20 = .ok (.iconst 4, 1) := by decide +kernel
theorem dX5_tellEachStreet_21 : decode cX5_tellEachStreet 21 = .ok (.idiv, 1) := by decide +kernel
theorem dX5_tellEachStreet_22 : decode cX5_tellEachStreet 22 = .ok (.istore_n 2, 1) := by decide +kernel
theorem dX5_tellEachStreet_23 : decode cX5_tellEachStreet 23 = .ok (.iinc 3 1, 3) := by decide +kernel
theorem dX5_tellEachStreet_26 : decode cX5_tellEachStreet 26 = .ok (.goto (-20), 3) := by decide +kernel
theorem dX5_tellEachStreet_29 : decode cX5_tellEachStreet 29 = .ok (.iload_n 1, 1) := by decide +kernel
theorem dX5_tellEachStreet_30 : decode cX5_tellEachStreet 30 = .ok (.bipush 15, 2) := by decide +kernel
theorem dX5_tellEachStreet_32 : decode cX5_tellEachStreet 32 = .ok (.if_icmp .ne 7, 3) := by decide +kernel
theorem dX5_tellEachStreet_35 : decode cX5_tellEachStreet 35 = .ok (.iconst 1, 1) := by decide +kernel
theorem dX5_tellEachStreet_36 : decode cX5_tellEachStreet 36 = .ok (.goto 4, 3) := by decide +kernel
theorem dX5_tellEachStreet_39 : decode cX5_tellEachStreet 39 = .ok (.iconst 0, 1) := by decide +kernel
theorem dX5_tellEachStreet_40 : decode cX5_tellEachStreet 40 = .ok (.ireturn, 1) := by decide +kernel
theorem dX5_succeeds_0 : decode cX5_succeeds 0 = .ok (.iload_n 1, 1) := by decide +kernel
theorem dX5_succeeds_1 : decode cX5_succeeds 1 = .ok (.sipush 10000, 3) := by decide +kernel
theorem dX5_succeeds_4 : decode cX5_succeeds 4 = .ok (.idiv, 1) := by decide +kernel
theorem dX5_succeeds_5 : decode cX5_succeeds 5 = .ok (.bipush 10, 2) := by decide +kernel
theorem dX5_succeeds_7 : decode cX5_succeeds 7 = .ok (.irem, 1) := by decide +kernel
theorem dX5_succeeds_8 : decode cX5_succeeds 8 = .ok (.istore_n 2, 1) := by decide +kernel
theorem dX5_succeeds_9 : decode cX5_succeeds 9 = .ok (.iload_n 1, 1) := by decide +kernel
theorem dX5_succeeds_10 : decode cX5_succeeds 10 = .ok (.sipush 1000, 3) := by decide +kernel
theorem dX5_succeeds_13 : decode cX5_succeeds 13 = .ok (.idiv, 1) := by decide +kernel
theorem dX5_succeeds_14 : decode cX5_succeeds 14 = .ok (.bipush 10, 2) := by decide +kernel
theorem dX5_succeeds_16 : decode cX5_succeeds 16 = .ok (.irem, 1) := by decide +kernel
theorem dX5_succeeds_17 : decode cX5_succeeds 17 = .ok (.istore_n 3, 1) := by decide +kernel
theorem dX5_succeeds_18 : decode cX5_succeeds 18 = .ok (.iload_n 1, 1) := by decide +kernel
theorem dX5_succeeds_19 : decode cX5_succeeds 19 = .ok (.bipush 100, 2) := by decide +kernel
theorem dX5_succeeds_21 : decode cX5_succeeds 21 = .ok (.idiv, 1) := by decide +kernel
theorem dX5_succeeds_22 : decode cX5_succeeds 22 = .ok (.bipush 100, 2) := by decide +kernel
theorem dX5_succeeds_24 : decode cX5_succeeds 24 = .ok (.irem, 1) := by decide +kernel
theorem dX5_succeeds_25 : decode cX5_succeeds 25 = .ok (.istore 4, 2) := by decide +kernel
theorem dX5_succeeds_27 : decode cX5_succeeds 27 = .ok (.iload_n 1, 1) := by decide +kernel
theorem dX5_succeeds_28 : decode cX5_succeeds 28 = .ok (.bipush 10, 2) := by decide +kernel
theorem dX5_succeeds_30 : decode cX5_succeeds 30 = .ok (.irem, 1) := by decide +kernel
theorem dX5_succeeds_31 : decode cX5_succeeds 31 = .ok (.istore 5, 2) := by decide +kernel
theorem dX5_succeeds_33 : decode cX5_succeeds 33 = .ok (.iload_n 1, 1) := by decide +kernel
theorem dX5_succeeds_34 : decode cX5_succeeds 34 = .ok (.bipush 100, 2) := by decide +kernel
theorem dX5_succeeds_36 : decode cX5_succeeds 36 = .ok (.irem, 1) := by decide +kernel
theorem dX5_succeeds_37 : decode cX5_succeeds 37 = .ok (.istore 6, 2) := by decide +kernel
theorem dX5_succeeds_39 : decode cX5_succeeds 39 = .ok (.iload_n 1, 1) := by decide +kernel
theorem dX5_succeeds_40 : decode cX5_succeeds 40 = .ok (.ldc 228, 2) := by decide +kernel
theorem dX5_succeeds_42 : decode cX5_succeeds 42 = .ok (.idiv, 1) := by decide +kernel
theorem dX5_succeeds_43 : decode cX5_succeeds 43 = .ok (.tableswitch 334 1 9 #[49, 81, 111, 134, 172, 201, 229, 268, 309], 49) := by decide +kernel
theorem dX5_succeeds_92 : decode cX5_succeeds 92 = .ok (.iload_n 2, 1) := by decide +kernel
theorem dX5_succeeds_93 : decode cX5_succeeds 93 = .ok (.ifCond .ne 29, 3) := by decide +kernel
theorem dX5_succeeds_96 : decode cX5_succeeds 96 = .ok (.iload 4, 2) := by decide +kernel
theorem dX5_succeeds_98 : decode cX5_succeeds 98 = .ok (.ifCond .ne 24, 3) := by decide +kernel
theorem dX5_succeeds_101 : decode cX5_succeeds 101 = .ok (.aload_n 0, 1) := by decide +kernel
theorem dX5_succeeds_102 : decode cX5_succeeds 102 = .ok (.getfield 23, 3) := by decide +kernel
theorem dX5_succeeds_105 : decode cX5_succeeds 105 = .ok (.bipush 7, 2) := by decide +kernel
theorem dX5_succeeds_107 : decode cX5_succeeds 107 = .ok (.iload 6, 2) := by decide +kernel
theorem dX5_succeeds_109 : decode cX5_succeeds 109 = .ok (.iconst 0, 1) := by decide +kernel
theorem dX5_succeeds_110 : decode cX5_succeeds 110 = .ok (.iconst 0, 1) := by decide +kernel
theorem dX5_succeeds_111 : decode cX5_succeeds 111 = .ok (.invokevirtual 225, 3) := by decide +kernel
theorem dX5_succeeds_114 : decode cX5_succeeds 114 = .ok (.iconst (-1), 1) := by decide +kernel
theorem dX5_succeeds_115 : decode cX5_succeeds 115 = .ok (.if_icmp .eq 7, 3) := by decide +kernel
theorem dX5_succeeds_118 : decode cX5_succeeds 118 = .ok (.iconst 1, 1) := by decide +kernel
theorem dX5_succeeds_119 : decode cX5_succeeds 119 = .ok (.goto 4, 3) := by decide +kernel
theorem dX5_succeeds_122 : decode cX5_succeeds 122 = .ok (.iconst 0, 1) := by decide +kernel
theorem dX5_succeeds_123 : decode cX5_succeeds 123 = .ok (.ireturn, 1) := by decide +kernel
theorem dX5_succeeds_124 : decode cX5_succeeds 124 = .ok (.iload 6, 2) := by decide +kernel
theorem dX5_succeeds_126 : decode cX5_succeeds 126 = .ok (.ifCond .ne 26, 3) := by decide +kernel
theorem dX5_succeeds_129 : decode cX5_succeeds 129 = .ok (.aload_n 0, 1) := by decide +kernel
theorem dX5_succeeds_130 : decode cX5_succeeds 130 = .ok (.getfield 23, 3) := by decide +kernel
theorem dX5_succeeds_133 : decode cX5_succeeds 133 = .ok (.iconst 1, 1) := by decide +kernel
theorem dX5_succeeds_134 : decode cX5_succeeds 134 = .ok (.iload_n 2, 1) := by decide +kernel
theorem dX5_succeeds_135 : decode cX5_succeeds 135 = .ok (.iload_n 3, 1) := by decide +kernel
theorem dX5_succeeds_136 : decode cX5_succeeds 136 = .ok (.iload 4, 2) := by decide +kernel
theorem dX5_succeeds_138 : decode cX5_succeeds 138 = .ok (.bipush 10, 2) := by decide +kernel
theorem dX5_succeeds_140 : decode cX5_succeeds 140 = .ok (.irem, 1) := by decide +kernel
theorem dX5_succeeds_141 : decode cX5_succeeds 141 = .ok (.invokevirtual 225, 3) := by decide +kernel
theorem dX5_succeeds_144 : decode cX5_succeeds 144 = .ok (.iconst (-1), 1) := by decide +kernel
theorem dX5_succeeds_145 : decode cX5_succeeds 145 = .ok (.if_icmp .eq 7, 3) := by decide +kernel
theorem dX5_succeeds_148 : decode cX5_succeeds 148 = .ok (.iconst 1, 1) := by decide +kernel
theorem dX5_succeeds_149 : decode cX5_succeeds 149 = .ok (.goto 4, 3) := by decide +kernel
theorem dX5_succeeds_152 : decode cX5_succeeds 152 = .ok (.iconst 0, 1) := by decide +kernel
theorem dX5_succeeds_153 : decode cX5_succeeds 153 = .ok (.ireturn, 1) := by decide +kernel
theorem dX5_succeeds_154 : decode cX5_succeeds 154 = .ok (.aload_n 0, 1) := by decide +kernel
theorem dX5_succeeds_155 : decode cX5_succeeds 155 = .ok (.getfield 23, 3) := by decide +kernel
theorem dX5_succeeds_158 : decode cX5_succeeds 158 = .ok (.iconst 2, 1) := by decide +kernel
theorem dX5_succeeds_159 : decode cX5_succeeds 159 = .ok (.iload_n 2, 1) := by decide +kernel
theorem dX5_succeeds_160 : decode cX5_succeeds 160 = .ok (.iload 4, 2) := by decide +kernel
theorem dX5_succeeds_162 : decode cX5_succeeds 162 = .ok (.iload 6, 2) := by decide +kernel
theorem dX5_succeeds_164 : decode cX5_succeeds 164 = .ok (.invokevirtual 225, 3) := by decide +kernel
theorem dX5_succeeds_167 : decode cX5_succeeds 167 = .ok (.iconst (-1), 1) := by decide +kernel
theorem dX5_succeeds_168 : decode cX5_succeeds 168 = .ok (.if_icmp .eq 7, 3) := by decide +kernel
theorem dX5_succeeds_171 : decode cX5_succeeds 171 = .ok (.iconst 1, 1) := by decide +kernel
theorem dX5_succeeds_172 : decode cX5_succeeds 172 = .ok (.goto 4, 3) := by decide +kernel
theorem dX5_succeeds_175 : decode cX5_succeeds 175 = .ok (.iconst 0, 1) := by decide +kernel
theorem dX5_succeeds_176 : decode cX5_succeeds 176 = .ok (.ireturn, 1) := by decide +kernel
theorem dX5_succeeds_177 : decode cX5_succeeds 177 = .ok (.iload_n 1, 1) := by decide +kernel
theorem dX5_succeeds_178 : decode cX5_succeeds 178 = .ok (.bipush 10, 2) := by decide +kernel
theorem dX5_succeeds_180 : decode cX5_succeeds 180 = .ok (.idiv, 1) := by decide +kernel
theorem dX5_succeeds_181 : decode cX5_succeeds 181 = .ok (.bipush 100, 2) := by decide +kernel
theorem dX5_succeeds_183 : decode cX5_succeeds 183 = .ok (.irem, 1) := by decide +kernel
theorem dX5_succeeds_184 : decode cX5_succeeds 184 = .ok (.ifCond .ne 29, 3) := by decide +kernel
theorem dX5_succeeds_187 : decode cX5_succeeds 187 = .ok (.iload 5, 2) := by decide +kernel
theorem dX5_succeeds_189 : decode cX5_succeeds 189 = .ok (.iconst 1, 1) := by decide +kernel
theorem dX5_succeeds_190 : decode cX5_succeeds 190 = .ok (.if_icmp .gt 23, 3) := by decide +kernel
theorem dX5_succeeds_193 : decode cX5_succeeds 193 = .ok (.aload_n 0, 1) := by decide +kernel
theorem dX5_succeeds_194 : decode cX5_succeeds 194 = .ok (.getfield 23, 3) := by decide +kernel
theorem dX5_succeeds_197 : decode cX5_succeeds 197 = .ok (.iconst 4, 1) := by decide +kernel
theorem dX5_succeeds_198 : decode cX5_succeeds 198 = .ok (.iload_n 2, 1) := by decide +kernel
theorem dX5_succeeds_199 : decode cX5_succeeds 199 = .ok (.iload_n 3, 1) := by decide +kernel
theorem dX5_succeeds_200 : decode cX5_succeeds 200 = .ok (.iload 5, 2) := by decide +kernel
theorem dX5_succeeds_202 : decode cX5_succeeds 202 = .ok (.invokevirtual 225, 3) := by decide +kernel
theorem dX5_succeeds_205 : decode cX5_succeeds 205 = .ok (.iconst (-1), 1) := by decide +kernel
theorem dX5_succeeds_206 : decode cX5_succeeds 206 = .ok (.if_icmp .eq 7, 3) := by decide +kernel
theorem dX5_succeeds_209 : decode cX5_succeeds 209 = .ok (.iconst 1, 1) := by decide +kernel
theorem dX5_succeeds_210 : decode cX5_succeeds 210 = .ok (.goto 4, 3) := by decide +kernel
theorem dX5_succeeds_213 : decode cX5_succeeds 213 = .ok (.iconst 0, 1) := by decide +kernel
theorem dX5_succeeds_214 : decode cX5_succeeds 214 = .ok (.ireturn, 1) := by decide +kernel
theorem dX5_succeeds_215 : decode cX5_succeeds 215 = .ok (.iload_n 1, 1) := by decide +kernel
theorem dX5_succeeds_216 : decode cX5_succeeds 216 = .ok (.sipush 1000, 3) := by decide +kernel
theorem dX5_succeeds_219 : decode cX5_succeeds 219 = .ok (.irem, 1) := by decide +kernel
theorem dX5_succeeds_220 : decode cX5_succeeds 220 = .ok (.ifCond .ne 22, 3) := by decide +kernel
theorem dX5_succeeds_223 : decode cX5_succeeds 223 = .ok (.aload_n 0, 1) := by decide +kernel
theorem dX5_succeeds_224 : decode cX5_succeeds 224 = .ok (.getfield 23, 3) := by decide +kernel
theorem dX5_succeeds_227 : decode cX5_succeeds 227 = .ok (.iconst 5, 1) := by decide +kernel
theorem dX5_succeeds_228 : decode cX5_succeeds 228 = .ok (.iload_n 2, 1) := by decide +kernel
theorem dX5_succeeds_229 : decode cX5_succeeds 229 = .ok (.iload_n 3, 1) := by decide +kernel
theorem dX5_succeeds_230 : decode cX5_succeeds 230 = .ok (.iconst 0, 1) := by decide +kernel
theorem dX5_succeeds_231 : decode cX5_succeeds 231 = .ok (.invokevirtual 225, 3) := by decide +kernel
theorem dX5_succeeds_234 : decode cX5_succeeds 234 = .ok (.iconst (-1), 1) := by decide +kernel
theorem dX5_succeeds_235 : decode cX5_succeeds 235 = .ok (.if_icmp .eq 7, 3) := by decide +kernel
theorem dX5_succeeds_238 : decode cX5_succeeds 238 = .ok (.iconst 1, 1) := by decide +kernel
theorem dX5_succeeds_239 : decode cX5_succeeds 239 = .ok (.goto 4, 3) := by decide +kernel
theorem dX5_succeeds_242 : decode cX5_succeeds 242 = .ok (.iconst 0, 1) := by decide +kernel
theorem dX5_succeeds_243 : decode cX5_succeeds 243 = .ok (.ireturn, 1) := by decide +kernel
theorem dX5_succeeds_244 : decode cX5_succeeds 244 = .ok (.iload 4, 2) := by decide +kernel
theorem dX5_succeeds_246 : decode cX5_succeeds 246 = .ok (.ifCond .ne 24, 3) := by decide +kernel
theorem dX5_succeeds_249 : decode cX5_succeeds 249 = .ok (.aload_n 0, 1) := by decide +kernel
theorem dX5_succeeds_250 : decode cX5_succeeds 250 = .ok (.getfield 23, 3) := by decide +kernel
theorem dX5_succeeds_253 : decode cX5_succeeds 253 = .ok (.bipush 6, 2) := by decide +kernel
theorem dX5_succeeds_255 : decode cX5_succeeds 255 = .ok (.iload_n 2, 1) := by decide +kernel
theorem dX5_succeeds_256 : decode cX5_succeeds 256 = .ok (.iload 6, 2) := by decide +kernel
theorem dX5_succeeds_258 : decode cX5_succeeds 258 = .ok (.iconst 0, 1) := by decide +kernel
theorem dX5_succeeds_259 : decode cX5_succeeds 259 = .ok (.invokevirtual 225, 3) := by decide +kernel
theorem dX5_succeeds_262 : decode cX5_succeeds 262 = .ok (.iconst (-1), 1) := by decide +kernel
theorem dX5_succeeds_263 : decode cX5_succeeds 263 = .ok (.if_icmp .eq 7, 3) := by decide +kernel
theorem dX5_succeeds_266 : decode cX5_succeeds 266 = .ok (.iconst 1, 1) := by decide +kernel
theorem dX5_succeeds_267 : decode cX5_succeeds 267 = .ok (.goto 4, 3) := by decide +kernel
theorem dX5_succeeds_270 : decode cX5_succeeds 270 = .ok (.iconst 0, 1) := by decide +kernel
theorem dX5_succeeds_271 : decode cX5_succeeds 271 = .ok (.ireturn, 1) := by decide +kernel
theorem dX5_succeeds_272 : decode cX5_succeeds 272 = .ok (.iload 4, 2) := by decide +kernel
theorem dX5_succeeds_274 : decode cX5_succeeds 274 = .ok (.ifCond .ne 35, 3) := by decide +kernel
theorem dX5_succeeds_277 : decode cX5_succeeds 277 = .ok (.aload_n 0, 1) := by decide +kernel
theorem dX5_succeeds_278 : decode cX5_succeeds 278 = .ok (.getfield 23, 3) := by decide +kernel
theorem dX5_succeeds_281 : decode cX5_succeeds 281 = .ok (.iload_n 2, 1) := by decide +kernel
theorem dX5_succeeds_282 : decode cX5_succeeds 282 = .ok (.invokevirtual 84, 3) := by decide +kernel
theorem dX5_succeeds_285 : decode cX5_succeeds 285 = .ok (.ifCond .eq 24, 3) := by decide +kernel
theorem dX5_succeeds_288 : decode cX5_succeeds 288 = .ok (.aload_n 0, 1) := by decide +kernel
theorem dX5_succeeds_289 : decode cX5_succeeds 289 = .ok (.getfield 23, 3) := by decide +kernel
theorem dX5_succeeds_292 : decode cX5_succeeds 292 = .ok (.getfield 91, 3) := by decide +kernel
theorem dX5_succeeds_295 : decode cX5_succeeds 295 = .ok (.iload_n 2, 1) := by decide +kernel
theorem dX5_succeeds_296 : decode cX5_succeeds 296 = .ok (.aaload, 1) := by decide +kernel
theorem dX5_succeeds_297 : decode cX5_succeeds 297 = .ok (.getfield 167, 3) := by decide +kernel
theorem dX5_succeeds_300 : decode cX5_succeeds 300 = .ok (.iload 6, 2) := by decide +kernel
theorem dX5_succeeds_302 : decode cX5_succeeds 302 = .ok (.if_icmp .gt 7, 3) := by decide +kernel
theorem dX5_succeeds_305 : decode cX5_succeeds 305 = .ok (.iconst 1, 1) := by decide +kernel
theorem dX5_succeeds_306 : decode cX5_succeeds 306 = .ok (.goto 4, 3) := by decide +kernel
theorem dX5_succeeds_309 : decode cX5_succeeds 309 = .ok (.iconst 0, 1) := by decide +kernel
theorem dX5_succeeds_310 : decode cX5_succeeds 310 = .ok (.ireturn, 1) := by decide +kernel
theorem dX5_succeeds_311 : decode cX5_succeeds 311 = .ok (.iload_n 1, 1) := by decide +kernel
theorem dX5_succeeds_312 : decode cX5_succeeds 312 = .ok (.bipush 10, 2) := by decide +kernel
theorem dX5_succeeds_314 : decode cX5_succeeds 314 = .ok (.idiv, 1) := by decide +kernel
theorem dX5_succeeds_315 : decode cX5_succeeds 315 = .ok (.sipush 1000, 3) := by decide +kernel
theorem dX5_succeeds_318 : decode cX5_succeeds 318 = .ok (.irem, 1) := by decide +kernel
theorem dX5_succeeds_319 : decode cX5_succeeds 319 = .ok (.ifCond .ne 31, 3) := by decide +kernel
theorem dX5_succeeds_322 : decode cX5_succeeds 322 = .ok (.aload_n 0, 1) := by decide +kernel
theorem dX5_succeeds_323 : decode cX5_succeeds 323 = .ok (.getfield 23, 3) := by decide +kernel
theorem dX5_succeeds_326 : decode cX5_succeeds 326 = .ok (.iload_n 2, 1) := by decide +kernel
theorem dX5_succeeds_327 : decode cX5_succeeds 327 = .ok (.invokevirtual 84, 3) := by decide +kernel
theorem dX5_succeeds_330 : decode cX5_succeeds 330 = .ok (.ifCond .eq 20, 3) := by decide +kernel
theorem dX5_succeeds_333 : decode cX5_succeeds 333 = .ok (.aload_n 0, 1) := by decide +kernel
theorem dX5_succeeds_334 : decode cX5_succeeds 334 = .ok (.getfield 23, 3) := by decide +kernel
theorem dX5_succeeds_337 : decode cX5_succeeds 337 = .ok (.iload_n 2, 1) := by decide +kernel
theorem dX5_succeeds_338 : decode cX5_succeeds 338 = .ok (.invokevirtual 157, 3) := by decide +kernel
theorem dX5_succeeds_341 : decode cX5_succeeds 341 = .ok (.iload 5, 2) := by decide +kernel
theorem dX5_succeeds_343 : decode cX5_succeeds 343 = .ok (.if_icmp .ne 7, 3) := by decide +kernel
theorem dX5_succeeds_346 : decode cX5_succeeds 346 = .ok (.iconst 1, 1) := by decide +kernel
theorem dX5_succeeds_347 : decode cX5_succeeds 347 = .ok (.goto 4, 3) := by decide +kernel
theorem dX5_succeeds_350 : decode cX5_succeeds 350 = .ok (.iconst 0, 1) := by decide +kernel
theorem dX5_succeeds_351 : decode cX5_succeeds 351 = .ok (.ireturn, 1) := by decide +kernel
theorem dX5_succeeds_352 : decode cX5_succeeds 352 = .ok (.iload_n 2, 1) := by decide +kernel
theorem dX5_succeeds_353 : decode cX5_succeeds 353 = .ok (.ifCond .ne 22, 3) := by decide +kernel
theorem dX5_succeeds_356 : decode cX5_succeeds 356 = .ok (.aload_n 0, 1) := by decide +kernel
theorem dX5_succeeds_357 : decode cX5_succeeds 357 = .ok (.getfield 23, 3) := by decide +kernel
theorem dX5_succeeds_360 : decode cX5_succeeds 360 = .ok (.invokevirtual 229, 3) := by decide +kernel
theorem dX5_succeeds_363 : decode cX5_succeeds 363 = .ok (.iload_n 1, 1) := by decide +kernel
theorem dX5_succeeds_364 : decode cX5_succeeds 364 = .ok (.sipush 10000, 3) := by decide +kernel
theorem dX5_succeeds_367 : decode cX5_succeeds 367 = .ok (.irem, 1) := by decide +kernel
theorem dX5_succeeds_368 : decode cX5_succeeds 368 = .ok (.if_icmp .lt 7, 3) := by decide +kernel
theorem dX5_succeeds_371 : decode cX5_succeeds 371 = .ok (.iconst 1, 1) := by decide +kernel
theorem dX5_succeeds_372 : decode cX5_succeeds 372 = .ok (.goto 4, 3) := by decide +kernel
theorem dX5_succeeds_375 : decode cX5_succeeds 375 = .ok (.iconst 0, 1) := by decide +kernel
theorem dX5_succeeds_376 : decode cX5_succeeds 376 = .ok (.ireturn, 1) := by decide +kernel
theorem dX5_succeeds_377 : decode cX5_succeeds 377 = .ok (.iconst 0, 1) := by decide +kernel
theorem dX5_succeeds_378 : decode cX5_succeeds 378 = .ok (.ireturn, 1) := by decide +kernel
theorem dX5_takeTurn_0 : decode cX5_takeTurn 0 = .ok (.iload_n 1, 1) := by decide +kernel
theorem dX5_takeTurn_1 : decode cX5_takeTurn 1 = .ok (.bipush 8, 2) := by decide +kernel
theorem dX5_takeTurn_3 : decode cX5_takeTurn 3 = .ok (.idiv, 1) := by decide +kernel
theorem dX5_takeTurn_4 : decode cX5_takeTurn 4 = .ok (.istore_n 2, 1) := by decide +kernel
theorem dX5_takeTurn_5 : decode cX5_takeTurn 5 = .ok (.iload_n 1, 1) := by decide +kernel
theorem dX5_takeTurn_6 : decode cX5_takeTurn 6 = .ok (.bipush 8, 2) := by decide +kernel
theorem dX5_takeTurn_8 : decode cX5_takeTurn 8 = .ok (.irem, 1) := by decide +kernel
theorem dX5_takeTurn_9 : decode cX5_takeTurn 9 = .ok (.tableswitch 245 0 5 #[39, 61, 92, 135, 170, 191], 39) := by decide +kernel
theorem dX5_takeTurn_48 : decode cX5_takeTurn 48 = .ok (.aload_n 0, 1) := by decide +kernel
theorem dX5_takeTurn_49 : decode cX5_takeTurn 49 = .ok (.getfield 23, 3) := by decide +kernel
theorem dX5_takeTurn_52 : decode cX5_takeTurn 52 = .ok (.iconst 0, 1) := by decide +kernel
theorem dX5_takeTurn_53 : decode cX5_takeTurn 53 = .ok (.iload_n 2, 1) := by decide +kernel
theorem dX5_takeTurn_54 : decode cX5_takeTurn 54 = .ok (.iconst 4, 1) := by decide +kernel
theorem dX5_takeTurn_55 : decode cX5_takeTurn 55 = .ok (.irem, 1) := by decide +kernel
theorem dX5_takeTurn_56 : decode cX5_takeTurn 56 = .ok (.iload_n 2, 1) := by decide +kernel
theorem dX5_takeTurn_57 : decode cX5_takeTurn 57 = .ok (.iconst 4, 1) := by decide +kernel
theorem dX5_takeTurn_58 : decode cX5_takeTurn 58 = .ok (.idiv, 1) := by decide +kernel
theorem dX5_takeTurn_59 : decode cX5_takeTurn 59 = .ok (.ldc 232, 2) := by decide +kernel
theorem dX5_takeTurn_61 : decode cX5_takeTurn 61 = .ok (.irem, 1) := by decide +kernel
theorem dX5_takeTurn_62 : decode cX5_takeTurn 62 = .ok (.iconst 0, 1) := by decide +kernel
theorem dX5_takeTurn_63 : decode cX5_takeTurn 63 = .ok (.invokevirtual 225, 3) := by decide +kernel
theorem dX5_takeTurn_66 : decode cX5_takeTurn 66 = .ok (.pop, 1) := by decide +kernel
theorem dX5_takeTurn_67 : decode cX5_takeTurn 67 = .ok (.goto 205, 3) := by decide +kernel
theorem dX5_takeTurn_70 : decode cX5_takeTurn 70 = .ok (.aload_n 0, 1) := by decide +kernel
theorem dX5_takeTurn_71 : decode cX5_takeTurn 71 = .ok (.getfield 23, 3) := by decide +kernel
theorem dX5_takeTurn_74 : decode cX5_takeTurn 74 = .ok (.iconst 1, 1) := by decide +kernel
theorem dX5_takeTurn_75 : decode cX5_takeTurn 75 = .ok (.iload_n 2, 1) := by decide +kernel
theorem dX5_takeTurn_76 : decode cX5_takeTurn 76 = .ok (.bipush 10, 2) := by decide +kernel
theorem dX5_takeTurn_78 : decode cX5_takeTurn 78 = .ok (.irem, 1) := by decide +kernel
theorem dX5_takeTurn_79 : decode cX5_takeTurn 79 = .ok (.iload_n 2, 1) := by decide +kernel
theorem dX5_takeTurn_80 : decode cX5_takeTurn 80 = .ok (.bipush 16, 2) := by decide +kernel
theorem dX5_takeTurn_82 : decode cX5_takeTurn 82 = .ok (.idiv, 1) := by decide +kernel
theorem dX5_takeTurn_83 : decode cX5_takeTurn 83 = .ok (.bipush 7, 2) := by decide +kernel
theorem dX5_takeTurn_85 : decode cX5_takeTurn 85 = .ok (.irem, 1) := by decide +kernel
theorem dX5_takeTurn_86 : decode cX5_takeTurn 86 = .ok (.iload_n 2, 1) := by decide +kernel
theorem dX5_takeTurn_87 : decode cX5_takeTurn 87 = .ok (.sipush 128, 3) := by decide +kernel
theorem dX5_takeTurn_90 : decode cX5_takeTurn 90 = .ok (.idiv, 1) := by decide +kernel
theorem dX5_takeTurn_91 : decode cX5_takeTurn 91 = .ok (.bipush 10, 2) := by decide +kernel
theorem dX5_takeTurn_93 : decode cX5_takeTurn 93 = .ok (.irem, 1) := by decide +kernel
theorem dX5_takeTurn_94 : decode cX5_takeTurn 94 = .ok (.invokevirtual 225, 3) := by decide +kernel
theorem dX5_takeTurn_97 : decode cX5_takeTurn 97 = .ok (.pop, 1) := by decide +kernel
theorem dX5_takeTurn_98 : decode cX5_takeTurn 98 = .ok (.goto 174, 3) := by decide +kernel
theorem dX5_takeTurn_101 : decode cX5_takeTurn 101 = .ok (.aload_n 0, 1) := by decide +kernel
theorem dX5_takeTurn_102 : decode cX5_takeTurn 102 = .ok (.getfield 23, 3) := by decide +kernel
theorem dX5_takeTurn_105 : decode cX5_takeTurn 105 = .ok (.getfield 95, 3) := by decide +kernel
theorem dX5_takeTurn_108 : decode cX5_takeTurn 108 = .ok (.iload_n 2, 1) := by decide +kernel
theorem dX5_takeTurn_109 : decode cX5_takeTurn 109 = .ok (.bipush 16, 2) := by decide +kernel
theorem dX5_takeTurn_111 : decode cX5_takeTurn 111 = .ok (.idiv, 1) := by decide +kernel
theorem dX5_takeTurn_112 : decode cX5_takeTurn 112 = .ok (.bipush 20, 2) := by decide +kernel
theorem dX5_takeTurn_114 : decode cX5_takeTurn 114 = .ok (.irem, 1) := by decide +kernel
theorem dX5_takeTurn_115 : decode cX5_takeTurn 115 = .ok (.iadd, 1) := by decide +kernel
theorem dX5_takeTurn_116 : decode cX5_takeTurn 116 = .ok (.istore_n 3, 1) := by decide +kernel
theorem dX5_takeTurn_117 : decode cX5_takeTurn 117 = .ok (.aload_n 0, 1) := by decide +kernel
theorem dX5_takeTurn_118 : decode cX5_takeTurn 118 = .ok (.getfield 23, 3) := by decide +kernel
theorem dX5_takeTurn_121 : decode cX5_takeTurn 121 = .ok (.iconst 2, 1) := by decide +kernel
theorem dX5_takeTurn_122 : decode cX5_takeTurn 122 = .ok (.iload_n 2, 1) := by decide +kernel
theorem dX5_takeTurn_123 : decode cX5_takeTurn 123 = .ok (.bipush 10, 2) := by decide +kernel
theorem dX5_takeTurn_125 : decode cX5_takeTurn 125 = .ok (.irem, 1) := by decide +kernel
theorem dX5_takeTurn_126 : decode cX5_takeTurn 126 = .ok (.iload_n 3, 1) := by decide +kernel
theorem dX5_takeTurn_127 : decode cX5_takeTurn 127 = .ok (.iload_n 3, 1) := by decide +kernel
theorem dX5_takeTurn_128 : decode cX5_takeTurn 128 = .ok (.iload_n 2, 1) := by decide +kernel
theorem dX5_takeTurn_129 : decode cX5_takeTurn 129 = .ok (.sipush 512, 3) := by decide +kernel
theorem dX5_takeTurn_132 : decode cX5_takeTurn 132 = .ok (.idiv, 1) := by decide +kernel
theorem dX5_takeTurn_133 : decode cX5_takeTurn 133 = .ok (.bipush 9, 2) := by decide +kernel
theorem dX5_takeTurn_135 : decode cX5_takeTurn 135 = .ok (.irem, 1) := by decide +kernel
theorem dX5_takeTurn_136 : decode cX5_takeTurn 136 = .ok (.iadd, 1) := by decide +kernel
theorem dX5_takeTurn_137 : decode cX5_takeTurn 137 = .ok (.invokevirtual 225, 3) := by decide +kernel
theorem dX5_takeTurn_140 : decode cX5_takeTurn 140 = .ok (.pop, 1) := by decide +kernel
theorem dX5_takeTurn_141 : decode cX5_takeTurn 141 = .ok (.goto 131, 3) := by decide +kernel
theorem dX5_takeTurn_144 : decode cX5_takeTurn 144 = .ok (.aload_n 0, 1) := by decide +kernel
theorem dX5_takeTurn_145 : decode cX5_takeTurn 145 = .ok (.getfield 23, 3) := by decide +kernel
theorem dX5_takeTurn_148 : decode cX5_takeTurn 148 = .ok (.iconst 4, 1) := by decide +kernel
theorem dX5_takeTurn_149 : decode cX5_takeTurn 149 = .ok (.iload_n 2, 1) := by decide +kernel
theorem dX5_takeTurn_150 : decode cX5_takeTurn 150 = .ok (.iconst 4, 1) := by decide +kernel
theorem dX5_takeTurn_151 : decode cX5_takeTurn 151 = .ok (.irem, 1) := by decide +kernel
theorem dX5_takeTurn_152 : decode cX5_takeTurn 152 = .ok (.iload_n 2, 1) := by decide +kernel
theorem dX5_takeTurn_153 : decode cX5_takeTurn 153 = .ok (.iconst 4, 1) := by decide +kernel
theorem dX5_takeTurn_154 : decode cX5_takeTurn 154 = .ok (.idiv, 1) := by decide +kernel
theorem dX5_takeTurn_155 : decode cX5_takeTurn 155 = .ok (.bipush 7, 2) := by decide +kernel
theorem dX5_takeTurn_157 : decode cX5_takeTurn 157 = .ok (.irem, 1) := by decide +kernel
theorem dX5_takeTurn_158 : decode cX5_takeTurn 158 = .ok (.iload_n 2, 1) := by decide +kernel
theorem dX5_takeTurn_159 : decode cX5_takeTurn 159 = .ok (.bipush 32, 2) := by decide +kernel
theorem dX5_takeTurn_161 : decode cX5_takeTurn 161 = .ok (.idiv, 1) := by decide +kernel
theorem dX5_takeTurn_162 : decode cX5_takeTurn 162 = .ok (.iconst 3, 1) := by decide +kernel
theorem dX5_takeTurn_163 : decode cX5_takeTurn 163 = .ok (.irem, 1) := by decide +kernel
theorem dX5_takeTurn_164 : decode cX5_takeTurn 164 = .ok (.ifCond .ne 7, 3) := by decide +kernel
theorem dX5_takeTurn_167 : decode cX5_takeTurn 167 = .ok (.iconst 1, 1) := by decide +kernel
theorem dX5_takeTurn_168 : decode cX5_takeTurn 168 = .ok (.goto 4, 3) := by decide +kernel
theorem dX5_takeTurn_171 : decode cX5_takeTurn 171 = .ok (.iconst 0, 1) := by decide +kernel
theorem dX5_takeTurn_172 : decode cX5_takeTurn 172 = .ok (.invokevirtual 225, 3) := by decide +kernel
theorem dX5_takeTurn_175 : decode cX5_takeTurn 175 = .ok (.pop, 1) := by decide +kernel
theorem dX5_takeTurn_176 : decode cX5_takeTurn 176 = .ok (.goto 96, 3) := by decide +kernel
theorem dX5_takeTurn_179 : decode cX5_takeTurn 179 = .ok (.aload_n 0, 1) := by decide +kernel
theorem dX5_takeTurn_180 : decode cX5_takeTurn 180 = .ok (.getfield 23, 3) := by decide +kernel
theorem dX5_takeTurn_183 : decode cX5_takeTurn 183 = .ok (.iconst 5, 1) := by decide +kernel
theorem dX5_takeTurn_184 : decode cX5_takeTurn 184 = .ok (.iload_n 2, 1) := by decide +kernel
theorem dX5_takeTurn_185 : decode cX5_takeTurn 185 = .ok (.iconst 4, 1) := by decide +kernel
theorem dX5_takeTurn_186 : decode cX5_takeTurn 186 = .ok (.irem, 1) := by decide +kernel
theorem dX5_takeTurn_187 : decode cX5_takeTurn 187 = .ok (.iload_n 2, 1) := by decide +kernel
theorem dX5_takeTurn_188 : decode cX5_takeTurn 188 = .ok (.iconst 4, 1) := by decide +kernel
theorem dX5_takeTurn_189 : decode cX5_takeTurn 189 = .ok (.idiv, 1) := by decide +kernel
theorem dX5_takeTurn_190 : decode cX5_takeTurn 190 = .ok (.iconst 4, 1) := by decide +kernel
theorem dX5_takeTurn_191 : decode cX5_takeTurn 191 = .ok (.irem, 1) := by decide +kernel
theorem dX5_takeTurn_192 : decode cX5_takeTurn 192 = .ok (.iconst 0, 1) := by decide +kernel
theorem dX5_takeTurn_193 : decode cX5_takeTurn 193 = .ok (.invokevirtual 225, 3) := by decide +kernel
theorem dX5_takeTurn_196 : decode cX5_takeTurn 196 = .ok (.pop, 1) := by decide +kernel
theorem dX5_takeTurn_197 : decode cX5_takeTurn 197 = .ok (.goto 75, 3) := by decide +kernel
theorem dX5_takeTurn_200 : decode cX5_takeTurn 200 = .ok (.iload_n 2, 1) := by decide +kernel
theorem dX5_takeTurn_201 : decode cX5_takeTurn 201 = .ok (.sipush 128, 3) := by decide +kernel
theorem dX5_takeTurn_204 : decode cX5_takeTurn 204 = .ok (.idiv, 1) := by decide +kernel
theorem dX5_takeTurn_205 : decode cX5_takeTurn 205 = .ok (.iconst 2, 1) := by decide +kernel
theorem dX5_takeTurn_206 : decode cX5_takeTurn 206 = .ok (.irem, 1) := by decide +kernel
theorem dX5_takeTurn_207 : decode cX5_takeTurn 207 = .ok (.ifCond .ne 22, 3) := by decide +kernel
theorem dX5_takeTurn_210 : decode cX5_takeTurn 210 = .ok (.aload_n 0, 1) := by decide +kernel
theorem dX5_takeTurn_211 : decode cX5_takeTurn 211 = .ok (.getfield 23, 3) := by decide +kernel
theorem dX5_takeTurn_214 : decode cX5_takeTurn 214 = .ok (.bipush 6, 2) := by decide +kernel
theorem dX5_takeTurn_216 : decode cX5_takeTurn 216 = .ok (.iconst 0, 1) := by decide +kernel
theorem dX5_takeTurn_217 : decode cX5_takeTurn 217 = .ok (.iload_n 2, 1) := by decide +kernel
theorem dX5_takeTurn_218 : decode cX5_takeTurn 218 = .ok (.bipush 100, 2) := by decide +kernel
theorem dX5_takeTurn_220 : decode cX5_takeTurn 220 = .ok (.irem, 1) := by decide +kernel
theorem dX5_takeTurn_221 : decode cX5_takeTurn 221 = .ok (.iconst 0, 1) := by decide +kernel
theorem dX5_takeTurn_222 : decode cX5_takeTurn 222 = .ok (.invokevirtual 225, 3) := by decide +kernel
theorem dX5_takeTurn_225 : decode cX5_takeTurn 225 = .ok (.pop, 1) := by decide +kernel
theorem dX5_takeTurn_226 : decode cX5_takeTurn 226 = .ok (.goto 46, 3) := by decide +kernel
theorem dX5_takeTurn_229 : decode cX5_takeTurn 229 = .ok (.aload_n 0, 1) := by decide +kernel
theorem dX5_takeTurn_230 : decode cX5_takeTurn 230 = .ok (.getfield 23, 3) := by decide +kernel
theorem dX5_takeTurn_233 : decode cX5_takeTurn 233 = .ok (.bipush 6, 2) := by decide +kernel
theorem dX5_takeTurn_235 : decode cX5_takeTurn 235 = .ok (.iconst 1, 1) := by decide +kernel
theorem dX5_takeTurn_236 : decode cX5_takeTurn 236 = .ok (.iload_n 2, 1) := by decide +kernel
theorem dX5_takeTurn_237 : decode cX5_takeTurn 237 = .ok (.iconst 3, 1) := by decide +kernel
theorem dX5_takeTurn_238 : decode cX5_takeTurn 238 = .ok (.irem, 1) := by decide +kernel
theorem dX5_takeTurn_239 : decode cX5_takeTurn 239 = .ok (.iadd, 1) := by decide +kernel
theorem dX5_takeTurn_240 : decode cX5_takeTurn 240 = .ok (.iload_n 2, 1) := by decide +kernel
theorem dX5_takeTurn_241 : decode cX5_takeTurn 241 = .ok (.iconst 4, 1) := by decide +kernel
theorem dX5_takeTurn_242 : decode cX5_takeTurn 242 = .ok (.idiv, 1) := by decide +kernel
theorem dX5_takeTurn_243 : decode cX5_takeTurn 243 = .ok (.bipush 10, 2) := by decide +kernel
theorem dX5_takeTurn_245 : decode cX5_takeTurn 245 = .ok (.irem, 1) := by decide +kernel
theorem dX5_takeTurn_246 : decode cX5_takeTurn 246 = .ok (.iconst 0, 1) := by decide +kernel
theorem dX5_takeTurn_247 : decode cX5_takeTurn 247 = .ok (.invokevirtual 225, 3) := by decide +kernel
theorem dX5_takeTurn_250 : decode cX5_takeTurn 250 = .ok (.pop, 1) := by decide +kernel
theorem dX5_takeTurn_251 : decode cX5_takeTurn 251 = .ok (.goto 21, 3) := by decide +kernel
theorem dX5_takeTurn_254 : decode cX5_takeTurn 254 = .ok (.aload_n 0, 1) := by decide +kernel
theorem dX5_takeTurn_255 : decode cX5_takeTurn 255 = .ok (.getfield 23, 3) := by decide +kernel
theorem dX5_takeTurn_258 : decode cX5_takeTurn 258 = .ok (.bipush 7, 2) := by decide +kernel
theorem dX5_takeTurn_260 : decode cX5_takeTurn 260 = .ok (.iconst 1, 1) := by decide +kernel
theorem dX5_takeTurn_261 : decode cX5_takeTurn 261 = .ok (.iload_n 2, 1) := by decide +kernel
theorem dX5_takeTurn_262 : decode cX5_takeTurn 262 = .ok (.bipush 9, 2) := by decide +kernel
theorem dX5_takeTurn_264 : decode cX5_takeTurn 264 = .ok (.irem, 1) := by decide +kernel
theorem dX5_takeTurn_265 : decode cX5_takeTurn 265 = .ok (.iadd, 1) := by decide +kernel
theorem dX5_takeTurn_266 : decode cX5_takeTurn 266 = .ok (.iconst 0, 1) := by decide +kernel
theorem dX5_takeTurn_267 : decode cX5_takeTurn 267 = .ok (.iconst 0, 1) := by decide +kernel
theorem dX5_takeTurn_268 : decode cX5_takeTurn 268 = .ok (.invokevirtual 225, 3) := by decide +kernel
theorem dX5_takeTurn_271 : decode cX5_takeTurn 271 = .ok (.pop, 1) := by decide +kernel
theorem dX5_takeTurn_272 : decode cX5_takeTurn 272 = .ok (.return_, 1) := by decide +kernel
theorem dX5_demandPlace_0 : decode cX5_demandPlace 0 = .ok (.iload_n 0, 1) := by decide +kernel
theorem dX5_demandPlace_1 : decode cX5_demandPlace 1 = .ok (.ifCond .ne 13, 3) := by decide +kernel
theorem dX5_demandPlace_4 : decode cX5_demandPlace 4 = .ok (.new 233, 3) := by decide +kernel
theorem dX5_demandPlace_7 : decode cX5_demandPlace 7 = .ok (.dup, 1) := by decide +kernel
theorem dX5_demandPlace_8 : decode cX5_demandPlace 8 = .ok (.ldc 235, 2) := by decide +kernel
theorem dX5_demandPlace_10 : decode cX5_demandPlace 10 = .ok (.invokespecial 237, 3) := by decide +kernel
theorem dX5_demandPlace_13 : decode cX5_demandPlace 13 = .ok (.athrow, 1) := by decide +kernel
theorem dX5_demandPlace_14 : decode cX5_demandPlace 14 = .ok (.return_, 1) := by decide +kernel
theorem dX5_demandArgument_0 : decode cX5_demandArgument 0 = .ok (.iload_n 0, 1) := by decide +kernel
theorem dX5_demandArgument_1 : decode cX5_demandArgument 1 = .ok (.ifCond .ne 13, 3) := by decide +kernel
theorem dX5_demandArgument_4 : decode cX5_demandArgument 4 = .ok (.new 240, 3) := by decide +kernel
theorem dX5_demandArgument_7 : decode cX5_demandArgument 7 = .ok (.dup, 1) := by decide +kernel
theorem dX5_demandArgument_8 : decode cX5_demandArgument 8 = .ok (.ldc 242, 2) := by decide +kernel
theorem dX5_demandArgument_10 : decode cX5_demandArgument 10 = .ok (.invokespecial 244, 3) := by decide +kernel
theorem dX5_demandArgument_13 : decode cX5_demandArgument 13 = .ok (.athrow, 1) := by decide +kernel
theorem dX5_demandArgument_14 : decode cX5_demandArgument 14 = .ok (.return_, 1) := by decide +kernel
theorem dX5_demandState_0 : decode cX5_demandState 0 = .ok (.iload_n 0, 1) := by decide +kernel
theorem dX5_demandState_1 : decode cX5_demandState 1 = .ok (.ifCond .ne 13, 3) := by decide +kernel
theorem dX5_demandState_4 : decode cX5_demandState 4 = .ok (.new 245, 3) := by decide +kernel
theorem dX5_demandState_7 : decode cX5_demandState 7 = .ok (.dup, 1) := by decide +kernel
theorem dX5_demandState_8 : decode cX5_demandState 8 = .ok (.ldc 247, 2) := by decide +kernel
theorem dX5_demandState_10 : decode cX5_demandState 10 = .ok (.invokespecial 249, 3) := by decide +kernel
theorem dX5_demandState_13 : decode cX5_demandState 13 = .ok (.athrow, 1) := by decide +kernel
theorem dX5_demandState_14 : decode cX5_demandState 14 = .ok (.return_, 1) := by decide +kernel
theorem dX5_isWithin_0 : decode cX5_isWithin 0 = .ok (.iload_n 0, 1) := by decide +kernel
theorem dX5_isWithin_1 : decode cX5_isWithin 1 = .ok (.iload_n 1, 1) := by decide +kernel
theorem dX5_isWithin_2 : decode cX5_isWithin 2 = .ok (.if_icmp .lt 12, 3) := by decide +kernel
theorem dX5_isWithin_5 : decode cX5_isWithin 5 = .ok (.iload_n 0, 1) := by decide +kernel
theorem dX5_isWithin_6 : decode cX5_isWithin 6 = .ok (.iload_n 2, 1) := by decide +kernel
theorem dX5_isWithin_7 : decode cX5_isWithin 7 = .ok (.if_icmp .gt 7, 3) := by decide +kernel
theorem dX5_isWithin_10 : decode cX5_isWithin 10 = .ok (.iconst 1, 1) := by decide +kernel
theorem dX5_isWithin_11 : decode cX5_isWithin 11 = .ok (.goto 4, 3) := by decide +kernel
theorem dX5_isWithin_14 : decode cX5_isWithin 14 = .ok (.iconst 0, 1) := by decide +kernel
theorem dX5_isWithin_15 : decode cX5_isWithin 15 = .ok (.ireturn, 1) := by decide +kernel
theorem dX5_isStreet_0 : decode cX5_isStreet 0 = .ok (.iload_n 0, 1) := by decide +kernel
theorem dX5_isStreet_1 : decode cX5_isStreet 1 = .ok (.iconst 0, 1) := by decide +kernel
theorem dX5_isStreet_2 : decode cX5_isStreet 2 = .ok (.iconst 3, 1) := by decide +kernel
theorem dX5_isStreet_3 : decode cX5_isStreet 3 = .ok (.invokestatic 41, 3) := by decide +kernel
theorem dX5_isStreet_6 : decode cX5_isStreet 6 = .ok (.ireturn, 1) := by decide +kernel
theorem dX5_isWeekday_0 : decode cX5_isWeekday 0 = .ok (.iload_n 0, 1) := by decide +kernel
theorem dX5_isWeekday_1 : decode cX5_isWeekday 1 = .ok (.iconst 0, 1) := by decide +kernel
theorem dX5_isWeekday_2 : decode cX5_isWeekday 2 = .ok (.bipush 6, 2) := by decide +kernel
theorem dX5_isWeekday_4 : decode cX5_isWeekday 4 = .ok (.invokestatic 41, 3) := by decide +kernel
theorem dX5_isWeekday_7 : decode cX5_isWeekday 7 = .ok (.ireturn, 1) := by decide +kernel
theorem dX5_isSetting_0 : decode cX5_isSetting 0 = .ok (.iload_n 0, 1) := by decide +kernel
theorem dX5_isSetting_1 : decode cX5_isSetting 1 = .ok (.iconst 0, 1) := by decide +kernel
theorem dX5_isSetting_2 : decode cX5_isSetting 2 = .ok (.iconst 4, 1) := by decide +kernel
theorem dX5_isSetting_3 : decode cX5_isSetting 3 = .ok (.invokestatic 41, 3) := by decide +kernel
theorem dX5_isSetting_6 : decode cX5_isSetting 6 = .ok (.ireturn, 1) := by decide +kernel
theorem dX5_isSlot_0 : decode cX5_isSlot 0 = .ok (.iload_n 0, 1) := by decide +kernel
theorem dX5_isSlot_1 : decode cX5_isSlot 1 = .ok (.iconst 0, 1) := by decide +kernel
theorem dX5_isSlot_2 : decode cX5_isSlot 2 = .ok (.iconst 1, 1) := by decide +kernel
theorem dX5_isSlot_3 : decode cX5_isSlot 3 = .ok (.invokestatic 41, 3) := by decide +kernel
theorem dX5_isSlot_6 : decode cX5_isSlot 6 = .ok (.ireturn, 1) := by decide +kernel
theorem dX5_weekdayOf_0 : decode cX5_weekdayOf 0 = .ok (.iload_n 0, 1) := by decide +kernel
theorem dX5_weekdayOf_1 : decode cX5_weekdayOf 1 = .ok (.bipush 7, 2) := by decide +kernel
theorem dX5_weekdayOf_3 : decode cX5_weekdayOf 3 = .ok (.invokestatic 250, 3) := by decide +kernel
theorem dX5_weekdayOf_6 : decode cX5_weekdayOf 6 = .ok (.ireturn, 1) := by decide +kernel
end
section
theorem dX6_init_0 : decode cX6_init 0 = .ok (.aload_n 0, 1) := by decide +kernel
theorem dX6_init_1 : decode cX6_init 1 = .ok (.invokespecial 1, 3) := by decide +kernel
theorem dX6_init_4 : decode cX6_init 4 = .ok (.aload_n 0, 1) := by decide +kernel
theorem dX6_init_5 : decode cX6_init 5 = .ok (.bipush 120, 2) := by decide +kernel
theorem dX6_init_7 : decode cX6_init 7 = .ok (.newarray .int, 2) := by decide +kernel
theorem dX6_init_9 : decode cX6_init 9 = .ok (.putfield 7, 3) := by decide +kernel
theorem dX6_init_12 : decode cX6_init 12 = .ok (.aload_n 0, 1) := by decide +kernel
theorem dX6_init_13 : decode cX6_init 13 = .ok (.sipush 258, 3) := by decide +kernel
theorem dX6_init_16 : decode cX6_init 16 = .ok (.newarray .int, 2) := by decide +kernel
theorem dX6_init_18 : decode cX6_init 18 = .ok (.putfield 13, 3) := by decide +kernel
theorem dX6_init_21 : decode cX6_init 21 = .ok (.aload_n 0, 1) := by decide +kernel
theorem dX6_init_22 : decode cX6_init 22 = .ok (.sipush 258, 3) := by decide +kernel
theorem dX6_init_25 : decode cX6_init 25 = .ok (.newarray .int, 2) := by decide +kernel
theorem dX6_init_27 : decode cX6_init 27 = .ok (.putfield 16, 3) := by decide +kernel
theorem dX6_init_30 : decode cX6_init 30 = .ok (.aload_n 0, 1) := by decide +kernel
theorem dX6_init_31 : decode cX6_init 31 = .ok (.sipush 3612, 3) := by decide +kernel
theorem dX6_init_34 : decode cX6_init 34 = .ok (.newarray .int, 2) := by decide +kernel
theorem dX6_init_36 : decode cX6_init 36 = .ok (.putfield 19, 3) := by decide +kernel
theorem dX6_init_39 : decode cX6_init 39 = .ok (.aload_n 0, 1) := by decide +kernel
theorem dX6_init_40 : decode cX6_init 40 = .ok (.sipush 516, 3) := by decide +kernel
theorem dX6_init_43 : decode cX6_init 43 = .ok (.newarray .int, 2) := by decide +kernel
theorem dX6_init_45 : decode cX6_init 45 = .ok (.putfield 22, 3) := by decide +kernel
theorem dX6_init_48 : decode cX6_init 48 = .ok (.aload_n 0, 1) := by decide +kernel
theorem dX6_init_49 : decode cX6_init 49 = .ok (.iconst 2, 1) := by decide +kernel
theorem dX6_init_50 : decode cX6_init 50 = .ok (.newarray .boolean, 2) := by decide +kernel
theorem dX6_init_52 : decode cX6_init 52 = .ok (.putfield 25, 3) := by decide +kernel
theorem dX6_init_55 : decode cX6_init 55 = .ok (.aload_n 0, 1) := by decide +kernel
theorem dX6_init_56 : decode cX6_init 56 = .ok (.getfield 13, 3) := by decide +kernel
theorem dX6_init_59 : decode cX6_init 59 = .ok (.invokestatic 29, 3) := by decide +kernel
theorem dX6_init_62 : decode cX6_init 62 = .ok (.return_, 1) := by decide +kernel
theorem dX6_thrown_0 : decode cX6_thrown 0 = .ok (.aload_n 0, 1) := by decide +kernel
theorem dX6_thrown_1 : decode cX6_thrown 1 = .ok (.getfield 33, 3) := by decide +kernel
theorem dX6_thrown_4 : decode cX6_thrown 4 = .ok (.ireturn, 1) := by decide +kernel
theorem dX6_refused_0 : decode cX6_refused 0 = .ok (.aload_n 0, 1) := by decide +kernel
theorem dX6_refused_1 : decode cX6_refused 1 = .ok (.iload_n 1, 1) := by decide +kernel
theorem dX6_refused_2 : decode cX6_refused 2 = .ok (.putfield 33, 3) := by decide +kernel
theorem dX6_refused_5 : decode cX6_refused 5 = .ok (.iload_n 1, 1) := by decide +kernel
theorem dX6_refused_6 : decode cX6_refused 6 = .ok (.ifCond .le 7, 3) := by decide +kernel
theorem dX6_refused_9 : decode cX6_refused 9 = .ok (.iconst 1, 1) := by decide +kernel
theorem dX6_refused_10 : decode cX6_refused 10 = .ok (.goto 4, 3) := by decide +kernel
theorem dX6_refused_13 : decode cX6_refused 13 = .ok (.iconst 0, 1) := by decide +kernel
theorem dX6_refused_14 : decode cX6_refused 14 = .ok (.ireturn, 1) := by decide +kernel
theorem dX6_in_0 : decode cX6_in 0 = .ok (.lload_n 0, 1) := by decide +kernel
theorem dX6_in_1 : decode cX6_in 1 = .ok (.lload_n 2, 1) := by decide +kernel
theorem dX6_in_2 : decode cX6_in 2 = .ok (.lcmp, 1) := by decide +kernel
theorem dX6_in_3 : decode cX6_in 3 = .ok (.ifCond .lt 14, 3) := by decide +kernel
theorem dX6_in_6 : decode cX6_in 6 = .ok (.lload_n 0, 1) := by decide +kernel
theorem dX6_in_7 : decode cX6_in 7 = .ok (.lload 4, 2) := by decide +kernel
theorem dX6_in_9 : decode cX6_in 9 = .ok (.lcmp, 1) := by decide +kernel
theorem dX6_in_10 : decode cX6_in 10 = .ok (.ifCond .gt 7, 3) := by decide +kernel
theorem dX6_in_13 : decode cX6_in 13 = .ok (.iconst 1, 1) := by decide +kernel
theorem dX6_in_14 : decode cX6_in 14 = .ok (.goto 4, 3) := by decide +kernel
theorem dX6_in_17 : decode cX6_in 17 = .ok (.iconst 0, 1) := by decide +kernel
theorem dX6_in_18 : decode cX6_in 18 = .ok (.ireturn, 1) := by decide +kernel
theorem dX6_copyState_0 : decode cX6_copyState 0 = .ok (.iconst 0, 1) := by decide +kernel
theorem dX6_copyState_1 : decode cX6_copyState 1 = .ok (.istore 4, 2) := by decide +kernel
theorem dX6_copyState_3 : decode cX6_copyState 3 = .ok (.iload 4, 2) := by decide +kernel
theorem dX6_copyState_5 : decode cX6_copyState 5 = .ok (.sipush 258, 3) := by decide +kernel
theorem dX6_copyState_8 : decode cX6_copyState 8 = .ok (.if_icmp .ge 21, 3) := by decide +kernel
theorem dX6_copyState_11 : decode cX6_copyState 11 = .ok (.aload_n 2, 1) := by decide +kernel
theorem dX6_copyState_12 : decode cX6_copyState 12 = .ok (.iload_n 3, 1) := by decide +kernel
theorem dX6_copyState_13 : decode cX6_copyState 13 = .ok (.iload 4, 2) := by decide +kernel
theorem dX6_copyState_15 : decode cX6_copyState 15 = .ok (.iadd, 1) := by decide +kernel
theorem dX6_copyState_16 : decode cX6_copyState 16 = .ok (.aload_n 0, 1) := by decide +kernel
theorem dX6_copyState_17 : decode cX6_copyState 17 = .ok (.iload_n 1, 1) := by decide +kernel
theorem dX6_copyState_18 : decode cX6_copyState 18 = .ok (.iload 4, 2) := by decide +kernel
theorem dX6_copyState_20 : decode cX6_copyState 20 = .ok (.iadd, 1) := by decide +kernel
theorem dX6_copyState_21 : decode cX6_copyState 21 = .ok (.iaload, 1) := by decide +kernel
theorem dX6_copyState_22 : decode cX6_copyState 22 = .ok (.iastore, 1) := by decide +kernel
theorem dX6_copyState_23 : decode cX6_copyState 23 = .ok (.iinc 4 1, 3) := by decide +kernel
theorem dX6_copyState_26 : decode cX6_copyState 26 = .ok (.goto (-23), 3) := by decide +kernel
theorem dX6_copyState_29 : decode cX6_copyState 29 = .ok (.return_, 1) := by decide +kernel
theorem dX6_clear_0 : decode cX6_clear 0 = .ok (.iconst 0, 1) := by decide +kernel
theorem dX6_clear_1 : decode cX6_clear 1 = .ok (.istore_n 1, 1) := by decide +kernel
theorem dX6_clear_2 : decode cX6_clear 2 = .ok (.iload_n 1, 1) := by decide +kernel
theorem dX6_clear_3 : decode cX6_clear 3 = .ok (.sipush 258, 3) := by decide +kernel
theorem dX6_clear_6 : decode cX6_clear 6 = .ok (.if_icmp .ge 13, 3) := by decide +kernel
theorem dX6_clear_9 : decode cX6_clear 9 = .ok (.aload_n 0, 1) := by decide +kernel
theorem dX6_clear_10 : decode cX6_clear 10 = .ok (.iload_n 1, 1) := by decide +kernel
theorem dX6_clear_11 : decode cX6_clear 11 = .ok (.iconst 0, 1) := by decide +kernel
theorem dX6_clear_12 : decode cX6_clear 12 = .ok (.iastore, 1) := by decide +kernel
theorem dX6_clear_13 : decode cX6_clear 13 = .ok (.iinc 1 1, 3) := by decide +kernel
theorem dX6_clear_16 : decode cX6_clear 16 = .ok (.goto (-14), 3) := by decide +kernel
theorem dX6_clear_19 : decode cX6_clear 19 = .ok (.aload_n 0, 1) := by decide +kernel
theorem dX6_clear_20 : decode cX6_clear 20 = .ok (.bipush 11, 2) := by decide +kernel
theorem dX6_clear_22 : decode cX6_clear 22 = .ok (.bipush 30, 2) := by decide +kernel
theorem dX6_clear_24 : decode cX6_clear 24 = .ok (.iastore, 1) := by decide +kernel
theorem dX6_clear_25 : decode cX6_clear 25 = .ok (.aload_n 0, 1) := by decide +kernel
theorem dX6_clear_26 : decode cX6_clear 26 = .ok (.bipush 12, 2) := by decide +kernel
theorem dX6_clear_28 : decode cX6_clear 28 = .ok (.iconst 1, 1) := by decide +kernel
theorem dX6_clear_29 : decode cX6_clear 29 = .ok (.iastore, 1) := by decide +kernel
theorem dX6_clear_30 : decode cX6_clear 30 = .ok (.aload_n 0, 1) := by decide +kernel
theorem dX6_clear_31 : decode cX6_clear 31 = .ok (.bipush 13, 2) := by decide +kernel
theorem dX6_clear_33 : decode cX6_clear 33 = .ok (.iconst 2, 1) := by decide +kernel
theorem dX6_clear_34 : decode cX6_clear 34 = .ok (.iastore, 1) := by decide +kernel
theorem dX6_clear_35 : decode cX6_clear 35 = .ok (.aload_n 0, 1) := by decide +kernel
theorem dX6_clear_36 : decode cX6_clear 36 = .ok (.bipush 14, 2) := by decide +kernel
theorem dX6_clear_38 : decode cX6_clear 38 = .ok (.bipush 10, 2) := by decide +kernel
theorem dX6_clear_40 : decode cX6_clear 40 = .ok (.iastore, 1) := by decide +kernel
theorem dX6_clear_41 : decode cX6_clear 41 = .ok (.aload_n 0, 1) := by decide +kernel
theorem dX6_clear_42 : decode cX6_clear 42 = .ok (.bipush 15, 2) := by decide +kernel
theorem dX6_clear_44 : decode cX6_clear 44 = .ok (.iconst 3, 1) := by decide +kernel
theorem dX6_clear_45 : decode cX6_clear 45 = .ok (.iastore, 1) := by decide +kernel
theorem dX6_clear_46 : decode cX6_clear 46 = .ok (.iconst 0, 1) := by decide +kernel
theorem dX6_clear_47 : decode cX6_clear 47 = .ok (.istore_n 1, 1) := by decide +kernel
theorem dX6_clear_48 : decode cX6_clear 48 = .ok (.iload_n 1, 1) := by decide +kernel
theorem dX6_clear_49 : decode cX6_clear 49 = .ok (.iconst 4, 1) := by decide +kernel
theorem dX6_clear_50 : decode cX6_clear 50 = .ok (.if_icmp .ge 16, 3) := by decide +kernel
theorem dX6_clear_53 : decode cX6_clear 53 = .ok (.aload_n 0, 1) := by decide +kernel
theorem dX6_clear_54 : decode cX6_clear 54 = .ok (.bipush 16, 2) := by decide +kernel
theorem dX6_clear_56 : decode cX6_clear 56 = .ok (.iload_n 1, 1) := by decide +kernel
theorem dX6_clear_57 : decode cX6_clear 57 = .ok (.iadd, 1) := by decide +kernel
theorem dX6_clear_58 : decode cX6_clear 58 = .ok (.iload_n 1, 1) := by decide +kernel
theorem dX6_clear_59 : decode cX6_clear 59 = .ok (.iastore, 1) := by decide +kernel
theorem dX6_clear_60 : decode cX6_clear 60 = .ok (.iinc 1 1, 3) := by decide +kernel
theorem dX6_clear_63 : decode cX6_clear 63 = .ok (.goto (-15), 3) := by decide +kernel
theorem dX6_clear_66 : decode cX6_clear 66 = .ok (.return_, 1) := by decide +kernel
theorem dX6_of_0 : decode cX6_of 0 = .ok (.aload_n 0, 1) := by decide +kernel
theorem dX6_of_1 : decode cX6_of 1 = .ok (.bipush 48, 2) := by decide +kernel
theorem dX6_of_3 : decode cX6_of 3 = .ok (.bipush 21, 2) := by decide +kernel
theorem dX6_of_5 : decode cX6_of 5 = .ok (.iload_n 1, 1) := by decide +kernel
theorem dX6_of_6 : decode cX6_of 6 = .ok (.imul, 1) := by decide +kernel
theorem dX6_of_7 : decode cX6_of 7 = .ok (.iadd, 1) := by decide +kernel
theorem dX6_of_8 : decode cX6_of 8 = .ok (.iload_n 2, 1) := by decide +kernel
theorem dX6_of_9 : decode cX6_of 9 = .ok (.iadd, 1) := by decide +kernel
theorem dX6_of_10 : decode cX6_of 10 = .ok (.iaload, 1) := by decide +kernel
theorem dX6_of_11 : decode cX6_of 11 = .ok (.ireturn, 1) := by decide +kernel
theorem dX6_add_0 : decode cX6_add 0 = .ok (.aload_n 0, 1) := by decide +kernel
theorem dX6_add_1 : decode cX6_add 1 = .ok (.bipush 48, 2) := by decide +kernel
theorem dX6_add_3 : decode cX6_add 3 = .ok (.bipush 21, 2) := by decide +kernel
theorem dX6_add_5 : decode cX6_add 5 = .ok (.iload_n 1, 1) := by decide +kernel
theorem dX6_add_6 : decode cX6_add 6 = .ok (.imul, 1) := by decide +kernel
theorem dX6_add_7 : decode cX6_add 7 = .ok (.iadd, 1) := by decide +kernel
theorem dX6_add_8 : decode cX6_add 8 = .ok (.iload_n 2, 1) := by decide +kernel
theorem dX6_add_9 : decode cX6_add 9 = .ok (.iadd, 1) := by decide +kernel
theorem dX6_add_10 : decode cX6_add 10 = .ok (.dup2, 1) := by decide +kernel
theorem dX6_add_11 : decode cX6_add 11 = .ok (.iaload, 1) := by decide +kernel
theorem dX6_add_12 : decode cX6_add 12 = .ok (.iload_n 3, 1) := by decide +kernel
theorem dX6_add_13 : decode cX6_add 13 = .ok (.iadd, 1) := by decide +kernel
theorem dX6_add_14 : decode cX6_add 14 = .ok (.iastore, 1) := by decide +kernel
theorem dX6_add_15 : decode cX6_add 15 = .ok (.return_, 1) := by decide +kernel
theorem dX6_isCustomer_0 : decode cX6_isCustomer 0 = .ok (.iload_n 1, 1) := by decide +kernel
theorem dX6_isCustomer_1 : decode cX6_isCustomer 1 = .ok (.i2l, 1) := by decide +kernel
theorem dX6_isCustomer_2 : decode cX6_isCustomer 2 = .ok (.lconst 0, 1) := by decide +kernel
theorem dX6_isCustomer_3 : decode cX6_isCustomer 3 = .ok (.aload_n 0, 1) := by decide +kernel
theorem dX6_isCustomer_4 : decode cX6_isCustomer 4 = .ok (.iconst 0, 1) := by decide +kernel
theorem dX6_isCustomer_5 : decode cX6_isCustomer 5 = .ok (.iaload, 1) := by decide +kernel
theorem dX6_isCustomer_6 : decode cX6_isCustomer 6 = .ok (.iconst 1, 1) := by decide +kernel
theorem dX6_isCustomer_7 : decode cX6_isCustomer 7 = .ok (.isub, 1) := by decide +kernel
theorem dX6_isCustomer_8 : decode cX6_isCustomer 8 = .ok (.i2l, 1) := by decide +kernel
theorem dX6_isCustomer_9 : decode cX6_isCustomer 9 = .ok (.invokestatic 37, 3) := by decide +kernel
theorem dX6_isCustomer_12 : decode cX6_isCustomer 12 = .ok (.ireturn, 1) := by decide +kernel
theorem dX6_isStreet_0 : decode cX6_isStreet 0 = .ok (.iload_n 0, 1) := by decide +kernel
theorem dX6_isStreet_1 : decode cX6_isStreet 1 = .ok (.i2l, 1) := by decide +kernel
theorem dX6_isStreet_2 : decode cX6_isStreet 2 = .ok (.lconst 0, 1) := by decide +kernel
theorem dX6_isStreet_3 : decode cX6_isStreet 3 = .ok (.ldc2_w 41, 3) := by decide +kernel
theorem dX6_isStreet_6 : decode cX6_isStreet 6 = .ok (.invokestatic 37, 3) := by decide +kernel
theorem dX6_isStreet_9 : decode cX6_isStreet 9 = .ok (.ireturn, 1) := by decide +kernel
theorem dX6_isWeekday_0 : decode cX6_isWeekday 0 = .ok (.iload_n 0, 1) := by decide +kernel
theorem dX6_isWeekday_1 : decode cX6_isWeekday 1 = .ok (.i2l, 1) := by decide +kernel
theorem dX6_isWeekday_2 : decode cX6_isWeekday 2 = .ok (.lconst 0, 1) := by decide +kernel
theorem dX6_isWeekday_3 : decode cX6_isWeekday 3 = .ok (.ldc2_w 43, 3) := by decide +kernel
theorem dX6_isWeekday_6 : decode cX6_isWeekday 6 = .ok (.invokestatic 37, 3) := by decide +kernel
theorem dX6_isWeekday_9 : decode cX6_isWeekday 9 = .ok (.ireturn, 1) := by decide +kernel
theorem dX6_isSetting_0 : decode cX6_isSetting 0 = .ok (.iload_n 0, 1) := by decide +kernel
theorem dX6_isSetting_1 : decode cX6_isSetting 1 = .ok (.tableswitch 75 0 4 #[35, 45, 45, 55, 65], 35) := by decide +kernel
theorem dX6_isSetting_36 : decode cX6_isSetting 36 = .ok (.iload_n 1, 1) := by decide +kernel
theorem dX6_isSetting_37 : decode cX6_isSetting 37 = .ok (.i2l, 1) := by decide +kernel
theorem dX6_isSetting_38 : decode cX6_isSetting 38 = .ok (.lconst 0, 1) := by decide +kernel
theorem dX6_isSetting_39 : decode cX6_isSetting 39 = .ok (.ldc2_w 45, 3) := by decide +kernel
theorem dX6_isSetting_42 : decode cX6_isSetting 42 = .ok (.invokestatic 37, 3) := by decide +kernel
theorem dX6_isSetting_45 : decode cX6_isSetting 45 = .ok (.ireturn, 1) := by decide +kernel
theorem dX6_isSetting_46 : decode cX6_isSetting 46 = .ok (.iload_n 1, 1) := by decide +kernel
theorem dX6_isSetting_47 : decode cX6_isSetting 47 = .ok (.i2l, 1) := by decide +kernel
theorem dX6_isSetting_48 : decode cX6_isSetting 48 = .ok (.lconst 0, 1) := by decide +kernel
theorem dX6_isSetting_49 : decode cX6_isSetting 49 = .ok (.ldc2_w 47, 3) := by decide +kernel
theorem dX6_isSetting_52 : decode cX6_isSetting 52 = .ok (.invokestatic 37, 3) := by decide +kernel
theorem dX6_isSetting_55 : decode cX6_isSetting 55 = .ok (.ireturn, 1) := by decide +kernel
theorem dX6_isSetting_56 : decode cX6_isSetting 56 = .ok (.iload_n 1, 1) := by decide +kernel
theorem dX6_isSetting_57 : decode cX6_isSetting 57 = .ok (.i2l, 1) := by decide +kernel
theorem dX6_isSetting_58 : decode cX6_isSetting 58 = .ok (.lconst 0, 1) := by decide +kernel
theorem dX6_isSetting_59 : decode cX6_isSetting 59 = .ok (.ldc2_w 49, 3) := by decide +kernel
theorem dX6_isSetting_62 : decode cX6_isSetting 62 = .ok (.invokestatic 37, 3) := by decide +kernel
theorem dX6_isSetting_65 : decode cX6_isSetting 65 = .ok (.ireturn, 1) := by decide +kernel
theorem dX6_isSetting_66 : decode cX6_isSetting 66 = .ok (.iload_n 1, 1) := by decide +kernel
theorem dX6_isSetting_67 : decode cX6_isSetting 67 = .ok (.i2l, 1) := by decide +kernel
theorem dX6_isSetting_68 : decode cX6_isSetting 68 = .ok (.lconst 1, 1) := by decide +kernel
theorem dX6_isSetting_69 : decode cX6_isSetting 69 = .ok (.ldc2_w 51, 3) := by decide +kernel
theorem dX6_isSetting_72 : decode cX6_isSetting 72 = .ok (.invokestatic 37, 3) := by decide +kernel
theorem dX6_isSetting_75 : decode cX6_isSetting 75 = .ok (.ireturn, 1) := by decide +kernel
theorem dX6_isSetting_76 : decode cX6_isSetting 76 = .ok (.iconst 0, 1) := by decide +kernel
theorem dX6_isSetting_77 : decode cX6_isSetting 77 = .ok (.ireturn, 1) := by decide +kernel
theorem dX6_isAway_0 : decode cX6_isAway 0 = .ok (.iconst 0, 1) := by decide +kernel
theorem dX6_isAway_1 : decode cX6_isAway 1 = .ok (.istore_n 3, 1) := by decide +kernel
theorem dX6_isAway_2 : decode cX6_isAway 2 = .ok (.iconst 0, 1) := by decide +kernel
theorem dX6_isAway_3 : decode cX6_isAway 3 = .ok (.istore 4, 2) := by decide +kernel
theorem dX6_isAway_5 : decode cX6_isAway 5 = .ok (.iload 4, 2) := by decide +kernel
theorem dX6_isAway_7 : decode cX6_isAway 7 = .ok (.aload_n 0, 1) := by decide +kernel
theorem dX6_isAway_8 : decode cX6_isAway 8 = .ok (.iload_n 1, 1) := by decide +kernel
theorem dX6_isAway_9 : decode cX6_isAway 9 = .ok (.bipush 14, 2) := by decide +kernel
theorem dX6_isAway_11 : decode cX6_isAway 11 = .ok (.invokestatic 53, 3) := by decide +kernel
theorem dX6_isAway_14 : decode cX6_isAway 14 = .ok (.if_icmp .ge 55, 3) := by decide +kernel
theorem dX6_isAway_17 : decode cX6_isAway 17 = .ok (.iload_n 3, 1) := by decide +kernel
theorem dX6_isAway_18 : decode cX6_isAway 18 = .ok (.ifCond .ne 39, 3) := by decide +kernel
theorem dX6_isAway_21 : decode cX6_isAway 21 = .ok (.iload_n 2, 1) := by decide +kernel
theorem dX6_isAway_22 : decode cX6_isAway 22 = .ok (.i2l, 1) := by decide +kernel
theorem dX6_isAway_23 : decode cX6_isAway 23 = .ok (.aload_n 0, 1) := by decide +kernel
theorem dX6_isAway_24 : decode cX6_isAway 24 = .ok (.iload_n 1, 1) := by decide +kernel
theorem dX6_isAway_25 : decode cX6_isAway 25 = .ok (.bipush 15, 2) := by decide +kernel
theorem dX6_isAway_27 : decode cX6_isAway 27 = .ok (.iconst 2, 1) := by decide +kernel
theorem dX6_isAway_28 : decode cX6_isAway 28 = .ok (.iload 4, 2) := by decide +kernel
theorem dX6_isAway_30 : decode cX6_isAway 30 = .ok (.imul, 1) := by decide +kernel
theorem dX6_isAway_31 : decode cX6_isAway 31 = .ok (.iadd, 1) := by decide +kernel
theorem dX6_isAway_32 : decode cX6_isAway 32 = .ok (.invokestatic 53, 3) := by decide +kernel
theorem dX6_isAway_35 : decode cX6_isAway 35 = .ok (.i2l, 1) := by decide +kernel
theorem dX6_isAway_36 : decode cX6_isAway 36 = .ok (.aload_n 0, 1) := by decide +kernel
theorem dX6_isAway_37 : decode cX6_isAway 37 = .ok (.iload_n 1, 1) := by decide +kernel
theorem dX6_isAway_38 : decode cX6_isAway 38 = .ok (.bipush 15, 2) := by decide +kernel
theorem dX6_isAway_40 : decode cX6_isAway 40 = .ok (.iconst 2, 1) := by decide +kernel
theorem dX6_isAway_41 : decode cX6_isAway 41 = .ok (.iload 4, 2) := by decide +kernel
theorem dX6_isAway_43 : decode cX6_isAway 43 = .ok (.imul, 1) := by decide +kernel
theorem dX6_isAway_44 : decode cX6_isAway 44 = .ok (.iadd, 1) := by decide +kernel
theorem dX6_isAway_45 : decode cX6_isAway 45 = .ok (.iconst 1, 1) := by decide +kernel
theorem dX6_isAway_46 : decode cX6_isAway 46 = .ok (.iadd, 1) := by decide +kernel
theorem dX6_isAway_47 : decode cX6_isAway 47 = .ok (.invokestatic 53, 3) := by decide +kernel
theorem dX6_isAway_50 : decode cX6_isAway 50 = .ok (.i2l, 1) := by decide +kernel
theorem dX6_isAway_51 : decode cX6_isAway 51 = .ok (.invokestatic 37, 3) := by decide +kernel
theorem dX6_isAway_54 : decode cX6_isAway 54 = .ok (.ifCond .eq 7, 3) := by decide +kernel
theorem dX6_isAway_57 : decode cX6_isAway 57 = .ok (.iconst 1, 1) := by decide +kernel
theorem dX6_isAway_58 : decode cX6_isAway 58 = .ok (.goto 4, 3) := by decide +kernel
theorem dX6_isAway_61 : decode cX6_isAway 61 = .ok (.iconst 0, 1) := by decide +kernel
theorem dX6_isAway_62 : decode cX6_isAway 62 = .ok (.istore_n 3, 1) := by decide +kernel
theorem dX6_isAway_63 : decode cX6_isAway 63 = .ok (.iinc 4 1, 3) := by decide +kernel
theorem dX6_isAway_66 : decode cX6_isAway 66 = .ok (.goto (-61), 3) := by decide +kernel
theorem dX6_isAway_69 : decode cX6_isAway 69 = .ok (.iload_n 3, 1) := by decide +kernel
theorem dX6_isAway_70 : decode cX6_isAway 70 = .ok (.ireturn, 1) := by decide +kernel
theorem dX6_dueOn_0 : decode cX6_dueOn 0 = .ok (.aload_n 0, 1) := by decide +kernel
theorem dX6_dueOn_1 : decode cX6_dueOn 1 = .ok (.iload_n 1, 1) := by decide +kernel
theorem dX6_dueOn_2 : decode cX6_dueOn 2 = .ok (.iload_n 2, 1) := by decide +kernel
theorem dX6_dueOn_3 : decode cX6_dueOn 3 = .ok (.invokestatic 57, 3) := by decide +kernel
theorem dX6_dueOn_6 : decode cX6_dueOn 6 = .ok (.ifCond .eq 7, 3) := by decide +kernel
theorem dX6_dueOn_9 : decode cX6_dueOn 9 = .ok (.iconst 0, 1) := by decide +kernel
theorem dX6_dueOn_10 : decode cX6_dueOn 10 = .ok (.goto 14, 3) := by decide +kernel
theorem dX6_dueOn_13 : decode cX6_dueOn 13 = .ok (.aload_n 0, 1) := by decide +kernel
theorem dX6_dueOn_14 : decode cX6_dueOn 14 = .ok (.iload_n 1, 1) := by decide +kernel
theorem dX6_dueOn_15 : decode cX6_dueOn 15 = .ok (.iconst 1, 1) := by decide +kernel
theorem dX6_dueOn_16 : decode cX6_dueOn 16 = .ok (.iload_n 2, 1) := by decide +kernel
theorem dX6_dueOn_17 : decode cX6_dueOn 17 = .ok (.bipush 7, 2) := by decide +kernel
theorem dX6_dueOn_19 : decode cX6_dueOn 19 = .ok (.irem, 1) := by decide +kernel
theorem dX6_dueOn_20 : decode cX6_dueOn 20 = .ok (.iadd, 1) := by decide +kernel
theorem dX6_dueOn_21 : decode cX6_dueOn 21 = .ok (.invokestatic 53, 3) := by decide +kernel
theorem dX6_dueOn_24 : decode cX6_dueOn 24 = .ok (.ireturn, 1) := by decide +kernel
theorem dX6_allDue_0 : decode cX6_allDue 0 = .ok (.iconst 0, 1) := by decide +kernel
theorem dX6_allDue_1 : decode cX6_allDue 1 = .ok (.istore_n 2, 1) := by decide +kernel
theorem dX6_allDue_2 : decode cX6_allDue 2 = .ok (.iconst 0, 1) := by decide +kernel
theorem dX6_allDue_3 : decode cX6_allDue 3 = .ok (.istore_n 3, 1) := by decide +kernel
theorem dX6_allDue_4 : decode cX6_allDue 4 = .ok (.iload_n 3, 1) := by decide +kernel
theorem dX6_allDue_5 : decode cX6_allDue 5 = .ok (.aload_n 0, 1) := by decide +kernel
theorem dX6_allDue_6 : decode cX6_allDue 6 = .ok (.iconst 0, 1) := by decide +kernel
theorem dX6_allDue_7 : decode cX6_allDue 7 = .ok (.iaload, 1) := by decide +kernel
theorem dX6_allDue_8 : decode cX6_allDue 8 = .ok (.if_icmp .ge 18, 3) := by decide +kernel
theorem dX6_allDue_11 : decode cX6_allDue 11 = .ok (.iload_n 2, 1) := by decide +kernel
theorem dX6_allDue_12 : decode cX6_allDue 12 = .ok (.aload_n 0, 1) := by decide +kernel
theorem dX6_allDue_13 : decode cX6_allDue 13 = .ok (.iload_n 3, 1) := by decide +kernel
theorem dX6_allDue_14 : decode cX6_allDue 14 = .ok (.iload_n 1, 1) := by decide +kernel
theorem dX6_allDue_15 : decode cX6_allDue 15 = .ok (.invokestatic 61, 3) := by decide +kernel
theorem dX6_allDue_18 : decode cX6_allDue 18 = .ok (.iadd, 1) := by decide +kernel
theorem dX6_allDue_19 : decode cX6_allDue 19 = .ok (.istore_n 2, 1) := by decide +kernel
theorem dX6_allDue_20 : decode cX6_allDue 20 = .ok (.iinc 3 1, 3) := by decide +kernel
theorem dX6_allDue_23 : decode cX6_allDue 23 = .ok (.goto (-19), 3) := by decide +kernel
theorem dX6_allDue_26 : decode cX6_allDue 26 = .ok (.iload_n 2, 1) := by decide +kernel
theorem dX6_allDue_27 : decode cX6_allDue 27 = .ok (.ireturn, 1) := by decide +kernel
theorem dX6_isOpen_0 : decode cX6_isOpen 0 = .ok (.aload_n 0, 1) := by decide +kernel
theorem dX6_isOpen_1 : decode cX6_isOpen 1 = .ok (.bipush 20, 2) := by decide +kernel
theorem dX6_isOpen_3 : decode cX6_isOpen 3 = .ok (.bipush 7, 2) := by decide +kernel
theorem dX6_isOpen_5 : decode cX6_isOpen 5 = .ok (.aload_n 0, 1) := by decide +kernel
theorem dX6_isOpen_6 : decode cX6_isOpen 6 = .ok (.iload_n 1, 1) := by decide +kernel
theorem dX6_isOpen_7 : decode cX6_isOpen 7 = .ok (.iconst 0, 1) := by decide +kernel
theorem dX6_isOpen_8 : decode cX6_isOpen 8 = .ok (.invokestatic 53, 3) := by decide +kernel
theorem dX6_isOpen_11 : decode cX6_isOpen 11 = .ok (.imul, 1) := by decide +kernel
theorem dX6_isOpen_12 : decode cX6_isOpen 12 = .ok (.iadd, 1) := by decide +kernel
theorem dX6_isOpen_13 : decode cX6_isOpen 13 = .ok (.iload_n 2, 1) := by decide +kernel
theorem dX6_isOpen_14 : decode cX6_isOpen 14 = .ok (.bipush 7, 2) := by decide +kernel
theorem dX6_isOpen_16 : decode cX6_isOpen 16 = .ok (.irem, 1) := by decide +kernel
theorem dX6_isOpen_17 : decode cX6_isOpen 17 = .ok (.iadd, 1) := by decide +kernel
theorem dX6_isOpen_18 : decode cX6_isOpen 18 = .ok (.iaload, 1) := by decide +kernel
theorem dX6_isOpen_19 : decode cX6_isOpen 19 = .ok (.ifCond .ne 7, 3) := by decide +kernel
theorem dX6_isOpen_22 : decode cX6_isOpen 22 = .ok (.iconst 1, 1) := by decide +kernel
theorem dX6_isOpen_23 : decode cX6_isOpen 23 = .ok (.goto 4, 3) := by decide +kernel
theorem dX6_isOpen_26 : decode cX6_isOpen 26 = .ok (.iconst 0, 1) := by decide +kernel
theorem dX6_isOpen_27 : decode cX6_isOpen 27 = .ok (.ireturn, 1) := by decide +kernel
theorem dX6_credits_0 : decode cX6_credits 0 = .ok (.iconst 0, 1) := by decide +kernel
theorem dX6_credits_1 : decode cX6_credits 1 = .ok (.istore_n 1, 1) := by decide +kernel
theorem dX6_credits_2 : decode cX6_credits 2 = .ok (.iconst 0, 1) := by decide +kernel
theorem dX6_credits_3 : decode cX6_credits 3 = .ok (.istore_n 2, 1) := by decide +kernel
theorem dX6_credits_4 : decode cX6_credits 4 = .ok (.iload_n 2, 1) := by decide +kernel
theorem dX6_credits_5 : decode cX6_credits 5 = .ok (.aload_n 0, 1) := by decide +kernel
theorem dX6_credits_6 : decode cX6_credits 6 = .ok (.iconst 0, 1) := by decide +kernel
theorem dX6_credits_7 : decode cX6_credits 7 = .ok (.iaload, 1) := by decide +kernel
theorem dX6_credits_8 : decode cX6_credits 8 = .ok (.if_icmp .ge 19, 3) := by decide +kernel
theorem dX6_credits_11 : decode cX6_credits 11 = .ok (.iload_n 1, 1) := by decide +kernel
theorem dX6_credits_12 : decode cX6_credits 12 = .ok (.aload_n 0, 1) := by decide +kernel
theorem dX6_credits_13 : decode cX6_credits 13 = .ok (.iload_n 2, 1) := by decide +kernel
theorem dX6_credits_14 : decode cX6_credits 14 = .ok (.bipush 8, 2) := by decide +kernel
theorem dX6_credits_16 : decode cX6_credits 16 = .ok (.invokestatic 53, 3) := by decide +kernel
theorem dX6_credits_19 : decode cX6_credits 19 = .ok (.iadd, 1) := by decide +kernel
theorem dX6_credits_20 : decode cX6_credits 20 = .ok (.istore_n 1, 1) := by decide +kernel
theorem dX6_credits_21 : decode cX6_credits 21 = .ok (.iinc 2 1, 3) := by decide +kernel
theorem dX6_credits_24 : decode cX6_credits 24 = .ok (.goto (-20), 3) := by decide +kernel
theorem dX6_credits_27 : decode cX6_credits 27 = .ok (.iload_n 1, 1) := by decide +kernel
theorem dX6_credits_28 : decode cX6_credits 28 = .ok (.ireturn, 1) := by decide +kernel
theorem dX6_baked_0 : decode cX6_baked 0 = .ok (.aload_n 0, 1) := by decide +kernel
theorem dX6_baked_1 : decode cX6_baked 1 = .ok (.iload_n 1, 1) := by decide +kernel
theorem dX6_baked_2 : decode cX6_baked 2 = .ok (.invokestatic 64, 3) := by decide +kernel
theorem dX6_baked_5 : decode cX6_baked 5 = .ok (.aload_n 0, 1) := by decide +kernel
theorem dX6_baked_6 : decode cX6_baked 6 = .ok (.bipush 12, 2) := by decide +kernel
theorem dX6_baked_8 : decode cX6_baked 8 = .ok (.iaload, 1) := by decide +kernel
theorem dX6_baked_9 : decode cX6_baked 9 = .ok (.iadd, 1) := by decide +kernel
theorem dX6_baked_10 : decode cX6_baked 10 = .ok (.istore_n 2, 1) := by decide +kernel
theorem dX6_baked_11 : decode cX6_baked 11 = .ok (.iload_n 2, 1) := by decide +kernel
theorem dX6_baked_12 : decode cX6_baked 12 = .ok (.aload_n 0, 1) := by decide +kernel
theorem dX6_baked_13 : decode cX6_baked 13 = .ok (.bipush 11, 2) := by decide +kernel
theorem dX6_baked_15 : decode cX6_baked 15 = .ok (.iaload, 1) := by decide +kernel
theorem dX6_baked_16 : decode cX6_baked 16 = .ok (.if_icmp .ge 7, 3) := by decide +kernel
theorem dX6_baked_19 : decode cX6_baked 19 = .ok (.iload_n 2, 1) := by decide +kernel
theorem dX6_baked_20 : decode cX6_baked 20 = .ok (.goto 7, 3) := by decide +kernel
theorem dX6_baked_23 : decode cX6_baked 23 = .ok (.aload_n 0, 1) := by decide +kernel
theorem dX6_baked_24 : decode cX6_baked 24 = .ok (.bipush 11, 2) := by decide +kernel
theorem dX6_baked_26 : decode cX6_baked 26 = .ok (.iaload, 1) := by decide +kernel
theorem dX6_baked_27 : decode cX6_baked 27 = .ok (.ireturn, 1) := by decide +kernel
theorem dX6_placeOf_0 : decode cX6_placeOf 0 = .ok (.iconst 0, 1) := by decide +kernel
theorem dX6_placeOf_1 : decode cX6_placeOf 1 = .ok (.istore_n 2, 1) := by decide +kernel
theorem dX6_placeOf_2 : decode cX6_placeOf 2 = .ok (.aload_n 0, 1) := by decide +kernel
theorem dX6_placeOf_3 : decode cX6_placeOf 3 = .ok (.bipush 16, 2) := by decide +kernel
theorem dX6_placeOf_5 : decode cX6_placeOf 5 = .ok (.iload_n 2, 1) := by decide +kernel
theorem dX6_placeOf_6 : decode cX6_placeOf 6 = .ok (.iadd, 1) := by decide +kernel
theorem dX6_placeOf_7 : decode cX6_placeOf 7 = .ok (.iaload, 1) := by decide +kernel
theorem dX6_placeOf_8 : decode cX6_placeOf 8 = .ok (.iload_n 1, 1) := by decide +kernel
theorem dX6_placeOf_9 : decode cX6_placeOf 9 = .ok (.if_icmp .eq 9, 3) := by decide +kernel
theorem dX6_placeOf_12 : decode cX6_placeOf 12 = .ok (.iinc 2 1, 3) := by decide +kernel
theorem dX6_placeOf_15 : decode cX6_placeOf 15 = .ok (.goto (-13), 3) := by decide +kernel
theorem dX6_placeOf_18 : decode cX6_placeOf 18 = .ok (.iload_n 2, 1) := by decide +kernel
theorem dX6_placeOf_19 : decode cX6_placeOf 19 = .ok (.ireturn, 1) := by decide +kernel
theorem dX6_inRound_0 : decode cX6_inRound 0 = .ok (.iload_n 1, 1) := by decide +kernel
theorem dX6_inRound_1 : decode cX6_inRound 1 = .ok (.istore_n 2, 1) := by decide +kernel
theorem dX6_inRound_2 : decode cX6_inRound 2 = .ok (.iconst 0, 1) := by decide +kernel
theorem dX6_inRound_3 : decode cX6_inRound 3 = .ok (.istore_n 3, 1) := by decide +kernel
theorem dX6_inRound_4 : decode cX6_inRound 4 = .ok (.iload_n 3, 1) := by decide +kernel
theorem dX6_inRound_5 : decode cX6_inRound 5 = .ok (.iconst 4, 1) := by decide +kernel
theorem dX6_inRound_6 : decode cX6_inRound 6 = .ok (.if_icmp .ge 52, 3) := by decide +kernel
theorem dX6_inRound_9 : decode cX6_inRound 9 = .ok (.iconst 0, 1) := by decide +kernel
theorem dX6_inRound_10 : decode cX6_inRound 10 = .ok (.istore 4, 2) := by decide +kernel
theorem dX6_inRound_12 : decode cX6_inRound 12 = .ok (.iload 4, 2) := by decide +kernel
theorem dX6_inRound_14 : decode cX6_inRound 14 = .ok (.aload_n 0, 1) := by decide +kernel
theorem dX6_inRound_15 : decode cX6_inRound 15 = .ok (.iconst 0, 1) := by decide +kernel
theorem dX6_inRound_16 : decode cX6_inRound 16 = .ok (.iaload, 1) := by decide +kernel
theorem dX6_inRound_17 : decode cX6_inRound 17 = .ok (.if_icmp .ge 35, 3) := by decide +kernel
theorem dX6_inRound_20 : decode cX6_inRound 20 = .ok (.aload_n 0, 1) := by decide +kernel
theorem dX6_inRound_21 : decode cX6_inRound 21 = .ok (.iload 4, 2) := by decide +kernel
theorem dX6_inRound_23 : decode cX6_inRound 23 = .ok (.iconst 0, 1) := by decide +kernel
theorem dX6_inRound_24 : decode cX6_inRound 24 = .ok (.invokestatic 53, 3) := by decide +kernel
theorem dX6_inRound_27 : decode cX6_inRound 27 = .ok (.aload_n 0, 1) := by decide +kernel
theorem dX6_inRound_28 : decode cX6_inRound 28 = .ok (.bipush 16, 2) := by decide +kernel
theorem dX6_inRound_30 : decode cX6_inRound 30 = .ok (.iload_n 3, 1) := by decide +kernel
theorem dX6_inRound_31 : decode cX6_inRound 31 = .ok (.iadd, 1) := by decide +kernel
theorem dX6_inRound_32 : decode cX6_inRound 32 = .ok (.iaload, 1) := by decide +kernel
theorem dX6_inRound_33 : decode cX6_inRound 33 = .ok (.if_icmp .ne 13, 3) := by decide +kernel
theorem dX6_inRound_36 : decode cX6_inRound 36 = .ok (.iload_n 2, 1) := by decide +kernel
theorem dX6_inRound_37 : decode cX6_inRound 37 = .ok (.ifCond .ne 6, 3) := by decide +kernel
theorem dX6_inRound_40 : decode cX6_inRound 40 = .ok (.iload 4, 2) := by decide +kernel
theorem dX6_inRound_42 : decode cX6_inRound 42 = .ok (.ireturn, 1) := by decide +kernel
theorem dX6_inRound_43 : decode cX6_inRound 43 = .ok (.iinc 2 (-1), 3) := by decide +kernel
theorem dX6_inRound_46 : decode cX6_inRound 46 = .ok (.iinc 4 1, 3) := by decide +kernel
theorem dX6_inRound_49 : decode cX6_inRound 49 = .ok (.goto (-37), 3) := by decide +kernel
theorem dX6_inRound_52 : decode cX6_inRound 52 = .ok (.iinc 3 1, 3) := by decide +kernel
theorem dX6_inRound_55 : decode cX6_inRound 55 = .ok (.goto (-51), 3) := by decide +kernel
theorem dX6_inRound_58 : decode cX6_inRound 58 = .ok (.iconst (-1), 1) := by decide +kernel
theorem dX6_inRound_59 : decode cX6_inRound 59 = .ok (.ireturn, 1) := by decide +kernel
theorem dX6_giveDue_0 : decode cX6_giveDue 0 = .ok (.aload_n 0, 1) := by decide +kernel
theorem dX6_giveDue_1 : decode cX6_giveDue 1 = .ok (.iload_n 1, 1) := by decide +kernel
theorem dX6_giveDue_2 : decode cX6_giveDue 2 = .ok (.iload_n 2, 1) := by decide +kernel
theorem dX6_giveDue_3 : decode cX6_giveDue 3 = .ok (.invokestatic 61, 3) := by decide +kernel
theorem dX6_giveDue_6 : decode cX6_giveDue 6 = .ok (.istore 4, 2) := by decide +kernel
theorem dX6_giveDue_8 : decode cX6_giveDue 8 = .ok (.aload_n 0, 1) := by decide +kernel
theorem dX6_giveDue_9 : decode cX6_giveDue 9 = .ok (.iload_n 1, 1) := by decide +kernel
theorem dX6_giveDue_10 : decode cX6_giveDue 10 = .ok (.iload_n 2, 1) := by decide +kernel
theorem dX6_giveDue_11 : decode cX6_giveDue 11 = .ok (.invokestatic 68, 3) := by decide +kernel
theorem dX6_giveDue_14 : decode cX6_giveDue 14 = .ok (.ifCond .ne 7, 3) := by decide +kernel
theorem dX6_giveDue_17 : decode cX6_giveDue 17 = .ok (.iconst 0, 1) := by decide +kernel
theorem dX6_giveDue_18 : decode cX6_giveDue 18 = .ok (.goto 15, 3) := by decide +kernel
theorem dX6_giveDue_21 : decode cX6_giveDue 21 = .ok (.iload 4, 2) := by decide +kernel
theorem dX6_giveDue_23 : decode cX6_giveDue 23 = .ok (.iload_n 3, 1) := by decide +kernel
theorem dX6_giveDue_24 : decode cX6_giveDue 24 = .ok (.if_icmp .ge 8, 3) := by decide +kernel
theorem dX6_giveDue_27 : decode cX6_giveDue 27 = .ok (.iload 4, 2) := by decide +kernel
theorem dX6_giveDue_29 : decode cX6_giveDue 29 = .ok (.goto 4, 3) := by decide +kernel
theorem dX6_giveDue_32 : decode cX6_giveDue 32 = .ok (.iload_n 3, 1) := by decide +kernel
theorem dX6_giveDue_33 : decode cX6_giveDue 33 = .ok (.istore 5, 2) := by decide +kernel
theorem dX6_giveDue_35 : decode cX6_giveDue 35 = .ok (.aload_n 0, 1) := by decide +kernel
theorem dX6_giveDue_36 : decode cX6_giveDue 36 = .ok (.bipush 7, 2) := by decide +kernel
theorem dX6_giveDue_38 : decode cX6_giveDue 38 = .ok (.dup2, 1) := by decide +kernel
theorem dX6_giveDue_39 : decode cX6_giveDue 39 = .ok (.iaload, 1) := by decide +kernel
theorem dX6_giveDue_40 : decode cX6_giveDue 40 = .ok (.iload 4, 2) := by decide +kernel
theorem dX6_giveDue_42 : decode cX6_giveDue 42 = .ok (.aload_n 0, 1) := by decide +kernel
theorem dX6_giveDue_43 : decode cX6_giveDue 43 = .ok (.bipush 15, 2) := by decide +kernel
theorem dX6_giveDue_45 : decode cX6_giveDue 45 = .ok (.iaload, 1) := by decide +kernel
theorem dX6_giveDue_46 : decode cX6_giveDue 46 = .ok (.imul, 1) := by decide +kernel
theorem dX6_giveDue_47 : decode cX6_giveDue 47 = .ok (.iadd, 1) := by decide +kernel
theorem dX6_giveDue_48 : decode cX6_giveDue 48 = .ok (.iastore, 1) := by decide +kernel
theorem dX6_giveDue_49 : decode cX6_giveDue 49 = .ok (.aload_n 0, 1) := by decide +kernel
theorem dX6_giveDue_50 : decode cX6_giveDue 50 = .ok (.iconst 3, 1) := by decide +kernel
theorem dX6_giveDue_51 : decode cX6_giveDue 51 = .ok (.dup2, 1) := by decide +kernel
theorem dX6_giveDue_52 : decode cX6_giveDue 52 = .ok (.iaload, 1) := by decide +kernel
theorem dX6_giveDue_53 : decode cX6_giveDue 53 = .ok (.iload 5, 2) := by decide +kernel
theorem dX6_giveDue_55 : decode cX6_giveDue 55 = .ok (.iadd, 1) := by decide +kernel
theorem dX6_giveDue_56 : decode cX6_giveDue 56 = .ok (.iastore, 1) := by decide +kernel
theorem dX6_giveDue_57 : decode cX6_giveDue 57 = .ok (.aload_n 0, 1) := by decide +kernel
theorem dX6_giveDue_58 : decode cX6_giveDue 58 = .ok (.iload_n 1, 1) := by decide +kernel
theorem dX6_giveDue_59 : decode cX6_giveDue 59 = .ok (.bipush 9, 2) := by decide +kernel
theorem dX6_giveDue_61 : decode cX6_giveDue 61 = .ok (.iload 5, 2) := by decide +kernel
theorem dX6_giveDue_63 : decode cX6_giveDue 63 = .ok (.invokestatic 71, 3) := by decide +kernel
theorem dX6_giveDue_66 : decode cX6_giveDue 66 = .ok (.aload_n 0, 1) := by decide +kernel
theorem dX6_giveDue_67 : decode cX6_giveDue 67 = .ok (.iload_n 1, 1) := by decide +kernel
theorem dX6_giveDue_68 : decode cX6_giveDue 68 = .ok (.bipush 8, 2) := by decide +kernel
theorem dX6_giveDue_70 : decode cX6_giveDue 70 = .ok (.iload 4, 2) := by decide +kernel
theorem dX6_giveDue_72 : decode cX6_giveDue 72 = .ok (.iload 5, 2) := by decide +kernel
theorem dX6_giveDue_74 : decode cX6_giveDue 74 = .ok (.isub, 1) := by decide +kernel
theorem dX6_giveDue_75 : decode cX6_giveDue 75 = .ok (.invokestatic 71, 3) := by decide +kernel
theorem dX6_giveDue_78 : decode cX6_giveDue 78 = .ok (.iload 4, 2) := by decide +kernel
theorem dX6_giveDue_80 : decode cX6_giveDue 80 = .ok (.ifCond .le 12, 3) := by decide +kernel
theorem dX6_giveDue_83 : decode cX6_giveDue 83 = .ok (.iload 5, 2) := by decide +kernel
theorem dX6_giveDue_85 : decode cX6_giveDue 85 = .ok (.ifCond .ne 7, 3) := by decide +kernel
theorem dX6_giveDue_88 : decode cX6_giveDue 88 = .ok (.iconst 1, 1) := by decide +kernel
theorem dX6_giveDue_89 : decode cX6_giveDue 89 = .ok (.goto 4, 3) := by decide +kernel
theorem dX6_giveDue_92 : decode cX6_giveDue 92 = .ok (.iconst 0, 1) := by decide +kernel
theorem dX6_giveDue_93 : decode cX6_giveDue 93 = .ok (.istore 6, 2) := by decide +kernel
theorem dX6_giveDue_95 : decode cX6_giveDue 95 = .ok (.iload 5, 2) := by decide +kernel
theorem dX6_giveDue_97 : decode cX6_giveDue 97 = .ok (.ifCond .le 14, 3) := by decide +kernel
theorem dX6_giveDue_100 : decode cX6_giveDue 100 = .ok (.iload 5, 2) := by decide +kernel
theorem dX6_giveDue_102 : decode cX6_giveDue 102 = .ok (.iload 4, 2) := by decide +kernel
theorem dX6_giveDue_104 : decode cX6_giveDue 104 = .ok (.if_icmp .ge 7, 3) := by decide +kernel
theorem dX6_giveDue_107 : decode cX6_giveDue 107 = .ok (.iconst 1, 1) := by decide +kernel
theorem dX6_giveDue_108 : decode cX6_giveDue 108 = .ok (.goto 4, 3) := by decide +kernel
theorem dX6_giveDue_111 : decode cX6_giveDue 111 = .ok (.iconst 0, 1) := by decide +kernel
theorem dX6_giveDue_112 : decode cX6_giveDue 112 = .ok (.istore 7, 2) := by decide +kernel
theorem dX6_giveDue_114 : decode cX6_giveDue 114 = .ok (.aload_n 0, 1) := by decide +kernel
theorem dX6_giveDue_115 : decode cX6_giveDue 115 = .ok (.bipush 9, 2) := by decide +kernel
theorem dX6_giveDue_117 : decode cX6_giveDue 117 = .ok (.dup2, 1) := by decide +kernel
theorem dX6_giveDue_118 : decode cX6_giveDue 118 = .ok (.iaload, 1) := by decide +kernel
theorem dX6_giveDue_119 : decode cX6_giveDue 119 = .ok (.iload 6, 2) := by decide +kernel
theorem dX6_giveDue_121 : decode cX6_giveDue 121 = .ok (.iadd, 1) := by decide +kernel
theorem dX6_giveDue_122 : decode cX6_giveDue 122 = .ok (.iastore, 1) := by decide +kernel
theorem dX6_giveDue_123 : decode cX6_giveDue 123 = .ok (.aload_n 0, 1) := by decide +kernel
theorem dX6_giveDue_124 : decode cX6_giveDue 124 = .ok (.bipush 10, 2) := by decide +kernel
theorem dX6_giveDue_126 : decode cX6_giveDue 126 = .ok (.dup2, 1) := by decide +kernel
theorem dX6_giveDue_127 : decode cX6_giveDue 127 = .ok (.iaload, 1) := by decide +kernel
theorem dX6_giveDue_128 : decode cX6_giveDue 128 = .ok (.iload 7, 2) := by decide +kernel
theorem dX6_giveDue_130 : decode cX6_giveDue 130 = .ok (.iadd, 1) := by decide +kernel
theorem dX6_giveDue_131 : decode cX6_giveDue 131 = .ok (.iastore, 1) := by decide +kernel
theorem dX6_giveDue_132 : decode cX6_giveDue 132 = .ok (.aload_n 0, 1) := by decide +kernel
theorem dX6_giveDue_133 : decode cX6_giveDue 133 = .ok (.iload_n 1, 1) := by decide +kernel
theorem dX6_giveDue_134 : decode cX6_giveDue 134 = .ok (.bipush 12, 2) := by decide +kernel
theorem dX6_giveDue_136 : decode cX6_giveDue 136 = .ok (.iload 6, 2) := by decide +kernel
theorem dX6_giveDue_138 : decode cX6_giveDue 138 = .ok (.invokestatic 71, 3) := by decide +kernel
theorem dX6_giveDue_141 : decode cX6_giveDue 141 = .ok (.aload_n 0, 1) := by decide +kernel
theorem dX6_giveDue_142 : decode cX6_giveDue 142 = .ok (.iload_n 1, 1) := by decide +kernel
theorem dX6_giveDue_143 : decode cX6_giveDue 143 = .ok (.bipush 13, 2) := by decide +kernel
theorem dX6_giveDue_145 : decode cX6_giveDue 145 = .ok (.iload 7, 2) := by decide +kernel
theorem dX6_giveDue_147 : decode cX6_giveDue 147 = .ok (.invokestatic 71, 3) := by decide +kernel
theorem dX6_giveDue_150 : decode cX6_giveDue 150 = .ok (.iload_n 3, 1) := by decide +kernel
theorem dX6_giveDue_151 : decode cX6_giveDue 151 = .ok (.iload 5, 2) := by decide +kernel
theorem dX6_giveDue_153 : decode cX6_giveDue 153 = .ok (.isub, 1) := by decide +kernel
theorem dX6_giveDue_154 : decode cX6_giveDue 154 = .ok (.ireturn, 1) := by decide +kernel
theorem dX6_giveGood_0 : decode cX6_giveGood 0 = .ok (.aload_n 0, 1) := by decide +kernel
theorem dX6_giveGood_1 : decode cX6_giveGood 1 = .ok (.iload_n 1, 1) := by decide +kernel
theorem dX6_giveGood_2 : decode cX6_giveGood 2 = .ok (.iload_n 2, 1) := by decide +kernel
theorem dX6_giveGood_3 : decode cX6_giveGood 3 = .ok (.invokestatic 68, 3) := by decide +kernel
theorem dX6_giveGood_6 : decode cX6_giveGood 6 = .ok (.ifCond .eq 16, 3) := by decide +kernel
theorem dX6_giveGood_9 : decode cX6_giveGood 9 = .ok (.aload_n 0, 1) := by decide +kernel
theorem dX6_giveGood_10 : decode cX6_giveGood 10 = .ok (.iload_n 1, 1) := by decide +kernel
theorem dX6_giveGood_11 : decode cX6_giveGood 11 = .ok (.iload_n 2, 1) := by decide +kernel
theorem dX6_giveGood_12 : decode cX6_giveGood 12 = .ok (.invokestatic 57, 3) := by decide +kernel
theorem dX6_giveGood_15 : decode cX6_giveGood 15 = .ok (.ifCond .ne 7, 3) := by decide +kernel
theorem dX6_giveGood_18 : decode cX6_giveGood 18 = .ok (.iconst 1, 1) := by decide +kernel
theorem dX6_giveGood_19 : decode cX6_giveGood 19 = .ok (.goto 4, 3) := by decide +kernel
theorem dX6_giveGood_22 : decode cX6_giveGood 22 = .ok (.iconst 0, 1) := by decide +kernel
theorem dX6_giveGood_23 : decode cX6_giveGood 23 = .ok (.istore 4, 2) := by decide +kernel
theorem dX6_giveGood_25 : decode cX6_giveGood 25 = .ok (.aload_n 0, 1) := by decide +kernel
theorem dX6_giveGood_26 : decode cX6_giveGood 26 = .ok (.iload_n 1, 1) := by decide +kernel
theorem dX6_giveGood_27 : decode cX6_giveGood 27 = .ok (.bipush 8, 2) := by decide +kernel
theorem dX6_giveGood_29 : decode cX6_giveGood 29 = .ok (.invokestatic 53, 3) := by decide +kernel
theorem dX6_giveGood_32 : decode cX6_giveGood 32 = .ok (.aload_n 0, 1) := by decide +kernel
theorem dX6_giveGood_33 : decode cX6_giveGood 33 = .ok (.bipush 13, 2) := by decide +kernel
theorem dX6_giveGood_35 : decode cX6_giveGood 35 = .ok (.iaload, 1) := by decide +kernel
theorem dX6_giveGood_36 : decode cX6_giveGood 36 = .ok (.if_icmp .ge 13, 3) := by decide +kernel
theorem dX6_giveGood_39 : decode cX6_giveGood 39 = .ok (.aload_n 0, 1) := by decide +kernel
theorem dX6_giveGood_40 : decode cX6_giveGood 40 = .ok (.iload_n 1, 1) := by decide +kernel
theorem dX6_giveGood_41 : decode cX6_giveGood 41 = .ok (.bipush 8, 2) := by decide +kernel
theorem dX6_giveGood_43 : decode cX6_giveGood 43 = .ok (.invokestatic 53, 3) := by decide +kernel
theorem dX6_giveGood_46 : decode cX6_giveGood 46 = .ok (.goto 7, 3) := by decide +kernel
theorem dX6_giveGood_49 : decode cX6_giveGood 49 = .ok (.aload_n 0, 1) := by decide +kernel
theorem dX6_giveGood_50 : decode cX6_giveGood 50 = .ok (.bipush 13, 2) := by decide +kernel
theorem dX6_giveGood_52 : decode cX6_giveGood 52 = .ok (.iaload, 1) := by decide +kernel
theorem dX6_giveGood_53 : decode cX6_giveGood 53 = .ok (.istore 5, 2) := by decide +kernel
theorem dX6_giveGood_55 : decode cX6_giveGood 55 = .ok (.iload 4, 2) := by decide +kernel
theorem dX6_giveGood_57 : decode cX6_giveGood 57 = .ok (.ifCond .ne 7, 3) := by decide +kernel
theorem dX6_giveGood_60 : decode cX6_giveGood 60 = .ok (.iconst 0, 1) := by decide +kernel
theorem dX6_giveGood_61 : decode cX6_giveGood 61 = .ok (.goto 15, 3) := by decide +kernel
theorem dX6_giveGood_64 : decode cX6_giveGood 64 = .ok (.iload 5, 2) := by decide +kernel
theorem dX6_giveGood_66 : decode cX6_giveGood 66 = .ok (.iload_n 3, 1) := by decide +kernel
theorem dX6_giveGood_67 : decode cX6_giveGood 67 = .ok (.if_icmp .ge 8, 3) := by decide +kernel
theorem dX6_giveGood_70 : decode cX6_giveGood 70 = .ok (.iload 5, 2) := by decide +kernel
theorem dX6_giveGood_72 : decode cX6_giveGood 72 = .ok (.goto 4, 3) := by decide +kernel
theorem dX6_giveGood_75 : decode cX6_giveGood 75 = .ok (.iload_n 3, 1) := by decide +kernel
theorem dX6_giveGood_76 : decode cX6_giveGood 76 = .ok (.istore 6, 2) := by decide +kernel
theorem dX6_giveGood_78 : decode cX6_giveGood 78 = .ok (.aload_n 0, 1) := by decide +kernel
theorem dX6_giveGood_79 : decode cX6_giveGood 79 = .ok (.iconst 4, 1) := by decide +kernel
theorem dX6_giveGood_80 : decode cX6_giveGood 80 = .ok (.dup2, 1) := by decide +kernel
theorem dX6_giveGood_81 : decode cX6_giveGood 81 = .ok (.iaload, 1) := by decide +kernel
theorem dX6_giveGood_82 : decode cX6_giveGood 82 = .ok (.iload 6, 2) := by decide +kernel
theorem dX6_giveGood_84 : decode cX6_giveGood 84 = .ok (.iadd, 1) := by decide +kernel
theorem dX6_giveGood_85 : decode cX6_giveGood 85 = .ok (.iastore, 1) := by decide +kernel
theorem dX6_giveGood_86 : decode cX6_giveGood 86 = .ok (.aload_n 0, 1) := by decide +kernel
theorem dX6_giveGood_87 : decode cX6_giveGood 87 = .ok (.iload_n 1, 1) := by decide +kernel
theorem dX6_giveGood_88 : decode cX6_giveGood 88 = .ok (.bipush 10, 2) := by decide +kernel
theorem dX6_giveGood_90 : decode cX6_giveGood 90 = .ok (.iload 6, 2) := by decide +kernel
theorem dX6_giveGood_92 : decode cX6_giveGood 92 = .ok (.invokestatic 71, 3) := by decide +kernel
theorem dX6_giveGood_95 : decode cX6_giveGood 95 = .ok (.aload_n 0, 1) := by decide +kernel
theorem dX6_giveGood_96 : decode cX6_giveGood 96 = .ok (.iload_n 1, 1) := by decide +kernel
theorem dX6_giveGood_97 : decode cX6_giveGood 97 = .ok (.bipush 8, 2) := by decide +kernel
theorem dX6_giveGood_99 : decode cX6_giveGood 99 = .ok (.iload 6, 2) := by decide +kernel
theorem dX6_giveGood_101 : decode cX6_giveGood 101 = .ok (.ineg, 1) := by decide +kernel
theorem dX6_giveGood_102 : decode cX6_giveGood 102 = .ok (.invokestatic 71, 3) := by decide +kernel
theorem dX6_giveGood_105 : decode cX6_giveGood 105 = .ok (.iload_n 3, 1) := by decide +kernel
theorem dX6_giveGood_106 : decode cX6_giveGood 106 = .ok (.iload 6, 2) := by decide +kernel
theorem dX6_giveGood_108 : decode cX6_giveGood 108 = .ok (.isub, 1) := by decide +kernel
theorem dX6_giveGood_109 : decode cX6_giveGood 109 = .ok (.ireturn, 1) := by decide +kernel
theorem dX6_payBack_0 : decode cX6_payBack 0 = .ok (.aload_n 0, 1) := by decide +kernel
theorem dX6_payBack_1 : decode cX6_payBack 1 = .ok (.iload_n 1, 1) := by decide +kernel
theorem dX6_payBack_2 : decode cX6_payBack 2 = .ok (.bipush 8, 2) := by decide +kernel
theorem dX6_payBack_4 : decode cX6_payBack 4 = .ok (.invokestatic 53, 3) := by decide +kernel
theorem dX6_payBack_7 : decode cX6_payBack 7 = .ok (.aload_n 0, 1) := by decide +kernel
theorem dX6_payBack_8 : decode cX6_payBack 8 = .ok (.bipush 14, 2) := by decide +kernel
theorem dX6_payBack_10 : decode cX6_payBack 10 = .ok (.iaload, 1) := by decide +kernel
theorem dX6_payBack_11 : decode cX6_payBack 11 = .ok (.isub, 1) := by decide +kernel
theorem dX6_payBack_12 : decode cX6_payBack 12 = .ok (.istore_n 2, 1) := by decide +kernel
theorem dX6_payBack_13 : decode cX6_payBack 13 = .ok (.iload_n 2, 1) := by decide +kernel
theorem dX6_payBack_14 : decode cX6_payBack 14 = .ok (.ifCond .le 41, 3) := by decide +kernel
theorem dX6_payBack_17 : decode cX6_payBack 17 = .ok (.aload_n 0, 1) := by decide +kernel
theorem dX6_payBack_18 : decode cX6_payBack 18 = .ok (.iload_n 1, 1) := by decide +kernel
theorem dX6_payBack_19 : decode cX6_payBack 19 = .ok (.bipush 8, 2) := by decide +kernel
theorem dX6_payBack_21 : decode cX6_payBack 21 = .ok (.iload_n 2, 1) := by decide +kernel
theorem dX6_payBack_22 : decode cX6_payBack 22 = .ok (.ineg, 1) := by decide +kernel
theorem dX6_payBack_23 : decode cX6_payBack 23 = .ok (.invokestatic 71, 3) := by decide +kernel
theorem dX6_payBack_26 : decode cX6_payBack 26 = .ok (.aload_n 0, 1) := by decide +kernel
theorem dX6_payBack_27 : decode cX6_payBack 27 = .ok (.iload_n 1, 1) := by decide +kernel
theorem dX6_payBack_28 : decode cX6_payBack 28 = .ok (.bipush 11, 2) := by decide +kernel
theorem dX6_payBack_30 : decode cX6_payBack 30 = .ok (.iload_n 2, 1) := by decide +kernel
theorem dX6_payBack_31 : decode cX6_payBack 31 = .ok (.invokestatic 71, 3) := by decide +kernel
theorem dX6_payBack_34 : decode cX6_payBack 34 = .ok (.aload_n 0, 1) := by decide +kernel
theorem dX6_payBack_35 : decode cX6_payBack 35 = .ok (.bipush 6, 2) := by decide +kernel
theorem dX6_payBack_37 : decode cX6_payBack 37 = .ok (.dup2, 1) := by decide +kernel
theorem dX6_payBack_38 : decode cX6_payBack 38 = .ok (.iaload, 1) := by decide +kernel
theorem dX6_payBack_39 : decode cX6_payBack 39 = .ok (.iload_n 2, 1) := by decide +kernel
theorem dX6_payBack_40 : decode cX6_payBack 40 = .ok (.iadd, 1) := by decide +kernel
theorem dX6_payBack_41 : decode cX6_payBack 41 = .ok (.iastore, 1) := by decide +kernel
theorem dX6_payBack_42 : decode cX6_payBack 42 = .ok (.aload_n 0, 1) := by decide +kernel
theorem dX6_payBack_43 : decode cX6_payBack 43 = .ok (.bipush 8, 2) := by decide +kernel
theorem dX6_payBack_45 : decode cX6_payBack 45 = .ok (.dup2, 1) := by decide +kernel
theorem dX6_payBack_46 : decode cX6_payBack 46 = .ok (.iaload, 1) := by decide +kernel
theorem dX6_payBack_47 : decode cX6_payBack 47 = .ok (.iload_n 2, 1) := by decide +kernel
theorem dX6_payBack_48 : decode cX6_payBack 48 = .ok (.aload_n 0, 1) := by decide +kernel
theorem dX6_payBack_49 : decode cX6_payBack 49 = .ok (.bipush 15, 2) := by decide +kernel
theorem dX6_payBack_51 : decode cX6_payBack 51 = .ok (.iaload, 1) := by decide +kernel
theorem dX6_payBack_52 : decode cX6_payBack 52 = .ok (.imul, 1) := by decide +kernel
theorem dX6_payBack_53 : decode cX6_payBack 53 = .ok (.iadd, 1) := by decide +kernel
theorem dX6_payBack_54 : decode cX6_payBack 54 = .ok (.iastore, 1) := by decide +kernel
theorem dX6_payBack_55 : decode cX6_payBack 55 = .ok (.return_, 1) := by decide +kernel
theorem dX6_day_0 : decode cX6_day 0 = .ok (.aload_n 0, 1) := by decide +kernel
theorem dX6_day_1 : decode cX6_day 1 = .ok (.iconst 1, 1) := by decide +kernel
theorem dX6_day_2 : decode cX6_day 2 = .ok (.iaload, 1) := by decide +kernel
theorem dX6_day_3 : decode cX6_day 3 = .ok (.istore_n 1, 1) := by decide +kernel
theorem dX6_day_4 : decode cX6_day 4 = .ok (.aload_n 0, 1) := by decide +kernel
theorem dX6_day_5 : decode cX6_day 5 = .ok (.iload_n 1, 1) := by decide +kernel
theorem dX6_day_6 : decode cX6_day 6 = .ok (.invokestatic 75, 3) := by decide +kernel
theorem dX6_day_9 : decode cX6_day 9 = .ok (.istore_n 2, 1) := by decide +kernel
theorem dX6_day_10 : decode cX6_day 10 = .ok (.aload_n 0, 1) := by decide +kernel
theorem dX6_day_11 : decode cX6_day 11 = .ok (.iconst 2, 1) := by decide +kernel
theorem dX6_day_12 : decode cX6_day 12 = .ok (.dup2, 1) := by decide +kernel
theorem dX6_day_13 : decode cX6_day 13 = .ok (.iaload, 1) := by decide +kernel
theorem dX6_day_14 : decode cX6_day 14 = .ok (.iload_n 2, 1) := by decide +kernel
theorem dX6_day_15 : decode cX6_day 15 = .ok (.iadd, 1) := by decide +kernel
theorem dX6_day_16 : decode cX6_day 16 = .ok (.iastore, 1) := by decide +kernel
theorem dX6_day_17 : decode cX6_day 17 = .ok (.iconst 0, 1) := by decide +kernel
theorem dX6_day_18 : decode cX6_day 18 = .ok (.istore_n 3, 1) := by decide +kernel
theorem dX6_day_19 : decode cX6_day 19 = .ok (.iload_n 3, 1) := by decide +kernel
theorem dX6_day_20 : decode cX6_day 20 = .ok (.aload_n 0, 1) := by decide +kernel
theorem dX6_day_21 : decode cX6_day 21 = .ok (.iconst 0, 1) := by decide +kernel
theorem dX6_day_22 : decode cX6_day 22 = .ok (.iaload, 1) := by decide +kernel
theorem dX6_day_23 : decode cX6_day 23 = .ok (.if_icmp .ge 21, 3) := by decide +kernel
theorem dX6_day_26 : decode cX6_day 26 = .ok (.aload_n 0, 1) := by decide +kernel
theorem dX6_day_27 : decode cX6_day 27 = .ok (.aload_n 0, 1) := by decide +kernel
theorem dX6_day_28 : decode cX6_day 28 = .ok (.iload_n 3, 1) := by decide +kernel
theorem dX6_day_29 : decode cX6_day 29 = .ok (.invokestatic 78, 3) := by decide +kernel
theorem dX6_day_32 : decode cX6_day 32 = .ok (.iload_n 1, 1) := by decide +kernel
theorem dX6_day_33 : decode cX6_day 33 = .ok (.iload_n 2, 1) := by decide +kernel
theorem dX6_day_34 : decode cX6_day 34 = .ok (.invokestatic 81, 3) := by decide +kernel
theorem dX6_day_37 : decode cX6_day 37 = .ok (.istore_n 2, 1) := by decide +kernel
theorem dX6_day_38 : decode cX6_day 38 = .ok (.iinc 3 1, 3) := by decide +kernel
theorem dX6_day_41 : decode cX6_day 41 = .ok (.goto (-22), 3) := by decide +kernel
theorem dX6_day_44 : decode cX6_day 44 = .ok (.iconst 0, 1) := by decide +kernel
theorem dX6_day_45 : decode cX6_day 45 = .ok (.istore_n 3, 1) := by decide +kernel
theorem dX6_day_46 : decode cX6_day 46 = .ok (.iload_n 3, 1) := by decide +kernel
theorem dX6_day_47 : decode cX6_day 47 = .ok (.aload_n 0, 1) := by decide +kernel
theorem dX6_day_48 : decode cX6_day 48 = .ok (.iconst 0, 1) := by decide +kernel
theorem dX6_day_49 : decode cX6_day 49 = .ok (.iaload, 1) := by decide +kernel
theorem dX6_day_50 : decode cX6_day 50 = .ok (.if_icmp .ge 21, 3) := by decide +kernel
theorem dX6_day_53 : decode cX6_day 53 = .ok (.aload_n 0, 1) := by decide +kernel
theorem dX6_day_54 : decode cX6_day 54 = .ok (.aload_n 0, 1) := by decide +kernel
theorem dX6_day_55 : decode cX6_day 55 = .ok (.iload_n 3, 1) := by decide +kernel
theorem dX6_day_56 : decode cX6_day 56 = .ok (.invokestatic 78, 3) := by decide +kernel
theorem dX6_day_59 : decode cX6_day 59 = .ok (.iload_n 1, 1) := by decide +kernel
theorem dX6_day_60 : decode cX6_day 60 = .ok (.iload_n 2, 1) := by decide +kernel
theorem dX6_day_61 : decode cX6_day 61 = .ok (.invokestatic 85, 3) := by decide +kernel
theorem dX6_day_64 : decode cX6_day 64 = .ok (.istore_n 2, 1) := by decide +kernel
theorem dX6_day_65 : decode cX6_day 65 = .ok (.iinc 3 1, 3) := by decide +kernel
theorem dX6_day_68 : decode cX6_day 68 = .ok (.goto (-22), 3) := by decide +kernel
theorem dX6_day_71 : decode cX6_day 71 = .ok (.aload_n 0, 1) := by decide +kernel
theorem dX6_day_72 : decode cX6_day 72 = .ok (.iconst 5, 1) := by decide +kernel
theorem dX6_day_73 : decode cX6_day 73 = .ok (.dup2, 1) := by decide +kernel
theorem dX6_day_74 : decode cX6_day 74 = .ok (.iaload, 1) := by decide +kernel
theorem dX6_day_75 : decode cX6_day 75 = .ok (.iload_n 2, 1) := by decide +kernel
theorem dX6_day_76 : decode cX6_day 76 = .ok (.iadd, 1) := by decide +kernel
theorem dX6_day_77 : decode cX6_day 77 = .ok (.iastore, 1) := by decide +kernel
theorem dX6_day_78 : decode cX6_day 78 = .ok (.iconst 0, 1) := by decide +kernel
theorem dX6_day_79 : decode cX6_day 79 = .ok (.istore_n 3, 1) := by decide +kernel
theorem dX6_day_80 : decode cX6_day 80 = .ok (.iload_n 3, 1) := by decide +kernel
theorem dX6_day_81 : decode cX6_day 81 = .ok (.aload_n 0, 1) := by decide +kernel
theorem dX6_day_82 : decode cX6_day 82 = .ok (.iconst 0, 1) := by decide +kernel
theorem dX6_day_83 : decode cX6_day 83 = .ok (.iaload, 1) := by decide +kernel
theorem dX6_day_84 : decode cX6_day 84 = .ok (.if_icmp .ge 14, 3) := by decide +kernel
theorem dX6_day_87 : decode cX6_day 87 = .ok (.aload_n 0, 1) := by decide +kernel
theorem dX6_day_88 : decode cX6_day 88 = .ok (.iload_n 3, 1) := by decide +kernel
theorem dX6_day_89 : decode cX6_day 89 = .ok (.invokestatic 88, 3) := by decide +kernel
theorem dX6_day_92 : decode cX6_day 92 = .ok (.iinc 3 1, 3) := by decide +kernel
theorem dX6_day_95 : decode cX6_day 95 = .ok (.goto (-15), 3) := by decide +kernel
theorem dX6_day_98 : decode cX6_day 98 = .ok (.aload_n 0, 1) := by decide +kernel
theorem dX6_day_99 : decode cX6_day 99 = .ok (.iconst 1, 1) := by decide +kernel
theorem dX6_day_100 : decode cX6_day 100 = .ok (.dup2, 1) := by decide +kernel
theorem dX6_day_101 : decode cX6_day 101 = .ok (.iaload, 1) := by decide +kernel
theorem dX6_day_102 : decode cX6_day 102 = .ok (.iconst 1, 1) := by decide +kernel
theorem dX6_day_103 : decode cX6_day 103 = .ok (.iadd, 1) := by decide +kernel
theorem dX6_day_104 : decode cX6_day 104 = .ok (.iastore, 1) := by decide +kernel
theorem dX6_day_105 : decode cX6_day 105 = .ok (.return_, 1) := by decide +kernel
theorem dX6_daysOn_0 : decode cX6_daysOn 0 = .ok (.aload_n 0, 1) := by decide +kernel
theorem dX6_daysOn_1 : decode cX6_daysOn 1 = .ok (.iconst 3, 1) := by decide +kernel
theorem dX6_daysOn_2 : decode cX6_daysOn 2 = .ok (.iaload, 1) := by decide +kernel
theorem dX6_daysOn_3 : decode cX6_daysOn 3 = .ok (.aload_n 0, 1) := by decide +kernel
theorem dX6_daysOn_4 : decode cX6_daysOn 4 = .ok (.iconst 4, 1) := by decide +kernel
theorem dX6_daysOn_5 : decode cX6_daysOn 5 = .ok (.iaload, 1) := by decide +kernel
theorem dX6_daysOn_6 : decode cX6_daysOn 6 = .ok (.iadd, 1) := by decide +kernel
theorem dX6_daysOn_7 : decode cX6_daysOn 7 = .ok (.istore_n 2, 1) := by decide +kernel
theorem dX6_daysOn_8 : decode cX6_daysOn 8 = .ok (.iconst 0, 1) := by decide +kernel
theorem dX6_daysOn_9 : decode cX6_daysOn 9 = .ok (.istore_n 3, 1) := by decide +kernel
theorem dX6_daysOn_10 : decode cX6_daysOn 10 = .ok (.iload_n 3, 1) := by decide +kernel
theorem dX6_daysOn_11 : decode cX6_daysOn 11 = .ok (.iload_n 1, 1) := by decide +kernel
theorem dX6_daysOn_12 : decode cX6_daysOn 12 = .ok (.if_icmp .ge 13, 3) := by decide +kernel
theorem dX6_daysOn_15 : decode cX6_daysOn 15 = .ok (.aload_n 0, 1) := by decide +kernel
theorem dX6_daysOn_16 : decode cX6_daysOn 16 = .ok (.invokestatic 92, 3) := by decide +kernel
theorem dX6_daysOn_19 : decode cX6_daysOn 19 = .ok (.iinc 3 1, 3) := by decide +kernel
theorem dX6_daysOn_22 : decode cX6_daysOn 22 = .ok (.goto (-12), 3) := by decide +kernel
theorem dX6_daysOn_25 : decode cX6_daysOn 25 = .ok (.aload_n 0, 1) := by decide +kernel
theorem dX6_daysOn_26 : decode cX6_daysOn 26 = .ok (.iconst 3, 1) := by decide +kernel
theorem dX6_daysOn_27 : decode cX6_daysOn 27 = .ok (.iaload, 1) := by decide +kernel
theorem dX6_daysOn_28 : decode cX6_daysOn 28 = .ok (.aload_n 0, 1) := by decide +kernel
theorem dX6_daysOn_29 : decode cX6_daysOn 29 = .ok (.iconst 4, 1) := by decide +kernel
theorem dX6_daysOn_30 : decode cX6_daysOn 30 = .ok (.iaload, 1) := by decide +kernel
theorem dX6_daysOn_31 : decode cX6_daysOn 31 = .ok (.iadd, 1) := by decide +kernel
theorem dX6_daysOn_32 : decode cX6_daysOn 32 = .ok (.iload_n 2, 1) := by decide +kernel
theorem dX6_daysOn_33 : decode cX6_daysOn 33 = .ok (.isub, 1) := by decide +kernel
theorem dX6_daysOn_34 : decode cX6_daysOn 34 = .ok (.ireturn, 1) := by decide +kernel
theorem dX6_reason_0 : decode cX6_reason 0 = .ok (.aload_n 0, 1) := by decide +kernel
theorem dX6_reason_1 : decode cX6_reason 1 = .ok (.iconst 1, 1) := by decide +kernel
theorem dX6_reason_2 : decode cX6_reason 2 = .ok (.iaload, 1) := by decide +kernel
theorem dX6_reason_3 : decode cX6_reason 3 = .ok (.istore_n 2, 1) := by decide +kernel
theorem dX6_reason_4 : decode cX6_reason 4 = .ok (.aload_n 0, 1) := by decide +kernel
theorem dX6_reason_5 : decode cX6_reason 5 = .ok (.iload_n 1, 1) := by decide +kernel
theorem dX6_reason_6 : decode cX6_reason 6 = .ok (.iconst 1, 1) := by decide +kernel
theorem dX6_reason_7 : decode cX6_reason 7 = .ok (.iload_n 2, 1) := by decide +kernel
theorem dX6_reason_8 : decode cX6_reason 8 = .ok (.bipush 7, 2) := by decide +kernel
theorem dX6_reason_10 : decode cX6_reason 10 = .ok (.irem, 1) := by decide +kernel
theorem dX6_reason_11 : decode cX6_reason 11 = .ok (.iadd, 1) := by decide +kernel
theorem dX6_reason_12 : decode cX6_reason 12 = .ok (.invokestatic 53, 3) := by decide +kernel
theorem dX6_reason_15 : decode cX6_reason 15 = .ok (.ifCond .ne 5, 3) := by decide +kernel
theorem dX6_reason_18 : decode cX6_reason 18 = .ok (.iconst 1, 1) := by decide +kernel
theorem dX6_reason_19 : decode cX6_reason 19 = .ok (.ireturn, 1) := by decide +kernel
theorem dX6_reason_20 : decode cX6_reason 20 = .ok (.aload_n 0, 1) := by decide +kernel
theorem dX6_reason_21 : decode cX6_reason 21 = .ok (.iload_n 1, 1) := by decide +kernel
theorem dX6_reason_22 : decode cX6_reason 22 = .ok (.iload_n 2, 1) := by decide +kernel
theorem dX6_reason_23 : decode cX6_reason 23 = .ok (.invokestatic 57, 3) := by decide +kernel
theorem dX6_reason_26 : decode cX6_reason 26 = .ok (.ifCond .eq 5, 3) := by decide +kernel
theorem dX6_reason_29 : decode cX6_reason 29 = .ok (.iconst 2, 1) := by decide +kernel
theorem dX6_reason_30 : decode cX6_reason 30 = .ok (.ireturn, 1) := by decide +kernel
theorem dX6_reason_31 : decode cX6_reason 31 = .ok (.aload_n 0, 1) := by decide +kernel
theorem dX6_reason_32 : decode cX6_reason 32 = .ok (.iload_n 1, 1) := by decide +kernel
theorem dX6_reason_33 : decode cX6_reason 33 = .ok (.iload_n 2, 1) := by decide +kernel
theorem dX6_reason_34 : decode cX6_reason 34 = .ok (.invokestatic 68, 3) := by decide +kernel
theorem dX6_reason_37 : decode cX6_reason 37 = .ok (.ifCond .ne 5, 3) := by decide +kernel
theorem dX6_reason_40 : decode cX6_reason 40 = .ok (.iconst 3, 1) := by decide +kernel
theorem dX6_reason_41 : decode cX6_reason 41 = .ok (.ireturn, 1) := by decide +kernel
theorem dX6_reason_42 : decode cX6_reason 42 = .ok (.aload_n 0, 1) := by decide +kernel
theorem dX6_reason_43 : decode cX6_reason 43 = .ok (.iload_n 2, 1) := by decide +kernel
theorem dX6_reason_44 : decode cX6_reason 44 = .ok (.invokestatic 75, 3) := by decide +kernel
theorem dX6_reason_47 : decode cX6_reason 47 = .ok (.istore_n 3, 1) := by decide +kernel
theorem dX6_reason_48 : decode cX6_reason 48 = .ok (.iconst 0, 1) := by decide +kernel
theorem dX6_reason_49 : decode cX6_reason 49 = .ok (.istore 4, 2) := by decide +kernel
theorem dX6_reason_51 : decode cX6_reason 51 = .ok (.aload_n 0, 1) := by decide +kernel
theorem dX6_reason_52 : decode cX6_reason 52 = .ok (.iload 4, 2) := by decide +kernel
theorem dX6_reason_54 : decode cX6_reason 54 = .ok (.invokestatic 78, 3) := by decide +kernel
theorem dX6_reason_57 : decode cX6_reason 57 = .ok (.iload_n 1, 1) := by decide +kernel
theorem dX6_reason_58 : decode cX6_reason 58 = .ok (.if_icmp .eq 55, 3) := by decide +kernel
theorem dX6_reason_61 : decode cX6_reason 61 = .ok (.aload_n 0, 1) := by decide +kernel
theorem dX6_reason_62 : decode cX6_reason 62 = .ok (.iload 4, 2) := by decide +kernel
theorem dX6_reason_64 : decode cX6_reason 64 = .ok (.invokestatic 78, 3) := by decide +kernel
theorem dX6_reason_67 : decode cX6_reason 67 = .ok (.istore 5, 2) := by decide +kernel
theorem dX6_reason_69 : decode cX6_reason 69 = .ok (.aload_n 0, 1) := by decide +kernel
theorem dX6_reason_70 : decode cX6_reason 70 = .ok (.iload 5, 2) := by decide +kernel
theorem dX6_reason_72 : decode cX6_reason 72 = .ok (.iload_n 2, 1) := by decide +kernel
theorem dX6_reason_73 : decode cX6_reason 73 = .ok (.invokestatic 68, 3) := by decide +kernel
theorem dX6_reason_76 : decode cX6_reason 76 = .ok (.ifCond .eq 13, 3) := by decide +kernel
theorem dX6_reason_79 : decode cX6_reason 79 = .ok (.aload_n 0, 1) := by decide +kernel
theorem dX6_reason_80 : decode cX6_reason 80 = .ok (.iload 5, 2) := by decide +kernel
theorem dX6_reason_82 : decode cX6_reason 82 = .ok (.iload_n 2, 1) := by decide +kernel
theorem dX6_reason_83 : decode cX6_reason 83 = .ok (.invokestatic 61, 3) := by decide +kernel
theorem dX6_reason_86 : decode cX6_reason 86 = .ok (.goto 4, 3) := by decide +kernel
theorem dX6_reason_89 : decode cX6_reason 89 = .ok (.iconst 0, 1) := by decide +kernel
theorem dX6_reason_90 : decode cX6_reason 90 = .ok (.istore 6, 2) := by decide +kernel
theorem dX6_reason_92 : decode cX6_reason 92 = .ok (.iload_n 3, 1) := by decide +kernel
theorem dX6_reason_93 : decode cX6_reason 93 = .ok (.iload 6, 2) := by decide +kernel
theorem dX6_reason_95 : decode cX6_reason 95 = .ok (.iload_n 3, 1) := by decide +kernel
theorem dX6_reason_96 : decode cX6_reason 96 = .ok (.if_icmp .ge 8, 3) := by decide +kernel
theorem dX6_reason_99 : decode cX6_reason 99 = .ok (.iload 6, 2) := by decide +kernel
theorem dX6_reason_101 : decode cX6_reason 101 = .ok (.goto 4, 3) := by decide +kernel
theorem dX6_reason_104 : decode cX6_reason 104 = .ok (.iload_n 3, 1) := by decide +kernel
theorem dX6_reason_105 : decode cX6_reason 105 = .ok (.isub, 1) := by decide +kernel
theorem dX6_reason_106 : decode cX6_reason 106 = .ok (.istore_n 3, 1) := by decide +kernel
theorem dX6_reason_107 : decode cX6_reason 107 = .ok (.iinc 4 1, 3) := by decide +kernel
theorem dX6_reason_110 : decode cX6_reason 110 = .ok (.goto (-59), 3) := by decide +kernel
theorem dX6_reason_113 : decode cX6_reason 113 = .ok (.iload_n 3, 1) := by decide +kernel
theorem dX6_reason_114 : decode cX6_reason 114 = .ok (.ifCond .ne 7, 3) := by decide +kernel
theorem dX6_reason_117 : decode cX6_reason 117 = .ok (.iconst 4, 1) := by decide +kernel
theorem dX6_reason_118 : decode cX6_reason 118 = .ok (.goto 18, 3) := by decide +kernel
theorem dX6_reason_121 : decode cX6_reason 121 = .ok (.iload_n 3, 1) := by decide +kernel
theorem dX6_reason_122 : decode cX6_reason 122 = .ok (.aload_n 0, 1) := by decide +kernel
theorem dX6_reason_123 : decode cX6_reason 123 = .ok (.iload_n 1, 1) := by decide +kernel
theorem dX6_reason_124 : decode cX6_reason 124 = .ok (.iload_n 2, 1) := by decide +kernel
theorem dX6_reason_125 : decode cX6_reason 125 = .ok (.invokestatic 61, 3) := by decide +kernel
theorem dX6_reason_128 : decode cX6_reason 128 = .ok (.if_icmp .ge 7, 3) := by decide +kernel
theorem dX6_reason_131 : decode cX6_reason 131 = .ok (.iconst 5, 1) := by decide +kernel
theorem dX6_reason_132 : decode cX6_reason 132 = .ok (.goto 4, 3) := by decide +kernel
theorem dX6_reason_135 : decode cX6_reason 135 = .ok (.iconst 0, 1) := by decide +kernel
theorem dX6_reason_136 : decode cX6_reason 136 = .ok (.ireturn, 1) := by decide +kernel
theorem dX6_customerOn_0 : decode cX6_customerOn 0 = .ok (.aload_n 0, 1) := by decide +kernel
theorem dX6_customerOn_1 : decode cX6_customerOn 1 = .ok (.iconst 0, 1) := by decide +kernel
theorem dX6_customerOn_2 : decode cX6_customerOn 2 = .ok (.iaload, 1) := by decide +kernel
theorem dX6_customerOn_3 : decode cX6_customerOn 3 = .ok (.istore_n 3, 1) := by decide +kernel
theorem dX6_customerOn_4 : decode cX6_customerOn 4 = .ok (.iconst 0, 1) := by decide +kernel
theorem dX6_customerOn_5 : decode cX6_customerOn 5 = .ok (.istore 4, 2) := by decide +kernel
theorem dX6_customerOn_7 : decode cX6_customerOn 7 = .ok (.iload 4, 2) := by decide +kernel
theorem dX6_customerOn_9 : decode cX6_customerOn 9 = .ok (.bipush 21, 2) := by decide +kernel
theorem dX6_customerOn_11 : decode cX6_customerOn 11 = .ok (.if_icmp .ge 22, 3) := by decide +kernel
theorem dX6_customerOn_14 : decode cX6_customerOn 14 = .ok (.aload_n 0, 1) := by decide +kernel
theorem dX6_customerOn_15 : decode cX6_customerOn 15 = .ok (.bipush 48, 2) := by decide +kernel
theorem dX6_customerOn_17 : decode cX6_customerOn 17 = .ok (.bipush 21, 2) := by decide +kernel
theorem dX6_customerOn_19 : decode cX6_customerOn 19 = .ok (.iload_n 3, 1) := by decide +kernel
theorem dX6_customerOn_20 : decode cX6_customerOn 20 = .ok (.imul, 1) := by decide +kernel
theorem dX6_customerOn_21 : decode cX6_customerOn 21 = .ok (.iadd, 1) := by decide +kernel
theorem dX6_customerOn_22 : decode cX6_customerOn 22 = .ok (.iload 4, 2) := by decide +kernel
theorem dX6_customerOn_24 : decode cX6_customerOn 24 = .ok (.iadd, 1) := by decide +kernel
theorem dX6_customerOn_25 : decode cX6_customerOn 25 = .ok (.iconst 0, 1) := by decide +kernel
theorem dX6_customerOn_26 : decode cX6_customerOn 26 = .ok (.iastore, 1) := by decide +kernel
theorem dX6_customerOn_27 : decode cX6_customerOn 27 = .ok (.iinc 4 1, 3) := by decide +kernel
theorem dX6_customerOn_30 : decode cX6_customerOn 30 = .ok (.goto (-23), 3) := by decide +kernel
theorem dX6_customerOn_33 : decode cX6_customerOn 33 = .ok (.aload_n 0, 1) := by decide +kernel
theorem dX6_customerOn_34 : decode cX6_customerOn 34 = .ok (.iload_n 3, 1) := by decide +kernel
theorem dX6_customerOn_35 : decode cX6_customerOn 35 = .ok (.iconst 0, 1) := by decide +kernel
theorem dX6_customerOn_36 : decode cX6_customerOn 36 = .ok (.iload_n 1, 1) := by decide +kernel
theorem dX6_customerOn_37 : decode cX6_customerOn 37 = .ok (.invokestatic 71, 3) := by decide +kernel
theorem dX6_customerOn_40 : decode cX6_customerOn 40 = .ok (.iload_n 2, 1) := by decide +kernel
theorem dX6_customerOn_41 : decode cX6_customerOn 41 = .ok (.istore 4, 2) := by decide +kernel
theorem dX6_customerOn_43 : decode cX6_customerOn 43 = .ok (.bipush 6, 2) := by decide +kernel
theorem dX6_customerOn_45 : decode cX6_customerOn 45 = .ok (.istore 5, 2) := by decide +kernel
theorem dX6_customerOn_47 : decode cX6_customerOn 47 = .ok (.iload 5, 2) := by decide +kernel
theorem dX6_customerOn_49 : decode cX6_customerOn 49 = .ok (.ifCond .lt 30, 3) := by decide +kernel
theorem dX6_customerOn_52 : decode cX6_customerOn 52 = .ok (.aload_n 0, 1) := by decide +kernel
theorem dX6_customerOn_53 : decode cX6_customerOn 53 = .ok (.iload_n 3, 1) := by decide +kernel
theorem dX6_customerOn_54 : decode cX6_customerOn 54 = .ok (.iconst 1, 1) := by decide +kernel
theorem dX6_customerOn_55 : decode cX6_customerOn 55 = .ok (.iload 5, 2) := by decide +kernel
theorem dX6_customerOn_57 : decode cX6_customerOn 57 = .ok (.iadd, 1) := by decide +kernel
theorem dX6_customerOn_58 : decode cX6_customerOn 58 = .ok (.iload 4, 2) := by decide +kernel
theorem dX6_customerOn_60 : decode cX6_customerOn 60 = .ok (.bipush 10, 2) := by decide +kernel
theorem dX6_customerOn_62 : decode cX6_customerOn 62 = .ok (.irem, 1) := by decide +kernel
theorem dX6_customerOn_63 : decode cX6_customerOn 63 = .ok (.invokestatic 71, 3) := by decide +kernel
theorem dX6_customerOn_66 : decode cX6_customerOn 66 = .ok (.iload 4, 2) := by decide +kernel
theorem dX6_customerOn_68 : decode cX6_customerOn 68 = .ok (.bipush 10, 2) := by decide +kernel
theorem dX6_customerOn_70 : decode cX6_customerOn 70 = .ok (.idiv, 1) := by decide +kernel
theorem dX6_customerOn_71 : decode cX6_customerOn 71 = .ok (.istore 4, 2) := by decide +kernel
theorem dX6_customerOn_73 : decode cX6_customerOn 73 = .ok (.iinc 5 (-1), 3) := by decide +kernel
theorem dX6_customerOn_76 : decode cX6_customerOn 76 = .ok (.goto (-29), 3) := by decide +kernel
theorem dX6_customerOn_79 : decode cX6_customerOn 79 = .ok (.aload_n 0, 1) := by decide +kernel
theorem dX6_customerOn_80 : decode cX6_customerOn 80 = .ok (.iconst 0, 1) := by decide +kernel
theorem dX6_customerOn_81 : decode cX6_customerOn 81 = .ok (.dup2, 1) := by decide +kernel
theorem dX6_customerOn_82 : decode cX6_customerOn 82 = .ok (.iaload, 1) := by decide +kernel
theorem dX6_customerOn_83 : decode cX6_customerOn 83 = .ok (.iconst 1, 1) := by decide +kernel
theorem dX6_customerOn_84 : decode cX6_customerOn 84 = .ok (.iadd, 1) := by decide +kernel
theorem dX6_customerOn_85 : decode cX6_customerOn 85 = .ok (.iastore, 1) := by decide +kernel
theorem dX6_customerOn_86 : decode cX6_customerOn 86 = .ok (.iload_n 3, 1) := by decide +kernel
theorem dX6_customerOn_87 : decode cX6_customerOn 87 = .ok (.ireturn, 1) := by decide +kernel
theorem dX6_put_0 : decode cX6_put 0 = .ok (.aload_n 0, 1) := by decide +kernel
theorem dX6_put_1 : decode cX6_put 1 = .ok (.iload_n 1, 1) := by decide +kernel
theorem dX6_put_2 : decode cX6_put 2 = .ok (.iaload, 1) := by decide +kernel
theorem dX6_put_3 : decode cX6_put 3 = .ok (.istore_n 3, 1) := by decide +kernel
theorem dX6_put_4 : decode cX6_put 4 = .ok (.aload_n 0, 1) := by decide +kernel
theorem dX6_put_5 : decode cX6_put 5 = .ok (.iload_n 1, 1) := by decide +kernel
theorem dX6_put_6 : decode cX6_put 6 = .ok (.iload_n 2, 1) := by decide +kernel
theorem dX6_put_7 : decode cX6_put 7 = .ok (.iastore, 1) := by decide +kernel
theorem dX6_put_8 : decode cX6_put 8 = .ok (.iload_n 3, 1) := by decide +kernel
theorem dX6_put_9 : decode cX6_put 9 = .ok (.ireturn, 1) := by decide +kernel
theorem dX6_changeOn_0 : decode cX6_changeOn 0 = .ok (.aload_n 0, 1) := by decide +kernel
theorem dX6_changeOn_1 : decode cX6_changeOn 1 = .ok (.bipush 48, 2) := by decide +kernel
theorem dX6_changeOn_3 : decode cX6_changeOn 3 = .ok (.bipush 21, 2) := by decide +kernel
theorem dX6_changeOn_5 : decode cX6_changeOn 5 = .ok (.iload_n 1, 1) := by decide +kernel
theorem dX6_changeOn_6 : decode cX6_changeOn 6 = .ok (.imul, 1) := by decide +kernel
theorem dX6_changeOn_7 : decode cX6_changeOn 7 = .ok (.iadd, 1) := by decide +kernel
theorem dX6_changeOn_8 : decode cX6_changeOn 8 = .ok (.iconst 1, 1) := by decide +kernel
theorem dX6_changeOn_9 : decode cX6_changeOn 9 = .ok (.iadd, 1) := by decide +kernel
theorem dX6_changeOn_10 : decode cX6_changeOn 10 = .ok (.iload_n 2, 1) := by decide +kernel
theorem dX6_changeOn_11 : decode cX6_changeOn 11 = .ok (.iadd, 1) := by decide +kernel
theorem dX6_changeOn_12 : decode cX6_changeOn 12 = .ok (.iload_n 3, 1) := by decide +kernel
theorem dX6_changeOn_13 : decode cX6_changeOn 13 = .ok (.invokestatic 95, 3) := by decide +kernel
theorem dX6_changeOn_16 : decode cX6_changeOn 16 = .ok (.ireturn, 1) := by decide +kernel
theorem dX6_isSpan_0 : decode cX6_isSpan 0 = .ok (.iload_n 0, 1) := by decide +kernel
theorem dX6_isSpan_1 : decode cX6_isSpan 1 = .ok (.i2l, 1) := by decide +kernel
theorem dX6_isSpan_2 : decode cX6_isSpan 2 = .ok (.lconst 0, 1) := by decide +kernel
theorem dX6_isSpan_3 : decode cX6_isSpan 3 = .ok (.ldc2_w 98, 3) := by decide +kernel
theorem dX6_isSpan_6 : decode cX6_isSpan 6 = .ok (.invokestatic 37, 3) := by decide +kernel
theorem dX6_isSpan_9 : decode cX6_isSpan 9 = .ok (.ifCond .eq 20, 3) := by decide +kernel
theorem dX6_isSpan_12 : decode cX6_isSpan 12 = .ok (.iload_n 1, 1) := by decide +kernel
theorem dX6_isSpan_13 : decode cX6_isSpan 13 = .ok (.i2l, 1) := by decide +kernel
theorem dX6_isSpan_14 : decode cX6_isSpan 14 = .ok (.iload_n 0, 1) := by decide +kernel
theorem dX6_isSpan_15 : decode cX6_isSpan 15 = .ok (.i2l, 1) := by decide +kernel
theorem dX6_isSpan_16 : decode cX6_isSpan 16 = .ok (.ldc2_w 98, 3) := by decide +kernel
theorem dX6_isSpan_19 : decode cX6_isSpan 19 = .ok (.invokestatic 37, 3) := by decide +kernel
theorem dX6_isSpan_22 : decode cX6_isSpan 22 = .ok (.ifCond .eq 7, 3) := by decide +kernel
theorem dX6_isSpan_25 : decode cX6_isSpan 25 = .ok (.iconst 1, 1) := by decide +kernel
theorem dX6_isSpan_26 : decode cX6_isSpan 26 = .ok (.goto 4, 3) := by decide +kernel
theorem dX6_isSpan_29 : decode cX6_isSpan 29 = .ok (.iconst 0, 1) := by decide +kernel
theorem dX6_isSpan_30 : decode cX6_isSpan 30 = .ok (.ireturn, 1) := by decide +kernel
theorem dX6_holidayOn_0 : decode cX6_holidayOn 0 = .ok (.bipush 48, 2) := by decide +kernel
theorem dX6_holidayOn_2 : decode cX6_holidayOn 2 = .ok (.bipush 21, 2) := by decide +kernel
theorem dX6_holidayOn_4 : decode cX6_holidayOn 4 = .ok (.iload_n 1, 1) := by decide +kernel
theorem dX6_holidayOn_5 : decode cX6_holidayOn 5 = .ok (.imul, 1) := by decide +kernel
theorem dX6_holidayOn_6 : decode cX6_holidayOn 6 = .ok (.iadd, 1) := by decide +kernel
theorem dX6_holidayOn_7 : decode cX6_holidayOn 7 = .ok (.bipush 15, 2) := by decide +kernel
theorem dX6_holidayOn_9 : decode cX6_holidayOn 9 = .ok (.iadd, 1) := by decide +kernel
theorem dX6_holidayOn_10 : decode cX6_holidayOn 10 = .ok (.iconst 2, 1) := by decide +kernel
theorem dX6_holidayOn_11 : decode cX6_holidayOn 11 = .ok (.aload_n 0, 1) := by decide +kernel
theorem dX6_holidayOn_12 : decode cX6_holidayOn 12 = .ok (.iload_n 1, 1) := by decide +kernel
theorem dX6_holidayOn_13 : decode cX6_holidayOn 13 = .ok (.bipush 14, 2) := by decide +kernel
theorem dX6_holidayOn_15 : decode cX6_holidayOn 15 = .ok (.invokestatic 53, 3) := by decide +kernel
theorem dX6_holidayOn_18 : decode cX6_holidayOn 18 = .ok (.imul, 1) := by decide +kernel
theorem dX6_holidayOn_19 : decode cX6_holidayOn 19 = .ok (.iadd, 1) := by decide +kernel
theorem dX6_holidayOn_20 : decode cX6_holidayOn 20 = .ok (.istore 4, 2) := by decide +kernel
theorem dX6_holidayOn_22 : decode cX6_holidayOn 22 = .ok (.aload_n 0, 1) := by decide +kernel
theorem dX6_holidayOn_23 : decode cX6_holidayOn 23 = .ok (.iload 4, 2) := by decide +kernel
theorem dX6_holidayOn_25 : decode cX6_holidayOn 25 = .ok (.iload_n 2, 1) := by decide +kernel
theorem dX6_holidayOn_26 : decode cX6_holidayOn 26 = .ok (.iastore, 1) := by decide +kernel
theorem dX6_holidayOn_27 : decode cX6_holidayOn 27 = .ok (.aload_n 0, 1) := by decide +kernel
theorem dX6_holidayOn_28 : decode cX6_holidayOn 28 = .ok (.iload 4, 2) := by decide +kernel
theorem dX6_holidayOn_30 : decode cX6_holidayOn 30 = .ok (.iconst 1, 1) := by decide +kernel
theorem dX6_holidayOn_31 : decode cX6_holidayOn 31 = .ok (.iadd, 1) := by decide +kernel
theorem dX6_holidayOn_32 : decode cX6_holidayOn 32 = .ok (.iload_n 3, 1) := by decide +kernel
theorem dX6_holidayOn_33 : decode cX6_holidayOn 33 = .ok (.iastore, 1) := by decide +kernel
theorem dX6_holidayOn_34 : decode cX6_holidayOn 34 = .ok (.aload_n 0, 1) := by decide +kernel
theorem dX6_holidayOn_35 : decode cX6_holidayOn 35 = .ok (.iload_n 1, 1) := by decide +kernel
theorem dX6_holidayOn_36 : decode cX6_holidayOn 36 = .ok (.bipush 14, 2) := by decide +kernel
theorem dX6_holidayOn_38 : decode cX6_holidayOn 38 = .ok (.iconst 1, 1) := by decide +kernel
theorem dX6_holidayOn_39 : decode cX6_holidayOn 39 = .ok (.invokestatic 71, 3) := by decide +kernel
theorem dX6_holidayOn_42 : decode cX6_holidayOn 42 = .ok (.aload_n 0, 1) := by decide +kernel
theorem dX6_holidayOn_43 : decode cX6_holidayOn 43 = .ok (.iload_n 1, 1) := by decide +kernel
theorem dX6_holidayOn_44 : decode cX6_holidayOn 44 = .ok (.bipush 14, 2) := by decide +kernel
theorem dX6_holidayOn_46 : decode cX6_holidayOn 46 = .ok (.invokestatic 53, 3) := by decide +kernel
theorem dX6_holidayOn_49 : decode cX6_holidayOn 49 = .ok (.ireturn, 1) := by decide +kernel
theorem dX6_dropOn_0 : decode cX6_dropOn 0 = .ok (.aload_n 0, 1) := by decide +kernel
theorem dX6_dropOn_1 : decode cX6_dropOn 1 = .ok (.iload_n 1, 1) := by decide +kernel
theorem dX6_dropOn_2 : decode cX6_dropOn 2 = .ok (.bipush 14, 2) := by decide +kernel
theorem dX6_dropOn_4 : decode cX6_dropOn 4 = .ok (.iconst (-1), 1) := by decide +kernel
theorem dX6_dropOn_5 : decode cX6_dropOn 5 = .ok (.invokestatic 71, 3) := by decide +kernel
theorem dX6_dropOn_8 : decode cX6_dropOn 8 = .ok (.bipush 48, 2) := by decide +kernel
theorem dX6_dropOn_10 : decode cX6_dropOn 10 = .ok (.bipush 21, 2) := by decide +kernel
theorem dX6_dropOn_12 : decode cX6_dropOn 12 = .ok (.iload_n 1, 1) := by decide +kernel
theorem dX6_dropOn_13 : decode cX6_dropOn 13 = .ok (.imul, 1) := by decide +kernel
theorem dX6_dropOn_14 : decode cX6_dropOn 14 = .ok (.iadd, 1) := by decide +kernel
theorem dX6_dropOn_15 : decode cX6_dropOn 15 = .ok (.bipush 15, 2) := by decide +kernel
theorem dX6_dropOn_17 : decode cX6_dropOn 17 = .ok (.iadd, 1) := by decide +kernel
theorem dX6_dropOn_18 : decode cX6_dropOn 18 = .ok (.istore_n 3, 1) := by decide +kernel
theorem dX6_dropOn_19 : decode cX6_dropOn 19 = .ok (.iconst 2, 1) := by decide +kernel
theorem dX6_dropOn_20 : decode cX6_dropOn 20 = .ok (.iload_n 2, 1) := by decide +kernel
theorem dX6_dropOn_21 : decode cX6_dropOn 21 = .ok (.imul, 1) := by decide +kernel
theorem dX6_dropOn_22 : decode cX6_dropOn 22 = .ok (.istore 4, 2) := by decide +kernel
theorem dX6_dropOn_24 : decode cX6_dropOn 24 = .ok (.iload 4, 2) := by decide +kernel
theorem dX6_dropOn_26 : decode cX6_dropOn 26 = .ok (.iconst 2, 1) := by decide +kernel
theorem dX6_dropOn_27 : decode cX6_dropOn 27 = .ok (.aload_n 0, 1) := by decide +kernel
theorem dX6_dropOn_28 : decode cX6_dropOn 28 = .ok (.iload_n 1, 1) := by decide +kernel
theorem dX6_dropOn_29 : decode cX6_dropOn 29 = .ok (.bipush 14, 2) := by decide +kernel
theorem dX6_dropOn_31 : decode cX6_dropOn 31 = .ok (.invokestatic 53, 3) := by decide +kernel
theorem dX6_dropOn_34 : decode cX6_dropOn 34 = .ok (.imul, 1) := by decide +kernel
theorem dX6_dropOn_35 : decode cX6_dropOn 35 = .ok (.if_icmp .ge 23, 3) := by decide +kernel
theorem dX6_dropOn_38 : decode cX6_dropOn 38 = .ok (.aload_n 0, 1) := by decide +kernel
theorem dX6_dropOn_39 : decode cX6_dropOn 39 = .ok (.iload_n 3, 1) := by decide +kernel
theorem dX6_dropOn_40 : decode cX6_dropOn 40 = .ok (.iload 4, 2) := by decide +kernel
theorem dX6_dropOn_42 : decode cX6_dropOn 42 = .ok (.iadd, 1) := by decide +kernel
theorem dX6_dropOn_43 : decode cX6_dropOn 43 = .ok (.aload_n 0, 1) := by decide +kernel
theorem dX6_dropOn_44 : decode cX6_dropOn 44 = .ok (.iload_n 3, 1) := by decide +kernel
theorem dX6_dropOn_45 : decode cX6_dropOn 45 = .ok (.iload 4, 2) := by decide +kernel
theorem dX6_dropOn_47 : decode cX6_dropOn 47 = .ok (.iadd, 1) := by decide +kernel
theorem dX6_dropOn_48 : decode cX6_dropOn 48 = .ok (.iconst 2, 1) := by decide +kernel
theorem dX6_dropOn_49 : decode cX6_dropOn 49 = .ok (.iadd, 1) := by decide +kernel
theorem dX6_dropOn_50 : decode cX6_dropOn 50 = .ok (.iaload, 1) := by decide +kernel
theorem dX6_dropOn_51 : decode cX6_dropOn 51 = .ok (.iastore, 1) := by decide +kernel
theorem dX6_dropOn_52 : decode cX6_dropOn 52 = .ok (.iinc 4 1, 3) := by decide +kernel
theorem dX6_dropOn_55 : decode cX6_dropOn 55 = .ok (.goto (-31), 3) := by decide +kernel
theorem dX6_dropOn_58 : decode cX6_dropOn 58 = .ok (.aload_n 0, 1) := by decide +kernel
theorem dX6_dropOn_59 : decode cX6_dropOn 59 = .ok (.iload_n 1, 1) := by decide +kernel
theorem dX6_dropOn_60 : decode cX6_dropOn 60 = .ok (.bipush 14, 2) := by decide +kernel
theorem dX6_dropOn_62 : decode cX6_dropOn 62 = .ok (.invokestatic 53, 3) := by decide +kernel
theorem dX6_dropOn_65 : decode cX6_dropOn 65 = .ok (.ireturn, 1) := by decide +kernel
theorem dX6_closeOn_0 : decode cX6_closeOn 0 = .ok (.aload_n 0, 1) := by decide +kernel
theorem dX6_closeOn_1 : decode cX6_closeOn 1 = .ok (.bipush 20, 2) := by decide +kernel
theorem dX6_closeOn_3 : decode cX6_closeOn 3 = .ok (.bipush 7, 2) := by decide +kernel
theorem dX6_closeOn_5 : decode cX6_closeOn 5 = .ok (.iload_n 1, 1) := by decide +kernel
theorem dX6_closeOn_6 : decode cX6_closeOn 6 = .ok (.imul, 1) := by decide +kernel
theorem dX6_closeOn_7 : decode cX6_closeOn 7 = .ok (.iadd, 1) := by decide +kernel
theorem dX6_closeOn_8 : decode cX6_closeOn 8 = .ok (.iload_n 2, 1) := by decide +kernel
theorem dX6_closeOn_9 : decode cX6_closeOn 9 = .ok (.iadd, 1) := by decide +kernel
theorem dX6_closeOn_10 : decode cX6_closeOn 10 = .ok (.iload_n 3, 1) := by decide +kernel
theorem dX6_closeOn_11 : decode cX6_closeOn 11 = .ok (.ifCond .eq 7, 3) := by decide +kernel
theorem dX6_closeOn_14 : decode cX6_closeOn 14 = .ok (.iconst 1, 1) := by decide +kernel
theorem dX6_closeOn_15 : decode cX6_closeOn 15 = .ok (.goto 4, 3) := by decide +kernel
theorem dX6_closeOn_18 : decode cX6_closeOn 18 = .ok (.iconst 0, 1) := by decide +kernel
theorem dX6_closeOn_19 : decode cX6_closeOn 19 = .ok (.iastore, 1) := by decide +kernel
theorem dX6_closeOn_20 : decode cX6_closeOn 20 = .ok (.iconst 0, 1) := by decide +kernel
theorem dX6_closeOn_21 : decode cX6_closeOn 21 = .ok (.istore 4, 2) := by decide +kernel
theorem dX6_closeOn_23 : decode cX6_closeOn 23 = .ok (.iconst 0, 1) := by decide +kernel
theorem dX6_closeOn_24 : decode cX6_closeOn 24 = .ok (.istore 5, 2) := by decide +kernel
theorem dX6_closeOn_26 : decode cX6_closeOn 26 = .ok (.iload 5, 2) := by decide +kernel
theorem dX6_closeOn_28 : decode cX6_closeOn 28 = .ok (.bipush 7, 2) := by decide +kernel
theorem dX6_closeOn_30 : decode cX6_closeOn 30 = .ok (.if_icmp .ge 26, 3) := by decide +kernel
theorem dX6_closeOn_33 : decode cX6_closeOn 33 = .ok (.iload 4, 2) := by decide +kernel
theorem dX6_closeOn_35 : decode cX6_closeOn 35 = .ok (.aload_n 0, 1) := by decide +kernel
theorem dX6_closeOn_36 : decode cX6_closeOn 36 = .ok (.bipush 20, 2) := by decide +kernel
theorem dX6_closeOn_38 : decode cX6_closeOn 38 = .ok (.bipush 7, 2) := by decide +kernel
theorem dX6_closeOn_40 : decode cX6_closeOn 40 = .ok (.iload_n 1, 1) := by decide +kernel
theorem dX6_closeOn_41 : decode cX6_closeOn 41 = .ok (.imul, 1) := by decide +kernel
theorem dX6_closeOn_42 : decode cX6_closeOn 42 = .ok (.iadd, 1) := by decide +kernel
theorem dX6_closeOn_43 : decode cX6_closeOn 43 = .ok (.iload 5, 2) := by decide +kernel
theorem dX6_closeOn_45 : decode cX6_closeOn 45 = .ok (.iadd, 1) := by decide +kernel
theorem dX6_closeOn_46 : decode cX6_closeOn 46 = .ok (.iaload, 1) := by decide +kernel
theorem dX6_closeOn_47 : decode cX6_closeOn 47 = .ok (.iadd, 1) := by decide +kernel
theorem dX6_closeOn_48 : decode cX6_closeOn 48 = .ok (.istore 4, 2) := by decide +kernel
theorem dX6_closeOn_50 : decode cX6_closeOn 50 = .ok (.iinc 5 1, 3) := by decide +kernel
theorem dX6_closeOn_53 : decode cX6_closeOn 53 = .ok (.goto (-27), 3) := by decide +kernel
theorem dX6_closeOn_56 : decode cX6_closeOn 56 = .ok (.iload 4, 2) := by decide +kernel
theorem dX6_closeOn_58 : decode cX6_closeOn 58 = .ok (.ireturn, 1) := by decide +kernel
theorem dX6_swapOn_0 : decode cX6_swapOn 0 = .ok (.aload_n 0, 1) := by decide +kernel
theorem dX6_swapOn_1 : decode cX6_swapOn 1 = .ok (.iload_n 1, 1) := by decide +kernel
theorem dX6_swapOn_2 : decode cX6_swapOn 2 = .ok (.invokestatic 100, 3) := by decide +kernel
theorem dX6_swapOn_5 : decode cX6_swapOn 5 = .ok (.istore_n 3, 1) := by decide +kernel
theorem dX6_swapOn_6 : decode cX6_swapOn 6 = .ok (.aload_n 0, 1) := by decide +kernel
theorem dX6_swapOn_7 : decode cX6_swapOn 7 = .ok (.iload_n 2, 1) := by decide +kernel
theorem dX6_swapOn_8 : decode cX6_swapOn 8 = .ok (.invokestatic 100, 3) := by decide +kernel
theorem dX6_swapOn_11 : decode cX6_swapOn 11 = .ok (.istore 4, 2) := by decide +kernel
theorem dX6_swapOn_13 : decode cX6_swapOn 13 = .ok (.aload_n 0, 1) := by decide +kernel
theorem dX6_swapOn_14 : decode cX6_swapOn 14 = .ok (.bipush 16, 2) := by decide +kernel
theorem dX6_swapOn_16 : decode cX6_swapOn 16 = .ok (.iload_n 3, 1) := by decide +kernel
theorem dX6_swapOn_17 : decode cX6_swapOn 17 = .ok (.iadd, 1) := by decide +kernel
theorem dX6_swapOn_18 : decode cX6_swapOn 18 = .ok (.iload_n 2, 1) := by decide +kernel
theorem dX6_swapOn_19 : decode cX6_swapOn 19 = .ok (.iastore, 1) := by decide +kernel
theorem dX6_swapOn_20 : decode cX6_swapOn 20 = .ok (.aload_n 0, 1) := by decide +kernel
theorem dX6_swapOn_21 : decode cX6_swapOn 21 = .ok (.bipush 16, 2) := by decide +kernel
theorem dX6_swapOn_23 : decode cX6_swapOn 23 = .ok (.iload 4, 2) := by decide +kernel
theorem dX6_swapOn_25 : decode cX6_swapOn 25 = .ok (.iadd, 1) := by decide +kernel
theorem dX6_swapOn_26 : decode cX6_swapOn 26 = .ok (.iload_n 1, 1) := by decide +kernel
theorem dX6_swapOn_27 : decode cX6_swapOn 27 = .ok (.iastore, 1) := by decide +kernel
theorem dX6_swapOn_28 : decode cX6_swapOn 28 = .ok (.iload 4, 2) := by decide +kernel
theorem dX6_swapOn_30 : decode cX6_swapOn 30 = .ok (.ireturn, 1) := by decide +kernel
theorem dX6_append_0 : decode cX6_append 0 = .ok (.aload_n 0, 1) := by decide +kernel
theorem dX6_append_1 : decode cX6_append 1 = .ok (.iload_n 1, 1) := by decide +kernel
theorem dX6_append_2 : decode cX6_append 2 = .ok (.i2l, 1) := by decide +kernel
theorem dX6_append_3 : decode cX6_append 3 = .ok (.lconst 0, 1) := by decide +kernel
theorem dX6_append_4 : decode cX6_append 4 = .ok (.ldc2_w 103, 3) := by decide +kernel
theorem dX6_append_7 : decode cX6_append 7 = .ok (.invokestatic 37, 3) := by decide +kernel
theorem dX6_append_10 : decode cX6_append 10 = .ok (.ifCond .ne 7, 3) := by decide +kernel
theorem dX6_append_13 : decode cX6_append 13 = .ok (.iconst 1, 1) := by decide +kernel
theorem dX6_append_14 : decode cX6_append 14 = .ok (.goto 17, 3) := by decide +kernel
theorem dX6_append_17 : decode cX6_append 17 = .ok (.aload_n 0, 1) := by decide +kernel
theorem dX6_append_18 : decode cX6_append 18 = .ok (.getfield 105, 3) := by decide +kernel
theorem dX6_append_21 : decode cX6_append 21 = .ok (.bipush 120, 2) := by decide +kernel
theorem dX6_append_23 : decode cX6_append 23 = .ok (.if_icmp .ne 7, 3) := by decide +kernel
theorem dX6_append_26 : decode cX6_append 26 = .ok (.iconst 2, 1) := by decide +kernel
theorem dX6_append_27 : decode cX6_append 27 = .ok (.goto 4, 3) := by decide +kernel
theorem dX6_append_30 : decode cX6_append 30 = .ok (.iconst 0, 1) := by decide +kernel
theorem dX6_append_31 : decode cX6_append 31 = .ok (.invokevirtual 108, 3) := by decide +kernel
theorem dX6_append_34 : decode cX6_append 34 = .ok (.ifCond .eq 5, 3) := by decide +kernel
theorem dX6_append_37 : decode cX6_append 37 = .ok (.iconst 0, 1) := by decide +kernel
theorem dX6_append_38 : decode cX6_append 38 = .ok (.ireturn, 1) := by decide +kernel
theorem dX6_append_39 : decode cX6_append 39 = .ok (.aload_n 0, 1) := by decide +kernel
theorem dX6_append_40 : decode cX6_append 40 = .ok (.getfield 7, 3) := by decide +kernel
theorem dX6_append_43 : decode cX6_append 43 = .ok (.aload_n 0, 1) := by decide +kernel
theorem dX6_append_44 : decode cX6_append 44 = .ok (.getfield 105, 3) := by decide +kernel
theorem dX6_append_47 : decode cX6_append 47 = .ok (.iload_n 1, 1) := by decide +kernel
theorem dX6_append_48 : decode cX6_append 48 = .ok (.iastore, 1) := by decide +kernel
theorem dX6_append_49 : decode cX6_append 49 = .ok (.aload_n 0, 1) := by decide +kernel
theorem dX6_append_50 : decode cX6_append 50 = .ok (.dup, 1) := by decide +kernel
theorem dX6_append_51 : decode cX6_append 51 = .ok (.getfield 105, 3) := by decide +kernel
theorem dX6_append_54 : decode cX6_append 54 = .ok (.iconst 1, 1) := by decide +kernel
theorem dX6_append_55 : decode cX6_append 55 = .ok (.iadd, 1) := by decide +kernel
theorem dX6_append_56 : decode cX6_append 56 = .ok (.putfield 105, 3) := by decide +kernel
theorem dX6_append_59 : decode cX6_append 59 = .ok (.aload_n 0, 1) := by decide +kernel
theorem dX6_append_60 : decode cX6_append 60 = .ok (.getfield 105, 3) := by decide +kernel
theorem dX6_append_63 : decode cX6_append 63 = .ok (.ireturn, 1) := by decide +kernel
theorem dX6_clearText_0 : decode cX6_clearText 0 = .ok (.aload_n 0, 1) := by decide +kernel
theorem dX6_clearText_1 : decode cX6_clearText 1 = .ok (.iconst 0, 1) := by decide +kernel
theorem dX6_clearText_2 : decode cX6_clearText 2 = .ok (.putfield 33, 3) := by decide +kernel
theorem dX6_clearText_5 : decode cX6_clearText 5 = .ok (.aload_n 0, 1) := by decide +kernel
theorem dX6_clearText_6 : decode cX6_clearText 6 = .ok (.getfield 105, 3) := by decide +kernel
theorem dX6_clearText_9 : decode cX6_clearText 9 = .ok (.istore_n 1, 1) := by decide +kernel
theorem dX6_clearText_10 : decode cX6_clearText 10 = .ok (.aload_n 0, 1) := by decide +kernel
theorem dX6_clearText_11 : decode cX6_clearText 11 = .ok (.iconst 0, 1) := by decide +kernel
theorem dX6_clearText_12 : decode cX6_clearText 12 = .ok (.putfield 105, 3) := by decide +kernel
theorem dX6_clearText_15 : decode cX6_clearText 15 = .ok (.iload_n 1, 1) := by decide +kernel
theorem dX6_clearText_16 : decode cX6_clearText 16 = .ok (.ireturn, 1) := by decide +kernel
theorem dX6_figures_0 : decode cX6_figures 0 = .ok (.iconst 0, 1) := by decide +kernel
theorem dX6_figures_1 : decode cX6_figures 1 = .ok (.istore 5, 2) := by decide +kernel
theorem dX6_figures_3 : decode cX6_figures 3 = .ok (.iload_n 2, 1) := by decide +kernel
theorem dX6_figures_4 : decode cX6_figures 4 = .ok (.istore 6, 2) := by decide +kernel
theorem dX6_figures_6 : decode cX6_figures 6 = .ok (.iload 6, 2) := by decide +kernel
theorem dX6_figures_8 : decode cX6_figures 8 = .ok (.ifCond .le 104, 3) := by decide +kernel
theorem dX6_figures_11 : decode cX6_figures 11 = .ok (.iload_n 1, 1) := by decide +kernel
theorem dX6_figures_12 : decode cX6_figures 12 = .ok (.iconst (-1), 1) := by decide +kernel
theorem dX6_figures_13 : decode cX6_figures 13 = .ok (.if_icmp .eq 99, 3) := by decide +kernel
theorem dX6_figures_16 : decode cX6_figures 16 = .ok (.aload_n 0, 1) := by decide +kernel
theorem dX6_figures_17 : decode cX6_figures 17 = .ok (.getfield 112, 3) := by decide +kernel
theorem dX6_figures_20 : decode cX6_figures 20 = .ok (.aload_n 0, 1) := by decide +kernel
theorem dX6_figures_21 : decode cX6_figures 21 = .ok (.getfield 105, 3) := by decide +kernel
theorem dX6_figures_24 : decode cX6_figures 24 = .ok (.if_icmp .ge 18, 3) := by decide +kernel
theorem dX6_figures_27 : decode cX6_figures 27 = .ok (.aload_n 0, 1) := by decide +kernel
theorem dX6_figures_28 : decode cX6_figures 28 = .ok (.getfield 7, 3) := by decide +kernel
theorem dX6_figures_31 : decode cX6_figures 31 = .ok (.aload_n 0, 1) := by decide +kernel
theorem dX6_figures_32 : decode cX6_figures 32 = .ok (.getfield 112, 3) := by decide +kernel
theorem dX6_figures_35 : decode cX6_figures 35 = .ok (.iaload, 1) := by decide +kernel
theorem dX6_figures_36 : decode cX6_figures 36 = .ok (.bipush 48, 2) := by decide +kernel
theorem dX6_figures_38 : decode cX6_figures 38 = .ok (.isub, 1) := by decide +kernel
theorem dX6_figures_39 : decode cX6_figures 39 = .ok (.goto 4, 3) := by decide +kernel
theorem dX6_figures_42 : decode cX6_figures 42 = .ok (.iconst (-1), 1) := by decide +kernel
theorem dX6_figures_43 : decode cX6_figures 43 = .ok (.istore 7, 2) := by decide +kernel
theorem dX6_figures_45 : decode cX6_figures 45 = .ok (.iload 5, 2) := by decide +kernel
theorem dX6_figures_47 : decode cX6_figures 47 = .ok (.iload 7, 2) := by decide +kernel
theorem dX6_figures_49 : decode cX6_figures 49 = .ok (.iload 6, 2) := by decide +kernel
theorem dX6_figures_51 : decode cX6_figures 51 = .ok (.imul, 1) := by decide +kernel
theorem dX6_figures_52 : decode cX6_figures 52 = .ok (.iadd, 1) := by decide +kernel
theorem dX6_figures_53 : decode cX6_figures 53 = .ok (.istore 8, 2) := by decide +kernel
theorem dX6_figures_55 : decode cX6_figures 55 = .ok (.iload 7, 2) := by decide +kernel
theorem dX6_figures_57 : decode cX6_figures 57 = .ok (.i2l, 1) := by decide +kernel
theorem dX6_figures_58 : decode cX6_figures 58 = .ok (.lconst 0, 1) := by decide +kernel
theorem dX6_figures_59 : decode cX6_figures 59 = .ok (.ldc2_w 47, 3) := by decide +kernel
theorem dX6_figures_62 : decode cX6_figures 62 = .ok (.invokestatic 37, 3) := by decide +kernel
theorem dX6_figures_65 : decode cX6_figures 65 = .ok (.ifCond .eq 21, 3) := by decide +kernel
theorem dX6_figures_68 : decode cX6_figures 68 = .ok (.iload 8, 2) := by decide +kernel
theorem dX6_figures_70 : decode cX6_figures 70 = .ok (.iload 4, 2) := by decide +kernel
theorem dX6_figures_72 : decode cX6_figures 72 = .ok (.if_icmp .gt 14, 3) := by decide +kernel
theorem dX6_figures_75 : decode cX6_figures 75 = .ok (.iload 8, 2) := by decide +kernel
theorem dX6_figures_77 : decode cX6_figures 77 = .ok (.iload 6, 2) := by decide +kernel
theorem dX6_figures_79 : decode cX6_figures 79 = .ok (.iadd, 1) := by decide +kernel
theorem dX6_figures_80 : decode cX6_figures 80 = .ok (.iconst 1, 1) := by decide +kernel
theorem dX6_figures_81 : decode cX6_figures 81 = .ok (.isub, 1) := by decide +kernel
theorem dX6_figures_82 : decode cX6_figures 82 = .ok (.iload_n 3, 1) := by decide +kernel
theorem dX6_figures_83 : decode cX6_figures 83 = .ok (.if_icmp .ge 5, 3) := by decide +kernel
theorem dX6_figures_86 : decode cX6_figures 86 = .ok (.iconst (-1), 1) := by decide +kernel
theorem dX6_figures_87 : decode cX6_figures 87 = .ok (.ireturn, 1) := by decide +kernel
theorem dX6_figures_88 : decode cX6_figures 88 = .ok (.iload 8, 2) := by decide +kernel
theorem dX6_figures_90 : decode cX6_figures 90 = .ok (.istore 5, 2) := by decide +kernel
theorem dX6_figures_92 : decode cX6_figures 92 = .ok (.aload_n 0, 1) := by decide +kernel
theorem dX6_figures_93 : decode cX6_figures 93 = .ok (.dup, 1) := by decide +kernel
theorem dX6_figures_94 : decode cX6_figures 94 = .ok (.getfield 112, 3) := by decide +kernel
theorem dX6_figures_97 : decode cX6_figures 97 = .ok (.iconst 1, 1) := by decide +kernel
theorem dX6_figures_98 : decode cX6_figures 98 = .ok (.iadd, 1) := by decide +kernel
theorem dX6_figures_99 : decode cX6_figures 99 = .ok (.putfield 112, 3) := by decide +kernel
theorem dX6_figures_102 : decode cX6_figures 102 = .ok (.iload 6, 2) := by decide +kernel
theorem dX6_figures_104 : decode cX6_figures 104 = .ok (.bipush 10, 2) := by decide +kernel
theorem dX6_figures_106 : decode cX6_figures 106 = .ok (.idiv, 1) := by decide +kernel
theorem dX6_figures_107 : decode cX6_figures 107 = .ok (.istore 6, 2) := by decide +kernel
theorem dX6_figures_109 : decode cX6_figures 109 = .ok (.goto (-103), 3) := by decide +kernel
theorem dX6_figures_112 : decode cX6_figures 112 = .ok (.iload_n 1, 1) := by decide +kernel
theorem dX6_figures_113 : decode cX6_figures 113 = .ok (.iconst (-1), 1) := by decide +kernel
theorem dX6_figures_114 : decode cX6_figures 114 = .ok (.if_icmp .ne 7, 3) := by decide +kernel
theorem dX6_figures_117 : decode cX6_figures 117 = .ok (.iconst (-1), 1) := by decide +kernel
theorem dX6_figures_118 : decode cX6_figures 118 = .ok (.goto 5, 3) := by decide +kernel
theorem dX6_figures_121 : decode cX6_figures 121 = .ok (.iload 5, 2) := by decide +kernel
theorem dX6_figures_123 : decode cX6_figures 123 = .ok (.ireturn, 1) := by decide +kernel
theorem dX6_done_0 : decode cX6_done 0 = .ok (.aload_n 0, 1) := by decide +kernel
theorem dX6_done_1 : decode cX6_done 1 = .ok (.dup, 1) := by decide +kernel
theorem dX6_done_2 : decode cX6_done 2 = .ok (.getfield 115, 3) := by decide +kernel
theorem dX6_done_5 : decode cX6_done 5 = .ok (.iload_n 1, 1) := by decide +kernel
theorem dX6_done_6 : decode cX6_done 6 = .ok (.ifCond .eq 7, 3) := by decide +kernel
theorem dX6_done_9 : decode cX6_done 9 = .ok (.iconst 0, 1) := by decide +kernel
theorem dX6_done_10 : decode cX6_done 10 = .ok (.goto 4, 3) := by decide +kernel
theorem dX6_done_13 : decode cX6_done 13 = .ok (.iconst 1, 1) := by decide +kernel
theorem dX6_done_14 : decode cX6_done 14 = .ok (.iadd, 1) := by decide +kernel
theorem dX6_done_15 : decode cX6_done 15 = .ok (.putfield 115, 3) := by decide +kernel
theorem dX6_done_18 : decode cX6_done 18 = .ok (.iconst 1, 1) := by decide +kernel
theorem dX6_done_19 : decode cX6_done 19 = .ok (.ireturn, 1) := by decide +kernel
theorem dX6_customerSign_0 : decode cX6_customerSign 0 = .ok (.aload_n 0, 1) := by decide +kernel
theorem dX6_customerSign_1 : decode cX6_customerSign 1 = .ok (.iconst 0, 1) := by decide +kernel
theorem dX6_customerSign_2 : decode cX6_customerSign 2 = .ok (.iconst 1, 1) := by decide +kernel
theorem dX6_customerSign_3 : decode cX6_customerSign 3 = .ok (.iconst 0, 1) := by decide +kernel
theorem dX6_customerSign_4 : decode cX6_customerSign 4 = .ok (.bipush 9, 2) := by decide +kernel
theorem dX6_customerSign_6 : decode cX6_customerSign 6 = .ok (.invokevirtual 118, 3) := by decide +kernel
theorem dX6_customerSign_9 : decode cX6_customerSign 9 = .ok (.ireturn, 1) := by decide +kernel
theorem dX6_streetSign_0 : decode cX6_streetSign 0 = .ok (.aload_n 0, 1) := by decide +kernel
theorem dX6_streetSign_1 : decode cX6_streetSign 1 = .ok (.iload_n 1, 1) := by decide +kernel
theorem dX6_streetSign_2 : decode cX6_streetSign 2 = .ok (.iconst 1, 1) := by decide +kernel
theorem dX6_streetSign_3 : decode cX6_streetSign 3 = .ok (.iconst 0, 1) := by decide +kernel
theorem dX6_streetSign_4 : decode cX6_streetSign 4 = .ok (.iconst 3, 1) := by decide +kernel
theorem dX6_streetSign_5 : decode cX6_streetSign 5 = .ok (.invokevirtual 118, 3) := by decide +kernel
theorem dX6_streetSign_8 : decode cX6_streetSign 8 = .ok (.ireturn, 1) := by decide +kernel
theorem dX6_readCustomer_0 : decode cX6_readCustomer 0 = .ok (.aload_n 0, 1) := by decide +kernel
theorem dX6_readCustomer_1 : decode cX6_readCustomer 1 = .ok (.iconst 0, 1) := by decide +kernel
theorem dX6_readCustomer_2 : decode cX6_readCustomer 2 = .ok (.invokevirtual 122, 3) := by decide +kernel
theorem dX6_readCustomer_5 : decode cX6_readCustomer 5 = .ok (.istore_n 2, 1) := by decide +kernel
theorem dX6_readCustomer_6 : decode cX6_readCustomer 6 = .ok (.aload_n 0, 1) := by decide +kernel
theorem dX6_readCustomer_7 : decode cX6_readCustomer 7 = .ok (.iload_n 2, 1) := by decide +kernel
theorem dX6_readCustomer_8 : decode cX6_readCustomer 8 = .ok (.ldc 126, 2) := by decide +kernel
theorem dX6_readCustomer_10 : decode cX6_readCustomer 10 = .ok (.iconst 0, 1) := by decide +kernel
theorem dX6_readCustomer_11 : decode cX6_readCustomer 11 = .ok (.ldc 127, 2) := by decide +kernel
theorem dX6_readCustomer_13 : decode cX6_readCustomer 13 = .ok (.invokevirtual 118, 3) := by decide +kernel
theorem dX6_readCustomer_16 : decode cX6_readCustomer 16 = .ok (.istore_n 3, 1) := by decide +kernel
theorem dX6_readCustomer_17 : decode cX6_readCustomer 17 = .ok (.iload_n 3, 1) := by decide +kernel
theorem dX6_readCustomer_18 : decode cX6_readCustomer 18 = .ok (.iconst (-1), 1) := by decide +kernel
theorem dX6_readCustomer_19 : decode cX6_readCustomer 19 = .ok (.if_icmp .eq 36, 3) := by decide +kernel
theorem dX6_readCustomer_22 : decode cX6_readCustomer 22 = .ok (.aload_n 0, 1) := by decide +kernel
theorem dX6_readCustomer_23 : decode cX6_readCustomer 23 = .ok (.aload_n 1, 1) := by decide +kernel
theorem dX6_readCustomer_24 : decode cX6_readCustomer 24 = .ok (.iconst 0, 1) := by decide +kernel
theorem dX6_readCustomer_25 : decode cX6_readCustomer 25 = .ok (.iaload, 1) := by decide +kernel
theorem dX6_readCustomer_26 : decode cX6_readCustomer 26 = .ok (.bipush 10, 2) := by decide +kernel
theorem dX6_readCustomer_28 : decode cX6_readCustomer 28 = .ok (.if_icmp .ge 16, 3) := by decide +kernel
theorem dX6_readCustomer_31 : decode cX6_readCustomer 31 = .ok (.aload_n 1, 1) := by decide +kernel
theorem dX6_readCustomer_32 : decode cX6_readCustomer 32 = .ok (.iload_n 2, 1) := by decide +kernel
theorem dX6_readCustomer_33 : decode cX6_readCustomer 33 = .ok (.iload_n 3, 1) := by decide +kernel
theorem dX6_readCustomer_34 : decode cX6_readCustomer 34 = .ok (.invokestatic 128, 3) := by decide +kernel
theorem dX6_readCustomer_37 : decode cX6_readCustomer 37 = .ok (.ifCond .lt 7, 3) := by decide +kernel
theorem dX6_readCustomer_40 : decode cX6_readCustomer 40 = .ok (.iconst 1, 1) := by decide +kernel
theorem dX6_readCustomer_41 : decode cX6_readCustomer 41 = .ok (.goto 4, 3) := by decide +kernel
theorem dX6_readCustomer_44 : decode cX6_readCustomer 44 = .ok (.iconst 0, 1) := by decide +kernel
theorem dX6_readCustomer_45 : decode cX6_readCustomer 45 = .ok (.invokevirtual 131, 3) := by decide +kernel
theorem dX6_readCustomer_48 : decode cX6_readCustomer 48 = .ok (.ifCond .eq 7, 3) := by decide +kernel
theorem dX6_readCustomer_51 : decode cX6_readCustomer 51 = .ok (.iconst 1, 1) := by decide +kernel
theorem dX6_readCustomer_52 : decode cX6_readCustomer 52 = .ok (.goto 4, 3) := by decide +kernel
theorem dX6_readCustomer_55 : decode cX6_readCustomer 55 = .ok (.iconst 0, 1) := by decide +kernel
theorem dX6_readCustomer_56 : decode cX6_readCustomer 56 = .ok (.ireturn, 1) := by decide +kernel
theorem dX6_readChange_0 : decode cX6_readChange 0 = .ok (.aload_n 0, 1) := by decide +kernel
theorem dX6_readChange_1 : decode cX6_readChange 1 = .ok (.invokevirtual 135, 3) := by decide +kernel
theorem dX6_readChange_4 : decode cX6_readChange 4 = .ok (.istore_n 2, 1) := by decide +kernel
theorem dX6_readChange_5 : decode cX6_readChange 5 = .ok (.aload_n 0, 1) := by decide +kernel
theorem dX6_readChange_6 : decode cX6_readChange 6 = .ok (.iload_n 2, 1) := by decide +kernel
theorem dX6_readChange_7 : decode cX6_readChange 7 = .ok (.iconst 1, 1) := by decide +kernel
theorem dX6_readChange_8 : decode cX6_readChange 8 = .ok (.iconst 0, 1) := by decide +kernel
theorem dX6_readChange_9 : decode cX6_readChange 9 = .ok (.bipush 6, 2) := by decide +kernel
theorem dX6_readChange_11 : decode cX6_readChange 11 = .ok (.invokevirtual 118, 3) := by decide +kernel
theorem dX6_readChange_14 : decode cX6_readChange 14 = .ok (.istore_n 3, 1) := by decide +kernel
theorem dX6_readChange_15 : decode cX6_readChange 15 = .ok (.aload_n 0, 1) := by decide +kernel
theorem dX6_readChange_16 : decode cX6_readChange 16 = .ok (.iload_n 3, 1) := by decide +kernel
theorem dX6_readChange_17 : decode cX6_readChange 17 = .ok (.iconst 1, 1) := by decide +kernel
theorem dX6_readChange_18 : decode cX6_readChange 18 = .ok (.iconst 0, 1) := by decide +kernel
theorem dX6_readChange_19 : decode cX6_readChange 19 = .ok (.bipush 9, 2) := by decide +kernel
theorem dX6_readChange_21 : decode cX6_readChange 21 = .ok (.invokevirtual 118, 3) := by decide +kernel
theorem dX6_readChange_24 : decode cX6_readChange 24 = .ok (.istore 4, 2) := by decide +kernel
theorem dX6_readChange_26 : decode cX6_readChange 26 = .ok (.iload 4, 2) := by decide +kernel
theorem dX6_readChange_28 : decode cX6_readChange 28 = .ok (.iconst (-1), 1) := by decide +kernel
theorem dX6_readChange_29 : decode cX6_readChange 29 = .ok (.if_icmp .eq 38, 3) := by decide +kernel
theorem dX6_readChange_32 : decode cX6_readChange 32 = .ok (.aload_n 0, 1) := by decide +kernel
theorem dX6_readChange_33 : decode cX6_readChange 33 = .ok (.aload_n 1, 1) := by decide +kernel
theorem dX6_readChange_34 : decode cX6_readChange 34 = .ok (.iload_n 2, 1) := by decide +kernel
theorem dX6_readChange_35 : decode cX6_readChange 35 = .ok (.invokestatic 139, 3) := by decide +kernel
theorem dX6_readChange_38 : decode cX6_readChange 38 = .ok (.ifCond .eq 18, 3) := by decide +kernel
theorem dX6_readChange_41 : decode cX6_readChange 41 = .ok (.aload_n 1, 1) := by decide +kernel
theorem dX6_readChange_42 : decode cX6_readChange 42 = .ok (.iload_n 2, 1) := by decide +kernel
theorem dX6_readChange_43 : decode cX6_readChange 43 = .ok (.iload_n 3, 1) := by decide +kernel
theorem dX6_readChange_44 : decode cX6_readChange 44 = .ok (.iload 4, 2) := by decide +kernel
theorem dX6_readChange_46 : decode cX6_readChange 46 = .ok (.invokestatic 143, 3) := by decide +kernel
theorem dX6_readChange_49 : decode cX6_readChange 49 = .ok (.ifCond .lt 7, 3) := by decide +kernel
theorem dX6_readChange_52 : decode cX6_readChange 52 = .ok (.iconst 1, 1) := by decide +kernel
theorem dX6_readChange_53 : decode cX6_readChange 53 = .ok (.goto 4, 3) := by decide +kernel
theorem dX6_readChange_56 : decode cX6_readChange 56 = .ok (.iconst 0, 1) := by decide +kernel
theorem dX6_readChange_57 : decode cX6_readChange 57 = .ok (.invokevirtual 131, 3) := by decide +kernel
theorem dX6_readChange_60 : decode cX6_readChange 60 = .ok (.ifCond .eq 7, 3) := by decide +kernel
theorem dX6_readChange_63 : decode cX6_readChange 63 = .ok (.iconst 1, 1) := by decide +kernel
theorem dX6_readChange_64 : decode cX6_readChange 64 = .ok (.goto 4, 3) := by decide +kernel
theorem dX6_readChange_67 : decode cX6_readChange 67 = .ok (.iconst 0, 1) := by decide +kernel
theorem dX6_readChange_68 : decode cX6_readChange 68 = .ok (.ireturn, 1) := by decide +kernel
theorem dX6_readHoliday_0 : decode cX6_readHoliday 0 = .ok (.aload_n 0, 1) := by decide +kernel
theorem dX6_readHoliday_1 : decode cX6_readHoliday 1 = .ok (.invokevirtual 135, 3) := by decide +kernel
theorem dX6_readHoliday_4 : decode cX6_readHoliday 4 = .ok (.istore_n 2, 1) := by decide +kernel
theorem dX6_readHoliday_5 : decode cX6_readHoliday 5 = .ok (.aload_n 0, 1) := by decide +kernel
theorem dX6_readHoliday_6 : decode cX6_readHoliday 6 = .ok (.iload_n 2, 1) := by decide +kernel
theorem dX6_readHoliday_7 : decode cX6_readHoliday 7 = .ok (.bipush 10, 2) := by decide +kernel
theorem dX6_readHoliday_9 : decode cX6_readHoliday 9 = .ok (.iconst 0, 1) := by decide +kernel
theorem dX6_readHoliday_10 : decode cX6_readHoliday 10 = .ok (.bipush 99, 2) := by decide +kernel
theorem dX6_readHoliday_12 : decode cX6_readHoliday 12 = .ok (.invokevirtual 118, 3) := by decide +kernel
theorem dX6_readHoliday_15 : decode cX6_readHoliday 15 = .ok (.istore_n 3, 1) := by decide +kernel
theorem dX6_readHoliday_16 : decode cX6_readHoliday 16 = .ok (.aload_n 0, 1) := by decide +kernel
theorem dX6_readHoliday_17 : decode cX6_readHoliday 17 = .ok (.iload_n 3, 1) := by decide +kernel
theorem dX6_readHoliday_18 : decode cX6_readHoliday 18 = .ok (.bipush 10, 2) := by decide +kernel
theorem dX6_readHoliday_20 : decode cX6_readHoliday 20 = .ok (.iconst 0, 1) := by decide +kernel
theorem dX6_readHoliday_21 : decode cX6_readHoliday 21 = .ok (.bipush 99, 2) := by decide +kernel
theorem dX6_readHoliday_23 : decode cX6_readHoliday 23 = .ok (.invokevirtual 118, 3) := by decide +kernel
theorem dX6_readHoliday_26 : decode cX6_readHoliday 26 = .ok (.istore 4, 2) := by decide +kernel
theorem dX6_readHoliday_28 : decode cX6_readHoliday 28 = .ok (.iload 4, 2) := by decide +kernel
theorem dX6_readHoliday_30 : decode cX6_readHoliday 30 = .ok (.iconst (-1), 1) := by decide +kernel
theorem dX6_readHoliday_31 : decode cX6_readHoliday 31 = .ok (.if_icmp .eq 55, 3) := by decide +kernel
theorem dX6_readHoliday_34 : decode cX6_readHoliday 34 = .ok (.aload_n 0, 1) := by decide +kernel
theorem dX6_readHoliday_35 : decode cX6_readHoliday 35 = .ok (.aload_n 1, 1) := by decide +kernel
theorem dX6_readHoliday_36 : decode cX6_readHoliday 36 = .ok (.iload_n 2, 1) := by decide +kernel
theorem dX6_readHoliday_37 : decode cX6_readHoliday 37 = .ok (.invokestatic 139, 3) := by decide +kernel
theorem dX6_readHoliday_40 : decode cX6_readHoliday 40 = .ok (.ifCond .eq 35, 3) := by decide +kernel
theorem dX6_readHoliday_43 : decode cX6_readHoliday 43 = .ok (.iload_n 3, 1) := by decide +kernel
theorem dX6_readHoliday_44 : decode cX6_readHoliday 44 = .ok (.iload 4, 2) := by decide +kernel
theorem dX6_readHoliday_46 : decode cX6_readHoliday 46 = .ok (.if_icmp .gt 29, 3) := by decide +kernel
theorem dX6_readHoliday_49 : decode cX6_readHoliday 49 = .ok (.aload_n 1, 1) := by decide +kernel
theorem dX6_readHoliday_50 : decode cX6_readHoliday 50 = .ok (.iload_n 2, 1) := by decide +kernel
theorem dX6_readHoliday_51 : decode cX6_readHoliday 51 = .ok (.bipush 14, 2) := by decide +kernel
theorem dX6_readHoliday_53 : decode cX6_readHoliday 53 = .ok (.invokestatic 53, 3) := by decide +kernel
theorem dX6_readHoliday_56 : decode cX6_readHoliday 56 = .ok (.iconst 3, 1) := by decide +kernel
theorem dX6_readHoliday_57 : decode cX6_readHoliday 57 = .ok (.if_icmp .ge 18, 3) := by decide +kernel
theorem dX6_readHoliday_60 : decode cX6_readHoliday 60 = .ok (.aload_n 1, 1) := by decide +kernel
theorem dX6_readHoliday_61 : decode cX6_readHoliday 61 = .ok (.iload_n 2, 1) := by decide +kernel
theorem dX6_readHoliday_62 : decode cX6_readHoliday 62 = .ok (.iload_n 3, 1) := by decide +kernel
theorem dX6_readHoliday_63 : decode cX6_readHoliday 63 = .ok (.iload 4, 2) := by decide +kernel
theorem dX6_readHoliday_65 : decode cX6_readHoliday 65 = .ok (.invokestatic 146, 3) := by decide +kernel
theorem dX6_readHoliday_68 : decode cX6_readHoliday 68 = .ok (.ifCond .le 7, 3) := by decide +kernel
theorem dX6_readHoliday_71 : decode cX6_readHoliday 71 = .ok (.iconst 1, 1) := by decide +kernel
theorem dX6_readHoliday_72 : decode cX6_readHoliday 72 = .ok (.goto 4, 3) := by decide +kernel
theorem dX6_readHoliday_75 : decode cX6_readHoliday 75 = .ok (.iconst 0, 1) := by decide +kernel
theorem dX6_readHoliday_76 : decode cX6_readHoliday 76 = .ok (.invokevirtual 131, 3) := by decide +kernel
theorem dX6_readHoliday_79 : decode cX6_readHoliday 79 = .ok (.ifCond .eq 7, 3) := by decide +kernel
theorem dX6_readHoliday_82 : decode cX6_readHoliday 82 = .ok (.iconst 1, 1) := by decide +kernel
theorem dX6_readHoliday_83 : decode cX6_readHoliday 83 = .ok (.goto 4, 3) := by decide +kernel
theorem dX6_readHoliday_86 : decode cX6_readHoliday 86 = .ok (.iconst 0, 1) := by decide +kernel
theorem dX6_readHoliday_87 : decode cX6_readHoliday 87 = .ok (.ireturn, 1) := by decide +kernel
theorem dX6_readClose_0 : decode cX6_readClose 0 = .ok (.aload_n 0, 1) := by decide +kernel
theorem dX6_readClose_1 : decode cX6_readClose 1 = .ok (.iconst 0, 1) := by decide +kernel
theorem dX6_readClose_2 : decode cX6_readClose 2 = .ok (.invokevirtual 122, 3) := by decide +kernel
theorem dX6_readClose_5 : decode cX6_readClose 5 = .ok (.istore_n 2, 1) := by decide +kernel
theorem dX6_readClose_6 : decode cX6_readClose 6 = .ok (.aload_n 0, 1) := by decide +kernel
theorem dX6_readClose_7 : decode cX6_readClose 7 = .ok (.iload_n 2, 1) := by decide +kernel
theorem dX6_readClose_8 : decode cX6_readClose 8 = .ok (.iconst 1, 1) := by decide +kernel
theorem dX6_readClose_9 : decode cX6_readClose 9 = .ok (.iconst 0, 1) := by decide +kernel
theorem dX6_readClose_10 : decode cX6_readClose 10 = .ok (.bipush 6, 2) := by decide +kernel
theorem dX6_readClose_12 : decode cX6_readClose 12 = .ok (.invokevirtual 118, 3) := by decide +kernel
theorem dX6_readClose_15 : decode cX6_readClose 15 = .ok (.istore_n 3, 1) := by decide +kernel
theorem dX6_readClose_16 : decode cX6_readClose 16 = .ok (.iload_n 3, 1) := by decide +kernel
theorem dX6_readClose_17 : decode cX6_readClose 17 = .ok (.iconst (-1), 1) := by decide +kernel
theorem dX6_readClose_18 : decode cX6_readClose 18 = .ok (.if_icmp .eq 42, 3) := by decide +kernel
theorem dX6_readClose_21 : decode cX6_readClose 21 = .ok (.aload_n 0, 1) := by decide +kernel
theorem dX6_readClose_22 : decode cX6_readClose 22 = .ok (.getfield 112, 3) := by decide +kernel
theorem dX6_readClose_25 : decode cX6_readClose 25 = .ok (.aload_n 0, 1) := by decide +kernel
theorem dX6_readClose_26 : decode cX6_readClose 26 = .ok (.getfield 105, 3) := by decide +kernel
theorem dX6_readClose_29 : decode cX6_readClose 29 = .ok (.if_icmp .eq 31, 3) := by decide +kernel
theorem dX6_readClose_32 : decode cX6_readClose 32 = .ok (.aload_n 0, 1) := by decide +kernel
theorem dX6_readClose_33 : decode cX6_readClose 33 = .ok (.getfield 7, 3) := by decide +kernel
theorem dX6_readClose_36 : decode cX6_readClose 36 = .ok (.aload_n 0, 1) := by decide +kernel
theorem dX6_readClose_37 : decode cX6_readClose 37 = .ok (.getfield 112, 3) := by decide +kernel
theorem dX6_readClose_40 : decode cX6_readClose 40 = .ok (.iaload, 1) := by decide +kernel
theorem dX6_readClose_41 : decode cX6_readClose 41 = .ok (.bipush 43, 2) := by decide +kernel
theorem dX6_readClose_43 : decode cX6_readClose 43 = .ok (.if_icmp .eq 19, 3) := by decide +kernel
theorem dX6_readClose_46 : decode cX6_readClose 46 = .ok (.aload_n 0, 1) := by decide +kernel
theorem dX6_readClose_47 : decode cX6_readClose 47 = .ok (.getfield 7, 3) := by decide +kernel
theorem dX6_readClose_50 : decode cX6_readClose 50 = .ok (.aload_n 0, 1) := by decide +kernel
theorem dX6_readClose_51 : decode cX6_readClose 51 = .ok (.getfield 112, 3) := by decide +kernel
theorem dX6_readClose_54 : decode cX6_readClose 54 = .ok (.iaload, 1) := by decide +kernel
theorem dX6_readClose_55 : decode cX6_readClose 55 = .ok (.bipush 45, 2) := by decide +kernel
theorem dX6_readClose_57 : decode cX6_readClose 57 = .ok (.if_icmp .eq 5, 3) := by decide +kernel
theorem dX6_readClose_60 : decode cX6_readClose 60 = .ok (.iconst 0, 1) := by decide +kernel
theorem dX6_readClose_61 : decode cX6_readClose 61 = .ok (.ireturn, 1) := by decide +kernel
theorem dX6_readClose_62 : decode cX6_readClose 62 = .ok (.aload_n 0, 1) := by decide +kernel
theorem dX6_readClose_63 : decode cX6_readClose 63 = .ok (.getfield 7, 3) := by decide +kernel
theorem dX6_readClose_66 : decode cX6_readClose 66 = .ok (.aload_n 0, 1) := by decide +kernel
theorem dX6_readClose_67 : decode cX6_readClose 67 = .ok (.getfield 112, 3) := by decide +kernel
theorem dX6_readClose_70 : decode cX6_readClose 70 = .ok (.iaload, 1) := by decide +kernel
theorem dX6_readClose_71 : decode cX6_readClose 71 = .ok (.bipush 43, 2) := by decide +kernel
theorem dX6_readClose_73 : decode cX6_readClose 73 = .ok (.if_icmp .ne 7, 3) := by decide +kernel
theorem dX6_readClose_76 : decode cX6_readClose 76 = .ok (.iconst 1, 1) := by decide +kernel
theorem dX6_readClose_77 : decode cX6_readClose 77 = .ok (.goto 4, 3) := by decide +kernel
theorem dX6_readClose_80 : decode cX6_readClose 80 = .ok (.iconst 0, 1) := by decide +kernel
theorem dX6_readClose_81 : decode cX6_readClose 81 = .ok (.istore 4, 2) := by decide +kernel
theorem dX6_readClose_83 : decode cX6_readClose 83 = .ok (.aload_n 0, 1) := by decide +kernel
theorem dX6_readClose_84 : decode cX6_readClose 84 = .ok (.dup, 1) := by decide +kernel
theorem dX6_readClose_85 : decode cX6_readClose 85 = .ok (.getfield 112, 3) := by decide +kernel
theorem dX6_readClose_88 : decode cX6_readClose 88 = .ok (.iconst 1, 1) := by decide +kernel
theorem dX6_readClose_89 : decode cX6_readClose 89 = .ok (.iadd, 1) := by decide +kernel
theorem dX6_readClose_90 : decode cX6_readClose 90 = .ok (.putfield 112, 3) := by decide +kernel
theorem dX6_readClose_93 : decode cX6_readClose 93 = .ok (.aload_n 0, 1) := by decide +kernel
theorem dX6_readClose_94 : decode cX6_readClose 94 = .ok (.aload_n 1, 1) := by decide +kernel
theorem dX6_readClose_95 : decode cX6_readClose 95 = .ok (.iload_n 2, 1) := by decide +kernel
theorem dX6_readClose_96 : decode cX6_readClose 96 = .ok (.iload_n 3, 1) := by decide +kernel
theorem dX6_readClose_97 : decode cX6_readClose 97 = .ok (.iload 4, 2) := by decide +kernel
theorem dX6_readClose_99 : decode cX6_readClose 99 = .ok (.invokestatic 149, 3) := by decide +kernel
theorem dX6_readClose_102 : decode cX6_readClose 102 = .ok (.ifCond .lt 7, 3) := by decide +kernel
theorem dX6_readClose_105 : decode cX6_readClose 105 = .ok (.iconst 1, 1) := by decide +kernel
theorem dX6_readClose_106 : decode cX6_readClose 106 = .ok (.goto 4, 3) := by decide +kernel
theorem dX6_readClose_109 : decode cX6_readClose 109 = .ok (.iconst 0, 1) := by decide +kernel
theorem dX6_readClose_110 : decode cX6_readClose 110 = .ok (.invokevirtual 131, 3) := by decide +kernel
theorem dX6_readClose_113 : decode cX6_readClose 113 = .ok (.ireturn, 1) := by decide +kernel
theorem dX6_readCommand_0 : decode cX6_readCommand 0 = .ok (.aload_n 0, 1) := by decide +kernel
theorem dX6_readCommand_1 : decode cX6_readCommand 1 = .ok (.getfield 7, 3) := by decide +kernel
theorem dX6_readCommand_4 : decode cX6_readCommand 4 = .ok (.aload_n 0, 1) := by decide +kernel
theorem dX6_readCommand_5 : decode cX6_readCommand 5 = .ok (.getfield 112, 3) := by decide +kernel
theorem dX6_readCommand_8 : decode cX6_readCommand 8 = .ok (.iaload, 1) := by decide +kernel
theorem dX6_readCommand_9 : decode cX6_readCommand 9 = .ok (.istore_n 2, 1) := by decide +kernel
theorem dX6_readCommand_10 : decode cX6_readCommand 10 = .ok (.aload_n 0, 1) := by decide +kernel
theorem dX6_readCommand_11 : decode cX6_readCommand 11 = .ok (.dup, 1) := by decide +kernel
theorem dX6_readCommand_12 : decode cX6_readCommand 12 = .ok (.getfield 112, 3) := by decide +kernel
theorem dX6_readCommand_15 : decode cX6_readCommand 15 = .ok (.iconst 1, 1) := by decide +kernel
theorem dX6_readCommand_16 : decode cX6_readCommand 16 = .ok (.iadd, 1) := by decide +kernel
theorem dX6_readCommand_17 : decode cX6_readCommand 17 = .ok (.putfield 112, 3) := by decide +kernel
theorem dX6_readCommand_20 : decode cX6_readCommand 20 = .ok (.iload_n 2, 1) := by decide +kernel
theorem dX6_readCommand_21 : decode cX6_readCommand 21 = .ok (.tableswitch 283 99 120 #[103, 241, 283, 283, 283, 115, 283, 283, 283, 283, 283, 109, 283, 283, 283, 283, 174, 283, 283, 127, 283, 121], 103) := by decide +kernel
theorem dX6_readCommand_124 : decode cX6_readCommand 124 = .ok (.aload_n 0, 1) := by decide +kernel
theorem dX6_readCommand_125 : decode cX6_readCommand 125 = .ok (.aload_n 1, 1) := by decide +kernel
theorem dX6_readCommand_126 : decode cX6_readCommand 126 = .ok (.invokevirtual 153, 3) := by decide +kernel
theorem dX6_readCommand_129 : decode cX6_readCommand 129 = .ok (.ireturn, 1) := by decide +kernel
theorem dX6_readCommand_130 : decode cX6_readCommand 130 = .ok (.aload_n 0, 1) := by decide +kernel
theorem dX6_readCommand_131 : decode cX6_readCommand 131 = .ok (.aload_n 1, 1) := by decide +kernel
theorem dX6_readCommand_132 : decode cX6_readCommand 132 = .ok (.invokevirtual 157, 3) := by decide +kernel
theorem dX6_readCommand_135 : decode cX6_readCommand 135 = .ok (.ireturn, 1) := by decide +kernel
theorem dX6_readCommand_136 : decode cX6_readCommand 136 = .ok (.aload_n 0, 1) := by decide +kernel
theorem dX6_readCommand_137 : decode cX6_readCommand 137 = .ok (.aload_n 1, 1) := by decide +kernel
theorem dX6_readCommand_138 : decode cX6_readCommand 138 = .ok (.invokevirtual 160, 3) := by decide +kernel
theorem dX6_readCommand_141 : decode cX6_readCommand 141 = .ok (.ireturn, 1) := by decide +kernel
theorem dX6_readCommand_142 : decode cX6_readCommand 142 = .ok (.aload_n 0, 1) := by decide +kernel
theorem dX6_readCommand_143 : decode cX6_readCommand 143 = .ok (.aload_n 1, 1) := by decide +kernel
theorem dX6_readCommand_144 : decode cX6_readCommand 144 = .ok (.invokevirtual 163, 3) := by decide +kernel
theorem dX6_readCommand_147 : decode cX6_readCommand 147 = .ok (.ireturn, 1) := by decide +kernel
theorem dX6_readCommand_148 : decode cX6_readCommand 148 = .ok (.aload_n 0, 1) := by decide +kernel
theorem dX6_readCommand_149 : decode cX6_readCommand 149 = .ok (.iconst 0, 1) := by decide +kernel
theorem dX6_readCommand_150 : decode cX6_readCommand 150 = .ok (.invokevirtual 122, 3) := by decide +kernel
theorem dX6_readCommand_153 : decode cX6_readCommand 153 = .ok (.istore_n 3, 1) := by decide +kernel
theorem dX6_readCommand_154 : decode cX6_readCommand 154 = .ok (.aload_n 0, 1) := by decide +kernel
theorem dX6_readCommand_155 : decode cX6_readCommand 155 = .ok (.iload_n 3, 1) := by decide +kernel
theorem dX6_readCommand_156 : decode cX6_readCommand 156 = .ok (.invokevirtual 122, 3) := by decide +kernel
theorem dX6_readCommand_159 : decode cX6_readCommand 159 = .ok (.istore 4, 2) := by decide +kernel
theorem dX6_readCommand_161 : decode cX6_readCommand 161 = .ok (.iload 4, 2) := by decide +kernel
theorem dX6_readCommand_163 : decode cX6_readCommand 163 = .ok (.iconst (-1), 1) := by decide +kernel
theorem dX6_readCommand_164 : decode cX6_readCommand 164 = .ok (.if_icmp .eq 29, 3) := by decide +kernel
theorem dX6_readCommand_167 : decode cX6_readCommand 167 = .ok (.aload_n 0, 1) := by decide +kernel
theorem dX6_readCommand_168 : decode cX6_readCommand 168 = .ok (.aload_n 1, 1) := by decide +kernel
theorem dX6_readCommand_169 : decode cX6_readCommand 169 = .ok (.iload_n 3, 1) := by decide +kernel
theorem dX6_readCommand_170 : decode cX6_readCommand 170 = .ok (.iload 4, 2) := by decide +kernel
theorem dX6_readCommand_172 : decode cX6_readCommand 172 = .ok (.invokestatic 166, 3) := by decide +kernel
theorem dX6_readCommand_175 : decode cX6_readCommand 175 = .ok (.ifCond .lt 7, 3) := by decide +kernel
theorem dX6_readCommand_178 : decode cX6_readCommand 178 = .ok (.iconst 1, 1) := by decide +kernel
theorem dX6_readCommand_179 : decode cX6_readCommand 179 = .ok (.goto 4, 3) := by decide +kernel
theorem dX6_readCommand_182 : decode cX6_readCommand 182 = .ok (.iconst 0, 1) := by decide +kernel
theorem dX6_readCommand_183 : decode cX6_readCommand 183 = .ok (.invokevirtual 131, 3) := by decide +kernel
theorem dX6_readCommand_186 : decode cX6_readCommand 186 = .ok (.ifCond .eq 7, 3) := by decide +kernel
theorem dX6_readCommand_189 : decode cX6_readCommand 189 = .ok (.iconst 1, 1) := by decide +kernel
theorem dX6_readCommand_190 : decode cX6_readCommand 190 = .ok (.goto 4, 3) := by decide +kernel
theorem dX6_readCommand_193 : decode cX6_readCommand 193 = .ok (.iconst 0, 1) := by decide +kernel
theorem dX6_readCommand_194 : decode cX6_readCommand 194 = .ok (.ireturn, 1) := by decide +kernel
theorem dX6_readCommand_195 : decode cX6_readCommand 195 = .ok (.aload_n 0, 1) := by decide +kernel
theorem dX6_readCommand_196 : decode cX6_readCommand 196 = .ok (.iconst 0, 1) := by decide +kernel
theorem dX6_readCommand_197 : decode cX6_readCommand 197 = .ok (.iconst 1, 1) := by decide +kernel
theorem dX6_readCommand_198 : decode cX6_readCommand 198 = .ok (.iconst 0, 1) := by decide +kernel
theorem dX6_readCommand_199 : decode cX6_readCommand 199 = .ok (.iconst 4, 1) := by decide +kernel
theorem dX6_readCommand_200 : decode cX6_readCommand 200 = .ok (.invokevirtual 118, 3) := by decide +kernel
theorem dX6_readCommand_203 : decode cX6_readCommand 203 = .ok (.istore_n 3, 1) := by decide +kernel
theorem dX6_readCommand_204 : decode cX6_readCommand 204 = .ok (.aload_n 0, 1) := by decide +kernel
theorem dX6_readCommand_205 : decode cX6_readCommand 205 = .ok (.iload_n 3, 1) := by decide +kernel
theorem dX6_readCommand_206 : decode cX6_readCommand 206 = .ok (.bipush 10, 2) := by decide +kernel
theorem dX6_readCommand_208 : decode cX6_readCommand 208 = .ok (.iconst 0, 1) := by decide +kernel
theorem dX6_readCommand_209 : decode cX6_readCommand 209 = .ok (.bipush 99, 2) := by decide +kernel
theorem dX6_readCommand_211 : decode cX6_readCommand 211 = .ok (.invokevirtual 118, 3) := by decide +kernel
theorem dX6_readCommand_214 : decode cX6_readCommand 214 = .ok (.istore 4, 2) := by decide +kernel
theorem dX6_readCommand_216 : decode cX6_readCommand 216 = .ok (.iload 4, 2) := by decide +kernel
theorem dX6_readCommand_218 : decode cX6_readCommand 218 = .ok (.iconst (-1), 1) := by decide +kernel
theorem dX6_readCommand_219 : decode cX6_readCommand 219 = .ok (.if_icmp .eq 41, 3) := by decide +kernel
theorem dX6_readCommand_222 : decode cX6_readCommand 222 = .ok (.aload_n 0, 1) := by decide +kernel
theorem dX6_readCommand_223 : decode cX6_readCommand 223 = .ok (.iload_n 3, 1) := by decide +kernel
theorem dX6_readCommand_224 : decode cX6_readCommand 224 = .ok (.iload 4, 2) := by decide +kernel
theorem dX6_readCommand_226 : decode cX6_readCommand 226 = .ok (.invokestatic 169, 3) := by decide +kernel
theorem dX6_readCommand_229 : decode cX6_readCommand 229 = .ok (.ifCond .eq 20, 3) := by decide +kernel
theorem dX6_readCommand_232 : decode cX6_readCommand 232 = .ok (.aload_n 1, 1) := by decide +kernel
theorem dX6_readCommand_233 : decode cX6_readCommand 233 = .ok (.bipush 11, 2) := by decide +kernel
theorem dX6_readCommand_235 : decode cX6_readCommand 235 = .ok (.iload_n 3, 1) := by decide +kernel
theorem dX6_readCommand_236 : decode cX6_readCommand 236 = .ok (.iadd, 1) := by decide +kernel
theorem dX6_readCommand_237 : decode cX6_readCommand 237 = .ok (.iload 4, 2) := by decide +kernel
theorem dX6_readCommand_239 : decode cX6_readCommand 239 = .ok (.invokestatic 95, 3) := by decide +kernel
theorem dX6_readCommand_242 : decode cX6_readCommand 242 = .ok (.ifCond .lt 7, 3) := by decide +kernel
theorem dX6_readCommand_245 : decode cX6_readCommand 245 = .ok (.iconst 1, 1) := by decide +kernel
theorem dX6_readCommand_246 : decode cX6_readCommand 246 = .ok (.goto 4, 3) := by decide +kernel
theorem dX6_readCommand_249 : decode cX6_readCommand 249 = .ok (.iconst 0, 1) := by decide +kernel
theorem dX6_readCommand_250 : decode cX6_readCommand 250 = .ok (.invokevirtual 131, 3) := by decide +kernel
theorem dX6_readCommand_253 : decode cX6_readCommand 253 = .ok (.ifCond .eq 7, 3) := by decide +kernel
theorem dX6_readCommand_256 : decode cX6_readCommand 256 = .ok (.iconst 1, 1) := by decide +kernel
theorem dX6_readCommand_257 : decode cX6_readCommand 257 = .ok (.goto 4, 3) := by decide +kernel
theorem dX6_readCommand_260 : decode cX6_readCommand 260 = .ok (.iconst 0, 1) := by decide +kernel
theorem dX6_readCommand_261 : decode cX6_readCommand 261 = .ok (.ireturn, 1) := by decide +kernel
theorem dX6_readCommand_262 : decode cX6_readCommand 262 = .ok (.aload_n 0, 1) := by decide +kernel
theorem dX6_readCommand_263 : decode cX6_readCommand 263 = .ok (.iconst 0, 1) := by decide +kernel
theorem dX6_readCommand_264 : decode cX6_readCommand 264 = .ok (.bipush 10, 2) := by decide +kernel
theorem dX6_readCommand_266 : decode cX6_readCommand 266 = .ok (.iconst 1, 1) := by decide +kernel
theorem dX6_readCommand_267 : decode cX6_readCommand 267 = .ok (.bipush 60, 2) := by decide +kernel
theorem dX6_readCommand_269 : decode cX6_readCommand 269 = .ok (.invokevirtual 118, 3) := by decide +kernel
theorem dX6_readCommand_272 : decode cX6_readCommand 272 = .ok (.istore_n 3, 1) := by decide +kernel
theorem dX6_readCommand_273 : decode cX6_readCommand 273 = .ok (.iload_n 3, 1) := by decide +kernel
theorem dX6_readCommand_274 : decode cX6_readCommand 274 = .ok (.iconst (-1), 1) := by decide +kernel
theorem dX6_readCommand_275 : decode cX6_readCommand 275 = .ok (.if_icmp .eq 27, 3) := by decide +kernel
theorem dX6_readCommand_278 : decode cX6_readCommand 278 = .ok (.aload_n 0, 1) := by decide +kernel
theorem dX6_readCommand_279 : decode cX6_readCommand 279 = .ok (.aload_n 1, 1) := by decide +kernel
theorem dX6_readCommand_280 : decode cX6_readCommand 280 = .ok (.iload_n 3, 1) := by decide +kernel
theorem dX6_readCommand_281 : decode cX6_readCommand 281 = .ok (.invokestatic 173, 3) := by decide +kernel
theorem dX6_readCommand_284 : decode cX6_readCommand 284 = .ok (.ifCond .lt 7, 3) := by decide +kernel
theorem dX6_readCommand_287 : decode cX6_readCommand 287 = .ok (.iconst 1, 1) := by decide +kernel
theorem dX6_readCommand_288 : decode cX6_readCommand 288 = .ok (.goto 4, 3) := by decide +kernel
theorem dX6_readCommand_291 : decode cX6_readCommand 291 = .ok (.iconst 0, 1) := by decide +kernel
theorem dX6_readCommand_292 : decode cX6_readCommand 292 = .ok (.invokevirtual 131, 3) := by decide +kernel
theorem dX6_readCommand_295 : decode cX6_readCommand 295 = .ok (.ifCond .eq 7, 3) := by decide +kernel
theorem dX6_readCommand_298 : decode cX6_readCommand 298 = .ok (.iconst 1, 1) := by decide +kernel
theorem dX6_readCommand_299 : decode cX6_readCommand 299 = .ok (.goto 4, 3) := by decide +kernel
theorem dX6_readCommand_302 : decode cX6_readCommand 302 = .ok (.iconst 0, 1) := by decide +kernel
theorem dX6_readCommand_303 : decode cX6_readCommand 303 = .ok (.ireturn, 1) := by decide +kernel
theorem dX6_readCommand_304 : decode cX6_readCommand 304 = .ok (.aload_n 0, 1) := by decide +kernel
theorem dX6_readCommand_305 : decode cX6_readCommand 305 = .ok (.dup, 1) := by decide +kernel
theorem dX6_readCommand_306 : decode cX6_readCommand 306 = .ok (.getfield 112, 3) := by decide +kernel
theorem dX6_readCommand_309 : decode cX6_readCommand 309 = .ok (.iconst 1, 1) := by decide +kernel
theorem dX6_readCommand_310 : decode cX6_readCommand 310 = .ok (.isub, 1) := by decide +kernel
theorem dX6_readCommand_311 : decode cX6_readCommand 311 = .ok (.putfield 112, 3) := by decide +kernel
theorem dX6_readCommand_314 : decode cX6_readCommand 314 = .ok (.iconst 0, 1) := by decide +kernel
theorem dX6_readCommand_315 : decode cX6_readCommand 315 = .ok (.ireturn, 1) := by decide +kernel
theorem dX6_readText_0 : decode cX6_readText 0 = .ok (.aload_n 1, 1) := by decide +kernel
theorem dX6_readText_1 : decode cX6_readText 1 = .ok (.invokestatic 29, 3) := by decide +kernel
theorem dX6_readText_4 : decode cX6_readText 4 = .ok (.aload_n 0, 1) := by decide +kernel
theorem dX6_readText_5 : decode cX6_readText 5 = .ok (.iconst 0, 1) := by decide +kernel
theorem dX6_readText_6 : decode cX6_readText 6 = .ok (.putfield 115, 3) := by decide +kernel
theorem dX6_readText_9 : decode cX6_readText 9 = .ok (.aload_n 0, 1) := by decide +kernel
theorem dX6_readText_10 : decode cX6_readText 10 = .ok (.iconst 0, 1) := by decide +kernel
theorem dX6_readText_11 : decode cX6_readText 11 = .ok (.putfield 112, 3) := by decide +kernel
theorem dX6_readText_14 : decode cX6_readText 14 = .ok (.aload_n 0, 1) := by decide +kernel
theorem dX6_readText_15 : decode cX6_readText 15 = .ok (.getfield 105, 3) := by decide +kernel
theorem dX6_readText_18 : decode cX6_readText 18 = .ok (.ifCond .eq 14, 3) := by decide +kernel
theorem dX6_readText_21 : decode cX6_readText 21 = .ok (.aload_n 0, 1) := by decide +kernel
theorem dX6_readText_22 : decode cX6_readText 22 = .ok (.getfield 7, 3) := by decide +kernel
theorem dX6_readText_25 : decode cX6_readText 25 = .ok (.iconst 0, 1) := by decide +kernel
theorem dX6_readText_26 : decode cX6_readText 26 = .ok (.iaload, 1) := by decide +kernel
theorem dX6_readText_27 : decode cX6_readText 27 = .ok (.bipush 66, 2) := by decide +kernel
theorem dX6_readText_29 : decode cX6_readText 29 = .ok (.if_icmp .eq 5, 3) := by decide +kernel
theorem dX6_readText_32 : decode cX6_readText 32 = .ok (.iconst 0, 1) := by decide +kernel
theorem dX6_readText_33 : decode cX6_readText 33 = .ok (.ireturn, 1) := by decide +kernel
theorem dX6_readText_34 : decode cX6_readText 34 = .ok (.aload_n 0, 1) := by decide +kernel
theorem dX6_readText_35 : decode cX6_readText 35 = .ok (.iconst 1, 1) := by decide +kernel
theorem dX6_readText_36 : decode cX6_readText 36 = .ok (.putfield 112, 3) := by decide +kernel
theorem dX6_readText_39 : decode cX6_readText 39 = .ok (.aload_n 0, 1) := by decide +kernel
theorem dX6_readText_40 : decode cX6_readText 40 = .ok (.getfield 112, 3) := by decide +kernel
theorem dX6_readText_43 : decode cX6_readText 43 = .ok (.aload_n 0, 1) := by decide +kernel
theorem dX6_readText_44 : decode cX6_readText 44 = .ok (.getfield 105, 3) := by decide +kernel
theorem dX6_readText_47 : decode cX6_readText 47 = .ok (.if_icmp .ge 16, 3) := by decide +kernel
theorem dX6_readText_50 : decode cX6_readText 50 = .ok (.aload_n 0, 1) := by decide +kernel
theorem dX6_readText_51 : decode cX6_readText 51 = .ok (.aload_n 1, 1) := by decide +kernel
theorem dX6_readText_52 : decode cX6_readText 52 = .ok (.invokevirtual 176, 3) := by decide +kernel
theorem dX6_readText_55 : decode cX6_readText 55 = .ok (.ifCond .ne (-16), 3) := by decide +kernel
theorem dX6_readText_58 : decode cX6_readText 58 = .ok (.aload_n 0, 1) := by decide +kernel
theorem dX6_readText_59 : decode cX6_readText 59 = .ok (.getfield 112, 3) := by decide +kernel
theorem dX6_readText_62 : decode cX6_readText 62 = .ok (.ireturn, 1) := by decide +kernel
theorem dX6_readText_63 : decode cX6_readText 63 = .ok (.iconst (-1), 1) := by decide +kernel
theorem dX6_readText_64 : decode cX6_readText 64 = .ok (.ireturn, 1) := by decide +kernel
theorem dX6_errorPosition_0 : decode cX6_errorPosition 0 = .ok (.aload_n 0, 1) := by decide +kernel
theorem dX6_errorPosition_1 : decode cX6_errorPosition 1 = .ok (.iconst 0, 1) := by decide +kernel
theorem dX6_errorPosition_2 : decode cX6_errorPosition 2 = .ok (.putfield 33, 3) := by decide +kernel
theorem dX6_errorPosition_5 : decode cX6_errorPosition 5 = .ok (.aload_n 0, 1) := by decide +kernel
theorem dX6_errorPosition_6 : decode cX6_errorPosition 6 = .ok (.aload_n 0, 1) := by decide +kernel
theorem dX6_errorPosition_7 : decode cX6_errorPosition 7 = .ok (.getfield 16, 3) := by decide +kernel
theorem dX6_errorPosition_10 : decode cX6_errorPosition 10 = .ok (.invokevirtual 179, 3) := by decide +kernel
theorem dX6_errorPosition_13 : decode cX6_errorPosition 13 = .ok (.ireturn, 1) := by decide +kernel
theorem dX6_load_0 : decode cX6_load 0 = .ok (.aload_n 0, 1) := by decide +kernel
theorem dX6_load_1 : decode cX6_load 1 = .ok (.aload_n 0, 1) := by decide +kernel
theorem dX6_load_2 : decode cX6_load 2 = .ok (.aload_n 0, 1) := by decide +kernel
theorem dX6_load_3 : decode cX6_load 3 = .ok (.getfield 16, 3) := by decide +kernel
theorem dX6_load_6 : decode cX6_load 6 = .ok (.invokevirtual 179, 3) := by decide +kernel
theorem dX6_load_9 : decode cX6_load 9 = .ok (.iconst (-1), 1) := by decide +kernel
theorem dX6_load_10 : decode cX6_load 10 = .ok (.if_icmp .ne 7, 3) := by decide +kernel
theorem dX6_load_13 : decode cX6_load 13 = .ok (.iconst 0, 1) := by decide +kernel
theorem dX6_load_14 : decode cX6_load 14 = .ok (.goto 4, 3) := by decide +kernel
theorem dX6_load_17 : decode cX6_load 17 = .ok (.iconst 1, 1) := by decide +kernel
theorem dX6_load_18 : decode cX6_load 18 = .ok (.invokevirtual 108, 3) := by decide +kernel
theorem dX6_load_21 : decode cX6_load 21 = .ok (.ifCond .eq 5, 3) := by decide +kernel
theorem dX6_load_24 : decode cX6_load 24 = .ok (.iconst 0, 1) := by decide +kernel
theorem dX6_load_25 : decode cX6_load 25 = .ok (.ireturn, 1) := by decide +kernel
theorem dX6_load_26 : decode cX6_load 26 = .ok (.aload_n 0, 1) := by decide +kernel
theorem dX6_load_27 : decode cX6_load 27 = .ok (.getfield 16, 3) := by decide +kernel
theorem dX6_load_30 : decode cX6_load 30 = .ok (.iconst 0, 1) := by decide +kernel
theorem dX6_load_31 : decode cX6_load 31 = .ok (.aload_n 0, 1) := by decide +kernel
theorem dX6_load_32 : decode cX6_load 32 = .ok (.getfield 13, 3) := by decide +kernel
theorem dX6_load_35 : decode cX6_load 35 = .ok (.iconst 0, 1) := by decide +kernel
theorem dX6_load_36 : decode cX6_load 36 = .ok (.invokestatic 183, 3) := by decide +kernel
theorem dX6_load_39 : decode cX6_load 39 = .ok (.aload_n 0, 1) := by decide +kernel
theorem dX6_load_40 : decode cX6_load 40 = .ok (.iconst 0, 1) := by decide +kernel
theorem dX6_load_41 : decode cX6_load 41 = .ok (.putfield 187, 3) := by decide +kernel
theorem dX6_load_44 : decode cX6_load 44 = .ok (.aload_n 0, 1) := by decide +kernel
theorem dX6_load_45 : decode cX6_load 45 = .ok (.getfield 25, 3) := by decide +kernel
theorem dX6_load_48 : decode cX6_load 48 = .ok (.iconst 0, 1) := by decide +kernel
theorem dX6_load_49 : decode cX6_load 49 = .ok (.iconst 0, 1) := by decide +kernel
theorem dX6_load_50 : decode cX6_load 50 = .ok (.bastore, 1) := by decide +kernel
theorem dX6_load_51 : decode cX6_load 51 = .ok (.aload_n 0, 1) := by decide +kernel
theorem dX6_load_52 : decode cX6_load 52 = .ok (.getfield 25, 3) := by decide +kernel
theorem dX6_load_55 : decode cX6_load 55 = .ok (.iconst 1, 1) := by decide +kernel
theorem dX6_load_56 : decode cX6_load 56 = .ok (.iconst 0, 1) := by decide +kernel
theorem dX6_load_57 : decode cX6_load 57 = .ok (.bastore, 1) := by decide +kernel
theorem dX6_load_58 : decode cX6_load 58 = .ok (.aload_n 0, 1) := by decide +kernel
theorem dX6_load_59 : decode cX6_load 59 = .ok (.getfield 115, 3) := by decide +kernel
theorem dX6_load_62 : decode cX6_load 62 = .ok (.ireturn, 1) := by decide +kernel
theorem dX6_about_0 : decode cX6_about 0 = .ok (.aload_n 0, 1) := by decide +kernel
theorem dX6_about_1 : decode cX6_about 1 = .ok (.iload_n 1, 1) := by decide +kernel
theorem dX6_about_2 : decode cX6_about 2 = .ok (.i2l, 1) := by decide +kernel
theorem dX6_about_3 : decode cX6_about 3 = .ok (.lconst 0, 1) := by decide +kernel
theorem dX6_about_4 : decode cX6_about 4 = .ok (.ldc2_w 190, 3) := by decide +kernel
theorem dX6_about_7 : decode cX6_about 7 = .ok (.invokestatic 37, 3) := by decide +kernel
theorem dX6_about_10 : decode cX6_about 10 = .ok (.ifCond .eq 7, 3) := by decide +kernel
theorem dX6_about_13 : decode cX6_about 13 = .ok (.iconst 0, 1) := by decide +kernel
theorem dX6_about_14 : decode cX6_about 14 = .ok (.goto 4, 3) := by decide +kernel
theorem dX6_about_17 : decode cX6_about 17 = .ok (.iconst 1, 1) := by decide +kernel
theorem dX6_about_18 : decode cX6_about 18 = .ok (.invokevirtual 108, 3) := by decide +kernel
theorem dX6_about_21 : decode cX6_about 21 = .ok (.ifCond .eq 5, 3) := by decide +kernel
theorem dX6_about_24 : decode cX6_about 24 = .ok (.iconst 0, 1) := by decide +kernel
theorem dX6_about_25 : decode cX6_about 25 = .ok (.ireturn, 1) := by decide +kernel
theorem dX6_about_26 : decode cX6_about 26 = .ok (.iload_n 1, 1) := by decide +kernel
theorem dX6_about_27 : decode cX6_about 27 = .ok (.tableswitch 72 6 12 #[41, 63, 63, 63, 63, 63, 49], 41) := by decide +kernel
theorem dX6_about_68 : decode cX6_about 68 = .ok (.aload_n 0, 1) := by decide +kernel
theorem dX6_about_69 : decode cX6_about 69 = .ok (.getfield 13, 3) := by decide +kernel
theorem dX6_about_72 : decode cX6_about 72 = .ok (.invokestatic 192, 3) := by decide +kernel
theorem dX6_about_75 : decode cX6_about 75 = .ok (.ireturn, 1) := by decide +kernel
theorem dX6_about_76 : decode cX6_about 76 = .ok (.aload_n 0, 1) := by decide +kernel
theorem dX6_about_77 : decode cX6_about 77 = .ok (.getfield 13, 3) := by decide +kernel
theorem dX6_about_80 : decode cX6_about 80 = .ok (.aload_n 0, 1) := by decide +kernel
theorem dX6_about_81 : decode cX6_about 81 = .ok (.getfield 13, 3) := by decide +kernel
theorem dX6_about_84 : decode cX6_about 84 = .ok (.iconst 1, 1) := by decide +kernel
theorem dX6_about_85 : decode cX6_about 85 = .ok (.iaload, 1) := by decide +kernel
theorem dX6_about_86 : decode cX6_about 86 = .ok (.invokestatic 64, 3) := by decide +kernel
theorem dX6_about_89 : decode cX6_about 89 = .ok (.ireturn, 1) := by decide +kernel
theorem dX6_about_90 : decode cX6_about 90 = .ok (.aload_n 0, 1) := by decide +kernel
theorem dX6_about_91 : decode cX6_about 91 = .ok (.getfield 13, 3) := by decide +kernel
theorem dX6_about_94 : decode cX6_about 94 = .ok (.iload_n 1, 1) := by decide +kernel
theorem dX6_about_95 : decode cX6_about 95 = .ok (.iconst 1, 1) := by decide +kernel
theorem dX6_about_96 : decode cX6_about 96 = .ok (.isub, 1) := by decide +kernel
theorem dX6_about_97 : decode cX6_about 97 = .ok (.iaload, 1) := by decide +kernel
theorem dX6_about_98 : decode cX6_about 98 = .ok (.ireturn, 1) := by decide +kernel
theorem dX6_about_99 : decode cX6_about 99 = .ok (.aload_n 0, 1) := by decide +kernel
theorem dX6_about_100 : decode cX6_about 100 = .ok (.getfield 13, 3) := by decide +kernel
theorem dX6_about_103 : decode cX6_about 103 = .ok (.iload_n 1, 1) := by decide +kernel
theorem dX6_about_104 : decode cX6_about 104 = .ok (.iaload, 1) := by decide +kernel
theorem dX6_about_105 : decode cX6_about 105 = .ok (.ireturn, 1) := by decide +kernel
theorem dX6_nextDue_0 : decode cX6_nextDue 0 = .ok (.aload_n 0, 1) := by decide +kernel
theorem dX6_nextDue_1 : decode cX6_nextDue 1 = .ok (.iconst 1, 1) := by decide +kernel
theorem dX6_nextDue_2 : decode cX6_nextDue 2 = .ok (.iaload, 1) := by decide +kernel
theorem dX6_nextDue_3 : decode cX6_nextDue 3 = .ok (.istore_n 2, 1) := by decide +kernel
theorem dX6_nextDue_4 : decode cX6_nextDue 4 = .ok (.iload_n 2, 1) := by decide +kernel
theorem dX6_nextDue_5 : decode cX6_nextDue 5 = .ok (.aload_n 0, 1) := by decide +kernel
theorem dX6_nextDue_6 : decode cX6_nextDue 6 = .ok (.iconst 1, 1) := by decide +kernel
theorem dX6_nextDue_7 : decode cX6_nextDue 7 = .ok (.iaload, 1) := by decide +kernel
theorem dX6_nextDue_8 : decode cX6_nextDue 8 = .ok (.sipush 200, 3) := by decide +kernel
theorem dX6_nextDue_11 : decode cX6_nextDue 11 = .ok (.iadd, 1) := by decide +kernel
theorem dX6_nextDue_12 : decode cX6_nextDue 12 = .ok (.if_icmp .gt 20, 3) := by decide +kernel
theorem dX6_nextDue_15 : decode cX6_nextDue 15 = .ok (.aload_n 0, 1) := by decide +kernel
theorem dX6_nextDue_16 : decode cX6_nextDue 16 = .ok (.iload_n 1, 1) := by decide +kernel
theorem dX6_nextDue_17 : decode cX6_nextDue 17 = .ok (.iload_n 2, 1) := by decide +kernel
theorem dX6_nextDue_18 : decode cX6_nextDue 18 = .ok (.invokestatic 61, 3) := by decide +kernel
theorem dX6_nextDue_21 : decode cX6_nextDue 21 = .ok (.ifCond .le 5, 3) := by decide +kernel
theorem dX6_nextDue_24 : decode cX6_nextDue 24 = .ok (.iload_n 2, 1) := by decide +kernel
theorem dX6_nextDue_25 : decode cX6_nextDue 25 = .ok (.ireturn, 1) := by decide +kernel
theorem dX6_nextDue_26 : decode cX6_nextDue 26 = .ok (.iinc 2 1, 3) := by decide +kernel
theorem dX6_nextDue_29 : decode cX6_nextDue 29 = .ok (.goto (-25), 3) := by decide +kernel
theorem dX6_nextDue_32 : decode cX6_nextDue 32 = .ok (.iconst (-1), 1) := by decide +kernel
theorem dX6_nextDue_33 : decode cX6_nextDue 33 = .ok (.ireturn, 1) := by decide +kernel
theorem dX6_customerOf_0 : decode cX6_customerOf 0 = .ok (.aload_n 0, 1) := by decide +kernel
theorem dX6_customerOf_1 : decode cX6_customerOf 1 = .ok (.aload_n 0, 1) := by decide +kernel
theorem dX6_customerOf_2 : decode cX6_customerOf 2 = .ok (.getfield 13, 3) := by decide +kernel
theorem dX6_customerOf_5 : decode cX6_customerOf 5 = .ok (.iload_n 1, 1) := by decide +kernel
theorem dX6_customerOf_6 : decode cX6_customerOf 6 = .ok (.invokestatic 139, 3) := by decide +kernel
theorem dX6_customerOf_9 : decode cX6_customerOf 9 = .ok (.ifCond .ne 7, 3) := by decide +kernel
theorem dX6_customerOf_12 : decode cX6_customerOf 12 = .ok (.iconst 1, 1) := by decide +kernel
theorem dX6_customerOf_13 : decode cX6_customerOf 13 = .ok (.goto 20, 3) := by decide +kernel
theorem dX6_customerOf_16 : decode cX6_customerOf 16 = .ok (.iload_n 2, 1) := by decide +kernel
theorem dX6_customerOf_17 : decode cX6_customerOf 17 = .ok (.i2l, 1) := by decide +kernel
theorem dX6_customerOf_18 : decode cX6_customerOf 18 = .ok (.lconst 0, 1) := by decide +kernel
theorem dX6_customerOf_19 : decode cX6_customerOf 19 = .ok (.ldc2_w 195, 3) := by decide +kernel
theorem dX6_customerOf_22 : decode cX6_customerOf 22 = .ok (.invokestatic 37, 3) := by decide +kernel
theorem dX6_customerOf_25 : decode cX6_customerOf 25 = .ok (.ifCond .eq 7, 3) := by decide +kernel
theorem dX6_customerOf_28 : decode cX6_customerOf 28 = .ok (.iconst 0, 1) := by decide +kernel
theorem dX6_customerOf_29 : decode cX6_customerOf 29 = .ok (.goto 4, 3) := by decide +kernel
theorem dX6_customerOf_32 : decode cX6_customerOf 32 = .ok (.iconst 2, 1) := by decide +kernel
theorem dX6_customerOf_33 : decode cX6_customerOf 33 = .ok (.invokevirtual 108, 3) := by decide +kernel
theorem dX6_customerOf_36 : decode cX6_customerOf 36 = .ok (.ifCond .eq 5, 3) := by decide +kernel
theorem dX6_customerOf_39 : decode cX6_customerOf 39 = .ok (.iconst 0, 1) := by decide +kernel
theorem dX6_customerOf_40 : decode cX6_customerOf 40 = .ok (.ireturn, 1) := by decide +kernel
theorem dX6_customerOf_41 : decode cX6_customerOf 41 = .ok (.iconst 0, 1) := by decide +kernel
theorem dX6_customerOf_42 : decode cX6_customerOf 42 = .ok (.istore_n 3, 1) := by decide +kernel
theorem dX6_customerOf_43 : decode cX6_customerOf 43 = .ok (.iconst 0, 1) := by decide +kernel
theorem dX6_customerOf_44 : decode cX6_customerOf 44 = .ok (.istore 4, 2) := by decide +kernel
theorem dX6_customerOf_46 : decode cX6_customerOf 46 = .ok (.iload 4, 2) := by decide +kernel
theorem dX6_customerOf_48 : decode cX6_customerOf 48 = .ok (.bipush 7, 2) := by decide +kernel
theorem dX6_customerOf_50 : decode cX6_customerOf 50 = .ok (.if_icmp .ge 24, 3) := by decide +kernel
theorem dX6_customerOf_53 : decode cX6_customerOf 53 = .ok (.iload_n 3, 1) := by decide +kernel
theorem dX6_customerOf_54 : decode cX6_customerOf 54 = .ok (.aload_n 0, 1) := by decide +kernel
theorem dX6_customerOf_55 : decode cX6_customerOf 55 = .ok (.getfield 13, 3) := by decide +kernel
theorem dX6_customerOf_58 : decode cX6_customerOf 58 = .ok (.iload_n 1, 1) := by decide +kernel
theorem dX6_customerOf_59 : decode cX6_customerOf 59 = .ok (.iconst 1, 1) := by decide +kernel
theorem dX6_customerOf_60 : decode cX6_customerOf 60 = .ok (.iload 4, 2) := by decide +kernel
theorem dX6_customerOf_62 : decode cX6_customerOf 62 = .ok (.iadd, 1) := by decide +kernel
theorem dX6_customerOf_63 : decode cX6_customerOf 63 = .ok (.invokestatic 53, 3) := by decide +kernel
theorem dX6_customerOf_66 : decode cX6_customerOf 66 = .ok (.iadd, 1) := by decide +kernel
theorem dX6_customerOf_67 : decode cX6_customerOf 67 = .ok (.istore_n 3, 1) := by decide +kernel
theorem dX6_customerOf_68 : decode cX6_customerOf 68 = .ok (.iinc 4 1, 3) := by decide +kernel
theorem dX6_customerOf_71 : decode cX6_customerOf 71 = .ok (.goto (-25), 3) := by decide +kernel
theorem dX6_customerOf_74 : decode cX6_customerOf 74 = .ok (.iload_n 2, 1) := by decide +kernel
theorem dX6_customerOf_75 : decode cX6_customerOf 75 = .ok (.lookupswitch 77 #[(0, 41), (1, 51), (9, 53), (10, 68)], 41) := by decide +kernel
theorem dX6_customerOf_116 : decode cX6_customerOf 116 = .ok (.aload_n 0, 1) := by decide +kernel
theorem dX6_customerOf_117 : decode cX6_customerOf 117 = .ok (.getfield 13, 3) := by decide +kernel
theorem dX6_customerOf_120 : decode cX6_customerOf 120 = .ok (.iload_n 1, 1) := by decide +kernel
theorem dX6_customerOf_121 : decode cX6_customerOf 121 = .ok (.iconst 0, 1) := by decide +kernel
theorem dX6_customerOf_122 : decode cX6_customerOf 122 = .ok (.invokestatic 53, 3) := by decide +kernel
theorem dX6_customerOf_125 : decode cX6_customerOf 125 = .ok (.ireturn, 1) := by decide +kernel
theorem dX6_customerOf_126 : decode cX6_customerOf 126 = .ok (.iload_n 3, 1) := by decide +kernel
theorem dX6_customerOf_127 : decode cX6_customerOf 127 = .ok (.ireturn, 1) := by decide +kernel
theorem dX6_customerOf_128 : decode cX6_customerOf 128 = .ok (.aload_n 0, 1) := by decide +kernel
theorem dX6_customerOf_129 : decode cX6_customerOf 129 = .ok (.getfield 13, 3) := by decide +kernel
theorem dX6_customerOf_132 : decode cX6_customerOf 132 = .ok (.iload_n 1, 1) := by decide +kernel
theorem dX6_customerOf_133 : decode cX6_customerOf 133 = .ok (.aload_n 0, 1) := by decide +kernel
theorem dX6_customerOf_134 : decode cX6_customerOf 134 = .ok (.getfield 13, 3) := by decide +kernel
theorem dX6_customerOf_137 : decode cX6_customerOf 137 = .ok (.iconst 1, 1) := by decide +kernel
theorem dX6_customerOf_138 : decode cX6_customerOf 138 = .ok (.iaload, 1) := by decide +kernel
theorem dX6_customerOf_139 : decode cX6_customerOf 139 = .ok (.invokestatic 61, 3) := by decide +kernel
theorem dX6_customerOf_142 : decode cX6_customerOf 142 = .ok (.ireturn, 1) := by decide +kernel
theorem dX6_customerOf_143 : decode cX6_customerOf 143 = .ok (.aload_n 0, 1) := by decide +kernel
theorem dX6_customerOf_144 : decode cX6_customerOf 144 = .ok (.getfield 13, 3) := by decide +kernel
theorem dX6_customerOf_147 : decode cX6_customerOf 147 = .ok (.iload_n 1, 1) := by decide +kernel
theorem dX6_customerOf_148 : decode cX6_customerOf 148 = .ok (.invokestatic 197, 3) := by decide +kernel
theorem dX6_customerOf_151 : decode cX6_customerOf 151 = .ok (.ireturn, 1) := by decide +kernel
theorem dX6_customerOf_152 : decode cX6_customerOf 152 = .ok (.aload_n 0, 1) := by decide +kernel
theorem dX6_customerOf_153 : decode cX6_customerOf 153 = .ok (.getfield 13, 3) := by decide +kernel
theorem dX6_customerOf_156 : decode cX6_customerOf 156 = .ok (.iload_n 1, 1) := by decide +kernel
theorem dX6_customerOf_157 : decode cX6_customerOf 157 = .ok (.iload_n 2, 1) := by decide +kernel
theorem dX6_customerOf_158 : decode cX6_customerOf 158 = .ok (.bipush 6, 2) := by decide +kernel
theorem dX6_customerOf_160 : decode cX6_customerOf 160 = .ok (.iadd, 1) := by decide +kernel
theorem dX6_customerOf_161 : decode cX6_customerOf 161 = .ok (.invokestatic 53, 3) := by decide +kernel
theorem dX6_customerOf_164 : decode cX6_customerOf 164 = .ok (.ireturn, 1) := by decide +kernel
theorem dX6_ordered_0 : decode cX6_ordered 0 = .ok (.aload_n 0, 1) := by decide +kernel
theorem dX6_ordered_1 : decode cX6_ordered 1 = .ok (.aload_n 0, 1) := by decide +kernel
theorem dX6_ordered_2 : decode cX6_ordered 2 = .ok (.getfield 13, 3) := by decide +kernel
theorem dX6_ordered_5 : decode cX6_ordered 5 = .ok (.iload_n 1, 1) := by decide +kernel
theorem dX6_ordered_6 : decode cX6_ordered 6 = .ok (.invokestatic 139, 3) := by decide +kernel
theorem dX6_ordered_9 : decode cX6_ordered 9 = .ok (.ifCond .eq 14, 3) := by decide +kernel
theorem dX6_ordered_12 : decode cX6_ordered 12 = .ok (.iload_n 2, 1) := by decide +kernel
theorem dX6_ordered_13 : decode cX6_ordered 13 = .ok (.invokestatic 200, 3) := by decide +kernel
theorem dX6_ordered_16 : decode cX6_ordered 16 = .ok (.ifCond .eq 7, 3) := by decide +kernel
theorem dX6_ordered_19 : decode cX6_ordered 19 = .ok (.iconst 0, 1) := by decide +kernel
theorem dX6_ordered_20 : decode cX6_ordered 20 = .ok (.goto 4, 3) := by decide +kernel
theorem dX6_ordered_23 : decode cX6_ordered 23 = .ok (.iconst 1, 1) := by decide +kernel
theorem dX6_ordered_24 : decode cX6_ordered 24 = .ok (.invokevirtual 108, 3) := by decide +kernel
theorem dX6_ordered_27 : decode cX6_ordered 27 = .ok (.ifCond .eq 5, 3) := by decide +kernel
theorem dX6_ordered_30 : decode cX6_ordered 30 = .ok (.iconst 0, 1) := by decide +kernel
theorem dX6_ordered_31 : decode cX6_ordered 31 = .ok (.ireturn, 1) := by decide +kernel
theorem dX6_ordered_32 : decode cX6_ordered 32 = .ok (.aload_n 0, 1) := by decide +kernel
theorem dX6_ordered_33 : decode cX6_ordered 33 = .ok (.getfield 13, 3) := by decide +kernel
theorem dX6_ordered_36 : decode cX6_ordered 36 = .ok (.iload_n 1, 1) := by decide +kernel
theorem dX6_ordered_37 : decode cX6_ordered 37 = .ok (.iconst 1, 1) := by decide +kernel
theorem dX6_ordered_38 : decode cX6_ordered 38 = .ok (.iload_n 2, 1) := by decide +kernel
theorem dX6_ordered_39 : decode cX6_ordered 39 = .ok (.iadd, 1) := by decide +kernel
theorem dX6_ordered_40 : decode cX6_ordered 40 = .ok (.invokestatic 53, 3) := by decide +kernel
theorem dX6_ordered_43 : decode cX6_ordered 43 = .ok (.ireturn, 1) := by decide +kernel
theorem dX6_away_0 : decode cX6_away 0 = .ok (.aload_n 0, 1) := by decide +kernel
theorem dX6_away_1 : decode cX6_away 1 = .ok (.aload_n 0, 1) := by decide +kernel
theorem dX6_away_2 : decode cX6_away 2 = .ok (.getfield 13, 3) := by decide +kernel
theorem dX6_away_5 : decode cX6_away 5 = .ok (.iload_n 1, 1) := by decide +kernel
theorem dX6_away_6 : decode cX6_away 6 = .ok (.invokestatic 139, 3) := by decide +kernel
theorem dX6_away_9 : decode cX6_away 9 = .ok (.ifCond .eq 15, 3) := by decide +kernel
theorem dX6_away_12 : decode cX6_away 12 = .ok (.iload_n 2, 1) := by decide +kernel
theorem dX6_away_13 : decode cX6_away 13 = .ok (.i2l, 1) := by decide +kernel
theorem dX6_away_14 : decode cX6_away 14 = .ok (.lconst 0, 1) := by decide +kernel
theorem dX6_away_15 : decode cX6_away 15 = .ok (.ldc2_w 203, 3) := by decide +kernel
theorem dX6_away_18 : decode cX6_away 18 = .ok (.invokestatic 37, 3) := by decide +kernel
theorem dX6_away_21 : decode cX6_away 21 = .ok (.ifCond .ne 7, 3) := by decide +kernel
theorem dX6_away_24 : decode cX6_away 24 = .ok (.iconst 1, 1) := by decide +kernel
theorem dX6_away_25 : decode cX6_away 25 = .ok (.goto 18, 3) := by decide +kernel
theorem dX6_away_28 : decode cX6_away 28 = .ok (.iload_n 3, 1) := by decide +kernel
theorem dX6_away_29 : decode cX6_away 29 = .ok (.i2l, 1) := by decide +kernel
theorem dX6_away_30 : decode cX6_away 30 = .ok (.lconst 0, 1) := by decide +kernel
theorem dX6_away_31 : decode cX6_away 31 = .ok (.lconst 1, 1) := by decide +kernel
theorem dX6_away_32 : decode cX6_away 32 = .ok (.invokestatic 37, 3) := by decide +kernel
theorem dX6_away_35 : decode cX6_away 35 = .ok (.ifCond .eq 7, 3) := by decide +kernel
theorem dX6_away_38 : decode cX6_away 38 = .ok (.iconst 0, 1) := by decide +kernel
theorem dX6_away_39 : decode cX6_away 39 = .ok (.goto 4, 3) := by decide +kernel
theorem dX6_away_42 : decode cX6_away 42 = .ok (.iconst 2, 1) := by decide +kernel
theorem dX6_away_43 : decode cX6_away 43 = .ok (.invokevirtual 108, 3) := by decide +kernel
theorem dX6_away_46 : decode cX6_away 46 = .ok (.ifCond .eq 5, 3) := by decide +kernel
theorem dX6_away_49 : decode cX6_away 49 = .ok (.iconst 0, 1) := by decide +kernel
theorem dX6_away_50 : decode cX6_away 50 = .ok (.ireturn, 1) := by decide +kernel
theorem dX6_away_51 : decode cX6_away 51 = .ok (.iload_n 2, 1) := by decide +kernel
theorem dX6_away_52 : decode cX6_away 52 = .ok (.aload_n 0, 1) := by decide +kernel
theorem dX6_away_53 : decode cX6_away 53 = .ok (.getfield 13, 3) := by decide +kernel
theorem dX6_away_56 : decode cX6_away 56 = .ok (.iload_n 1, 1) := by decide +kernel
theorem dX6_away_57 : decode cX6_away 57 = .ok (.bipush 14, 2) := by decide +kernel
theorem dX6_away_59 : decode cX6_away 59 = .ok (.invokestatic 53, 3) := by decide +kernel
theorem dX6_away_62 : decode cX6_away 62 = .ok (.if_icmp .ge 22, 3) := by decide +kernel
theorem dX6_away_65 : decode cX6_away 65 = .ok (.aload_n 0, 1) := by decide +kernel
theorem dX6_away_66 : decode cX6_away 66 = .ok (.getfield 13, 3) := by decide +kernel
theorem dX6_away_69 : decode cX6_away 69 = .ok (.iload_n 1, 1) := by decide +kernel
theorem dX6_away_70 : decode cX6_away 70 = .ok (.bipush 15, 2) := by decide +kernel
theorem dX6_away_72 : decode cX6_away 72 = .ok (.iconst 2, 1) := by decide +kernel
theorem dX6_away_73 : decode cX6_away 73 = .ok (.iload_n 2, 1) := by decide +kernel
theorem dX6_away_74 : decode cX6_away 74 = .ok (.imul, 1) := by decide +kernel
theorem dX6_away_75 : decode cX6_away 75 = .ok (.iadd, 1) := by decide +kernel
theorem dX6_away_76 : decode cX6_away 76 = .ok (.iload_n 3, 1) := by decide +kernel
theorem dX6_away_77 : decode cX6_away 77 = .ok (.iadd, 1) := by decide +kernel
theorem dX6_away_78 : decode cX6_away 78 = .ok (.invokestatic 53, 3) := by decide +kernel
theorem dX6_away_81 : decode cX6_away 81 = .ok (.goto 4, 3) := by decide +kernel
theorem dX6_away_84 : decode cX6_away 84 = .ok (.iconst (-1), 1) := by decide +kernel
theorem dX6_away_85 : decode cX6_away 85 = .ok (.ireturn, 1) := by decide +kernel
theorem dX6_isClosed_0 : decode cX6_isClosed 0 = .ok (.aload_n 0, 1) := by decide +kernel
theorem dX6_isClosed_1 : decode cX6_isClosed 1 = .ok (.iload_n 1, 1) := by decide +kernel
theorem dX6_isClosed_2 : decode cX6_isClosed 2 = .ok (.invokestatic 205, 3) := by decide +kernel
theorem dX6_isClosed_5 : decode cX6_isClosed 5 = .ok (.ifCond .eq 14, 3) := by decide +kernel
theorem dX6_isClosed_8 : decode cX6_isClosed 8 = .ok (.iload_n 2, 1) := by decide +kernel
theorem dX6_isClosed_9 : decode cX6_isClosed 9 = .ok (.invokestatic 200, 3) := by decide +kernel
theorem dX6_isClosed_12 : decode cX6_isClosed 12 = .ok (.ifCond .eq 7, 3) := by decide +kernel
theorem dX6_isClosed_15 : decode cX6_isClosed 15 = .ok (.iconst 0, 1) := by decide +kernel
theorem dX6_isClosed_16 : decode cX6_isClosed 16 = .ok (.goto 4, 3) := by decide +kernel
theorem dX6_isClosed_19 : decode cX6_isClosed 19 = .ok (.iconst 1, 1) := by decide +kernel
theorem dX6_isClosed_20 : decode cX6_isClosed 20 = .ok (.invokevirtual 108, 3) := by decide +kernel
theorem dX6_isClosed_23 : decode cX6_isClosed 23 = .ok (.ifCond .eq 5, 3) := by decide +kernel
theorem dX6_isClosed_26 : decode cX6_isClosed 26 = .ok (.iconst 0, 1) := by decide +kernel
theorem dX6_isClosed_27 : decode cX6_isClosed 27 = .ok (.ireturn, 1) := by decide +kernel
theorem dX6_isClosed_28 : decode cX6_isClosed 28 = .ok (.aload_n 0, 1) := by decide +kernel
theorem dX6_isClosed_29 : decode cX6_isClosed 29 = .ok (.getfield 13, 3) := by decide +kernel
theorem dX6_isClosed_32 : decode cX6_isClosed 32 = .ok (.bipush 20, 2) := by decide +kernel
theorem dX6_isClosed_34 : decode cX6_isClosed 34 = .ok (.bipush 7, 2) := by decide +kernel
theorem dX6_isClosed_36 : decode cX6_isClosed 36 = .ok (.iload_n 1, 1) := by decide +kernel
theorem dX6_isClosed_37 : decode cX6_isClosed 37 = .ok (.imul, 1) := by decide +kernel
theorem dX6_isClosed_38 : decode cX6_isClosed 38 = .ok (.iadd, 1) := by decide +kernel
theorem dX6_isClosed_39 : decode cX6_isClosed 39 = .ok (.iload_n 2, 1) := by decide +kernel
theorem dX6_isClosed_40 : decode cX6_isClosed 40 = .ok (.iadd, 1) := by decide +kernel
theorem dX6_isClosed_41 : decode cX6_isClosed 41 = .ok (.iaload, 1) := by decide +kernel
theorem dX6_isClosed_42 : decode cX6_isClosed 42 = .ok (.ireturn, 1) := by decide +kernel
theorem dX6_round_0 : decode cX6_round 0 = .ok (.aload_n 0, 1) := by decide +kernel
theorem dX6_round_1 : decode cX6_round 1 = .ok (.iload_n 1, 1) := by decide +kernel
theorem dX6_round_2 : decode cX6_round 2 = .ok (.invokestatic 205, 3) := by decide +kernel
theorem dX6_round_5 : decode cX6_round 5 = .ok (.ifCond .eq 7, 3) := by decide +kernel
theorem dX6_round_8 : decode cX6_round 8 = .ok (.iconst 0, 1) := by decide +kernel
theorem dX6_round_9 : decode cX6_round 9 = .ok (.goto 4, 3) := by decide +kernel
theorem dX6_round_12 : decode cX6_round 12 = .ok (.iconst 1, 1) := by decide +kernel
theorem dX6_round_13 : decode cX6_round 13 = .ok (.invokevirtual 108, 3) := by decide +kernel
theorem dX6_round_16 : decode cX6_round 16 = .ok (.ifCond .eq 5, 3) := by decide +kernel
theorem dX6_round_19 : decode cX6_round 19 = .ok (.iconst 0, 1) := by decide +kernel
theorem dX6_round_20 : decode cX6_round 20 = .ok (.ireturn, 1) := by decide +kernel
theorem dX6_round_21 : decode cX6_round 21 = .ok (.aload_n 0, 1) := by decide +kernel
theorem dX6_round_22 : decode cX6_round 22 = .ok (.getfield 13, 3) := by decide +kernel
theorem dX6_round_25 : decode cX6_round 25 = .ok (.bipush 16, 2) := by decide +kernel
theorem dX6_round_27 : decode cX6_round 27 = .ok (.iload_n 1, 1) := by decide +kernel
theorem dX6_round_28 : decode cX6_round 28 = .ok (.iadd, 1) := by decide +kernel
theorem dX6_round_29 : decode cX6_round 29 = .ok (.iaload, 1) := by decide +kernel
theorem dX6_round_30 : decode cX6_round 30 = .ok (.ireturn, 1) := by decide +kernel
theorem dX6_setting_0 : decode cX6_setting 0 = .ok (.aload_n 0, 1) := by decide +kernel
theorem dX6_setting_1 : decode cX6_setting 1 = .ok (.iload_n 1, 1) := by decide +kernel
theorem dX6_setting_2 : decode cX6_setting 2 = .ok (.i2l, 1) := by decide +kernel
theorem dX6_setting_3 : decode cX6_setting 3 = .ok (.lconst 0, 1) := by decide +kernel
theorem dX6_setting_4 : decode cX6_setting 4 = .ok (.ldc2_w 208, 3) := by decide +kernel
theorem dX6_setting_7 : decode cX6_setting 7 = .ok (.invokestatic 37, 3) := by decide +kernel
theorem dX6_setting_10 : decode cX6_setting 10 = .ok (.ifCond .eq 7, 3) := by decide +kernel
theorem dX6_setting_13 : decode cX6_setting 13 = .ok (.iconst 0, 1) := by decide +kernel
theorem dX6_setting_14 : decode cX6_setting 14 = .ok (.goto 4, 3) := by decide +kernel
theorem dX6_setting_17 : decode cX6_setting 17 = .ok (.iconst 1, 1) := by decide +kernel
theorem dX6_setting_18 : decode cX6_setting 18 = .ok (.invokevirtual 108, 3) := by decide +kernel
theorem dX6_setting_21 : decode cX6_setting 21 = .ok (.ifCond .eq 5, 3) := by decide +kernel
theorem dX6_setting_24 : decode cX6_setting 24 = .ok (.iconst 0, 1) := by decide +kernel
theorem dX6_setting_25 : decode cX6_setting 25 = .ok (.ireturn, 1) := by decide +kernel
theorem dX6_setting_26 : decode cX6_setting 26 = .ok (.aload_n 0, 1) := by decide +kernel
theorem dX6_setting_27 : decode cX6_setting 27 = .ok (.getfield 13, 3) := by decide +kernel
theorem dX6_setting_30 : decode cX6_setting 30 = .ok (.bipush 11, 2) := by decide +kernel
theorem dX6_setting_32 : decode cX6_setting 32 = .ok (.iload_n 1, 1) := by decide +kernel
theorem dX6_setting_33 : decode cX6_setting 33 = .ok (.iadd, 1) := by decide +kernel
theorem dX6_setting_34 : decode cX6_setting 34 = .ok (.iaload, 1) := by decide +kernel
theorem dX6_setting_35 : decode cX6_setting 35 = .ok (.ireturn, 1) := by decide +kernel
theorem dX6_due_0 : decode cX6_due 0 = .ok (.aload_n 0, 1) := by decide +kernel
theorem dX6_due_1 : decode cX6_due 1 = .ok (.aload_n 0, 1) := by decide +kernel
theorem dX6_due_2 : decode cX6_due 2 = .ok (.getfield 13, 3) := by decide +kernel
theorem dX6_due_5 : decode cX6_due 5 = .ok (.iload_n 1, 1) := by decide +kernel
theorem dX6_due_6 : decode cX6_due 6 = .ok (.invokestatic 139, 3) := by decide +kernel
theorem dX6_due_9 : decode cX6_due 9 = .ok (.ifCond .ne 7, 3) := by decide +kernel
theorem dX6_due_12 : decode cX6_due 12 = .ok (.iconst 1, 1) := by decide +kernel
theorem dX6_due_13 : decode cX6_due 13 = .ok (.goto 43, 3) := by decide +kernel
theorem dX6_due_16 : decode cX6_due 16 = .ok (.iload_n 2, 1) := by decide +kernel
theorem dX6_due_17 : decode cX6_due 17 = .ok (.i2l, 1) := by decide +kernel
theorem dX6_due_18 : decode cX6_due 18 = .ok (.lconst 0, 1) := by decide +kernel
theorem dX6_due_19 : decode cX6_due 19 = .ok (.ldc2_w 98, 3) := by decide +kernel
theorem dX6_due_22 : decode cX6_due 22 = .ok (.invokestatic 37, 3) := by decide +kernel
theorem dX6_due_25 : decode cX6_due 25 = .ok (.ifCond .eq 30, 3) := by decide +kernel
theorem dX6_due_28 : decode cX6_due 28 = .ok (.iload_n 3, 1) := by decide +kernel
theorem dX6_due_29 : decode cX6_due 29 = .ok (.i2l, 1) := by decide +kernel
theorem dX6_due_30 : decode cX6_due 30 = .ok (.lconst 0, 1) := by decide +kernel
theorem dX6_due_31 : decode cX6_due 31 = .ok (.ldc2_w 210, 3) := by decide +kernel
theorem dX6_due_34 : decode cX6_due 34 = .ok (.invokestatic 37, 3) := by decide +kernel
theorem dX6_due_37 : decode cX6_due 37 = .ok (.ifCond .eq 18, 3) := by decide +kernel
theorem dX6_due_40 : decode cX6_due 40 = .ok (.iload 4, 2) := by decide +kernel
theorem dX6_due_42 : decode cX6_due 42 = .ok (.i2l, 1) := by decide +kernel
theorem dX6_due_43 : decode cX6_due 43 = .ok (.lconst 0, 1) := by decide +kernel
theorem dX6_due_44 : decode cX6_due 44 = .ok (.lconst 1, 1) := by decide +kernel
theorem dX6_due_45 : decode cX6_due 45 = .ok (.invokestatic 37, 3) := by decide +kernel
theorem dX6_due_48 : decode cX6_due 48 = .ok (.ifCond .eq 7, 3) := by decide +kernel
theorem dX6_due_51 : decode cX6_due 51 = .ok (.iconst 0, 1) := by decide +kernel
theorem dX6_due_52 : decode cX6_due 52 = .ok (.goto 4, 3) := by decide +kernel
theorem dX6_due_55 : decode cX6_due 55 = .ok (.iconst 2, 1) := by decide +kernel
theorem dX6_due_56 : decode cX6_due 56 = .ok (.invokevirtual 108, 3) := by decide +kernel
theorem dX6_due_59 : decode cX6_due 59 = .ok (.ifCond .eq 5, 3) := by decide +kernel
theorem dX6_due_62 : decode cX6_due 62 = .ok (.iconst 0, 1) := by decide +kernel
theorem dX6_due_63 : decode cX6_due 63 = .ok (.ireturn, 1) := by decide +kernel
theorem dX6_due_64 : decode cX6_due 64 = .ok (.iconst 0, 1) := by decide +kernel
theorem dX6_due_65 : decode cX6_due 65 = .ok (.istore 5, 2) := by decide +kernel
theorem dX6_due_67 : decode cX6_due 67 = .ok (.iload_n 2, 1) := by decide +kernel
theorem dX6_due_68 : decode cX6_due 68 = .ok (.istore 6, 2) := by decide +kernel
theorem dX6_due_70 : decode cX6_due 70 = .ok (.iload 6, 2) := by decide +kernel
theorem dX6_due_72 : decode cX6_due 72 = .ok (.iload_n 2, 1) := by decide +kernel
theorem dX6_due_73 : decode cX6_due 73 = .ok (.iload_n 3, 1) := by decide +kernel
theorem dX6_due_74 : decode cX6_due 74 = .ok (.iadd, 1) := by decide +kernel
theorem dX6_due_75 : decode cX6_due 75 = .ok (.if_icmp .ge 24, 3) := by decide +kernel
theorem dX6_due_78 : decode cX6_due 78 = .ok (.iload 5, 2) := by decide +kernel
theorem dX6_due_80 : decode cX6_due 80 = .ok (.aload_n 0, 1) := by decide +kernel
theorem dX6_due_81 : decode cX6_due 81 = .ok (.getfield 13, 3) := by decide +kernel
theorem dX6_due_84 : decode cX6_due 84 = .ok (.iload_n 1, 1) := by decide +kernel
theorem dX6_due_85 : decode cX6_due 85 = .ok (.iload 6, 2) := by decide +kernel
theorem dX6_due_87 : decode cX6_due 87 = .ok (.invokestatic 61, 3) := by decide +kernel
theorem dX6_due_90 : decode cX6_due 90 = .ok (.iadd, 1) := by decide +kernel
theorem dX6_due_91 : decode cX6_due 91 = .ok (.istore 5, 2) := by decide +kernel
theorem dX6_due_93 : decode cX6_due 93 = .ok (.iinc 6 1, 3) := by decide +kernel
theorem dX6_due_96 : decode cX6_due 96 = .ok (.goto (-26), 3) := by decide +kernel
theorem dX6_due_99 : decode cX6_due 99 = .ok (.iload 5, 2) := by decide +kernel
theorem dX6_due_101 : decode cX6_due 101 = .ok (.ireturn, 1) := by decide +kernel
theorem dX6_remember_0 : decode cX6_remember 0 = .ok (.aload_n 0, 1) := by decide +kernel
theorem dX6_remember_1 : decode cX6_remember 1 = .ok (.getfield 187, 3) := by decide +kernel
theorem dX6_remember_4 : decode cX6_remember 4 = .ok (.bipush 14, 2) := by decide +kernel
theorem dX6_remember_6 : decode cX6_remember 6 = .ok (.if_icmp .ne 44, 3) := by decide +kernel
theorem dX6_remember_9 : decode cX6_remember 9 = .ok (.iconst 0, 1) := by decide +kernel
theorem dX6_remember_10 : decode cX6_remember 10 = .ok (.istore_n 1, 1) := by decide +kernel
theorem dX6_remember_11 : decode cX6_remember 11 = .ok (.iload_n 1, 1) := by decide +kernel
theorem dX6_remember_12 : decode cX6_remember 12 = .ok (.sipush 3354, 3) := by decide +kernel
theorem dX6_remember_15 : decode cX6_remember 15 = .ok (.if_icmp .ge 25, 3) := by decide +kernel
theorem dX6_remember_18 : decode cX6_remember 18 = .ok (.aload_n 0, 1) := by decide +kernel
theorem dX6_remember_19 : decode cX6_remember 19 = .ok (.getfield 19, 3) := by decide +kernel
theorem dX6_remember_22 : decode cX6_remember 22 = .ok (.iload_n 1, 1) := by decide +kernel
theorem dX6_remember_23 : decode cX6_remember 23 = .ok (.aload_n 0, 1) := by decide +kernel
theorem dX6_remember_24 : decode cX6_remember 24 = .ok (.getfield 19, 3) := by decide +kernel
theorem dX6_remember_27 : decode cX6_remember 27 = .ok (.iload_n 1, 1) := by decide +kernel
theorem dX6_remember_28 : decode cX6_remember 28 = .ok (.sipush 258, 3) := by decide +kernel
theorem dX6_remember_31 : decode cX6_remember 31 = .ok (.iadd, 1) := by decide +kernel
theorem dX6_remember_32 : decode cX6_remember 32 = .ok (.iaload, 1) := by decide +kernel
theorem dX6_remember_33 : decode cX6_remember 33 = .ok (.iastore, 1) := by decide +kernel
theorem dX6_remember_34 : decode cX6_remember 34 = .ok (.iinc 1 1, 3) := by decide +kernel
theorem dX6_remember_37 : decode cX6_remember 37 = .ok (.goto (-26), 3) := by decide +kernel
theorem dX6_remember_40 : decode cX6_remember 40 = .ok (.aload_n 0, 1) := by decide +kernel
theorem dX6_remember_41 : decode cX6_remember 41 = .ok (.dup, 1) := by decide +kernel
theorem dX6_remember_42 : decode cX6_remember 42 = .ok (.getfield 187, 3) := by decide +kernel
theorem dX6_remember_45 : decode cX6_remember 45 = .ok (.iconst 1, 1) := by decide +kernel
theorem dX6_remember_46 : decode cX6_remember 46 = .ok (.isub, 1) := by decide +kernel
theorem dX6_remember_47 : decode cX6_remember 47 = .ok (.putfield 187, 3) := by decide +kernel
theorem dX6_remember_50 : decode cX6_remember 50 = .ok (.aload_n 0, 1) := by decide +kernel
theorem dX6_remember_51 : decode cX6_remember 51 = .ok (.getfield 13, 3) := by decide +kernel
theorem dX6_remember_54 : decode cX6_remember 54 = .ok (.iconst 0, 1) := by decide +kernel
theorem dX6_remember_55 : decode cX6_remember 55 = .ok (.aload_n 0, 1) := by decide +kernel
theorem dX6_remember_56 : decode cX6_remember 56 = .ok (.getfield 19, 3) := by decide +kernel
theorem dX6_remember_59 : decode cX6_remember 59 = .ok (.sipush 258, 3) := by decide +kernel
theorem dX6_remember_62 : decode cX6_remember 62 = .ok (.aload_n 0, 1) := by decide +kernel
theorem dX6_remember_63 : decode cX6_remember 63 = .ok (.getfield 187, 3) := by decide +kernel
theorem dX6_remember_66 : decode cX6_remember 66 = .ok (.imul, 1) := by decide +kernel
theorem dX6_remember_67 : decode cX6_remember 67 = .ok (.invokestatic 183, 3) := by decide +kernel
theorem dX6_remember_70 : decode cX6_remember 70 = .ok (.aload_n 0, 1) := by decide +kernel
theorem dX6_remember_71 : decode cX6_remember 71 = .ok (.dup, 1) := by decide +kernel
theorem dX6_remember_72 : decode cX6_remember 72 = .ok (.getfield 187, 3) := by decide +kernel
theorem dX6_remember_75 : decode cX6_remember 75 = .ok (.iconst 1, 1) := by decide +kernel
theorem dX6_remember_76 : decode cX6_remember 76 = .ok (.iadd, 1) := by decide +kernel
theorem dX6_remember_77 : decode cX6_remember 77 = .ok (.putfield 187, 3) := by decide +kernel
theorem dX6_remember_80 : decode cX6_remember 80 = .ok (.return_, 1) := by decide +kernel
theorem dX6_customer_0 : decode cX6_customer 0 = .ok (.aload_n 0, 1) := by decide +kernel
theorem dX6_customer_1 : decode cX6_customer 1 = .ok (.iload_n 1, 1) := by decide +kernel
theorem dX6_customer_2 : decode cX6_customer 2 = .ok (.invokestatic 205, 3) := by decide +kernel
theorem dX6_customer_5 : decode cX6_customer 5 = .ok (.ifCond .ne 7, 3) := by decide +kernel
theorem dX6_customer_8 : decode cX6_customer 8 = .ok (.iconst 1, 1) := by decide +kernel
theorem dX6_customer_9 : decode cX6_customer 9 = .ok (.goto 35, 3) := by decide +kernel
theorem dX6_customer_12 : decode cX6_customer 12 = .ok (.iload_n 2, 1) := by decide +kernel
theorem dX6_customer_13 : decode cX6_customer 13 = .ok (.i2l, 1) := by decide +kernel
theorem dX6_customer_14 : decode cX6_customer 14 = .ok (.lconst 0, 1) := by decide +kernel
theorem dX6_customer_15 : decode cX6_customer 15 = .ok (.ldc2_w 212, 3) := by decide +kernel
theorem dX6_customer_18 : decode cX6_customer 18 = .ok (.invokestatic 37, 3) := by decide +kernel
theorem dX6_customer_21 : decode cX6_customer 21 = .ok (.ifCond .ne 7, 3) := by decide +kernel
theorem dX6_customer_24 : decode cX6_customer 24 = .ok (.iconst 2, 1) := by decide +kernel
theorem dX6_customer_25 : decode cX6_customer 25 = .ok (.goto 19, 3) := by decide +kernel
theorem dX6_customer_28 : decode cX6_customer 28 = .ok (.aload_n 0, 1) := by decide +kernel
theorem dX6_customer_29 : decode cX6_customer 29 = .ok (.getfield 13, 3) := by decide +kernel
theorem dX6_customer_32 : decode cX6_customer 32 = .ok (.iconst 0, 1) := by decide +kernel
theorem dX6_customer_33 : decode cX6_customer 33 = .ok (.iaload, 1) := by decide +kernel
theorem dX6_customer_34 : decode cX6_customer 34 = .ok (.bipush 10, 2) := by decide +kernel
theorem dX6_customer_36 : decode cX6_customer 36 = .ok (.if_icmp .ge 7, 3) := by decide +kernel
theorem dX6_customer_39 : decode cX6_customer 39 = .ok (.iconst 0, 1) := by decide +kernel
theorem dX6_customer_40 : decode cX6_customer 40 = .ok (.goto 4, 3) := by decide +kernel
theorem dX6_customer_43 : decode cX6_customer 43 = .ok (.iconst 3, 1) := by decide +kernel
theorem dX6_customer_44 : decode cX6_customer 44 = .ok (.invokevirtual 108, 3) := by decide +kernel
theorem dX6_customer_47 : decode cX6_customer 47 = .ok (.ifCond .eq 5, 3) := by decide +kernel
theorem dX6_customer_50 : decode cX6_customer 50 = .ok (.iconst 0, 1) := by decide +kernel
theorem dX6_customer_51 : decode cX6_customer 51 = .ok (.ireturn, 1) := by decide +kernel
theorem dX6_customer_52 : decode cX6_customer 52 = .ok (.aload_n 0, 1) := by decide +kernel
theorem dX6_customer_53 : decode cX6_customer 53 = .ok (.invokevirtual 214, 3) := by decide +kernel
theorem dX6_customer_56 : decode cX6_customer 56 = .ok (.aload_n 0, 1) := by decide +kernel
theorem dX6_customer_57 : decode cX6_customer 57 = .ok (.getfield 13, 3) := by decide +kernel
theorem dX6_customer_60 : decode cX6_customer 60 = .ok (.iload_n 1, 1) := by decide +kernel
theorem dX6_customer_61 : decode cX6_customer 61 = .ok (.iload_n 2, 1) := by decide +kernel
theorem dX6_customer_62 : decode cX6_customer 62 = .ok (.invokestatic 128, 3) := by decide +kernel
theorem dX6_customer_65 : decode cX6_customer 65 = .ok (.ireturn, 1) := by decide +kernel
theorem dX6_change_0 : decode cX6_change 0 = .ok (.aload_n 0, 1) := by decide +kernel
theorem dX6_change_1 : decode cX6_change 1 = .ok (.aload_n 0, 1) := by decide +kernel
theorem dX6_change_2 : decode cX6_change 2 = .ok (.getfield 13, 3) := by decide +kernel
theorem dX6_change_5 : decode cX6_change 5 = .ok (.iload_n 1, 1) := by decide +kernel
theorem dX6_change_6 : decode cX6_change 6 = .ok (.invokestatic 139, 3) := by decide +kernel
theorem dX6_change_9 : decode cX6_change 9 = .ok (.ifCond .eq 10, 3) := by decide +kernel
theorem dX6_change_12 : decode cX6_change 12 = .ok (.iload_n 2, 1) := by decide +kernel
theorem dX6_change_13 : decode cX6_change 13 = .ok (.invokestatic 200, 3) := by decide +kernel
theorem dX6_change_16 : decode cX6_change 16 = .ok (.ifCond .ne 7, 3) := by decide +kernel
theorem dX6_change_19 : decode cX6_change 19 = .ok (.iconst 1, 1) := by decide +kernel
theorem dX6_change_20 : decode cX6_change 20 = .ok (.goto 20, 3) := by decide +kernel
theorem dX6_change_23 : decode cX6_change 23 = .ok (.iload_n 3, 1) := by decide +kernel
theorem dX6_change_24 : decode cX6_change 24 = .ok (.i2l, 1) := by decide +kernel
theorem dX6_change_25 : decode cX6_change 25 = .ok (.lconst 0, 1) := by decide +kernel
theorem dX6_change_26 : decode cX6_change 26 = .ok (.ldc2_w 47, 3) := by decide +kernel
theorem dX6_change_29 : decode cX6_change 29 = .ok (.invokestatic 37, 3) := by decide +kernel
theorem dX6_change_32 : decode cX6_change 32 = .ok (.ifCond .eq 7, 3) := by decide +kernel
theorem dX6_change_35 : decode cX6_change 35 = .ok (.iconst 0, 1) := by decide +kernel
theorem dX6_change_36 : decode cX6_change 36 = .ok (.goto 4, 3) := by decide +kernel
theorem dX6_change_39 : decode cX6_change 39 = .ok (.iconst 2, 1) := by decide +kernel
theorem dX6_change_40 : decode cX6_change 40 = .ok (.invokevirtual 108, 3) := by decide +kernel
theorem dX6_change_43 : decode cX6_change 43 = .ok (.ifCond .eq 5, 3) := by decide +kernel
theorem dX6_change_46 : decode cX6_change 46 = .ok (.iconst 0, 1) := by decide +kernel
theorem dX6_change_47 : decode cX6_change 47 = .ok (.ireturn, 1) := by decide +kernel
theorem dX6_change_48 : decode cX6_change 48 = .ok (.aload_n 0, 1) := by decide +kernel
theorem dX6_change_49 : decode cX6_change 49 = .ok (.invokevirtual 214, 3) := by decide +kernel
theorem dX6_change_52 : decode cX6_change 52 = .ok (.aload_n 0, 1) := by decide +kernel
theorem dX6_change_53 : decode cX6_change 53 = .ok (.getfield 13, 3) := by decide +kernel
theorem dX6_change_56 : decode cX6_change 56 = .ok (.iload_n 1, 1) := by decide +kernel
theorem dX6_change_57 : decode cX6_change 57 = .ok (.iload_n 2, 1) := by decide +kernel
theorem dX6_change_58 : decode cX6_change 58 = .ok (.iload_n 3, 1) := by decide +kernel
theorem dX6_change_59 : decode cX6_change 59 = .ok (.invokestatic 143, 3) := by decide +kernel
theorem dX6_change_62 : decode cX6_change 62 = .ok (.ireturn, 1) := by decide +kernel
theorem dX6_holiday_0 : decode cX6_holiday 0 = .ok (.aload_n 0, 1) := by decide +kernel
theorem dX6_holiday_1 : decode cX6_holiday 1 = .ok (.aload_n 0, 1) := by decide +kernel
theorem dX6_holiday_2 : decode cX6_holiday 2 = .ok (.getfield 13, 3) := by decide +kernel
theorem dX6_holiday_5 : decode cX6_holiday 5 = .ok (.iload_n 1, 1) := by decide +kernel
theorem dX6_holiday_6 : decode cX6_holiday 6 = .ok (.invokestatic 139, 3) := by decide +kernel
theorem dX6_holiday_9 : decode cX6_holiday 9 = .ok (.ifCond .ne 7, 3) := by decide +kernel
theorem dX6_holiday_12 : decode cX6_holiday 12 = .ok (.iconst 1, 1) := by decide +kernel
theorem dX6_holiday_13 : decode cX6_holiday 13 = .ok (.goto 34, 3) := by decide +kernel
theorem dX6_holiday_16 : decode cX6_holiday 16 = .ok (.iload_n 2, 1) := by decide +kernel
theorem dX6_holiday_17 : decode cX6_holiday 17 = .ok (.iload_n 3, 1) := by decide +kernel
theorem dX6_holiday_18 : decode cX6_holiday 18 = .ok (.invokestatic 217, 3) := by decide +kernel
theorem dX6_holiday_21 : decode cX6_holiday 21 = .ok (.ifCond .ne 7, 3) := by decide +kernel
theorem dX6_holiday_24 : decode cX6_holiday 24 = .ok (.iconst 2, 1) := by decide +kernel
theorem dX6_holiday_25 : decode cX6_holiday 25 = .ok (.goto 22, 3) := by decide +kernel
theorem dX6_holiday_28 : decode cX6_holiday 28 = .ok (.aload_n 0, 1) := by decide +kernel
theorem dX6_holiday_29 : decode cX6_holiday 29 = .ok (.getfield 13, 3) := by decide +kernel
theorem dX6_holiday_32 : decode cX6_holiday 32 = .ok (.iload_n 1, 1) := by decide +kernel
theorem dX6_holiday_33 : decode cX6_holiday 33 = .ok (.bipush 14, 2) := by decide +kernel
theorem dX6_holiday_35 : decode cX6_holiday 35 = .ok (.invokestatic 53, 3) := by decide +kernel
theorem dX6_holiday_38 : decode cX6_holiday 38 = .ok (.iconst 3, 1) := by decide +kernel
theorem dX6_holiday_39 : decode cX6_holiday 39 = .ok (.if_icmp .ge 7, 3) := by decide +kernel
theorem dX6_holiday_42 : decode cX6_holiday 42 = .ok (.iconst 0, 1) := by decide +kernel
theorem dX6_holiday_43 : decode cX6_holiday 43 = .ok (.goto 4, 3) := by decide +kernel
theorem dX6_holiday_46 : decode cX6_holiday 46 = .ok (.iconst 3, 1) := by decide +kernel
theorem dX6_holiday_47 : decode cX6_holiday 47 = .ok (.invokevirtual 108, 3) := by decide +kernel
theorem dX6_holiday_50 : decode cX6_holiday 50 = .ok (.ifCond .eq 5, 3) := by decide +kernel
theorem dX6_holiday_53 : decode cX6_holiday 53 = .ok (.iconst 0, 1) := by decide +kernel
theorem dX6_holiday_54 : decode cX6_holiday 54 = .ok (.ireturn, 1) := by decide +kernel
theorem dX6_holiday_55 : decode cX6_holiday 55 = .ok (.aload_n 0, 1) := by decide +kernel
theorem dX6_holiday_56 : decode cX6_holiday 56 = .ok (.invokevirtual 214, 3) := by decide +kernel
theorem dX6_holiday_59 : decode cX6_holiday 59 = .ok (.aload_n 0, 1) := by decide +kernel
theorem dX6_holiday_60 : decode cX6_holiday 60 = .ok (.getfield 13, 3) := by decide +kernel
theorem dX6_holiday_63 : decode cX6_holiday 63 = .ok (.iload_n 1, 1) := by decide +kernel
theorem dX6_holiday_64 : decode cX6_holiday 64 = .ok (.iload_n 2, 1) := by decide +kernel
theorem dX6_holiday_65 : decode cX6_holiday 65 = .ok (.iload_n 3, 1) := by decide +kernel
theorem dX6_holiday_66 : decode cX6_holiday 66 = .ok (.invokestatic 146, 3) := by decide +kernel
theorem dX6_holiday_69 : decode cX6_holiday 69 = .ok (.ireturn, 1) := by decide +kernel
theorem dX6_drop_0 : decode cX6_drop 0 = .ok (.aload_n 0, 1) := by decide +kernel
theorem dX6_drop_1 : decode cX6_drop 1 = .ok (.aload_n 0, 1) := by decide +kernel
theorem dX6_drop_2 : decode cX6_drop 2 = .ok (.getfield 13, 3) := by decide +kernel
theorem dX6_drop_5 : decode cX6_drop 5 = .ok (.iload_n 1, 1) := by decide +kernel
theorem dX6_drop_6 : decode cX6_drop 6 = .ok (.invokestatic 139, 3) := by decide +kernel
theorem dX6_drop_9 : decode cX6_drop 9 = .ok (.ifCond .eq 29, 3) := by decide +kernel
theorem dX6_drop_12 : decode cX6_drop 12 = .ok (.iload_n 2, 1) := by decide +kernel
theorem dX6_drop_13 : decode cX6_drop 13 = .ok (.i2l, 1) := by decide +kernel
theorem dX6_drop_14 : decode cX6_drop 14 = .ok (.lconst 0, 1) := by decide +kernel
theorem dX6_drop_15 : decode cX6_drop 15 = .ok (.aload_n 0, 1) := by decide +kernel
theorem dX6_drop_16 : decode cX6_drop 16 = .ok (.getfield 13, 3) := by decide +kernel
theorem dX6_drop_19 : decode cX6_drop 19 = .ok (.iload_n 1, 1) := by decide +kernel
theorem dX6_drop_20 : decode cX6_drop 20 = .ok (.bipush 14, 2) := by decide +kernel
theorem dX6_drop_22 : decode cX6_drop 22 = .ok (.invokestatic 53, 3) := by decide +kernel
theorem dX6_drop_25 : decode cX6_drop 25 = .ok (.iconst 1, 1) := by decide +kernel
theorem dX6_drop_26 : decode cX6_drop 26 = .ok (.isub, 1) := by decide +kernel
theorem dX6_drop_27 : decode cX6_drop 27 = .ok (.i2l, 1) := by decide +kernel
theorem dX6_drop_28 : decode cX6_drop 28 = .ok (.invokestatic 37, 3) := by decide +kernel
theorem dX6_drop_31 : decode cX6_drop 31 = .ok (.ifCond .eq 7, 3) := by decide +kernel
theorem dX6_drop_34 : decode cX6_drop 34 = .ok (.iconst 0, 1) := by decide +kernel
theorem dX6_drop_35 : decode cX6_drop 35 = .ok (.goto 4, 3) := by decide +kernel
theorem dX6_drop_38 : decode cX6_drop 38 = .ok (.iconst 1, 1) := by decide +kernel
theorem dX6_drop_39 : decode cX6_drop 39 = .ok (.invokevirtual 108, 3) := by decide +kernel
theorem dX6_drop_42 : decode cX6_drop 42 = .ok (.ifCond .eq 5, 3) := by decide +kernel
theorem dX6_drop_45 : decode cX6_drop 45 = .ok (.iconst 0, 1) := by decide +kernel
theorem dX6_drop_46 : decode cX6_drop 46 = .ok (.ireturn, 1) := by decide +kernel
theorem dX6_drop_47 : decode cX6_drop 47 = .ok (.aload_n 0, 1) := by decide +kernel
theorem dX6_drop_48 : decode cX6_drop 48 = .ok (.invokevirtual 214, 3) := by decide +kernel
theorem dX6_drop_51 : decode cX6_drop 51 = .ok (.aload_n 0, 1) := by decide +kernel
theorem dX6_drop_52 : decode cX6_drop 52 = .ok (.getfield 13, 3) := by decide +kernel
theorem dX6_drop_55 : decode cX6_drop 55 = .ok (.iload_n 1, 1) := by decide +kernel
theorem dX6_drop_56 : decode cX6_drop 56 = .ok (.iload_n 2, 1) := by decide +kernel
theorem dX6_drop_57 : decode cX6_drop 57 = .ok (.invokestatic 220, 3) := by decide +kernel
theorem dX6_drop_60 : decode cX6_drop 60 = .ok (.ireturn, 1) := by decide +kernel
theorem dX6_close_0 : decode cX6_close 0 = .ok (.aload_n 0, 1) := by decide +kernel
theorem dX6_close_1 : decode cX6_close 1 = .ok (.iload_n 1, 1) := by decide +kernel
theorem dX6_close_2 : decode cX6_close 2 = .ok (.invokestatic 205, 3) := by decide +kernel
theorem dX6_close_5 : decode cX6_close 5 = .ok (.ifCond .eq 14, 3) := by decide +kernel
theorem dX6_close_8 : decode cX6_close 8 = .ok (.iload_n 2, 1) := by decide +kernel
theorem dX6_close_9 : decode cX6_close 9 = .ok (.invokestatic 200, 3) := by decide +kernel
theorem dX6_close_12 : decode cX6_close 12 = .ok (.ifCond .eq 7, 3) := by decide +kernel
theorem dX6_close_15 : decode cX6_close 15 = .ok (.iconst 0, 1) := by decide +kernel
theorem dX6_close_16 : decode cX6_close 16 = .ok (.goto 4, 3) := by decide +kernel
theorem dX6_close_19 : decode cX6_close 19 = .ok (.iconst 1, 1) := by decide +kernel
theorem dX6_close_20 : decode cX6_close 20 = .ok (.invokevirtual 108, 3) := by decide +kernel
theorem dX6_close_23 : decode cX6_close 23 = .ok (.ifCond .eq 5, 3) := by decide +kernel
theorem dX6_close_26 : decode cX6_close 26 = .ok (.iconst 0, 1) := by decide +kernel
theorem dX6_close_27 : decode cX6_close 27 = .ok (.ireturn, 1) := by decide +kernel
theorem dX6_close_28 : decode cX6_close 28 = .ok (.aload_n 0, 1) := by decide +kernel
theorem dX6_close_29 : decode cX6_close 29 = .ok (.invokevirtual 214, 3) := by decide +kernel
theorem dX6_close_32 : decode cX6_close 32 = .ok (.aload_n 0, 1) := by decide +kernel
theorem dX6_close_33 : decode cX6_close 33 = .ok (.getfield 13, 3) := by decide +kernel
theorem dX6_close_36 : decode cX6_close 36 = .ok (.iload_n 1, 1) := by decide +kernel
theorem dX6_close_37 : decode cX6_close 37 = .ok (.iload_n 2, 1) := by decide +kernel
theorem dX6_close_38 : decode cX6_close 38 = .ok (.iload_n 3, 1) := by decide +kernel
theorem dX6_close_39 : decode cX6_close 39 = .ok (.invokestatic 149, 3) := by decide +kernel
theorem dX6_close_42 : decode cX6_close 42 = .ok (.ireturn, 1) := by decide +kernel
theorem dX6_swap_0 : decode cX6_swap 0 = .ok (.aload_n 0, 1) := by decide +kernel
theorem dX6_swap_1 : decode cX6_swap 1 = .ok (.iload_n 1, 1) := by decide +kernel
theorem dX6_swap_2 : decode cX6_swap 2 = .ok (.invokestatic 205, 3) := by decide +kernel
theorem dX6_swap_5 : decode cX6_swap 5 = .ok (.ifCond .eq 14, 3) := by decide +kernel
theorem dX6_swap_8 : decode cX6_swap 8 = .ok (.iload_n 2, 1) := by decide +kernel
theorem dX6_swap_9 : decode cX6_swap 9 = .ok (.invokestatic 205, 3) := by decide +kernel
theorem dX6_swap_12 : decode cX6_swap 12 = .ok (.ifCond .eq 7, 3) := by decide +kernel
theorem dX6_swap_15 : decode cX6_swap 15 = .ok (.iconst 0, 1) := by decide +kernel
theorem dX6_swap_16 : decode cX6_swap 16 = .ok (.goto 4, 3) := by decide +kernel
theorem dX6_swap_19 : decode cX6_swap 19 = .ok (.iconst 1, 1) := by decide +kernel
theorem dX6_swap_20 : decode cX6_swap 20 = .ok (.invokevirtual 108, 3) := by decide +kernel
theorem dX6_swap_23 : decode cX6_swap 23 = .ok (.ifCond .eq 5, 3) := by decide +kernel
theorem dX6_swap_26 : decode cX6_swap 26 = .ok (.iconst 0, 1) := by decide +kernel
theorem dX6_swap_27 : decode cX6_swap 27 = .ok (.ireturn, 1) := by decide +kernel
theorem dX6_swap_28 : decode cX6_swap 28 = .ok (.aload_n 0, 1) := by decide +kernel
theorem dX6_swap_29 : decode cX6_swap 29 = .ok (.invokevirtual 214, 3) := by decide +kernel
theorem dX6_swap_32 : decode cX6_swap 32 = .ok (.aload_n 0, 1) := by decide +kernel
theorem dX6_swap_33 : decode cX6_swap 33 = .ok (.getfield 13, 3) := by decide +kernel
theorem dX6_swap_36 : decode cX6_swap 36 = .ok (.iload_n 1, 1) := by decide +kernel
theorem dX6_swap_37 : decode cX6_swap 37 = .ok (.iload_n 2, 1) := by decide +kernel
theorem dX6_swap_38 : decode cX6_swap 38 = .ok (.invokestatic 166, 3) := by decide +kernel
theorem dX6_swap_41 : decode cX6_swap 41 = .ok (.ireturn, 1) := by decide +kernel
theorem dX6_set_0 : decode cX6_set 0 = .ok (.aload_n 0, 1) := by decide +kernel
theorem dX6_set_1 : decode cX6_set 1 = .ok (.iload_n 1, 1) := by decide +kernel
theorem dX6_set_2 : decode cX6_set 2 = .ok (.iload_n 2, 1) := by decide +kernel
theorem dX6_set_3 : decode cX6_set 3 = .ok (.invokestatic 169, 3) := by decide +kernel
theorem dX6_set_6 : decode cX6_set 6 = .ok (.ifCond .eq 7, 3) := by decide +kernel
theorem dX6_set_9 : decode cX6_set 9 = .ok (.iconst 0, 1) := by decide +kernel
theorem dX6_set_10 : decode cX6_set 10 = .ok (.goto 4, 3) := by decide +kernel
theorem dX6_set_13 : decode cX6_set 13 = .ok (.iconst 1, 1) := by decide +kernel
theorem dX6_set_14 : decode cX6_set 14 = .ok (.invokevirtual 108, 3) := by decide +kernel
theorem dX6_set_17 : decode cX6_set 17 = .ok (.ifCond .eq 5, 3) := by decide +kernel
theorem dX6_set_20 : decode cX6_set 20 = .ok (.iconst 0, 1) := by decide +kernel
theorem dX6_set_21 : decode cX6_set 21 = .ok (.ireturn, 1) := by decide +kernel
theorem dX6_set_22 : decode cX6_set 22 = .ok (.aload_n 0, 1) := by decide +kernel
theorem dX6_set_23 : decode cX6_set 23 = .ok (.invokevirtual 214, 3) := by decide +kernel
theorem dX6_set_26 : decode cX6_set 26 = .ok (.aload_n 0, 1) := by decide +kernel
theorem dX6_set_27 : decode cX6_set 27 = .ok (.getfield 13, 3) := by decide +kernel
theorem dX6_set_30 : decode cX6_set 30 = .ok (.bipush 11, 2) := by decide +kernel
theorem dX6_set_32 : decode cX6_set 32 = .ok (.iload_n 1, 1) := by decide +kernel
theorem dX6_set_33 : decode cX6_set 33 = .ok (.iadd, 1) := by decide +kernel
theorem dX6_set_34 : decode cX6_set 34 = .ok (.iload_n 2, 1) := by decide +kernel
theorem dX6_set_35 : decode cX6_set 35 = .ok (.invokestatic 95, 3) := by decide +kernel
theorem dX6_set_38 : decode cX6_set 38 = .ok (.ireturn, 1) := by decide +kernel
theorem dX6_days_0 : decode cX6_days 0 = .ok (.aload_n 0, 1) := by decide +kernel
theorem dX6_days_1 : decode cX6_days 1 = .ok (.iload_n 1, 1) := by decide +kernel
theorem dX6_days_2 : decode cX6_days 2 = .ok (.i2l, 1) := by decide +kernel
theorem dX6_days_3 : decode cX6_days 3 = .ok (.lconst 1, 1) := by decide +kernel
theorem dX6_days_4 : decode cX6_days 4 = .ok (.ldc2_w 223, 3) := by decide +kernel
theorem dX6_days_7 : decode cX6_days 7 = .ok (.invokestatic 37, 3) := by decide +kernel
theorem dX6_days_10 : decode cX6_days 10 = .ok (.ifCond .eq 7, 3) := by decide +kernel
theorem dX6_days_13 : decode cX6_days 13 = .ok (.iconst 0, 1) := by decide +kernel
theorem dX6_days_14 : decode cX6_days 14 = .ok (.goto 4, 3) := by decide +kernel
theorem dX6_days_17 : decode cX6_days 17 = .ok (.iconst 1, 1) := by decide +kernel
theorem dX6_days_18 : decode cX6_days 18 = .ok (.invokevirtual 108, 3) := by decide +kernel
theorem dX6_days_21 : decode cX6_days 21 = .ok (.ifCond .eq 5, 3) := by decide +kernel
theorem dX6_days_24 : decode cX6_days 24 = .ok (.iconst 0, 1) := by decide +kernel
theorem dX6_days_25 : decode cX6_days 25 = .ok (.ireturn, 1) := by decide +kernel
theorem dX6_days_26 : decode cX6_days 26 = .ok (.aload_n 0, 1) := by decide +kernel
theorem dX6_days_27 : decode cX6_days 27 = .ok (.invokevirtual 214, 3) := by decide +kernel
theorem dX6_days_30 : decode cX6_days 30 = .ok (.aload_n 0, 1) := by decide +kernel
theorem dX6_days_31 : decode cX6_days 31 = .ok (.getfield 13, 3) := by decide +kernel
theorem dX6_days_34 : decode cX6_days 34 = .ok (.iload_n 1, 1) := by decide +kernel
theorem dX6_days_35 : decode cX6_days 35 = .ok (.invokestatic 173, 3) := by decide +kernel
theorem dX6_days_38 : decode cX6_days 38 = .ok (.ireturn, 1) := by decide +kernel
theorem dX6_undo_0 : decode cX6_undo 0 = .ok (.aload_n 0, 1) := by decide +kernel
theorem dX6_undo_1 : decode cX6_undo 1 = .ok (.aload_n 0, 1) := by decide +kernel
theorem dX6_undo_2 : decode cX6_undo 2 = .ok (.getfield 187, 3) := by decide +kernel
theorem dX6_undo_5 : decode cX6_undo 5 = .ok (.ifCond .ne 7, 3) := by decide +kernel
theorem dX6_undo_8 : decode cX6_undo 8 = .ok (.iconst 1, 1) := by decide +kernel
theorem dX6_undo_9 : decode cX6_undo 9 = .ok (.goto 4, 3) := by decide +kernel
theorem dX6_undo_12 : decode cX6_undo 12 = .ok (.iconst 0, 1) := by decide +kernel
theorem dX6_undo_13 : decode cX6_undo 13 = .ok (.invokevirtual 108, 3) := by decide +kernel
theorem dX6_undo_16 : decode cX6_undo 16 = .ok (.ifCond .eq 5, 3) := by decide +kernel
theorem dX6_undo_19 : decode cX6_undo 19 = .ok (.iconst 0, 1) := by decide +kernel
theorem dX6_undo_20 : decode cX6_undo 20 = .ok (.ireturn, 1) := by decide +kernel
theorem dX6_undo_21 : decode cX6_undo 21 = .ok (.aload_n 0, 1) := by decide +kernel
theorem dX6_undo_22 : decode cX6_undo 22 = .ok (.dup, 1) := by decide +kernel
theorem dX6_undo_23 : decode cX6_undo 23 = .ok (.getfield 187, 3) := by decide +kernel
theorem dX6_undo_26 : decode cX6_undo 26 = .ok (.iconst 1, 1) := by decide +kernel
theorem dX6_undo_27 : decode cX6_undo 27 = .ok (.isub, 1) := by decide +kernel
theorem dX6_undo_28 : decode cX6_undo 28 = .ok (.putfield 187, 3) := by decide +kernel
theorem dX6_undo_31 : decode cX6_undo 31 = .ok (.aload_n 0, 1) := by decide +kernel
theorem dX6_undo_32 : decode cX6_undo 32 = .ok (.getfield 19, 3) := by decide +kernel
theorem dX6_undo_35 : decode cX6_undo 35 = .ok (.sipush 258, 3) := by decide +kernel
theorem dX6_undo_38 : decode cX6_undo 38 = .ok (.aload_n 0, 1) := by decide +kernel
theorem dX6_undo_39 : decode cX6_undo 39 = .ok (.getfield 187, 3) := by decide +kernel
theorem dX6_undo_42 : decode cX6_undo 42 = .ok (.imul, 1) := by decide +kernel
theorem dX6_undo_43 : decode cX6_undo 43 = .ok (.aload_n 0, 1) := by decide +kernel
theorem dX6_undo_44 : decode cX6_undo 44 = .ok (.getfield 13, 3) := by decide +kernel
theorem dX6_undo_47 : decode cX6_undo 47 = .ok (.iconst 0, 1) := by decide +kernel
theorem dX6_undo_48 : decode cX6_undo 48 = .ok (.invokestatic 183, 3) := by decide +kernel
theorem dX6_undo_51 : decode cX6_undo 51 = .ok (.aload_n 0, 1) := by decide +kernel
theorem dX6_undo_52 : decode cX6_undo 52 = .ok (.getfield 187, 3) := by decide +kernel
theorem dX6_undo_55 : decode cX6_undo 55 = .ok (.ireturn, 1) := by decide +kernel
theorem dX6_why_0 : decode cX6_why 0 = .ok (.aload_n 0, 1) := by decide +kernel
theorem dX6_why_1 : decode cX6_why 1 = .ok (.aload_n 0, 1) := by decide +kernel
theorem dX6_why_2 : decode cX6_why 2 = .ok (.getfield 13, 3) := by decide +kernel
theorem dX6_why_5 : decode cX6_why 5 = .ok (.iload_n 1, 1) := by decide +kernel
theorem dX6_why_6 : decode cX6_why 6 = .ok (.invokestatic 139, 3) := by decide +kernel
theorem dX6_why_9 : decode cX6_why 9 = .ok (.ifCond .eq 7, 3) := by decide +kernel
theorem dX6_why_12 : decode cX6_why 12 = .ok (.iconst 0, 1) := by decide +kernel
theorem dX6_why_13 : decode cX6_why 13 = .ok (.goto 4, 3) := by decide +kernel
theorem dX6_why_16 : decode cX6_why 16 = .ok (.iconst 1, 1) := by decide +kernel
theorem dX6_why_17 : decode cX6_why 17 = .ok (.invokevirtual 108, 3) := by decide +kernel
theorem dX6_why_20 : decode cX6_why 20 = .ok (.ifCond .eq 5, 3) := by decide +kernel
theorem dX6_why_23 : decode cX6_why 23 = .ok (.iconst 0, 1) := by decide +kernel
theorem dX6_why_24 : decode cX6_why 24 = .ok (.ireturn, 1) := by decide +kernel
theorem dX6_why_25 : decode cX6_why 25 = .ok (.aload_n 0, 1) := by decide +kernel
theorem dX6_why_26 : decode cX6_why 26 = .ok (.getfield 13, 3) := by decide +kernel
theorem dX6_why_29 : decode cX6_why 29 = .ok (.iload_n 1, 1) := by decide +kernel
theorem dX6_why_30 : decode cX6_why 30 = .ok (.invokestatic 225, 3) := by decide +kernel
theorem dX6_why_33 : decode cX6_why 33 = .ok (.ireturn, 1) := by decide +kernel
theorem dX6_creditIn_0 : decode cX6_creditIn 0 = .ok (.aload_n 0, 1) := by decide +kernel
theorem dX6_creditIn_1 : decode cX6_creditIn 1 = .ok (.aload_n 0, 1) := by decide +kernel
theorem dX6_creditIn_2 : decode cX6_creditIn 2 = .ok (.getfield 13, 3) := by decide +kernel
theorem dX6_creditIn_5 : decode cX6_creditIn 5 = .ok (.iload_n 1, 1) := by decide +kernel
theorem dX6_creditIn_6 : decode cX6_creditIn 6 = .ok (.invokestatic 139, 3) := by decide +kernel
theorem dX6_creditIn_9 : decode cX6_creditIn 9 = .ok (.ifCond .ne 7, 3) := by decide +kernel
theorem dX6_creditIn_12 : decode cX6_creditIn 12 = .ok (.iconst 1, 1) := by decide +kernel
theorem dX6_creditIn_13 : decode cX6_creditIn 13 = .ok (.goto 20, 3) := by decide +kernel
theorem dX6_creditIn_16 : decode cX6_creditIn 16 = .ok (.iload_n 2, 1) := by decide +kernel
theorem dX6_creditIn_17 : decode cX6_creditIn 17 = .ok (.i2l, 1) := by decide +kernel
theorem dX6_creditIn_18 : decode cX6_creditIn 18 = .ok (.lconst 0, 1) := by decide +kernel
theorem dX6_creditIn_19 : decode cX6_creditIn 19 = .ok (.ldc2_w 228, 3) := by decide +kernel
theorem dX6_creditIn_22 : decode cX6_creditIn 22 = .ok (.invokestatic 37, 3) := by decide +kernel
theorem dX6_creditIn_25 : decode cX6_creditIn 25 = .ok (.ifCond .eq 7, 3) := by decide +kernel
theorem dX6_creditIn_28 : decode cX6_creditIn 28 = .ok (.iconst 0, 1) := by decide +kernel
theorem dX6_creditIn_29 : decode cX6_creditIn 29 = .ok (.goto 4, 3) := by decide +kernel
theorem dX6_creditIn_32 : decode cX6_creditIn 32 = .ok (.iconst 2, 1) := by decide +kernel
theorem dX6_creditIn_33 : decode cX6_creditIn 33 = .ok (.invokevirtual 108, 3) := by decide +kernel
theorem dX6_creditIn_36 : decode cX6_creditIn 36 = .ok (.ifCond .eq 5, 3) := by decide +kernel
theorem dX6_creditIn_39 : decode cX6_creditIn 39 = .ok (.iconst 0, 1) := by decide +kernel
theorem dX6_creditIn_40 : decode cX6_creditIn 40 = .ok (.ireturn, 1) := by decide +kernel
theorem dX6_creditIn_41 : decode cX6_creditIn 41 = .ok (.aload_n 0, 1) := by decide +kernel
theorem dX6_creditIn_42 : decode cX6_creditIn 42 = .ok (.getfield 13, 3) := by decide +kernel
theorem dX6_creditIn_45 : decode cX6_creditIn 45 = .ok (.iconst 0, 1) := by decide +kernel
theorem dX6_creditIn_46 : decode cX6_creditIn 46 = .ok (.aload_n 0, 1) := by decide +kernel
theorem dX6_creditIn_47 : decode cX6_creditIn 47 = .ok (.getfield 16, 3) := by decide +kernel
theorem dX6_creditIn_50 : decode cX6_creditIn 50 = .ok (.iconst 0, 1) := by decide +kernel
theorem dX6_creditIn_51 : decode cX6_creditIn 51 = .ok (.invokestatic 183, 3) := by decide +kernel
theorem dX6_creditIn_54 : decode cX6_creditIn 54 = .ok (.aload_n 0, 1) := by decide +kernel
theorem dX6_creditIn_55 : decode cX6_creditIn 55 = .ok (.getfield 16, 3) := by decide +kernel
theorem dX6_creditIn_58 : decode cX6_creditIn 58 = .ok (.iload_n 2, 1) := by decide +kernel
theorem dX6_creditIn_59 : decode cX6_creditIn 59 = .ok (.invokestatic 173, 3) := by decide +kernel
theorem dX6_creditIn_62 : decode cX6_creditIn 62 = .ok (.pop, 1) := by decide +kernel
theorem dX6_creditIn_63 : decode cX6_creditIn 63 = .ok (.aload_n 0, 1) := by decide +kernel
theorem dX6_creditIn_64 : decode cX6_creditIn 64 = .ok (.getfield 16, 3) := by decide +kernel
theorem dX6_creditIn_67 : decode cX6_creditIn 67 = .ok (.iload_n 1, 1) := by decide +kernel
theorem dX6_creditIn_68 : decode cX6_creditIn 68 = .ok (.bipush 8, 2) := by decide +kernel
theorem dX6_creditIn_70 : decode cX6_creditIn 70 = .ok (.invokestatic 53, 3) := by decide +kernel
theorem dX6_creditIn_73 : decode cX6_creditIn 73 = .ok (.ireturn, 1) := by decide +kernel
theorem dX6_clearIn_0 : decode cX6_clearIn 0 = .ok (.aload_n 0, 1) := by decide +kernel
theorem dX6_clearIn_1 : decode cX6_clearIn 1 = .ok (.aload_n 0, 1) := by decide +kernel
theorem dX6_clearIn_2 : decode cX6_clearIn 2 = .ok (.getfield 13, 3) := by decide +kernel
theorem dX6_clearIn_5 : decode cX6_clearIn 5 = .ok (.iload_n 1, 1) := by decide +kernel
theorem dX6_clearIn_6 : decode cX6_clearIn 6 = .ok (.invokestatic 139, 3) := by decide +kernel
theorem dX6_clearIn_9 : decode cX6_clearIn 9 = .ok (.ifCond .eq 7, 3) := by decide +kernel
theorem dX6_clearIn_12 : decode cX6_clearIn 12 = .ok (.iconst 0, 1) := by decide +kernel
theorem dX6_clearIn_13 : decode cX6_clearIn 13 = .ok (.goto 4, 3) := by decide +kernel
theorem dX6_clearIn_16 : decode cX6_clearIn 16 = .ok (.iconst 1, 1) := by decide +kernel
theorem dX6_clearIn_17 : decode cX6_clearIn 17 = .ok (.invokevirtual 108, 3) := by decide +kernel
theorem dX6_clearIn_20 : decode cX6_clearIn 20 = .ok (.ifCond .eq 5, 3) := by decide +kernel
theorem dX6_clearIn_23 : decode cX6_clearIn 23 = .ok (.iconst 0, 1) := by decide +kernel
theorem dX6_clearIn_24 : decode cX6_clearIn 24 = .ok (.ireturn, 1) := by decide +kernel
theorem dX6_clearIn_25 : decode cX6_clearIn 25 = .ok (.aload_n 0, 1) := by decide +kernel
theorem dX6_clearIn_26 : decode cX6_clearIn 26 = .ok (.getfield 13, 3) := by decide +kernel
theorem dX6_clearIn_29 : decode cX6_clearIn 29 = .ok (.iconst 0, 1) := by decide +kernel
theorem dX6_clearIn_30 : decode cX6_clearIn 30 = .ok (.aload_n 0, 1) := by decide +kernel
theorem dX6_clearIn_31 : decode cX6_clearIn 31 = .ok (.getfield 16, 3) := by decide +kernel
theorem dX6_clearIn_34 : decode cX6_clearIn 34 = .ok (.iconst 0, 1) := by decide +kernel
theorem dX6_clearIn_35 : decode cX6_clearIn 35 = .ok (.invokestatic 183, 3) := by decide +kernel
theorem dX6_clearIn_38 : decode cX6_clearIn 38 = .ok (.iconst 0, 1) := by decide +kernel
theorem dX6_clearIn_39 : decode cX6_clearIn 39 = .ok (.istore_n 2, 1) := by decide +kernel
theorem dX6_clearIn_40 : decode cX6_clearIn 40 = .ok (.iload_n 2, 1) := by decide +kernel
theorem dX6_clearIn_41 : decode cX6_clearIn 41 = .ok (.sipush 200, 3) := by decide +kernel
theorem dX6_clearIn_44 : decode cX6_clearIn 44 = .ok (.if_icmp .gt 31, 3) := by decide +kernel
theorem dX6_clearIn_47 : decode cX6_clearIn 47 = .ok (.aload_n 0, 1) := by decide +kernel
theorem dX6_clearIn_48 : decode cX6_clearIn 48 = .ok (.getfield 16, 3) := by decide +kernel
theorem dX6_clearIn_51 : decode cX6_clearIn 51 = .ok (.iload_n 1, 1) := by decide +kernel
theorem dX6_clearIn_52 : decode cX6_clearIn 52 = .ok (.bipush 8, 2) := by decide +kernel
theorem dX6_clearIn_54 : decode cX6_clearIn 54 = .ok (.invokestatic 53, 3) := by decide +kernel
theorem dX6_clearIn_57 : decode cX6_clearIn 57 = .ok (.ifCond .ne 5, 3) := by decide +kernel
theorem dX6_clearIn_60 : decode cX6_clearIn 60 = .ok (.iload_n 2, 1) := by decide +kernel
theorem dX6_clearIn_61 : decode cX6_clearIn 61 = .ok (.ireturn, 1) := by decide +kernel
theorem dX6_clearIn_62 : decode cX6_clearIn 62 = .ok (.aload_n 0, 1) := by decide +kernel
theorem dX6_clearIn_63 : decode cX6_clearIn 63 = .ok (.getfield 16, 3) := by decide +kernel
theorem dX6_clearIn_66 : decode cX6_clearIn 66 = .ok (.invokestatic 92, 3) := by decide +kernel
theorem dX6_clearIn_69 : decode cX6_clearIn 69 = .ok (.iinc 2 1, 3) := by decide +kernel
theorem dX6_clearIn_72 : decode cX6_clearIn 72 = .ok (.goto (-32), 3) := by decide +kernel
theorem dX6_clearIn_75 : decode cX6_clearIn 75 = .ok (.iconst (-1), 1) := by decide +kernel
theorem dX6_clearIn_76 : decode cX6_clearIn 76 = .ok (.ireturn, 1) := by decide +kernel
theorem dX6_leastOven_0 : decode cX6_leastOven 0 = .ok (.aload_n 0, 1) := by decide +kernel
theorem dX6_leastOven_1 : decode cX6_leastOven 1 = .ok (.iload_n 1, 1) := by decide +kernel
theorem dX6_leastOven_2 : decode cX6_leastOven 2 = .ok (.i2l, 1) := by decide +kernel
theorem dX6_leastOven_3 : decode cX6_leastOven 3 = .ok (.lconst 1, 1) := by decide +kernel
theorem dX6_leastOven_4 : decode cX6_leastOven 4 = .ok (.ldc2_w 223, 3) := by decide +kernel
theorem dX6_leastOven_7 : decode cX6_leastOven 7 = .ok (.invokestatic 37, 3) := by decide +kernel
theorem dX6_leastOven_10 : decode cX6_leastOven 10 = .ok (.ifCond .eq 7, 3) := by decide +kernel
theorem dX6_leastOven_13 : decode cX6_leastOven 13 = .ok (.iconst 0, 1) := by decide +kernel
theorem dX6_leastOven_14 : decode cX6_leastOven 14 = .ok (.goto 4, 3) := by decide +kernel
theorem dX6_leastOven_17 : decode cX6_leastOven 17 = .ok (.iconst 1, 1) := by decide +kernel
theorem dX6_leastOven_18 : decode cX6_leastOven 18 = .ok (.invokevirtual 108, 3) := by decide +kernel
theorem dX6_leastOven_21 : decode cX6_leastOven 21 = .ok (.ifCond .eq 5, 3) := by decide +kernel
theorem dX6_leastOven_24 : decode cX6_leastOven 24 = .ok (.iconst 0, 1) := by decide +kernel
theorem dX6_leastOven_25 : decode cX6_leastOven 25 = .ok (.ireturn, 1) := by decide +kernel
theorem dX6_leastOven_26 : decode cX6_leastOven 26 = .ok (.iconst 0, 1) := by decide +kernel
theorem dX6_leastOven_27 : decode cX6_leastOven 27 = .ok (.istore_n 2, 1) := by decide +kernel
theorem dX6_leastOven_28 : decode cX6_leastOven 28 = .ok (.aload_n 0, 1) := by decide +kernel
theorem dX6_leastOven_29 : decode cX6_leastOven 29 = .ok (.getfield 13, 3) := by decide +kernel
theorem dX6_leastOven_32 : decode cX6_leastOven 32 = .ok (.iconst 1, 1) := by decide +kernel
theorem dX6_leastOven_33 : decode cX6_leastOven 33 = .ok (.iaload, 1) := by decide +kernel
theorem dX6_leastOven_34 : decode cX6_leastOven 34 = .ok (.istore_n 3, 1) := by decide +kernel
theorem dX6_leastOven_35 : decode cX6_leastOven 35 = .ok (.iload_n 3, 1) := by decide +kernel
theorem dX6_leastOven_36 : decode cX6_leastOven 36 = .ok (.aload_n 0, 1) := by decide +kernel
theorem dX6_leastOven_37 : decode cX6_leastOven 37 = .ok (.getfield 13, 3) := by decide +kernel
theorem dX6_leastOven_40 : decode cX6_leastOven 40 = .ok (.iconst 1, 1) := by decide +kernel
theorem dX6_leastOven_41 : decode cX6_leastOven 41 = .ok (.iaload, 1) := by decide +kernel
theorem dX6_leastOven_42 : decode cX6_leastOven 42 = .ok (.iload_n 1, 1) := by decide +kernel
theorem dX6_leastOven_43 : decode cX6_leastOven 43 = .ok (.iadd, 1) := by decide +kernel
theorem dX6_leastOven_44 : decode cX6_leastOven 44 = .ok (.if_icmp .ge 77, 3) := by decide +kernel
theorem dX6_leastOven_47 : decode cX6_leastOven 47 = .ok (.iconst 0, 1) := by decide +kernel
theorem dX6_leastOven_48 : decode cX6_leastOven 48 = .ok (.istore 4, 2) := by decide +kernel
theorem dX6_leastOven_50 : decode cX6_leastOven 50 = .ok (.iconst 0, 1) := by decide +kernel
theorem dX6_leastOven_51 : decode cX6_leastOven 51 = .ok (.istore 5, 2) := by decide +kernel
theorem dX6_leastOven_53 : decode cX6_leastOven 53 = .ok (.iload 5, 2) := by decide +kernel
theorem dX6_leastOven_55 : decode cX6_leastOven 55 = .ok (.aload_n 0, 1) := by decide +kernel
theorem dX6_leastOven_56 : decode cX6_leastOven 56 = .ok (.getfield 13, 3) := by decide +kernel
theorem dX6_leastOven_59 : decode cX6_leastOven 59 = .ok (.iconst 0, 1) := by decide +kernel
theorem dX6_leastOven_60 : decode cX6_leastOven 60 = .ok (.iaload, 1) := by decide +kernel
theorem dX6_leastOven_61 : decode cX6_leastOven 61 = .ok (.if_icmp .ge 41, 3) := by decide +kernel
theorem dX6_leastOven_64 : decode cX6_leastOven 64 = .ok (.iload 4, 2) := by decide +kernel
theorem dX6_leastOven_66 : decode cX6_leastOven 66 = .ok (.aload_n 0, 1) := by decide +kernel
theorem dX6_leastOven_67 : decode cX6_leastOven 67 = .ok (.getfield 13, 3) := by decide +kernel
theorem dX6_leastOven_70 : decode cX6_leastOven 70 = .ok (.iload 5, 2) := by decide +kernel
theorem dX6_leastOven_72 : decode cX6_leastOven 72 = .ok (.iload_n 3, 1) := by decide +kernel
theorem dX6_leastOven_73 : decode cX6_leastOven 73 = .ok (.invokestatic 68, 3) := by decide +kernel
theorem dX6_leastOven_76 : decode cX6_leastOven 76 = .ok (.ifCond .eq 16, 3) := by decide +kernel
theorem dX6_leastOven_79 : decode cX6_leastOven 79 = .ok (.aload_n 0, 1) := by decide +kernel
theorem dX6_leastOven_80 : decode cX6_leastOven 80 = .ok (.getfield 13, 3) := by decide +kernel
theorem dX6_leastOven_83 : decode cX6_leastOven 83 = .ok (.iload 5, 2) := by decide +kernel
theorem dX6_leastOven_85 : decode cX6_leastOven 85 = .ok (.iload_n 3, 1) := by decide +kernel
theorem dX6_leastOven_86 : decode cX6_leastOven 86 = .ok (.invokestatic 61, 3) := by decide +kernel
theorem dX6_leastOven_89 : decode cX6_leastOven 89 = .ok (.goto 4, 3) := by decide +kernel
theorem dX6_leastOven_92 : decode cX6_leastOven 92 = .ok (.iconst 0, 1) := by decide +kernel
theorem dX6_leastOven_93 : decode cX6_leastOven 93 = .ok (.iadd, 1) := by decide +kernel
theorem dX6_leastOven_94 : decode cX6_leastOven 94 = .ok (.istore 4, 2) := by decide +kernel
theorem dX6_leastOven_96 : decode cX6_leastOven 96 = .ok (.iinc 5 1, 3) := by decide +kernel
theorem dX6_leastOven_99 : decode cX6_leastOven 99 = .ok (.goto (-46), 3) := by decide +kernel
theorem dX6_leastOven_102 : decode cX6_leastOven 102 = .ok (.iload 4, 2) := by decide +kernel
theorem dX6_leastOven_104 : decode cX6_leastOven 104 = .ok (.iload_n 2, 1) := by decide +kernel
theorem dX6_leastOven_105 : decode cX6_leastOven 105 = .ok (.if_icmp .le 8, 3) := by decide +kernel
theorem dX6_leastOven_108 : decode cX6_leastOven 108 = .ok (.iload 4, 2) := by decide +kernel
theorem dX6_leastOven_110 : decode cX6_leastOven 110 = .ok (.goto 4, 3) := by decide +kernel
theorem dX6_leastOven_113 : decode cX6_leastOven 113 = .ok (.iload_n 2, 1) := by decide +kernel
theorem dX6_leastOven_114 : decode cX6_leastOven 114 = .ok (.istore_n 2, 1) := by decide +kernel
theorem dX6_leastOven_115 : decode cX6_leastOven 115 = .ok (.iinc 3 1, 3) := by decide +kernel
theorem dX6_leastOven_118 : decode cX6_leastOven 118 = .ok (.goto (-83), 3) := by decide +kernel
theorem dX6_leastOven_121 : decode cX6_leastOven 121 = .ok (.iload_n 2, 1) := by decide +kernel
theorem dX6_leastOven_122 : decode cX6_leastOven 122 = .ok (.ireturn, 1) := by decide +kernel
theorem dX6_isOrder_0 : decode cX6_isOrder 0 = .ok (.iconst 0, 1) := by decide +kernel
theorem dX6_isOrder_1 : decode cX6_isOrder 1 = .ok (.istore_n 1, 1) := by decide +kernel
theorem dX6_isOrder_2 : decode cX6_isOrder 2 = .ok (.iload_n 0, 1) := by decide +kernel
theorem dX6_isOrder_3 : decode cX6_isOrder 3 = .ok (.istore_n 2, 1) := by decide +kernel
theorem dX6_isOrder_4 : decode cX6_isOrder 4 = .ok (.iconst 0, 1) := by decide +kernel
theorem dX6_isOrder_5 : decode cX6_isOrder 5 = .ok (.istore_n 3, 1) := by decide +kernel
theorem dX6_isOrder_6 : decode cX6_isOrder 6 = .ok (.iload_n 3, 1) := by decide +kernel
theorem dX6_isOrder_7 : decode cX6_isOrder 7 = .ok (.iconst 4, 1) := by decide +kernel
theorem dX6_isOrder_8 : decode cX6_isOrder 8 = .ok (.if_icmp .ge 35, 3) := by decide +kernel
theorem dX6_isOrder_11 : decode cX6_isOrder 11 = .ok (.iload_n 1, 1) := by decide +kernel
theorem dX6_isOrder_12 : decode cX6_isOrder 12 = .ok (.iload_n 2, 1) := by decide +kernel
theorem dX6_isOrder_13 : decode cX6_isOrder 13 = .ok (.bipush 10, 2) := by decide +kernel
theorem dX6_isOrder_15 : decode cX6_isOrder 15 = .ok (.irem, 1) := by decide +kernel
theorem dX6_isOrder_16 : decode cX6_isOrder 16 = .ok (.iconst 4, 1) := by decide +kernel
theorem dX6_isOrder_17 : decode cX6_isOrder 17 = .ok (.if_icmp .ge 12, 3) := by decide +kernel
theorem dX6_isOrder_20 : decode cX6_isOrder 20 = .ok (.iconst 1, 1) := by decide +kernel
theorem dX6_isOrder_21 : decode cX6_isOrder 21 = .ok (.iload_n 2, 1) := by decide +kernel
theorem dX6_isOrder_22 : decode cX6_isOrder 22 = .ok (.bipush 10, 2) := by decide +kernel
theorem dX6_isOrder_24 : decode cX6_isOrder 24 = .ok (.irem, 1) := by decide +kernel
theorem dX6_isOrder_25 : decode cX6_isOrder 25 = .ok (.ishl, 1) := by decide +kernel
theorem dX6_isOrder_26 : decode cX6_isOrder 26 = .ok (.goto 4, 3) := by decide +kernel
theorem dX6_isOrder_29 : decode cX6_isOrder 29 = .ok (.iconst 0, 1) := by decide +kernel
theorem dX6_isOrder_30 : decode cX6_isOrder 30 = .ok (.ior, 1) := by decide +kernel
theorem dX6_isOrder_31 : decode cX6_isOrder 31 = .ok (.istore_n 1, 1) := by decide +kernel
theorem dX6_isOrder_32 : decode cX6_isOrder 32 = .ok (.iload_n 2, 1) := by decide +kernel
theorem dX6_isOrder_33 : decode cX6_isOrder 33 = .ok (.bipush 10, 2) := by decide +kernel
theorem dX6_isOrder_35 : decode cX6_isOrder 35 = .ok (.idiv, 1) := by decide +kernel
theorem dX6_isOrder_36 : decode cX6_isOrder 36 = .ok (.istore_n 2, 1) := by decide +kernel
theorem dX6_isOrder_37 : decode cX6_isOrder 37 = .ok (.iinc 3 1, 3) := by decide +kernel
theorem dX6_isOrder_40 : decode cX6_isOrder 40 = .ok (.goto (-34), 3) := by decide +kernel
theorem dX6_isOrder_43 : decode cX6_isOrder 43 = .ok (.iload_n 1, 1) := by decide +kernel
theorem dX6_isOrder_44 : decode cX6_isOrder 44 = .ok (.bipush 15, 2) := by decide +kernel
theorem dX6_isOrder_46 : decode cX6_isOrder 46 = .ok (.if_icmp .ne 7, 3) := by decide +kernel
theorem dX6_isOrder_49 : decode cX6_isOrder 49 = .ok (.iconst 1, 1) := by decide +kernel
theorem dX6_isOrder_50 : decode cX6_isOrder 50 = .ok (.goto 4, 3) := by decide +kernel
theorem dX6_isOrder_53 : decode cX6_isOrder 53 = .ok (.iconst 0, 1) := by decide +kernel
theorem dX6_isOrder_54 : decode cX6_isOrder 54 = .ok (.ireturn, 1) := by decide +kernel
theorem dX6_bestRound_0 : decode cX6_bestRound 0 = .ok (.aload_n 0, 1) := by decide +kernel
theorem dX6_bestRound_1 : decode cX6_bestRound 1 = .ok (.iload_n 1, 1) := by decide +kernel
theorem dX6_bestRound_2 : decode cX6_bestRound 2 = .ok (.i2l, 1) := by decide +kernel
theorem dX6_bestRound_3 : decode cX6_bestRound 3 = .ok (.lconst 1, 1) := by decide +kernel
theorem dX6_bestRound_4 : decode cX6_bestRound 4 = .ok (.ldc2_w 49, 3) := by decide +kernel
theorem dX6_bestRound_7 : decode cX6_bestRound 7 = .ok (.invokestatic 37, 3) := by decide +kernel
theorem dX6_bestRound_10 : decode cX6_bestRound 10 = .ok (.ifCond .eq 7, 3) := by decide +kernel
theorem dX6_bestRound_13 : decode cX6_bestRound 13 = .ok (.iconst 0, 1) := by decide +kernel
theorem dX6_bestRound_14 : decode cX6_bestRound 14 = .ok (.goto 4, 3) := by decide +kernel
theorem dX6_bestRound_17 : decode cX6_bestRound 17 = .ok (.iconst 1, 1) := by decide +kernel
theorem dX6_bestRound_18 : decode cX6_bestRound 18 = .ok (.invokevirtual 108, 3) := by decide +kernel
theorem dX6_bestRound_21 : decode cX6_bestRound 21 = .ok (.ifCond .eq 5, 3) := by decide +kernel
theorem dX6_bestRound_24 : decode cX6_bestRound 24 = .ok (.iconst 0, 1) := by decide +kernel
theorem dX6_bestRound_25 : decode cX6_bestRound 25 = .ok (.ireturn, 1) := by decide +kernel
theorem dX6_bestRound_26 : decode cX6_bestRound 26 = .ok (.iconst (-1), 1) := by decide +kernel
theorem dX6_bestRound_27 : decode cX6_bestRound 27 = .ok (.istore_n 2, 1) := by decide +kernel
theorem dX6_bestRound_28 : decode cX6_bestRound 28 = .ok (.iconst 0, 1) := by decide +kernel
theorem dX6_bestRound_29 : decode cX6_bestRound 29 = .ok (.istore_n 3, 1) := by decide +kernel
theorem dX6_bestRound_30 : decode cX6_bestRound 30 = .ok (.bipush 123, 2) := by decide +kernel
theorem dX6_bestRound_32 : decode cX6_bestRound 32 = .ok (.istore 4, 2) := by decide +kernel
theorem dX6_bestRound_34 : decode cX6_bestRound 34 = .ok (.iload 4, 2) := by decide +kernel
theorem dX6_bestRound_36 : decode cX6_bestRound 36 = .ok (.sipush 3210, 3) := by decide +kernel
theorem dX6_bestRound_39 : decode cX6_bestRound 39 = .ok (.if_icmp .gt 146, 3) := by decide +kernel
theorem dX6_bestRound_42 : decode cX6_bestRound 42 = .ok (.iload 4, 2) := by decide +kernel
theorem dX6_bestRound_44 : decode cX6_bestRound 44 = .ok (.invokestatic 230, 3) := by decide +kernel
theorem dX6_bestRound_47 : decode cX6_bestRound 47 = .ok (.ifCond .eq 132, 3) := by decide +kernel
theorem dX6_bestRound_50 : decode cX6_bestRound 50 = .ok (.aload_n 0, 1) := by decide +kernel
theorem dX6_bestRound_51 : decode cX6_bestRound 51 = .ok (.getfield 13, 3) := by decide +kernel
theorem dX6_bestRound_54 : decode cX6_bestRound 54 = .ok (.iconst 0, 1) := by decide +kernel
theorem dX6_bestRound_55 : decode cX6_bestRound 55 = .ok (.aload_n 0, 1) := by decide +kernel
theorem dX6_bestRound_56 : decode cX6_bestRound 56 = .ok (.getfield 16, 3) := by decide +kernel
theorem dX6_bestRound_59 : decode cX6_bestRound 59 = .ok (.iconst 0, 1) := by decide +kernel
theorem dX6_bestRound_60 : decode cX6_bestRound 60 = .ok (.invokestatic 183, 3) := by decide +kernel
theorem dX6_bestRound_63 : decode cX6_bestRound 63 = .ok (.aload_n 0, 1) := by decide +kernel
theorem dX6_bestRound_64 : decode cX6_bestRound 64 = .ok (.getfield 16, 3) := by decide +kernel
theorem dX6_bestRound_67 : decode cX6_bestRound 67 = .ok (.bipush 16, 2) := by decide +kernel
theorem dX6_bestRound_69 : decode cX6_bestRound 69 = .ok (.iload 4, 2) := by decide +kernel
theorem dX6_bestRound_71 : decode cX6_bestRound 71 = .ok (.sipush 1000, 3) := by decide +kernel
theorem dX6_bestRound_74 : decode cX6_bestRound 74 = .ok (.idiv, 1) := by decide +kernel
theorem dX6_bestRound_75 : decode cX6_bestRound 75 = .ok (.iastore, 1) := by decide +kernel
theorem dX6_bestRound_76 : decode cX6_bestRound 76 = .ok (.aload_n 0, 1) := by decide +kernel
theorem dX6_bestRound_77 : decode cX6_bestRound 77 = .ok (.getfield 16, 3) := by decide +kernel
theorem dX6_bestRound_80 : decode cX6_bestRound 80 = .ok (.bipush 17, 2) := by decide +kernel
theorem dX6_bestRound_82 : decode cX6_bestRound 82 = .ok (.iload 4, 2) := by decide +kernel
theorem dX6_bestRound_84 : decode cX6_bestRound 84 = .ok (.bipush 100, 2) := by decide +kernel
theorem dX6_bestRound_86 : decode cX6_bestRound 86 = .ok (.idiv, 1) := by decide +kernel
theorem dX6_bestRound_87 : decode cX6_bestRound 87 = .ok (.bipush 10, 2) := by decide +kernel
theorem dX6_bestRound_89 : decode cX6_bestRound 89 = .ok (.irem, 1) := by decide +kernel
theorem dX6_bestRound_90 : decode cX6_bestRound 90 = .ok (.iastore, 1) := by decide +kernel
theorem dX6_bestRound_91 : decode cX6_bestRound 91 = .ok (.aload_n 0, 1) := by decide +kernel
theorem dX6_bestRound_92 : decode cX6_bestRound 92 = .ok (.getfield 16, 3) := by decide +kernel
theorem dX6_bestRound_95 : decode cX6_bestRound 95 = .ok (.bipush 18, 2) := by decide +kernel
theorem dX6_bestRound_97 : decode cX6_bestRound 97 = .ok (.iload 4, 2) := by decide +kernel
theorem dX6_bestRound_99 : decode cX6_bestRound 99 = .ok (.bipush 10, 2) := by decide +kernel
theorem dX6_bestRound_101 : decode cX6_bestRound 101 = .ok (.idiv, 1) := by decide +kernel
theorem dX6_bestRound_102 : decode cX6_bestRound 102 = .ok (.bipush 10, 2) := by decide +kernel
theorem dX6_bestRound_104 : decode cX6_bestRound 104 = .ok (.irem, 1) := by decide +kernel
theorem dX6_bestRound_105 : decode cX6_bestRound 105 = .ok (.iastore, 1) := by decide +kernel
theorem dX6_bestRound_106 : decode cX6_bestRound 106 = .ok (.aload_n 0, 1) := by decide +kernel
theorem dX6_bestRound_107 : decode cX6_bestRound 107 = .ok (.getfield 16, 3) := by decide +kernel
theorem dX6_bestRound_110 : decode cX6_bestRound 110 = .ok (.bipush 19, 2) := by decide +kernel
theorem dX6_bestRound_112 : decode cX6_bestRound 112 = .ok (.iload 4, 2) := by decide +kernel
theorem dX6_bestRound_114 : decode cX6_bestRound 114 = .ok (.bipush 10, 2) := by decide +kernel
theorem dX6_bestRound_116 : decode cX6_bestRound 116 = .ok (.irem, 1) := by decide +kernel
theorem dX6_bestRound_117 : decode cX6_bestRound 117 = .ok (.iastore, 1) := by decide +kernel
theorem dX6_bestRound_118 : decode cX6_bestRound 118 = .ok (.aload_n 0, 1) := by decide +kernel
theorem dX6_bestRound_119 : decode cX6_bestRound 119 = .ok (.getfield 16, 3) := by decide +kernel
theorem dX6_bestRound_122 : decode cX6_bestRound 122 = .ok (.iload_n 1, 1) := by decide +kernel
theorem dX6_bestRound_123 : decode cX6_bestRound 123 = .ok (.invokestatic 173, 3) := by decide +kernel
theorem dX6_bestRound_126 : decode cX6_bestRound 126 = .ok (.pop, 1) := by decide +kernel
theorem dX6_bestRound_127 : decode cX6_bestRound 127 = .ok (.iload_n 2, 1) := by decide +kernel
theorem dX6_bestRound_128 : decode cX6_bestRound 128 = .ok (.iconst (-1), 1) := by decide +kernel
theorem dX6_bestRound_129 : decode cX6_bestRound 129 = .ok (.if_icmp .eq 14, 3) := by decide +kernel
theorem dX6_bestRound_132 : decode cX6_bestRound 132 = .ok (.aload_n 0, 1) := by decide +kernel
theorem dX6_bestRound_133 : decode cX6_bestRound 133 = .ok (.getfield 16, 3) := by decide +kernel
theorem dX6_bestRound_136 : decode cX6_bestRound 136 = .ok (.invokestatic 192, 3) := by decide +kernel
theorem dX6_bestRound_139 : decode cX6_bestRound 139 = .ok (.iload_n 3, 1) := by decide +kernel
theorem dX6_bestRound_140 : decode cX6_bestRound 140 = .ok (.if_icmp .ge 7, 3) := by decide +kernel
theorem dX6_bestRound_143 : decode cX6_bestRound 143 = .ok (.iconst 1, 1) := by decide +kernel
theorem dX6_bestRound_144 : decode cX6_bestRound 144 = .ok (.goto 4, 3) := by decide +kernel
theorem dX6_bestRound_147 : decode cX6_bestRound 147 = .ok (.iconst 0, 1) := by decide +kernel
theorem dX6_bestRound_148 : decode cX6_bestRound 148 = .ok (.istore 5, 2) := by decide +kernel
theorem dX6_bestRound_150 : decode cX6_bestRound 150 = .ok (.iload 5, 2) := by decide +kernel
theorem dX6_bestRound_152 : decode cX6_bestRound 152 = .ok (.ifCond .eq 8, 3) := by decide +kernel
theorem dX6_bestRound_155 : decode cX6_bestRound 155 = .ok (.iload 4, 2) := by decide +kernel
theorem dX6_bestRound_157 : decode cX6_bestRound 157 = .ok (.goto 4, 3) := by decide +kernel
theorem dX6_bestRound_160 : decode cX6_bestRound 160 = .ok (.iload_n 2, 1) := by decide +kernel
theorem dX6_bestRound_161 : decode cX6_bestRound 161 = .ok (.istore_n 2, 1) := by decide +kernel
theorem dX6_bestRound_162 : decode cX6_bestRound 162 = .ok (.iload 5, 2) := by decide +kernel
theorem dX6_bestRound_164 : decode cX6_bestRound 164 = .ok (.ifCond .eq 13, 3) := by decide +kernel
theorem dX6_bestRound_167 : decode cX6_bestRound 167 = .ok (.aload_n 0, 1) := by decide +kernel
theorem dX6_bestRound_168 : decode cX6_bestRound 168 = .ok (.getfield 16, 3) := by decide +kernel
theorem dX6_bestRound_171 : decode cX6_bestRound 171 = .ok (.invokestatic 192, 3) := by decide +kernel
theorem dX6_bestRound_174 : decode cX6_bestRound 174 = .ok (.goto 4, 3) := by decide +kernel
theorem dX6_bestRound_177 : decode cX6_bestRound 177 = .ok (.iload_n 3, 1) := by decide +kernel
theorem dX6_bestRound_178 : decode cX6_bestRound 178 = .ok (.istore_n 3, 1) := by decide +kernel
theorem dX6_bestRound_179 : decode cX6_bestRound 179 = .ok (.iinc 4 1, 3) := by decide +kernel
theorem dX6_bestRound_182 : decode cX6_bestRound 182 = .ok (.goto (-148), 3) := by decide +kernel
theorem dX6_bestRound_185 : decode cX6_bestRound 185 = .ok (.iload_n 2, 1) := by decide +kernel
theorem dX6_bestRound_186 : decode cX6_bestRound 186 = .ok (.ireturn, 1) := by decide +kernel
theorem dX6_command_0 : decode cX6_command 0 = .ok (.iload_n 2, 1) := by decide +kernel
theorem dX6_command_1 : decode cX6_command 1 = .ok (.sipush 10000, 3) := by decide +kernel
theorem dX6_command_4 : decode cX6_command 4 = .ok (.idiv, 1) := by decide +kernel
theorem dX6_command_5 : decode cX6_command 5 = .ok (.istore_n 3, 1) := by decide +kernel
theorem dX6_command_6 : decode cX6_command 6 = .ok (.iload_n 2, 1) := by decide +kernel
theorem dX6_command_7 : decode cX6_command 7 = .ok (.sipush 1000, 3) := by decide +kernel
theorem dX6_command_10 : decode cX6_command 10 = .ok (.idiv, 1) := by decide +kernel
theorem dX6_command_11 : decode cX6_command 11 = .ok (.bipush 10, 2) := by decide +kernel
theorem dX6_command_13 : decode cX6_command 13 = .ok (.irem, 1) := by decide +kernel
theorem dX6_command_14 : decode cX6_command 14 = .ok (.istore 4, 2) := by decide +kernel
theorem dX6_command_16 : decode cX6_command 16 = .ok (.iload_n 2, 1) := by decide +kernel
theorem dX6_command_17 : decode cX6_command 17 = .ok (.bipush 100, 2) := by decide +kernel
theorem dX6_command_19 : decode cX6_command 19 = .ok (.idiv, 1) := by decide +kernel
theorem dX6_command_20 : decode cX6_command 20 = .ok (.bipush 10, 2) := by decide +kernel
theorem dX6_command_22 : decode cX6_command 22 = .ok (.irem, 1) := by decide +kernel
theorem dX6_command_23 : decode cX6_command 23 = .ok (.istore 5, 2) := by decide +kernel
theorem dX6_command_25 : decode cX6_command 25 = .ok (.iload_n 2, 1) := by decide +kernel
theorem dX6_command_26 : decode cX6_command 26 = .ok (.bipush 100, 2) := by decide +kernel
theorem dX6_command_28 : decode cX6_command 28 = .ok (.irem, 1) := by decide +kernel
theorem dX6_command_29 : decode cX6_command 29 = .ok (.istore 6, 2) := by decide +kernel
theorem dX6_command_31 : decode cX6_command 31 = .ok (.iload_n 2, 1) := by decide +kernel
theorem dX6_command_32 : decode cX6_command 32 = .ok (.sipush 1000, 3) := by decide +kernel
theorem dX6_command_35 : decode cX6_command 35 = .ok (.irem, 1) := by decide +kernel
theorem dX6_command_36 : decode cX6_command 36 = .ok (.istore 7, 2) := by decide +kernel
theorem dX6_command_38 : decode cX6_command 38 = .ok (.iload_n 2, 1) := by decide +kernel
theorem dX6_command_39 : decode cX6_command 39 = .ok (.sipush 10000, 3) := by decide +kernel
theorem dX6_command_42 : decode cX6_command 42 = .ok (.irem, 1) := by decide +kernel
theorem dX6_command_43 : decode cX6_command 43 = .ok (.istore 8, 2) := by decide +kernel
theorem dX6_command_45 : decode cX6_command 45 = .ok (.iload_n 2, 1) := by decide +kernel
theorem dX6_command_46 : decode cX6_command 46 = .ok (.bipush 100, 2) := by decide +kernel
theorem dX6_command_48 : decode cX6_command 48 = .ok (.idiv, 1) := by decide +kernel
theorem dX6_command_49 : decode cX6_command 49 = .ok (.bipush 100, 2) := by decide +kernel
theorem dX6_command_51 : decode cX6_command 51 = .ok (.irem, 1) := by decide +kernel
theorem dX6_command_52 : decode cX6_command 52 = .ok (.istore 9, 2) := by decide +kernel
theorem dX6_command_54 : decode cX6_command 54 = .ok (.iload_n 1, 1) := by decide +kernel
theorem dX6_command_55 : decode cX6_command 55 = .ok (.tableswitch 408 1 9 #[49, 78, 123, 176, 227, 266, 304, 343, 380], 49) := by decide +kernel
theorem dX6_command_104 : decode cX6_command 104 = .ok (.iload_n 2, 1) := by decide +kernel
theorem dX6_command_105 : decode cX6_command 105 = .ok (.i2l, 1) := by decide +kernel
theorem dX6_command_106 : decode cX6_command 106 = .ok (.lconst 1, 1) := by decide +kernel
theorem dX6_command_107 : decode cX6_command 107 = .ok (.ldc2_w 223, 3) := by decide +kernel
theorem dX6_command_110 : decode cX6_command 110 = .ok (.invokestatic 37, 3) := by decide +kernel
theorem dX6_command_113 : decode cX6_command 113 = .ok (.ifCond .eq 18, 3) := by decide +kernel
theorem dX6_command_116 : decode cX6_command 116 = .ok (.aload_n 0, 1) := by decide +kernel
theorem dX6_command_117 : decode cX6_command 117 = .ok (.getfield 16, 3) := by decide +kernel
theorem dX6_command_120 : decode cX6_command 120 = .ok (.iload_n 2, 1) := by decide +kernel
theorem dX6_command_121 : decode cX6_command 121 = .ok (.invokestatic 173, 3) := by decide +kernel
theorem dX6_command_124 : decode cX6_command 124 = .ok (.ifCond .lt 7, 3) := by decide +kernel
theorem dX6_command_127 : decode cX6_command 127 = .ok (.iconst 1, 1) := by decide +kernel
theorem dX6_command_128 : decode cX6_command 128 = .ok (.goto 4, 3) := by decide +kernel
theorem dX6_command_131 : decode cX6_command 131 = .ok (.iconst 0, 1) := by decide +kernel
theorem dX6_command_132 : decode cX6_command 132 = .ok (.ireturn, 1) := by decide +kernel
theorem dX6_command_133 : decode cX6_command 133 = .ok (.iload 6, 2) := by decide +kernel
theorem dX6_command_135 : decode cX6_command 135 = .ok (.ifCond .ne 41, 3) := by decide +kernel
theorem dX6_command_138 : decode cX6_command 138 = .ok (.aload_n 0, 1) := by decide +kernel
theorem dX6_command_139 : decode cX6_command 139 = .ok (.getfield 16, 3) := by decide +kernel
theorem dX6_command_142 : decode cX6_command 142 = .ok (.iload_n 3, 1) := by decide +kernel
theorem dX6_command_143 : decode cX6_command 143 = .ok (.invokestatic 139, 3) := by decide +kernel
theorem dX6_command_146 : decode cX6_command 146 = .ok (.ifCond .eq 30, 3) := by decide +kernel
theorem dX6_command_149 : decode cX6_command 149 = .ok (.iload 4, 2) := by decide +kernel
theorem dX6_command_151 : decode cX6_command 151 = .ok (.invokestatic 200, 3) := by decide +kernel
theorem dX6_command_154 : decode cX6_command 154 = .ok (.ifCond .eq 22, 3) := by decide +kernel
theorem dX6_command_157 : decode cX6_command 157 = .ok (.aload_n 0, 1) := by decide +kernel
theorem dX6_command_158 : decode cX6_command 158 = .ok (.getfield 16, 3) := by decide +kernel
theorem dX6_command_161 : decode cX6_command 161 = .ok (.iload_n 3, 1) := by decide +kernel
theorem dX6_command_162 : decode cX6_command 162 = .ok (.iload 4, 2) := by decide +kernel
theorem dX6_command_164 : decode cX6_command 164 = .ok (.iload 5, 2) := by decide +kernel
theorem dX6_command_166 : decode cX6_command 166 = .ok (.invokestatic 143, 3) := by decide +kernel
theorem dX6_command_169 : decode cX6_command 169 = .ok (.ifCond .lt 7, 3) := by decide +kernel
theorem dX6_command_172 : decode cX6_command 172 = .ok (.iconst 1, 1) := by decide +kernel
theorem dX6_command_173 : decode cX6_command 173 = .ok (.goto 4, 3) := by decide +kernel
theorem dX6_command_176 : decode cX6_command 176 = .ok (.iconst 0, 1) := by decide +kernel
theorem dX6_command_177 : decode cX6_command 177 = .ok (.ireturn, 1) := by decide +kernel
theorem dX6_command_178 : decode cX6_command 178 = .ok (.aload_n 0, 1) := by decide +kernel
theorem dX6_command_179 : decode cX6_command 179 = .ok (.getfield 16, 3) := by decide +kernel
theorem dX6_command_182 : decode cX6_command 182 = .ok (.iload_n 3, 1) := by decide +kernel
theorem dX6_command_183 : decode cX6_command 183 = .ok (.invokestatic 139, 3) := by decide +kernel
theorem dX6_command_186 : decode cX6_command 186 = .ok (.ifCond .eq 43, 3) := by decide +kernel
theorem dX6_command_189 : decode cX6_command 189 = .ok (.iload 9, 2) := by decide +kernel
theorem dX6_command_191 : decode cX6_command 191 = .ok (.iload 6, 2) := by decide +kernel
theorem dX6_command_193 : decode cX6_command 193 = .ok (.if_icmp .gt 36, 3) := by decide +kernel
theorem dX6_command_196 : decode cX6_command 196 = .ok (.aload_n 0, 1) := by decide +kernel
theorem dX6_command_197 : decode cX6_command 197 = .ok (.getfield 16, 3) := by decide +kernel
theorem dX6_command_200 : decode cX6_command 200 = .ok (.iload_n 3, 1) := by decide +kernel
theorem dX6_command_201 : decode cX6_command 201 = .ok (.bipush 14, 2) := by decide +kernel
theorem dX6_command_203 : decode cX6_command 203 = .ok (.invokestatic 53, 3) := by decide +kernel
theorem dX6_command_206 : decode cX6_command 206 = .ok (.iconst 3, 1) := by decide +kernel
theorem dX6_command_207 : decode cX6_command 207 = .ok (.if_icmp .ge 22, 3) := by decide +kernel
theorem dX6_command_210 : decode cX6_command 210 = .ok (.aload_n 0, 1) := by decide +kernel
theorem dX6_command_211 : decode cX6_command 211 = .ok (.getfield 16, 3) := by decide +kernel
theorem dX6_command_214 : decode cX6_command 214 = .ok (.iload_n 3, 1) := by decide +kernel
theorem dX6_command_215 : decode cX6_command 215 = .ok (.iload 9, 2) := by decide +kernel
theorem dX6_command_217 : decode cX6_command 217 = .ok (.iload 6, 2) := by decide +kernel
theorem dX6_command_219 : decode cX6_command 219 = .ok (.invokestatic 146, 3) := by decide +kernel
theorem dX6_command_222 : decode cX6_command 222 = .ok (.ifCond .le 7, 3) := by decide +kernel
theorem dX6_command_225 : decode cX6_command 225 = .ok (.iconst 1, 1) := by decide +kernel
theorem dX6_command_226 : decode cX6_command 226 = .ok (.goto 4, 3) := by decide +kernel
theorem dX6_command_229 : decode cX6_command 229 = .ok (.iconst 0, 1) := by decide +kernel
theorem dX6_command_230 : decode cX6_command 230 = .ok (.ireturn, 1) := by decide +kernel
theorem dX6_command_231 : decode cX6_command 231 = .ok (.iload 7, 2) := by decide +kernel
theorem dX6_command_233 : decode cX6_command 233 = .ok (.iconst 2, 1) := by decide +kernel
theorem dX6_command_234 : decode cX6_command 234 = .ok (.if_icmp .ge 46, 3) := by decide +kernel
theorem dX6_command_237 : decode cX6_command 237 = .ok (.iload_n 3, 1) := by decide +kernel
theorem dX6_command_238 : decode cX6_command 238 = .ok (.invokestatic 205, 3) := by decide +kernel
theorem dX6_command_241 : decode cX6_command 241 = .ok (.ifCond .eq 39, 3) := by decide +kernel
theorem dX6_command_244 : decode cX6_command 244 = .ok (.iload 4, 2) := by decide +kernel
theorem dX6_command_246 : decode cX6_command 246 = .ok (.invokestatic 200, 3) := by decide +kernel
theorem dX6_command_249 : decode cX6_command 249 = .ok (.ifCond .eq 31, 3) := by decide +kernel
theorem dX6_command_252 : decode cX6_command 252 = .ok (.aload_n 0, 1) := by decide +kernel
theorem dX6_command_253 : decode cX6_command 253 = .ok (.getfield 16, 3) := by decide +kernel
theorem dX6_command_256 : decode cX6_command 256 = .ok (.iload_n 3, 1) := by decide +kernel
theorem dX6_command_257 : decode cX6_command 257 = .ok (.iload 4, 2) := by decide +kernel
theorem dX6_command_259 : decode cX6_command 259 = .ok (.iload 7, 2) := by decide +kernel
theorem dX6_command_261 : decode cX6_command 261 = .ok (.iconst 1, 1) := by decide +kernel
theorem dX6_command_262 : decode cX6_command 262 = .ok (.if_icmp .ne 7, 3) := by decide +kernel
theorem dX6_command_265 : decode cX6_command 265 = .ok (.iconst 1, 1) := by decide +kernel
theorem dX6_command_266 : decode cX6_command 266 = .ok (.goto 4, 3) := by decide +kernel
theorem dX6_command_269 : decode cX6_command 269 = .ok (.iconst 0, 1) := by decide +kernel
theorem dX6_command_270 : decode cX6_command 270 = .ok (.invokestatic 149, 3) := by decide +kernel
theorem dX6_command_273 : decode cX6_command 273 = .ok (.ifCond .lt 7, 3) := by decide +kernel
theorem dX6_command_276 : decode cX6_command 276 = .ok (.iconst 1, 1) := by decide +kernel
theorem dX6_command_277 : decode cX6_command 277 = .ok (.goto 4, 3) := by decide +kernel
theorem dX6_command_280 : decode cX6_command 280 = .ok (.iconst 0, 1) := by decide +kernel
theorem dX6_command_281 : decode cX6_command 281 = .ok (.ireturn, 1) := by decide +kernel
theorem dX6_command_282 : decode cX6_command 282 = .ok (.iload 7, 2) := by decide +kernel
theorem dX6_command_284 : decode cX6_command 284 = .ok (.ifCond .ne 35, 3) := by decide +kernel
theorem dX6_command_287 : decode cX6_command 287 = .ok (.iload_n 3, 1) := by decide +kernel
theorem dX6_command_288 : decode cX6_command 288 = .ok (.invokestatic 205, 3) := by decide +kernel
theorem dX6_command_291 : decode cX6_command 291 = .ok (.ifCond .eq 28, 3) := by decide +kernel
theorem dX6_command_294 : decode cX6_command 294 = .ok (.iload 4, 2) := by decide +kernel
theorem dX6_command_296 : decode cX6_command 296 = .ok (.invokestatic 205, 3) := by decide +kernel
theorem dX6_command_299 : decode cX6_command 299 = .ok (.ifCond .eq 20, 3) := by decide +kernel
theorem dX6_command_302 : decode cX6_command 302 = .ok (.aload_n 0, 1) := by decide +kernel
theorem dX6_command_303 : decode cX6_command 303 = .ok (.getfield 16, 3) := by decide +kernel
theorem dX6_command_306 : decode cX6_command 306 = .ok (.iload_n 3, 1) := by decide +kernel
theorem dX6_command_307 : decode cX6_command 307 = .ok (.iload 4, 2) := by decide +kernel
theorem dX6_command_309 : decode cX6_command 309 = .ok (.invokestatic 166, 3) := by decide +kernel
theorem dX6_command_312 : decode cX6_command 312 = .ok (.ifCond .lt 7, 3) := by decide +kernel
theorem dX6_command_315 : decode cX6_command 315 = .ok (.iconst 1, 1) := by decide +kernel
theorem dX6_command_316 : decode cX6_command 316 = .ok (.goto 4, 3) := by decide +kernel
theorem dX6_command_319 : decode cX6_command 319 = .ok (.iconst 0, 1) := by decide +kernel
theorem dX6_command_320 : decode cX6_command 320 = .ok (.ireturn, 1) := by decide +kernel
theorem dX6_command_321 : decode cX6_command 321 = .ok (.iload 8, 2) := by decide +kernel
theorem dX6_command_323 : decode cX6_command 323 = .ok (.bipush 100, 2) := by decide +kernel
theorem dX6_command_325 : decode cX6_command 325 = .ok (.if_icmp .ge 32, 3) := by decide +kernel
theorem dX6_command_328 : decode cX6_command 328 = .ok (.iload_n 3, 1) := by decide +kernel
theorem dX6_command_329 : decode cX6_command 329 = .ok (.iload 8, 2) := by decide +kernel
theorem dX6_command_331 : decode cX6_command 331 = .ok (.invokestatic 169, 3) := by decide +kernel
theorem dX6_command_334 : decode cX6_command 334 = .ok (.ifCond .eq 23, 3) := by decide +kernel
theorem dX6_command_337 : decode cX6_command 337 = .ok (.aload_n 0, 1) := by decide +kernel
theorem dX6_command_338 : decode cX6_command 338 = .ok (.getfield 16, 3) := by decide +kernel
theorem dX6_command_341 : decode cX6_command 341 = .ok (.bipush 11, 2) := by decide +kernel
theorem dX6_command_343 : decode cX6_command 343 = .ok (.iload_n 3, 1) := by decide +kernel
theorem dX6_command_344 : decode cX6_command 344 = .ok (.iadd, 1) := by decide +kernel
theorem dX6_command_345 : decode cX6_command 345 = .ok (.iload 8, 2) := by decide +kernel
theorem dX6_command_347 : decode cX6_command 347 = .ok (.invokestatic 95, 3) := by decide +kernel
theorem dX6_command_350 : decode cX6_command 350 = .ok (.ifCond .lt 7, 3) := by decide +kernel
theorem dX6_command_353 : decode cX6_command 353 = .ok (.iconst 1, 1) := by decide +kernel
theorem dX6_command_354 : decode cX6_command 354 = .ok (.goto 4, 3) := by decide +kernel
theorem dX6_command_357 : decode cX6_command 357 = .ok (.iconst 0, 1) := by decide +kernel
theorem dX6_command_358 : decode cX6_command 358 = .ok (.ireturn, 1) := by decide +kernel
theorem dX6_command_359 : decode cX6_command 359 = .ok (.iload 8, 2) := by decide +kernel
theorem dX6_command_361 : decode cX6_command 361 = .ok (.bipush 100, 2) := by decide +kernel
theorem dX6_command_363 : decode cX6_command 363 = .ok (.if_icmp .ge 33, 3) := by decide +kernel
theorem dX6_command_366 : decode cX6_command 366 = .ok (.aload_n 0, 1) := by decide +kernel
theorem dX6_command_367 : decode cX6_command 367 = .ok (.getfield 16, 3) := by decide +kernel
theorem dX6_command_370 : decode cX6_command 370 = .ok (.iload_n 3, 1) := by decide +kernel
theorem dX6_command_371 : decode cX6_command 371 = .ok (.invokestatic 139, 3) := by decide +kernel
theorem dX6_command_374 : decode cX6_command 374 = .ok (.ifCond .eq 22, 3) := by decide +kernel
theorem dX6_command_377 : decode cX6_command 377 = .ok (.aload_n 0, 1) := by decide +kernel
theorem dX6_command_378 : decode cX6_command 378 = .ok (.getfield 16, 3) := by decide +kernel
theorem dX6_command_381 : decode cX6_command 381 = .ok (.iload_n 3, 1) := by decide +kernel
theorem dX6_command_382 : decode cX6_command 382 = .ok (.bipush 8, 2) := by decide +kernel
theorem dX6_command_384 : decode cX6_command 384 = .ok (.invokestatic 53, 3) := by decide +kernel
theorem dX6_command_387 : decode cX6_command 387 = .ok (.iload 8, 2) := by decide +kernel
theorem dX6_command_389 : decode cX6_command 389 = .ok (.if_icmp .gt 7, 3) := by decide +kernel
theorem dX6_command_392 : decode cX6_command 392 = .ok (.iconst 1, 1) := by decide +kernel
theorem dX6_command_393 : decode cX6_command 393 = .ok (.goto 4, 3) := by decide +kernel
theorem dX6_command_396 : decode cX6_command 396 = .ok (.iconst 0, 1) := by decide +kernel
theorem dX6_command_397 : decode cX6_command 397 = .ok (.ireturn, 1) := by decide +kernel
theorem dX6_command_398 : decode cX6_command 398 = .ok (.iload 8, 2) := by decide +kernel
theorem dX6_command_400 : decode cX6_command 400 = .ok (.bipush 10, 2) := by decide +kernel
theorem dX6_command_402 : decode cX6_command 402 = .ok (.if_icmp .ge 31, 3) := by decide +kernel
theorem dX6_command_405 : decode cX6_command 405 = .ok (.aload_n 0, 1) := by decide +kernel
theorem dX6_command_406 : decode cX6_command 406 = .ok (.getfield 16, 3) := by decide +kernel
theorem dX6_command_409 : decode cX6_command 409 = .ok (.iload_n 3, 1) := by decide +kernel
theorem dX6_command_410 : decode cX6_command 410 = .ok (.invokestatic 139, 3) := by decide +kernel
theorem dX6_command_413 : decode cX6_command 413 = .ok (.ifCond .eq 20, 3) := by decide +kernel
theorem dX6_command_416 : decode cX6_command 416 = .ok (.aload_n 0, 1) := by decide +kernel
theorem dX6_command_417 : decode cX6_command 417 = .ok (.getfield 16, 3) := by decide +kernel
theorem dX6_command_420 : decode cX6_command 420 = .ok (.iload_n 3, 1) := by decide +kernel
theorem dX6_command_421 : decode cX6_command 421 = .ok (.invokestatic 225, 3) := by decide +kernel
theorem dX6_command_424 : decode cX6_command 424 = .ok (.iload 8, 2) := by decide +kernel
theorem dX6_command_426 : decode cX6_command 426 = .ok (.if_icmp .ne 7, 3) := by decide +kernel
theorem dX6_command_429 : decode cX6_command 429 = .ok (.iconst 1, 1) := by decide +kernel
theorem dX6_command_430 : decode cX6_command 430 = .ok (.goto 4, 3) := by decide +kernel
theorem dX6_command_433 : decode cX6_command 433 = .ok (.iconst 0, 1) := by decide +kernel
theorem dX6_command_434 : decode cX6_command 434 = .ok (.ireturn, 1) := by decide +kernel
theorem dX6_command_435 : decode cX6_command 435 = .ok (.iload_n 3, 1) := by decide +kernel
theorem dX6_command_436 : decode cX6_command 436 = .ok (.ifCond .ne 25, 3) := by decide +kernel
theorem dX6_command_439 : decode cX6_command 439 = .ok (.aload_n 0, 1) := by decide +kernel
theorem dX6_command_440 : decode cX6_command 440 = .ok (.getfield 16, 3) := by decide +kernel
theorem dX6_command_443 : decode cX6_command 443 = .ok (.iconst 3, 1) := by decide +kernel
theorem dX6_command_444 : decode cX6_command 444 = .ok (.iaload, 1) := by decide +kernel
theorem dX6_command_445 : decode cX6_command 445 = .ok (.aload_n 0, 1) := by decide +kernel
theorem dX6_command_446 : decode cX6_command 446 = .ok (.getfield 16, 3) := by decide +kernel
theorem dX6_command_449 : decode cX6_command 449 = .ok (.iconst 4, 1) := by decide +kernel
theorem dX6_command_450 : decode cX6_command 450 = .ok (.iaload, 1) := by decide +kernel
theorem dX6_command_451 : decode cX6_command 451 = .ok (.iadd, 1) := by decide +kernel
theorem dX6_command_452 : decode cX6_command 452 = .ok (.iload 8, 2) := by decide +kernel
theorem dX6_command_454 : decode cX6_command 454 = .ok (.if_icmp .lt 7, 3) := by decide +kernel
theorem dX6_command_457 : decode cX6_command 457 = .ok (.iconst 1, 1) := by decide +kernel
theorem dX6_command_458 : decode cX6_command 458 = .ok (.goto 4, 3) := by decide +kernel
theorem dX6_command_461 : decode cX6_command 461 = .ok (.iconst 0, 1) := by decide +kernel
theorem dX6_command_462 : decode cX6_command 462 = .ok (.ireturn, 1) := by decide +kernel
theorem dX6_command_463 : decode cX6_command 463 = .ok (.iconst 0, 1) := by decide +kernel
theorem dX6_command_464 : decode cX6_command 464 = .ok (.ireturn, 1) := by decide +kernel
theorem dX6_runScript_0 : decode cX6_runScript 0 = .ok (.lconst 1, 1) := by decide +kernel
theorem dX6_runScript_1 : decode cX6_runScript 1 = .ok (.lstore 4, 2) := by decide +kernel
theorem dX6_runScript_3 : decode cX6_runScript 3 = .ok (.iconst 0, 1) := by decide +kernel
theorem dX6_runScript_4 : decode cX6_runScript 4 = .ok (.istore 6, 2) := by decide +kernel
theorem dX6_runScript_6 : decode cX6_runScript 6 = .ok (.iload 6, 2) := by decide +kernel
theorem dX6_runScript_8 : decode cX6_runScript 8 = .ok (.iload_n 1, 1) := by decide +kernel
theorem dX6_runScript_9 : decode cX6_runScript 9 = .ok (.if_icmp .ge 23, 3) := by decide +kernel
theorem dX6_runScript_12 : decode cX6_runScript 12 = .ok (.iload 6, 2) := by decide +kernel
theorem dX6_runScript_14 : decode cX6_runScript 14 = .ok (.iconst 3, 1) := by decide +kernel
theorem dX6_runScript_15 : decode cX6_runScript 15 = .ok (.if_icmp .ge 17, 3) := by decide +kernel
theorem dX6_runScript_18 : decode cX6_runScript 18 = .ok (.lload 4, 2) := by decide +kernel
theorem dX6_runScript_20 : decode cX6_runScript 20 = .ok (.ldc2_w 233, 3) := by decide +kernel
theorem dX6_runScript_23 : decode cX6_runScript 23 = .ok (.lmul, 1) := by decide +kernel
theorem dX6_runScript_24 : decode cX6_runScript 24 = .ok (.lstore 4, 2) := by decide +kernel
theorem dX6_runScript_26 : decode cX6_runScript 26 = .ok (.iinc 6 1, 3) := by decide +kernel
theorem dX6_runScript_29 : decode cX6_runScript 29 = .ok (.goto (-23), 3) := by decide +kernel
theorem dX6_runScript_32 : decode cX6_runScript 32 = .ok (.aload_n 0, 1) := by decide +kernel
theorem dX6_runScript_33 : decode cX6_runScript 33 = .ok (.iload_n 1, 1) := by decide +kernel
theorem dX6_runScript_34 : decode cX6_runScript 34 = .ok (.i2l, 1) := by decide +kernel
theorem dX6_runScript_35 : decode cX6_runScript 35 = .ok (.lconst 1, 1) := by decide +kernel
theorem dX6_runScript_36 : decode cX6_runScript 36 = .ok (.ldc2_w 41, 3) := by decide +kernel
theorem dX6_runScript_39 : decode cX6_runScript 39 = .ok (.invokestatic 37, 3) := by decide +kernel
theorem dX6_runScript_42 : decode cX6_runScript 42 = .ok (.ifCond .eq 19, 3) := by decide +kernel
theorem dX6_runScript_45 : decode cX6_runScript 45 = .ok (.lload_n 2, 1) := by decide +kernel
theorem dX6_runScript_46 : decode cX6_runScript 46 = .ok (.lconst 0, 1) := by decide +kernel
theorem dX6_runScript_47 : decode cX6_runScript 47 = .ok (.lload 4, 2) := by decide +kernel
theorem dX6_runScript_49 : decode cX6_runScript 49 = .ok (.lconst 1, 1) := by decide +kernel
theorem dX6_runScript_50 : decode cX6_runScript 50 = .ok (.lsub, 1) := by decide +kernel
theorem dX6_runScript_51 : decode cX6_runScript 51 = .ok (.invokestatic 37, 3) := by decide +kernel
theorem dX6_runScript_54 : decode cX6_runScript 54 = .ok (.ifCond .eq 7, 3) := by decide +kernel
theorem dX6_runScript_57 : decode cX6_runScript 57 = .ok (.iconst 0, 1) := by decide +kernel
theorem dX6_runScript_58 : decode cX6_runScript 58 = .ok (.goto 4, 3) := by decide +kernel
theorem dX6_runScript_61 : decode cX6_runScript 61 = .ok (.iconst 1, 1) := by decide +kernel
theorem dX6_runScript_62 : decode cX6_runScript 62 = .ok (.invokevirtual 108, 3) := by decide +kernel
theorem dX6_runScript_65 : decode cX6_runScript 65 = .ok (.ifCond .eq 5, 3) := by decide +kernel
theorem dX6_runScript_68 : decode cX6_runScript 68 = .ok (.iconst 0, 1) := by decide +kernel
theorem dX6_runScript_69 : decode cX6_runScript 69 = .ok (.ireturn, 1) := by decide +kernel
theorem dX6_runScript_70 : decode cX6_runScript 70 = .ok (.aload_n 0, 1) := by decide +kernel
theorem dX6_runScript_71 : decode cX6_runScript 71 = .ok (.getfield 13, 3) := by decide +kernel
theorem dX6_runScript_74 : decode cX6_runScript 74 = .ok (.iconst 0, 1) := by decide +kernel
theorem dX6_runScript_75 : decode cX6_runScript 75 = .ok (.aload_n 0, 1) := by decide +kernel
theorem dX6_runScript_76 : decode cX6_runScript 76 = .ok (.getfield 16, 3) := by decide +kernel
theorem dX6_runScript_79 : decode cX6_runScript 79 = .ok (.iconst 0, 1) := by decide +kernel
theorem dX6_runScript_80 : decode cX6_runScript 80 = .ok (.invokestatic 183, 3) := by decide +kernel
theorem dX6_runScript_83 : decode cX6_runScript 83 = .ok (.iconst 0, 1) := by decide +kernel
theorem dX6_runScript_84 : decode cX6_runScript 84 = .ok (.istore 6, 2) := by decide +kernel
theorem dX6_runScript_86 : decode cX6_runScript 86 = .ok (.iload 6, 2) := by decide +kernel
theorem dX6_runScript_88 : decode cX6_runScript 88 = .ok (.iload_n 1, 1) := by decide +kernel
theorem dX6_runScript_89 : decode cX6_runScript 89 = .ok (.if_icmp .ge 48, 3) := by decide +kernel
theorem dX6_runScript_92 : decode cX6_runScript 92 = .ok (.lload 4, 2) := by decide +kernel
theorem dX6_runScript_94 : decode cX6_runScript 94 = .ok (.ldc2_w 233, 3) := by decide +kernel
theorem dX6_runScript_97 : decode cX6_runScript 97 = .ok (.ldiv, 1) := by decide +kernel
theorem dX6_runScript_98 : decode cX6_runScript 98 = .ok (.lstore 4, 2) := by decide +kernel
theorem dX6_runScript_100 : decode cX6_runScript 100 = .ok (.lload_n 2, 1) := by decide +kernel
theorem dX6_runScript_101 : decode cX6_runScript 101 = .ok (.lload 4, 2) := by decide +kernel
theorem dX6_runScript_103 : decode cX6_runScript 103 = .ok (.ldiv, 1) := by decide +kernel
theorem dX6_runScript_104 : decode cX6_runScript 104 = .ok (.ldc2_w 233, 3) := by decide +kernel
theorem dX6_runScript_107 : decode cX6_runScript 107 = .ok (.lrem, 1) := by decide +kernel
theorem dX6_runScript_108 : decode cX6_runScript 108 = .ok (.l2i, 1) := by decide +kernel
theorem dX6_runScript_109 : decode cX6_runScript 109 = .ok (.istore 7, 2) := by decide +kernel
theorem dX6_runScript_111 : decode cX6_runScript 111 = .ok (.aload_n 0, 1) := by decide +kernel
theorem dX6_runScript_112 : decode cX6_runScript 112 = .ok (.iload 7, 2) := by decide +kernel
theorem dX6_runScript_114 : decode cX6_runScript 114 = .ok (.ldc 235, 2) := by decide +kernel
theorem dX6_runScript_116 : decode cX6_runScript 116 = .ok (.idiv, 1) := by decide +kernel
theorem dX6_runScript_117 : decode cX6_runScript 117 = .ok (.iload 7, 2) := by decide +kernel
theorem dX6_runScript_119 : decode cX6_runScript 119 = .ok (.ldc 235, 2) := by decide +kernel
theorem dX6_runScript_121 : decode cX6_runScript 121 = .ok (.irem, 1) := by decide +kernel
theorem dX6_runScript_122 : decode cX6_runScript 122 = .ok (.invokevirtual 236, 3) := by decide +kernel
theorem dX6_runScript_125 : decode cX6_runScript 125 = .ok (.ifCond .ne 6, 3) := by decide +kernel
theorem dX6_runScript_128 : decode cX6_runScript 128 = .ok (.iload 6, 2) := by decide +kernel
theorem dX6_runScript_130 : decode cX6_runScript 130 = .ok (.ireturn, 1) := by decide +kernel
theorem dX6_runScript_131 : decode cX6_runScript 131 = .ok (.iinc 6 1, 3) := by decide +kernel
theorem dX6_runScript_134 : decode cX6_runScript 134 = .ok (.goto (-48), 3) := by decide +kernel
theorem dX6_runScript_137 : decode cX6_runScript 137 = .ok (.iconst (-1), 1) := by decide +kernel
theorem dX6_runScript_138 : decode cX6_runScript 138 = .ok (.ireturn, 1) := by decide +kernel
theorem dX6_turnCustomer_0 : decode cX6_turnCustomer 0 = .ok (.iload_n 2, 1) := by decide +kernel
theorem dX6_turnCustomer_1 : decode cX6_turnCustomer 1 = .ok (.bipush 10, 2) := by decide +kernel
theorem dX6_turnCustomer_3 : decode cX6_turnCustomer 3 = .ok (.irem, 1) := by decide +kernel
theorem dX6_turnCustomer_4 : decode cX6_turnCustomer 4 = .ok (.istore_n 3, 1) := by decide +kernel
theorem dX6_turnCustomer_5 : decode cX6_turnCustomer 5 = .ok (.iload_n 1, 1) := by decide +kernel
theorem dX6_turnCustomer_6 : decode cX6_turnCustomer 6 = .ok (.ifCond .ne 28, 3) := by decide +kernel
theorem dX6_turnCustomer_9 : decode cX6_turnCustomer 9 = .ok (.aload_n 0, 1) := by decide +kernel
theorem dX6_turnCustomer_10 : decode cX6_turnCustomer 10 = .ok (.iconst 0, 1) := by decide +kernel
theorem dX6_turnCustomer_11 : decode cX6_turnCustomer 11 = .ok (.iaload, 1) := by decide +kernel
theorem dX6_turnCustomer_12 : decode cX6_turnCustomer 12 = .ok (.bipush 10, 2) := by decide +kernel
theorem dX6_turnCustomer_14 : decode cX6_turnCustomer 14 = .ok (.if_icmp .ge 120, 3) := by decide +kernel
theorem dX6_turnCustomer_17 : decode cX6_turnCustomer 17 = .ok (.aload_n 0, 1) := by decide +kernel
theorem dX6_turnCustomer_18 : decode cX6_turnCustomer 18 = .ok (.iload_n 2, 1) := by decide +kernel
theorem dX6_turnCustomer_19 : decode cX6_turnCustomer 19 = .ok (.iconst 4, 1) := by decide +kernel
theorem dX6_turnCustomer_20 : decode cX6_turnCustomer 20 = .ok (.irem, 1) := by decide +kernel
theorem dX6_turnCustomer_21 : decode cX6_turnCustomer 21 = .ok (.iload_n 2, 1) := by decide +kernel
theorem dX6_turnCustomer_22 : decode cX6_turnCustomer 22 = .ok (.iconst 4, 1) := by decide +kernel
theorem dX6_turnCustomer_23 : decode cX6_turnCustomer 23 = .ok (.idiv, 1) := by decide +kernel
theorem dX6_turnCustomer_24 : decode cX6_turnCustomer 24 = .ok (.ldc 239, 2) := by decide +kernel
theorem dX6_turnCustomer_26 : decode cX6_turnCustomer 26 = .ok (.irem, 1) := by decide +kernel
theorem dX6_turnCustomer_27 : decode cX6_turnCustomer 27 = .ok (.invokestatic 128, 3) := by decide +kernel
theorem dX6_turnCustomer_30 : decode cX6_turnCustomer 30 = .ok (.pop, 1) := by decide +kernel
theorem dX6_turnCustomer_31 : decode cX6_turnCustomer 31 = .ok (.goto 103, 3) := by decide +kernel
theorem dX6_turnCustomer_34 : decode cX6_turnCustomer 34 = .ok (.aload_n 0, 1) := by decide +kernel
theorem dX6_turnCustomer_35 : decode cX6_turnCustomer 35 = .ok (.iload_n 3, 1) := by decide +kernel
theorem dX6_turnCustomer_36 : decode cX6_turnCustomer 36 = .ok (.invokestatic 139, 3) := by decide +kernel
theorem dX6_turnCustomer_39 : decode cX6_turnCustomer 39 = .ok (.ifCond .ne 4, 3) := by decide +kernel
theorem dX6_turnCustomer_42 : decode cX6_turnCustomer 42 = .ok (.return_, 1) := by decide +kernel
theorem dX6_turnCustomer_43 : decode cX6_turnCustomer 43 = .ok (.iload_n 1, 1) := by decide +kernel
theorem dX6_turnCustomer_44 : decode cX6_turnCustomer 44 = .ok (.iconst 1, 1) := by decide +kernel
theorem dX6_turnCustomer_45 : decode cX6_turnCustomer 45 = .ok (.if_icmp .ne 27, 3) := by decide +kernel
theorem dX6_turnCustomer_48 : decode cX6_turnCustomer 48 = .ok (.aload_n 0, 1) := by decide +kernel
theorem dX6_turnCustomer_49 : decode cX6_turnCustomer 49 = .ok (.iload_n 3, 1) := by decide +kernel
theorem dX6_turnCustomer_50 : decode cX6_turnCustomer 50 = .ok (.iload_n 2, 1) := by decide +kernel
theorem dX6_turnCustomer_51 : decode cX6_turnCustomer 51 = .ok (.bipush 16, 2) := by decide +kernel
theorem dX6_turnCustomer_53 : decode cX6_turnCustomer 53 = .ok (.idiv, 1) := by decide +kernel
theorem dX6_turnCustomer_54 : decode cX6_turnCustomer 54 = .ok (.bipush 7, 2) := by decide +kernel
theorem dX6_turnCustomer_56 : decode cX6_turnCustomer 56 = .ok (.irem, 1) := by decide +kernel
theorem dX6_turnCustomer_57 : decode cX6_turnCustomer 57 = .ok (.iload_n 2, 1) := by decide +kernel
theorem dX6_turnCustomer_58 : decode cX6_turnCustomer 58 = .ok (.sipush 128, 3) := by decide +kernel
theorem dX6_turnCustomer_61 : decode cX6_turnCustomer 61 = .ok (.idiv, 1) := by decide +kernel
theorem dX6_turnCustomer_62 : decode cX6_turnCustomer 62 = .ok (.bipush 10, 2) := by decide +kernel
theorem dX6_turnCustomer_64 : decode cX6_turnCustomer 64 = .ok (.irem, 1) := by decide +kernel
theorem dX6_turnCustomer_65 : decode cX6_turnCustomer 65 = .ok (.invokestatic 143, 3) := by decide +kernel
theorem dX6_turnCustomer_68 : decode cX6_turnCustomer 68 = .ok (.pop, 1) := by decide +kernel
theorem dX6_turnCustomer_69 : decode cX6_turnCustomer 69 = .ok (.goto 65, 3) := by decide +kernel
theorem dX6_turnCustomer_72 : decode cX6_turnCustomer 72 = .ok (.aload_n 0, 1) := by decide +kernel
theorem dX6_turnCustomer_73 : decode cX6_turnCustomer 73 = .ok (.iconst 1, 1) := by decide +kernel
theorem dX6_turnCustomer_74 : decode cX6_turnCustomer 74 = .ok (.iaload, 1) := by decide +kernel
theorem dX6_turnCustomer_75 : decode cX6_turnCustomer 75 = .ok (.iload_n 2, 1) := by decide +kernel
theorem dX6_turnCustomer_76 : decode cX6_turnCustomer 76 = .ok (.bipush 16, 2) := by decide +kernel
theorem dX6_turnCustomer_78 : decode cX6_turnCustomer 78 = .ok (.idiv, 1) := by decide +kernel
theorem dX6_turnCustomer_79 : decode cX6_turnCustomer 79 = .ok (.bipush 20, 2) := by decide +kernel
theorem dX6_turnCustomer_81 : decode cX6_turnCustomer 81 = .ok (.irem, 1) := by decide +kernel
theorem dX6_turnCustomer_82 : decode cX6_turnCustomer 82 = .ok (.iadd, 1) := by decide +kernel
theorem dX6_turnCustomer_83 : decode cX6_turnCustomer 83 = .ok (.istore 4, 2) := by decide +kernel
theorem dX6_turnCustomer_85 : decode cX6_turnCustomer 85 = .ok (.iload 4, 2) := by decide +kernel
theorem dX6_turnCustomer_87 : decode cX6_turnCustomer 87 = .ok (.iload 4, 2) := by decide +kernel
theorem dX6_turnCustomer_89 : decode cX6_turnCustomer 89 = .ok (.iload_n 2, 1) := by decide +kernel
theorem dX6_turnCustomer_90 : decode cX6_turnCustomer 90 = .ok (.sipush 512, 3) := by decide +kernel
theorem dX6_turnCustomer_93 : decode cX6_turnCustomer 93 = .ok (.idiv, 1) := by decide +kernel
theorem dX6_turnCustomer_94 : decode cX6_turnCustomer 94 = .ok (.bipush 9, 2) := by decide +kernel
theorem dX6_turnCustomer_96 : decode cX6_turnCustomer 96 = .ok (.irem, 1) := by decide +kernel
theorem dX6_turnCustomer_97 : decode cX6_turnCustomer 97 = .ok (.iadd, 1) := by decide +kernel
theorem dX6_turnCustomer_98 : decode cX6_turnCustomer 98 = .ok (.invokestatic 217, 3) := by decide +kernel
theorem dX6_turnCustomer_101 : decode cX6_turnCustomer 101 = .ok (.ifCond .eq 33, 3) := by decide +kernel
theorem dX6_turnCustomer_104 : decode cX6_turnCustomer 104 = .ok (.aload_n 0, 1) := by decide +kernel
theorem dX6_turnCustomer_105 : decode cX6_turnCustomer 105 = .ok (.iload_n 3, 1) := by decide +kernel
theorem dX6_turnCustomer_106 : decode cX6_turnCustomer 106 = .ok (.bipush 14, 2) := by decide +kernel
theorem dX6_turnCustomer_108 : decode cX6_turnCustomer 108 = .ok (.invokestatic 53, 3) := by decide +kernel
theorem dX6_turnCustomer_111 : decode cX6_turnCustomer 111 = .ok (.iconst 3, 1) := by decide +kernel
theorem dX6_turnCustomer_112 : decode cX6_turnCustomer 112 = .ok (.if_icmp .ge 22, 3) := by decide +kernel
theorem dX6_turnCustomer_115 : decode cX6_turnCustomer 115 = .ok (.aload_n 0, 1) := by decide +kernel
theorem dX6_turnCustomer_116 : decode cX6_turnCustomer 116 = .ok (.iload_n 3, 1) := by decide +kernel
theorem dX6_turnCustomer_117 : decode cX6_turnCustomer 117 = .ok (.iload 4, 2) := by decide +kernel
theorem dX6_turnCustomer_119 : decode cX6_turnCustomer 119 = .ok (.iload 4, 2) := by decide +kernel
theorem dX6_turnCustomer_121 : decode cX6_turnCustomer 121 = .ok (.iload_n 2, 1) := by decide +kernel
theorem dX6_turnCustomer_122 : decode cX6_turnCustomer 122 = .ok (.sipush 512, 3) := by decide +kernel
theorem dX6_turnCustomer_125 : decode cX6_turnCustomer 125 = .ok (.idiv, 1) := by decide +kernel
theorem dX6_turnCustomer_126 : decode cX6_turnCustomer 126 = .ok (.bipush 9, 2) := by decide +kernel
theorem dX6_turnCustomer_128 : decode cX6_turnCustomer 128 = .ok (.irem, 1) := by decide +kernel
theorem dX6_turnCustomer_129 : decode cX6_turnCustomer 129 = .ok (.iadd, 1) := by decide +kernel
theorem dX6_turnCustomer_130 : decode cX6_turnCustomer 130 = .ok (.invokestatic 146, 3) := by decide +kernel
theorem dX6_turnCustomer_133 : decode cX6_turnCustomer 133 = .ok (.pop, 1) := by decide +kernel
theorem dX6_turnCustomer_134 : decode cX6_turnCustomer 134 = .ok (.return_, 1) := by decide +kernel
theorem dX6_turnOf_0 : decode cX6_turnOf 0 = .ok (.iload_n 1, 1) := by decide +kernel
theorem dX6_turnOf_1 : decode cX6_turnOf 1 = .ok (.iconst 3, 1) := by decide +kernel
theorem dX6_turnOf_2 : decode cX6_turnOf 2 = .ok (.if_icmp .ge 12, 3) := by decide +kernel
theorem dX6_turnOf_5 : decode cX6_turnOf 5 = .ok (.aload_n 0, 1) := by decide +kernel
theorem dX6_turnOf_6 : decode cX6_turnOf 6 = .ok (.iload_n 1, 1) := by decide +kernel
theorem dX6_turnOf_7 : decode cX6_turnOf 7 = .ok (.iload_n 2, 1) := by decide +kernel
theorem dX6_turnOf_8 : decode cX6_turnOf 8 = .ok (.invokestatic 240, 3) := by decide +kernel
theorem dX6_turnOf_11 : decode cX6_turnOf 11 = .ok (.goto 131, 3) := by decide +kernel
theorem dX6_turnOf_14 : decode cX6_turnOf 14 = .ok (.iload_n 1, 1) := by decide +kernel
theorem dX6_turnOf_15 : decode cX6_turnOf 15 = .ok (.iconst 3, 1) := by decide +kernel
theorem dX6_turnOf_16 : decode cX6_turnOf 16 = .ok (.if_icmp .ne 34, 3) := by decide +kernel
theorem dX6_turnOf_19 : decode cX6_turnOf 19 = .ok (.aload_n 0, 1) := by decide +kernel
theorem dX6_turnOf_20 : decode cX6_turnOf 20 = .ok (.iload_n 2, 1) := by decide +kernel
theorem dX6_turnOf_21 : decode cX6_turnOf 21 = .ok (.iconst 4, 1) := by decide +kernel
theorem dX6_turnOf_22 : decode cX6_turnOf 22 = .ok (.irem, 1) := by decide +kernel
theorem dX6_turnOf_23 : decode cX6_turnOf 23 = .ok (.iload_n 2, 1) := by decide +kernel
theorem dX6_turnOf_24 : decode cX6_turnOf 24 = .ok (.iconst 4, 1) := by decide +kernel
theorem dX6_turnOf_25 : decode cX6_turnOf 25 = .ok (.idiv, 1) := by decide +kernel
theorem dX6_turnOf_26 : decode cX6_turnOf 26 = .ok (.bipush 7, 2) := by decide +kernel
theorem dX6_turnOf_28 : decode cX6_turnOf 28 = .ok (.irem, 1) := by decide +kernel
theorem dX6_turnOf_29 : decode cX6_turnOf 29 = .ok (.iload_n 2, 1) := by decide +kernel
theorem dX6_turnOf_30 : decode cX6_turnOf 30 = .ok (.bipush 32, 2) := by decide +kernel
theorem dX6_turnOf_32 : decode cX6_turnOf 32 = .ok (.idiv, 1) := by decide +kernel
theorem dX6_turnOf_33 : decode cX6_turnOf 33 = .ok (.iconst 3, 1) := by decide +kernel
theorem dX6_turnOf_34 : decode cX6_turnOf 34 = .ok (.irem, 1) := by decide +kernel
theorem dX6_turnOf_35 : decode cX6_turnOf 35 = .ok (.ifCond .ne 7, 3) := by decide +kernel
theorem dX6_turnOf_38 : decode cX6_turnOf 38 = .ok (.iconst 1, 1) := by decide +kernel
theorem dX6_turnOf_39 : decode cX6_turnOf 39 = .ok (.goto 4, 3) := by decide +kernel
theorem dX6_turnOf_42 : decode cX6_turnOf 42 = .ok (.iconst 0, 1) := by decide +kernel
theorem dX6_turnOf_43 : decode cX6_turnOf 43 = .ok (.invokestatic 149, 3) := by decide +kernel
theorem dX6_turnOf_46 : decode cX6_turnOf 46 = .ok (.pop, 1) := by decide +kernel
theorem dX6_turnOf_47 : decode cX6_turnOf 47 = .ok (.goto 95, 3) := by decide +kernel
theorem dX6_turnOf_50 : decode cX6_turnOf 50 = .ok (.iload_n 1, 1) := by decide +kernel
theorem dX6_turnOf_51 : decode cX6_turnOf 51 = .ok (.iconst 4, 1) := by decide +kernel
theorem dX6_turnOf_52 : decode cX6_turnOf 52 = .ok (.if_icmp .ne 19, 3) := by decide +kernel
theorem dX6_turnOf_55 : decode cX6_turnOf 55 = .ok (.aload_n 0, 1) := by decide +kernel
theorem dX6_turnOf_56 : decode cX6_turnOf 56 = .ok (.iload_n 2, 1) := by decide +kernel
theorem dX6_turnOf_57 : decode cX6_turnOf 57 = .ok (.iconst 4, 1) := by decide +kernel
theorem dX6_turnOf_58 : decode cX6_turnOf 58 = .ok (.irem, 1) := by decide +kernel
theorem dX6_turnOf_59 : decode cX6_turnOf 59 = .ok (.iload_n 2, 1) := by decide +kernel
theorem dX6_turnOf_60 : decode cX6_turnOf 60 = .ok (.iconst 4, 1) := by decide +kernel
theorem dX6_turnOf_61 : decode cX6_turnOf 61 = .ok (.idiv, 1) := by decide +kernel
theorem dX6_turnOf_62 : decode cX6_turnOf 62 = .ok (.iconst 4, 1) := by decide +kernel
theorem dX6_turnOf_63 : decode cX6_turnOf 63 = .ok (.irem, 1) := by decide +kernel
theorem dX6_turnOf_64 : decode cX6_turnOf 64 = .ok (.invokestatic 166, 3) := by decide +kernel
theorem dX6_turnOf_67 : decode cX6_turnOf 67 = .ok (.pop, 1) := by decide +kernel
theorem dX6_turnOf_68 : decode cX6_turnOf 68 = .ok (.goto 74, 3) := by decide +kernel
theorem dX6_turnOf_71 : decode cX6_turnOf 71 = .ok (.iload_n 1, 1) := by decide +kernel
theorem dX6_turnOf_72 : decode cX6_turnOf 72 = .ok (.iconst 5, 1) := by decide +kernel
theorem dX6_turnOf_73 : decode cX6_turnOf 73 = .ok (.if_icmp .le 17, 3) := by decide +kernel
theorem dX6_turnOf_76 : decode cX6_turnOf 76 = .ok (.aload_n 0, 1) := by decide +kernel
theorem dX6_turnOf_77 : decode cX6_turnOf 77 = .ok (.iconst 1, 1) := by decide +kernel
theorem dX6_turnOf_78 : decode cX6_turnOf 78 = .ok (.iload_n 2, 1) := by decide +kernel
theorem dX6_turnOf_79 : decode cX6_turnOf 79 = .ok (.bipush 9, 2) := by decide +kernel
theorem dX6_turnOf_81 : decode cX6_turnOf 81 = .ok (.irem, 1) := by decide +kernel
theorem dX6_turnOf_82 : decode cX6_turnOf 82 = .ok (.iadd, 1) := by decide +kernel
theorem dX6_turnOf_83 : decode cX6_turnOf 83 = .ok (.invokestatic 173, 3) := by decide +kernel
theorem dX6_turnOf_86 : decode cX6_turnOf 86 = .ok (.pop, 1) := by decide +kernel
theorem dX6_turnOf_87 : decode cX6_turnOf 87 = .ok (.goto 55, 3) := by decide +kernel
theorem dX6_turnOf_90 : decode cX6_turnOf 90 = .ok (.iload_n 2, 1) := by decide +kernel
theorem dX6_turnOf_91 : decode cX6_turnOf 91 = .ok (.sipush 128, 3) := by decide +kernel
theorem dX6_turnOf_94 : decode cX6_turnOf 94 = .ok (.idiv, 1) := by decide +kernel
theorem dX6_turnOf_95 : decode cX6_turnOf 95 = .ok (.iconst 2, 1) := by decide +kernel
theorem dX6_turnOf_96 : decode cX6_turnOf 96 = .ok (.irem, 1) := by decide +kernel
theorem dX6_turnOf_97 : decode cX6_turnOf 97 = .ok (.ifCond .ne 14, 3) := by decide +kernel
theorem dX6_turnOf_100 : decode cX6_turnOf 100 = .ok (.aload_n 0, 1) := by decide +kernel
theorem dX6_turnOf_101 : decode cX6_turnOf 101 = .ok (.bipush 11, 2) := by decide +kernel
theorem dX6_turnOf_103 : decode cX6_turnOf 103 = .ok (.iload_n 2, 1) := by decide +kernel
theorem dX6_turnOf_104 : decode cX6_turnOf 104 = .ok (.bipush 100, 2) := by decide +kernel
theorem dX6_turnOf_106 : decode cX6_turnOf 106 = .ok (.irem, 1) := by decide +kernel
theorem dX6_turnOf_107 : decode cX6_turnOf 107 = .ok (.iastore, 1) := by decide +kernel
theorem dX6_turnOf_108 : decode cX6_turnOf 108 = .ok (.goto 34, 3) := by decide +kernel
theorem dX6_turnOf_111 : decode cX6_turnOf 111 = .ok (.iconst 1, 1) := by decide +kernel
theorem dX6_turnOf_112 : decode cX6_turnOf 112 = .ok (.iload_n 2, 1) := by decide +kernel
theorem dX6_turnOf_113 : decode cX6_turnOf 113 = .ok (.iconst 3, 1) := by decide +kernel
theorem dX6_turnOf_114 : decode cX6_turnOf 114 = .ok (.irem, 1) := by decide +kernel
theorem dX6_turnOf_115 : decode cX6_turnOf 115 = .ok (.iadd, 1) := by decide +kernel
theorem dX6_turnOf_116 : decode cX6_turnOf 116 = .ok (.iload_n 2, 1) := by decide +kernel
theorem dX6_turnOf_117 : decode cX6_turnOf 117 = .ok (.iconst 4, 1) := by decide +kernel
theorem dX6_turnOf_118 : decode cX6_turnOf 118 = .ok (.idiv, 1) := by decide +kernel
theorem dX6_turnOf_119 : decode cX6_turnOf 119 = .ok (.bipush 10, 2) := by decide +kernel
theorem dX6_turnOf_121 : decode cX6_turnOf 121 = .ok (.irem, 1) := by decide +kernel
theorem dX6_turnOf_122 : decode cX6_turnOf 122 = .ok (.invokestatic 169, 3) := by decide +kernel
theorem dX6_turnOf_125 : decode cX6_turnOf 125 = .ok (.ifCond .eq 17, 3) := by decide +kernel
theorem dX6_turnOf_128 : decode cX6_turnOf 128 = .ok (.aload_n 0, 1) := by decide +kernel
theorem dX6_turnOf_129 : decode cX6_turnOf 129 = .ok (.bipush 12, 2) := by decide +kernel
theorem dX6_turnOf_131 : decode cX6_turnOf 131 = .ok (.iload_n 2, 1) := by decide +kernel
theorem dX6_turnOf_132 : decode cX6_turnOf 132 = .ok (.iconst 3, 1) := by decide +kernel
theorem dX6_turnOf_133 : decode cX6_turnOf 133 = .ok (.irem, 1) := by decide +kernel
theorem dX6_turnOf_134 : decode cX6_turnOf 134 = .ok (.iadd, 1) := by decide +kernel
theorem dX6_turnOf_135 : decode cX6_turnOf 135 = .ok (.iload_n 2, 1) := by decide +kernel
theorem dX6_turnOf_136 : decode cX6_turnOf 136 = .ok (.iconst 4, 1) := by decide +kernel
theorem dX6_turnOf_137 : decode cX6_turnOf 137 = .ok (.idiv, 1) := by decide +kernel
theorem dX6_turnOf_138 : decode cX6_turnOf 138 = .ok (.bipush 10, 2) := by decide +kernel
theorem dX6_turnOf_140 : decode cX6_turnOf 140 = .ok (.irem, 1) := by decide +kernel
theorem dX6_turnOf_141 : decode cX6_turnOf 141 = .ok (.iastore, 1) := by decide +kernel
theorem dX6_turnOf_142 : decode cX6_turnOf 142 = .ok (.return_, 1) := by decide +kernel
theorem dX6_simulate_0 : decode cX6_simulate 0 = .ok (.aload_n 0, 1) := by decide +kernel
theorem dX6_simulate_1 : decode cX6_simulate 1 = .ok (.iload_n 3, 1) := by decide +kernel
theorem dX6_simulate_2 : decode cX6_simulate 2 = .ok (.i2l, 1) := by decide +kernel
theorem dX6_simulate_3 : decode cX6_simulate 3 = .ok (.lconst 1, 1) := by decide +kernel
theorem dX6_simulate_4 : decode cX6_simulate 4 = .ok (.ldc2_w 223, 3) := by decide +kernel
theorem dX6_simulate_7 : decode cX6_simulate 7 = .ok (.invokestatic 37, 3) := by decide +kernel
theorem dX6_simulate_10 : decode cX6_simulate 10 = .ok (.ifCond .eq 7, 3) := by decide +kernel
theorem dX6_simulate_13 : decode cX6_simulate 13 = .ok (.iconst 0, 1) := by decide +kernel
theorem dX6_simulate_14 : decode cX6_simulate 14 = .ok (.goto 4, 3) := by decide +kernel
theorem dX6_simulate_17 : decode cX6_simulate 17 = .ok (.iconst 1, 1) := by decide +kernel
theorem dX6_simulate_18 : decode cX6_simulate 18 = .ok (.invokevirtual 108, 3) := by decide +kernel
theorem dX6_simulate_21 : decode cX6_simulate 21 = .ok (.ifCond .eq 5, 3) := by decide +kernel
theorem dX6_simulate_24 : decode cX6_simulate 24 = .ok (.iconst 0, 1) := by decide +kernel
theorem dX6_simulate_25 : decode cX6_simulate 25 = .ok (.ireturn, 1) := by decide +kernel
theorem dX6_simulate_26 : decode cX6_simulate 26 = .ok (.aload_n 0, 1) := by decide +kernel
theorem dX6_simulate_27 : decode cX6_simulate 27 = .ok (.getfield 13, 3) := by decide +kernel
theorem dX6_simulate_30 : decode cX6_simulate 30 = .ok (.iconst 0, 1) := by decide +kernel
theorem dX6_simulate_31 : decode cX6_simulate 31 = .ok (.aload_n 0, 1) := by decide +kernel
theorem dX6_simulate_32 : decode cX6_simulate 32 = .ok (.getfield 16, 3) := by decide +kernel
theorem dX6_simulate_35 : decode cX6_simulate 35 = .ok (.iconst 0, 1) := by decide +kernel
theorem dX6_simulate_36 : decode cX6_simulate 36 = .ok (.invokestatic 183, 3) := by decide +kernel
theorem dX6_simulate_39 : decode cX6_simulate 39 = .ok (.lload_n 1, 1) := by decide +kernel
theorem dX6_simulate_40 : decode cX6_simulate 40 = .ok (.lstore 4, 2) := by decide +kernel
theorem dX6_simulate_42 : decode cX6_simulate 42 = .ok (.iconst 0, 1) := by decide +kernel
theorem dX6_simulate_43 : decode cX6_simulate 43 = .ok (.istore 6, 2) := by decide +kernel
theorem dX6_simulate_45 : decode cX6_simulate 45 = .ok (.iload 6, 2) := by decide +kernel
theorem dX6_simulate_47 : decode cX6_simulate 47 = .ok (.iload_n 3, 1) := by decide +kernel
theorem dX6_simulate_48 : decode cX6_simulate 48 = .ok (.if_icmp .ge 46, 3) := by decide +kernel
theorem dX6_simulate_51 : decode cX6_simulate 51 = .ok (.lload 4, 2) := by decide +kernel
theorem dX6_simulate_53 : decode cX6_simulate 53 = .ok (.ldc2_w 244, 3) := by decide +kernel
theorem dX6_simulate_56 : decode cX6_simulate 56 = .ok (.lmul, 1) := by decide +kernel
theorem dX6_simulate_57 : decode cX6_simulate 57 = .ok (.ldc2_w 246, 3) := by decide +kernel
theorem dX6_simulate_60 : decode cX6_simulate 60 = .ok (.ladd, 1) := by decide +kernel
theorem dX6_simulate_61 : decode cX6_simulate 61 = .ok (.lstore 4, 2) := by decide +kernel
theorem dX6_simulate_63 : decode cX6_simulate 63 = .ok (.lload 4, 2) := by decide +kernel
theorem dX6_simulate_65 : decode cX6_simulate 65 = .ok (.bipush 33, 2) := by decide +kernel
theorem dX6_simulate_67 : decode cX6_simulate 67 = .ok (.lushr, 1) := by decide +kernel
theorem dX6_simulate_68 : decode cX6_simulate 68 = .ok (.l2i, 1) := by decide +kernel
theorem dX6_simulate_69 : decode cX6_simulate 69 = .ok (.istore 7, 2) := by decide +kernel
theorem dX6_simulate_71 : decode cX6_simulate 71 = .ok (.aload_n 0, 1) := by decide +kernel
theorem dX6_simulate_72 : decode cX6_simulate 72 = .ok (.getfield 16, 3) := by decide +kernel
theorem dX6_simulate_75 : decode cX6_simulate 75 = .ok (.iload 7, 2) := by decide +kernel
theorem dX6_simulate_77 : decode cX6_simulate 77 = .ok (.bipush 8, 2) := by decide +kernel
theorem dX6_simulate_79 : decode cX6_simulate 79 = .ok (.irem, 1) := by decide +kernel
theorem dX6_simulate_80 : decode cX6_simulate 80 = .ok (.iload 7, 2) := by decide +kernel
theorem dX6_simulate_82 : decode cX6_simulate 82 = .ok (.bipush 8, 2) := by decide +kernel
theorem dX6_simulate_84 : decode cX6_simulate 84 = .ok (.idiv, 1) := by decide +kernel
theorem dX6_simulate_85 : decode cX6_simulate 85 = .ok (.invokestatic 248, 3) := by decide +kernel
theorem dX6_simulate_88 : decode cX6_simulate 88 = .ok (.iinc 6 1, 3) := by decide +kernel
theorem dX6_simulate_91 : decode cX6_simulate 91 = .ok (.goto (-46), 3) := by decide +kernel
theorem dX6_simulate_94 : decode cX6_simulate 94 = .ok (.sipush 1000, 3) := by decide +kernel
theorem dX6_simulate_97 : decode cX6_simulate 97 = .ok (.aload_n 0, 1) := by decide +kernel
theorem dX6_simulate_98 : decode cX6_simulate 98 = .ok (.getfield 16, 3) := by decide +kernel
theorem dX6_simulate_101 : decode cX6_simulate 101 = .ok (.iconst 3, 1) := by decide +kernel
theorem dX6_simulate_102 : decode cX6_simulate 102 = .ok (.iaload, 1) := by decide +kernel
theorem dX6_simulate_103 : decode cX6_simulate 103 = .ok (.aload_n 0, 1) := by decide +kernel
theorem dX6_simulate_104 : decode cX6_simulate 104 = .ok (.getfield 13, 3) := by decide +kernel
theorem dX6_simulate_107 : decode cX6_simulate 107 = .ok (.iconst 3, 1) := by decide +kernel
theorem dX6_simulate_108 : decode cX6_simulate 108 = .ok (.iaload, 1) := by decide +kernel
theorem dX6_simulate_109 : decode cX6_simulate 109 = .ok (.isub, 1) := by decide +kernel
theorem dX6_simulate_110 : decode cX6_simulate 110 = .ok (.sipush 1000, 3) := by decide +kernel
theorem dX6_simulate_113 : decode cX6_simulate 113 = .ok (.irem, 1) := by decide +kernel
theorem dX6_simulate_114 : decode cX6_simulate 114 = .ok (.imul, 1) := by decide +kernel
theorem dX6_simulate_115 : decode cX6_simulate 115 = .ok (.aload_n 0, 1) := by decide +kernel
theorem dX6_simulate_116 : decode cX6_simulate 116 = .ok (.getfield 16, 3) := by decide +kernel
theorem dX6_simulate_119 : decode cX6_simulate 119 = .ok (.invokestatic 192, 3) := by decide +kernel
theorem dX6_simulate_122 : decode cX6_simulate 122 = .ok (.iadd, 1) := by decide +kernel
theorem dX6_simulate_123 : decode cX6_simulate 123 = .ok (.ireturn, 1) := by decide +kernel
theorem dX6_save_0 : decode cX6_save 0 = .ok (.aload_n 0, 1) := by decide +kernel
theorem dX6_save_1 : decode cX6_save 1 = .ok (.iload_n 1, 1) := by decide +kernel
theorem dX6_save_2 : decode cX6_save 2 = .ok (.i2l, 1) := by decide +kernel
theorem dX6_save_3 : decode cX6_save 3 = .ok (.lconst 0, 1) := by decide +kernel
theorem dX6_save_4 : decode cX6_save 4 = .ok (.lconst 1, 1) := by decide +kernel
theorem dX6_save_5 : decode cX6_save 5 = .ok (.invokestatic 37, 3) := by decide +kernel
theorem dX6_save_8 : decode cX6_save 8 = .ok (.ifCond .eq 7, 3) := by decide +kernel
theorem dX6_save_11 : decode cX6_save 11 = .ok (.iconst 0, 1) := by decide +kernel
theorem dX6_save_12 : decode cX6_save 12 = .ok (.goto 4, 3) := by decide +kernel
theorem dX6_save_15 : decode cX6_save 15 = .ok (.iconst 1, 1) := by decide +kernel
theorem dX6_save_16 : decode cX6_save 16 = .ok (.invokevirtual 108, 3) := by decide +kernel
theorem dX6_save_19 : decode cX6_save 19 = .ok (.ifCond .eq 5, 3) := by decide +kernel
theorem dX6_save_22 : decode cX6_save 22 = .ok (.iconst 0, 1) := by decide +kernel
theorem dX6_save_23 : decode cX6_save 23 = .ok (.ireturn, 1) := by decide +kernel
theorem dX6_save_24 : decode cX6_save 24 = .ok (.aload_n 0, 1) := by decide +kernel
theorem dX6_save_25 : decode cX6_save 25 = .ok (.getfield 13, 3) := by decide +kernel
theorem dX6_save_28 : decode cX6_save 28 = .ok (.iconst 0, 1) := by decide +kernel
theorem dX6_save_29 : decode cX6_save 29 = .ok (.aload_n 0, 1) := by decide +kernel
theorem dX6_save_30 : decode cX6_save 30 = .ok (.getfield 22, 3) := by decide +kernel
theorem dX6_save_33 : decode cX6_save 33 = .ok (.sipush 258, 3) := by decide +kernel
theorem dX6_save_36 : decode cX6_save 36 = .ok (.iload_n 1, 1) := by decide +kernel
theorem dX6_save_37 : decode cX6_save 37 = .ok (.imul, 1) := by decide +kernel
theorem dX6_save_38 : decode cX6_save 38 = .ok (.invokestatic 183, 3) := by decide +kernel
theorem dX6_save_41 : decode cX6_save 41 = .ok (.aload_n 0, 1) := by decide +kernel
theorem dX6_save_42 : decode cX6_save 42 = .ok (.getfield 25, 3) := by decide +kernel
theorem dX6_save_45 : decode cX6_save 45 = .ok (.iload_n 1, 1) := by decide +kernel
theorem dX6_save_46 : decode cX6_save 46 = .ok (.iconst 1, 1) := by decide +kernel
theorem dX6_save_47 : decode cX6_save 47 = .ok (.bastore, 1) := by decide +kernel
theorem dX6_save_48 : decode cX6_save 48 = .ok (.aload_n 0, 1) := by decide +kernel
theorem dX6_save_49 : decode cX6_save 49 = .ok (.getfield 13, 3) := by decide +kernel
theorem dX6_save_52 : decode cX6_save 52 = .ok (.iconst 1, 1) := by decide +kernel
theorem dX6_save_53 : decode cX6_save 53 = .ok (.iaload, 1) := by decide +kernel
theorem dX6_save_54 : decode cX6_save 54 = .ok (.ireturn, 1) := by decide +kernel
theorem dX6_restore_0 : decode cX6_restore 0 = .ok (.aload_n 0, 1) := by decide +kernel
theorem dX6_restore_1 : decode cX6_restore 1 = .ok (.iload_n 1, 1) := by decide +kernel
theorem dX6_restore_2 : decode cX6_restore 2 = .ok (.i2l, 1) := by decide +kernel
theorem dX6_restore_3 : decode cX6_restore 3 = .ok (.lconst 0, 1) := by decide +kernel
theorem dX6_restore_4 : decode cX6_restore 4 = .ok (.lconst 1, 1) := by decide +kernel
theorem dX6_restore_5 : decode cX6_restore 5 = .ok (.invokestatic 37, 3) := by decide +kernel
theorem dX6_restore_8 : decode cX6_restore 8 = .ok (.ifCond .ne 7, 3) := by decide +kernel
theorem dX6_restore_11 : decode cX6_restore 11 = .ok (.iconst 1, 1) := by decide +kernel
theorem dX6_restore_12 : decode cX6_restore 12 = .ok (.goto 17, 3) := by decide +kernel
theorem dX6_restore_15 : decode cX6_restore 15 = .ok (.aload_n 0, 1) := by decide +kernel
theorem dX6_restore_16 : decode cX6_restore 16 = .ok (.getfield 25, 3) := by decide +kernel
theorem dX6_restore_19 : decode cX6_restore 19 = .ok (.iload_n 1, 1) := by decide +kernel
theorem dX6_restore_20 : decode cX6_restore 20 = .ok (.baload, 1) := by decide +kernel
theorem dX6_restore_21 : decode cX6_restore 21 = .ok (.ifCond .ne 7, 3) := by decide +kernel
theorem dX6_restore_24 : decode cX6_restore 24 = .ok (.iconst 2, 1) := by decide +kernel
theorem dX6_restore_25 : decode cX6_restore 25 = .ok (.goto 4, 3) := by decide +kernel
theorem dX6_restore_28 : decode cX6_restore 28 = .ok (.iconst 0, 1) := by decide +kernel
theorem dX6_restore_29 : decode cX6_restore 29 = .ok (.invokevirtual 108, 3) := by decide +kernel
theorem dX6_restore_32 : decode cX6_restore 32 = .ok (.ifCond .eq 5, 3) := by decide +kernel
theorem dX6_restore_35 : decode cX6_restore 35 = .ok (.iconst 0, 1) := by decide +kernel
theorem dX6_restore_36 : decode cX6_restore 36 = .ok (.ireturn, 1) := by decide +kernel
theorem dX6_restore_37 : decode cX6_restore 37 = .ok (.aload_n 0, 1) := by decide +kernel
theorem dX6_restore_38 : decode cX6_restore 38 = .ok (.getfield 22, 3) := by decide +kernel
theorem dX6_restore_41 : decode cX6_restore 41 = .ok (.sipush 258, 3) := by decide +kernel
theorem dX6_restore_44 : decode cX6_restore 44 = .ok (.iload_n 1, 1) := by decide +kernel
theorem dX6_restore_45 : decode cX6_restore 45 = .ok (.imul, 1) := by decide +kernel
theorem dX6_restore_46 : decode cX6_restore 46 = .ok (.aload_n 0, 1) := by decide +kernel
theorem dX6_restore_47 : decode cX6_restore 47 = .ok (.getfield 13, 3) := by decide +kernel
theorem dX6_restore_50 : decode cX6_restore 50 = .ok (.iconst 0, 1) := by decide +kernel
theorem dX6_restore_51 : decode cX6_restore 51 = .ok (.invokestatic 183, 3) := by decide +kernel
theorem dX6_restore_54 : decode cX6_restore 54 = .ok (.aload_n 0, 1) := by decide +kernel
theorem dX6_restore_55 : decode cX6_restore 55 = .ok (.iconst 0, 1) := by decide +kernel
theorem dX6_restore_56 : decode cX6_restore 56 = .ok (.putfield 187, 3) := by decide +kernel
theorem dX6_restore_59 : decode cX6_restore 59 = .ok (.aload_n 0, 1) := by decide +kernel
theorem dX6_restore_60 : decode cX6_restore 60 = .ok (.getfield 13, 3) := by decide +kernel
theorem dX6_restore_63 : decode cX6_restore 63 = .ok (.iconst 1, 1) := by decide +kernel
theorem dX6_restore_64 : decode cX6_restore 64 = .ok (.iaload, 1) := by decide +kernel
theorem dX6_restore_65 : decode cX6_restore 65 = .ok (.ireturn, 1) := by decide +kernel
end
section
theorem dJ0_length_8abf5_0 : decode cJ0_length_8abf5 0 = .ok (.aload_n 0, 1) := by decide +kernel
theorem dJ0_length_8abf5_1 : decode cJ0_length_8abf5 1 = .ok (.getfield 9, 3) := by decide +kernel
theorem dJ0_length_8abf5_4 : decode cJ0_length_8abf5 4 = .ok (.arraylength, 1) := by decide +kernel
theorem dJ0_length_8abf5_5 : decode cJ0_length_8abf5 5 = .ok (.aload_n 0, 1) := by decide +kernel
theorem dJ0_length_8abf5_6 : decode cJ0_length_8abf5 6 = .ok (.invokevirtual 335, 3) := by decide +kernel
theorem dJ0_length_8abf5_9 : decode cJ0_length_8abf5 9 = .ok (.ishr, 1) := by decide +kernel
theorem dJ0_length_8abf5_10 : decode cJ0_length_8abf5 10 = .ok (.ireturn, 1) := by decide +kernel
theorem dJ0_isEmpty_aae02_0 : decode cJ0_isEmpty_aae02 0 = .ok (.aload_n 0, 1) := by decide +kernel
theorem dJ0_isEmpty_aae02_1 : decode cJ0_isEmpty_aae02 1 = .ok (.getfield 9, 3) := by decide +kernel
theorem dJ0_isEmpty_aae02_4 : decode cJ0_isEmpty_aae02 4 = .ok (.arraylength, 1) := by decide +kernel
theorem dJ0_isEmpty_aae02_5 : decode cJ0_isEmpty_aae02 5 = .ok (.ifCond .ne 7, 3) := by decide +kernel
theorem dJ0_isEmpty_aae02_8 : decode cJ0_isEmpty_aae02 8 = .ok (.iconst 1, 1) := by decide +kernel
theorem dJ0_isEmpty_aae02_9 : decode cJ0_isEmpty_aae02 9 = .ok (.goto 4, 3) := by decide +kernel
theorem dJ0_isEmpty_aae02_12 : decode cJ0_isEmpty_aae02 12 = .ok (.iconst 0, 1) := by decide +kernel
theorem dJ0_isEmpty_aae02_13 : decode cJ0_isEmpty_aae02 13 = .ok (.ireturn, 1) := by decide +kernel
theorem dJ0_charAt_5068e_0 : decode cJ0_charAt_5068e 0 = .ok (.aload_n 0, 1) := by decide +kernel
theorem dJ0_charAt_5068e_1 : decode cJ0_charAt_5068e 1 = .ok (.invokevirtual 492, 3) := by decide +kernel
theorem dJ0_charAt_5068e_4 : decode cJ0_charAt_5068e 4 = .ok (.ifCond .eq 12, 3) := by decide +kernel
theorem dJ0_charAt_5068e_7 : decode cJ0_charAt_5068e 7 = .ok (.aload_n 0, 1) := by decide +kernel
theorem dJ0_charAt_5068e_8 : decode cJ0_charAt_5068e 8 = .ok (.getfield 9, 3) := by decide +kernel
theorem dJ0_charAt_5068e_11 : decode cJ0_charAt_5068e 11 = .ok (.iload_n 1, 1) := by decide +kernel
theorem dJ0_charAt_5068e_12 : decode cJ0_charAt_5068e 12 = .ok (.invokestatic 495, 3) := by decide +kernel
theorem dJ0_charAt_5068e_15 : decode cJ0_charAt_5068e 15 = .ok (.ireturn, 1) := by decide +kernel
theorem dJ0_charAt_5068e_16 : decode cJ0_charAt_5068e 16 = .ok (.aload_n 0, 1) := by decide +kernel
theorem dJ0_charAt_5068e_17 : decode cJ0_charAt_5068e 17 = .ok (.getfield 9, 3) := by decide +kernel
theorem dJ0_charAt_5068e_20 : decode cJ0_charAt_5068e 20 = .ok (.iload_n 1, 1) := by decide +kernel
theorem dJ0_charAt_5068e_21 : decode cJ0_charAt_5068e 21 = .ok (.invokestatic 498, 3) := by decide +kernel
theorem dJ0_charAt_5068e_24 : decode cJ0_charAt_5068e 24 = .ok (.ireturn, 1) := by decide +kernel
theorem dJ0_coder_7d493_0 : decode cJ0_coder_7d493 0 = .ok (.getstatic 38, 3) := by decide +kernel
theorem dJ0_coder_7d493_3 : decode cJ0_coder_7d493 3 = .ok (.ifCond .eq 10, 3) := by decide +kernel
theorem dJ0_coder_7d493_6 : decode cJ0_coder_7d493 6 = .ok (.aload_n 0, 1) := by decide +kernel
theorem dJ0_coder_7d493_7 : decode cJ0_coder_7d493 7 = .ok (.getfield 15, 3) := by decide +kernel
theorem dJ0_coder_7d493_10 : decode cJ0_coder_7d493 10 = .ok (.goto 4, 3) := by decide +kernel
theorem dJ0_coder_7d493_13 : decode cJ0_coder_7d493 13 = .ok (.iconst 1, 1) := by decide +kernel
theorem dJ0_coder_7d493_14 : decode cJ0_coder_7d493 14 = .ok (.ireturn, 1) := by decide +kernel
theorem dJ0_isLatin1_aae02_0 : decode cJ0_isLatin1_aae02 0 = .ok (.getstatic 38, 3) := by decide +kernel
theorem dJ0_isLatin1_aae02_3 : decode cJ0_isLatin1_aae02 3 = .ok (.ifCond .eq 14, 3) := by decide +kernel
theorem dJ0_isLatin1_aae02_6 : decode cJ0_isLatin1_aae02 6 = .ok (.aload_n 0, 1) := by decide +kernel
theorem dJ0_isLatin1_aae02_7 : decode cJ0_isLatin1_aae02 7 = .ok (.getfield 15, 3) := by decide +kernel
theorem dJ0_isLatin1_aae02_10 : decode cJ0_isLatin1_aae02 10 = .ok (.ifCond .ne 7, 3) := by decide +kernel
theorem dJ0_isLatin1_aae02_13 : decode cJ0_isLatin1_aae02 13 = .ok (.iconst 1, 1) := by decide +kernel
theorem dJ0_isLatin1_aae02_14 : decode cJ0_isLatin1_aae02 14 = .ok (.goto 4, 3) := by decide +kernel
theorem dJ0_isLatin1_aae02_17 : decode cJ0_isLatin1_aae02 17 = .ok (.iconst 0, 1) := by decide +kernel
theorem dJ0_isLatin1_aae02_18 : decode cJ0_isLatin1_aae02 18 = .ok (.ireturn, 1) := by decide +kernel
theorem dJ0_checkIndex_df160_0 : decode cJ0_checkIndex_df160 0 = .ok (.iload_n 0, 1) := by decide +kernel
theorem dJ0_checkIndex_df160_1 : decode cJ0_checkIndex_df160 1 = .ok (.iload_n 1, 1) := by decide +kernel
theorem dJ0_checkIndex_df160_2 : decode cJ0_checkIndex_df160 2 = .ok (.getstatic 1053, 3) := by decide +kernel
theorem dJ0_checkIndex_df160_5 : decode cJ0_checkIndex_df160 5 = .ok (.invokestatic 1059, 3) := by decide +kernel
theorem dJ0_checkIndex_df160_8 : decode cJ0_checkIndex_df160 8 = .ok (.pop, 1) := by decide +kernel
theorem dJ0_checkIndex_df160_9 : decode cJ0_checkIndex_df160 9 = .ok (.return_, 1) := by decide +kernel
theorem dJ1_charAt_3b067_0 : decode cJ1_charAt_3b067 0 = .ok (.iload_n 1, 1) := by decide +kernel
theorem dJ1_charAt_3b067_1 : decode cJ1_charAt_3b067 1 = .ok (.aload_n 0, 1) := by decide +kernel
theorem dJ1_charAt_3b067_2 : decode cJ1_charAt_3b067 2 = .ok (.arraylength, 1) := by decide +kernel
theorem dJ1_charAt_3b067_3 : decode cJ1_charAt_3b067 3 = .ok (.invokestatic 9, 3) := by decide +kernel
theorem dJ1_charAt_3b067_6 : decode cJ1_charAt_3b067 6 = .ok (.aload_n 0, 1) := by decide +kernel
theorem dJ1_charAt_3b067_7 : decode cJ1_charAt_3b067 7 = .ok (.iload_n 1, 1) := by decide +kernel
theorem dJ1_charAt_3b067_8 : decode cJ1_charAt_3b067 8 = .ok (.baload, 1) := by decide +kernel
theorem dJ1_charAt_3b067_9 : decode cJ1_charAt_3b067 9 = .ok (.sipush 255, 3) := by decide +kernel
theorem dJ1_charAt_3b067_12 : decode cJ1_charAt_3b067 12 = .ok (.iand, 1) := by decide +kernel
theorem dJ1_charAt_3b067_13 : decode cJ1_charAt_3b067 13 = .ok (.i2c, 1) := by decide +kernel
theorem dJ1_charAt_3b067_14 : decode cJ1_charAt_3b067 14 = .ok (.ireturn, 1) := by decide +kernel
theorem dJ2_getChar_3b067_0 : decode cJ2_getChar_3b067 0 = .ok (.getstatic 44, 3) := by decide +kernel
theorem dJ2_getChar_3b067_3 : decode cJ2_getChar_3b067 3 = .ok (.ifCond .ne 25, 3) := by decide +kernel
theorem dJ2_getChar_3b067_6 : decode cJ2_getChar_3b067 6 = .ok (.iload_n 1, 1) := by decide +kernel
theorem dJ2_getChar_3b067_7 : decode cJ2_getChar_3b067 7 = .ok (.ifCond .lt 11, 3) := by decide +kernel
theorem dJ2_getChar_3b067_10 : decode cJ2_getChar_3b067 10 = .ok (.iload_n 1, 1) := by decide +kernel
theorem dJ2_getChar_3b067_11 : decode cJ2_getChar_3b067 11 = .ok (.aload_n 0, 1) := by decide +kernel
theorem dJ2_getChar_3b067_12 : decode cJ2_getChar_3b067 12 = .ok (.invokestatic 48, 3) := by decide +kernel
theorem dJ2_getChar_3b067_15 : decode cJ2_getChar_3b067 15 = .ok (.if_icmp .lt 13, 3) := by decide +kernel
theorem dJ2_getChar_3b067_18 : decode cJ2_getChar_3b067 18 = .ok (.new 52, 3) := by decide +kernel
theorem dJ2_getChar_3b067_21 : decode cJ2_getChar_3b067 21 = .ok (.dup, 1) := by decide +kernel
theorem dJ2_getChar_3b067_22 : decode cJ2_getChar_3b067 22 = .ok (.ldc 54, 2) := by decide +kernel
theorem dJ2_getChar_3b067_24 : decode cJ2_getChar_3b067 24 = .ok (.invokespecial 56, 3) := by decide +kernel
theorem dJ2_getChar_3b067_27 : decode cJ2_getChar_3b067 27 = .ok (.athrow, 1) := by decide +kernel
theorem dJ2_getChar_3b067_28 : decode cJ2_getChar_3b067 28 = .ok (.iload_n 1, 1) := by decide +kernel
theorem dJ2_getChar_3b067_29 : decode cJ2_getChar_3b067 29 = .ok (.iconst 1, 1) := by decide +kernel
theorem dJ2_getChar_3b067_30 : decode cJ2_getChar_3b067 30 = .ok (.ishl, 1) := by decide +kernel
theorem dJ2_getChar_3b067_31 : decode cJ2_getChar_3b067 31 = .ok (.istore_n 1, 1) := by decide +kernel
theorem dJ2_getChar_3b067_32 : decode cJ2_getChar_3b067 32 = .ok (.aload_n 0, 1) := by decide +kernel
theorem dJ2_getChar_3b067_33 : decode cJ2_getChar_3b067 33 = .ok (.iload_n 1, 1) := by decide +kernel
theorem dJ2_getChar_3b067_34 : decode cJ2_getChar_3b067 34 = .ok (.iinc 1 1, 3) := by decide +kernel
theorem dJ2_getChar_3b067_37 : decode cJ2_getChar_3b067 37 = .ok (.baload, 1) := by decide +kernel
theorem dJ2_getChar_3b067_38 : decode cJ2_getChar_3b067 38 = .ok (.sipush 255, 3) := by decide +kernel
theorem dJ2_getChar_3b067_41 : decode cJ2_getChar_3b067 41 = .ok (.iand, 1) := by decide +kernel
theorem dJ2_getChar_3b067_42 : decode cJ2_getChar_3b067 42 = .ok (.getstatic 59, 3) := by decide +kernel
theorem dJ2_getChar_3b067_45 : decode cJ2_getChar_3b067 45 = .ok (.ishl, 1) := by decide +kernel
theorem dJ2_getChar_3b067_46 : decode cJ2_getChar_3b067 46 = .ok (.aload_n 0, 1) := by decide +kernel
theorem dJ2_getChar_3b067_47 : decode cJ2_getChar_3b067 47 = .ok (.iload_n 1, 1) := by decide +kernel
theorem dJ2_getChar_3b067_48 : decode cJ2_getChar_3b067 48 = .ok (.baload, 1) := by decide +kernel
theorem dJ2_getChar_3b067_49 : decode cJ2_getChar_3b067 49 = .ok (.sipush 255, 3) := by decide +kernel
theorem dJ2_getChar_3b067_52 : decode cJ2_getChar_3b067 52 = .ok (.iand, 1) := by decide +kernel
theorem dJ2_getChar_3b067_53 : decode cJ2_getChar_3b067 53 = .ok (.getstatic 63, 3) := by decide +kernel
theorem dJ2_getChar_3b067_56 : decode cJ2_getChar_3b067 56 = .ok (.ishl, 1) := by decide +kernel
theorem dJ2_getChar_3b067_57 : decode cJ2_getChar_3b067 57 = .ok (.ior, 1) := by decide +kernel
theorem dJ2_getChar_3b067_58 : decode cJ2_getChar_3b067 58 = .ok (.i2c, 1) := by decide +kernel
theorem dJ2_getChar_3b067_59 : decode cJ2_getChar_3b067 59 = .ok (.ireturn, 1) := by decide +kernel
theorem dJ2_length_9d52b_0 : decode cJ2_length_9d52b 0 = .ok (.aload_n 0, 1) := by decide +kernel
theorem dJ2_length_9d52b_1 : decode cJ2_length_9d52b 1 = .ok (.arraylength, 1) := by decide +kernel
theorem dJ2_length_9d52b_2 : decode cJ2_length_9d52b 2 = .ok (.iconst 1, 1) := by decide +kernel
theorem dJ2_length_9d52b_3 : decode cJ2_length_9d52b 3 = .ok (.ishr, 1) := by decide +kernel
theorem dJ2_length_9d52b_4 : decode cJ2_length_9d52b 4 = .ok (.ireturn, 1) := by decide +kernel
theorem dJ2_charAt_3b067_0 : decode cJ2_charAt_3b067 0 = .ok (.iload_n 1, 1) := by decide +kernel
theorem dJ2_charAt_3b067_1 : decode cJ2_charAt_3b067 1 = .ok (.aload_n 0, 1) := by decide +kernel
theorem dJ2_charAt_3b067_2 : decode cJ2_charAt_3b067 2 = .ok (.invokestatic 67, 3) := by decide +kernel
theorem dJ2_charAt_3b067_5 : decode cJ2_charAt_3b067 5 = .ok (.aload_n 0, 1) := by decide +kernel
theorem dJ2_charAt_3b067_6 : decode cJ2_charAt_3b067 6 = .ok (.iload_n 1, 1) := by decide +kernel
theorem dJ2_charAt_3b067_7 : decode cJ2_charAt_3b067 7 = .ok (.invokestatic 71, 3) := by decide +kernel
theorem dJ2_charAt_3b067_10 : decode cJ2_charAt_3b067 10 = .ok (.ireturn, 1) := by decide +kernel
theorem dJ2_checkIndex_2214a_0 : decode cJ2_checkIndex_2214a 0 = .ok (.iload_n 0, 1) := by decide +kernel
theorem dJ2_checkIndex_2214a_1 : decode cJ2_checkIndex_2214a 1 = .ok (.aload_n 1, 1) := by decide +kernel
theorem dJ2_checkIndex_2214a_2 : decode cJ2_checkIndex_2214a 2 = .ok (.invokestatic 48, 3) := by decide +kernel
theorem dJ2_checkIndex_2214a_5 : decode cJ2_checkIndex_2214a 5 = .ok (.invokestatic 414, 3) := by decide +kernel
theorem dJ2_checkIndex_2214a_8 : decode cJ2_checkIndex_2214a 8 = .ok (.return_, 1) := by decide +kernel
theorem dJ3_checkIndex_8e157_0 : decode cJ3_checkIndex_8e157 0 = .ok (.iload_n 0, 1) := by decide +kernel
theorem dJ3_checkIndex_8e157_1 : decode cJ3_checkIndex_8e157 1 = .ok (.ifCond .lt 8, 3) := by decide +kernel
theorem dJ3_checkIndex_8e157_4 : decode cJ3_checkIndex_8e157 4 = .ok (.iload_n 0, 1) := by decide +kernel
theorem dJ3_checkIndex_8e157_5 : decode cJ3_checkIndex_8e157 5 = .ok (.iload_n 1, 1) := by decide +kernel
theorem dJ3_checkIndex_8e157_6 : decode cJ3_checkIndex_8e157 6 = .ok (.if_icmp .lt 10, 3) := by decide +kernel
theorem dJ3_checkIndex_8e157_9 : decode cJ3_checkIndex_8e157 9 = .ok (.aload_n 2, 1) := by decide +kernel
theorem dJ3_checkIndex_8e157_10 : decode cJ3_checkIndex_8e157 10 = .ok (.iload_n 0, 1) := by decide +kernel
theorem dJ3_checkIndex_8e157_11 : decode cJ3_checkIndex_8e157 11 = .ok (.iload_n 1, 1) := by decide +kernel
theorem dJ3_checkIndex_8e157_12 : decode cJ3_checkIndex_8e157 12 = .ok (.invokestatic 95, 3) := by decide +kernel
theorem dJ3_checkIndex_8e157_15 : decode cJ3_checkIndex_8e157 15 = .ok (.athrow, 1) := by decide +kernel
theorem dJ3_checkIndex_8e157_16 : decode cJ3_checkIndex_8e157 16 = .ok (.iload_n 0, 1) := by decide +kernel
theorem dJ3_checkIndex_8e157_17 : decode cJ3_checkIndex_8e157 17 = .ok (.ireturn, 1) := by decide +kernel
theorem dJ9_floorMod_7cf53_0 : decode cJ9_floorMod_7cf53 0 = .ok (.iload_n 0, 1) := by decide +kernel
theorem dJ9_floorMod_7cf53_1 : decode cJ9_floorMod_7cf53 1 = .ok (.iload_n 1, 1) := by decide +kernel
theorem dJ9_floorMod_7cf53_2 : decode cJ9_floorMod_7cf53 2 = .ok (.irem, 1) := by decide +kernel
theorem dJ9_floorMod_7cf53_3 : decode cJ9_floorMod_7cf53 3 = .ok (.istore_n 2, 1) := by decide +kernel
theorem dJ9_floorMod_7cf53_4 : decode cJ9_floorMod_7cf53 4 = .ok (.iload_n 0, 1) := by decide +kernel
theorem dJ9_floorMod_7cf53_5 : decode cJ9_floorMod_7cf53 5 = .ok (.iload_n 1, 1) := by decide +kernel
theorem dJ9_floorMod_7cf53_6 : decode cJ9_floorMod_7cf53 6 = .ok (.ixor, 1) := by decide +kernel
theorem dJ9_floorMod_7cf53_7 : decode cJ9_floorMod_7cf53 7 = .ok (.ifCond .ge 11, 3) := by decide +kernel
theorem dJ9_floorMod_7cf53_10 : decode cJ9_floorMod_7cf53 10 = .ok (.iload_n 2, 1) := by decide +kernel
theorem dJ9_floorMod_7cf53_11 : decode cJ9_floorMod_7cf53 11 = .ok (.ifCond .eq 7, 3) := by decide +kernel
theorem dJ9_floorMod_7cf53_14 : decode cJ9_floorMod_7cf53 14 = .ok (.iload_n 2, 1) := by decide +kernel
theorem dJ9_floorMod_7cf53_15 : decode cJ9_floorMod_7cf53 15 = .ok (.iload_n 1, 1) := by decide +kernel
theorem dJ9_floorMod_7cf53_16 : decode cJ9_floorMod_7cf53 16 = .ok (.iadd, 1) := by decide +kernel
theorem dJ9_floorMod_7cf53_17 : decode cJ9_floorMod_7cf53 17 = .ok (.ireturn, 1) := by decide +kernel
theorem dJ9_floorMod_7cf53_18 : decode cJ9_floorMod_7cf53 18 = .ok (.iload_n 2, 1) := by decide +kernel
theorem dJ9_floorMod_7cf53_19 : decode cJ9_floorMod_7cf53 19 = .ok (.ireturn, 1) := by decide +kernel
theorem dJ9_max_7cf53_0 : decode cJ9_max_7cf53 0 = .ok (.iload_n 0, 1) := by decide +kernel
theorem dJ9_max_7cf53_1 : decode cJ9_max_7cf53 1 = .ok (.iload_n 1, 1) := by decide +kernel
theorem dJ9_max_7cf53_2 : decode cJ9_max_7cf53 2 = .ok (.if_icmp .lt 7, 3) := by decide +kernel
theorem dJ9_max_7cf53_5 : decode cJ9_max_7cf53 5 = .ok (.iload_n 0, 1) := by decide +kernel
theorem dJ9_max_7cf53_6 : decode cJ9_max_7cf53 6 = .ok (.goto 4, 3) := by decide +kernel
theorem dJ9_max_7cf53_9 : decode cJ9_max_7cf53 9 = .ok (.iload_n 1, 1) := by decide +kernel
theorem dJ9_max_7cf53_10 : decode cJ9_max_7cf53 10 = .ok (.ireturn, 1) := by decide +kernel
theorem dJ9_min_7cf53_0 : decode cJ9_min_7cf53 0 = .ok (.iload_n 0, 1) := by decide +kernel
theorem dJ9_min_7cf53_1 : decode cJ9_min_7cf53 1 = .ok (.iload_n 1, 1) := by decide +kernel
theorem dJ9_min_7cf53_2 : decode cJ9_min_7cf53 2 = .ok (.if_icmp .gt 7, 3) := by decide +kernel
theorem dJ9_min_7cf53_5 : decode cJ9_min_7cf53 5 = .ok (.iload_n 0, 1) := by decide +kernel
theorem dJ9_min_7cf53_6 : decode cJ9_min_7cf53 6 = .ok (.goto 4, 3) := by decide +kernel
theorem dJ9_min_7cf53_9 : decode cJ9_min_7cf53 9 = .ok (.iload_n 1, 1) := by decide +kernel
theorem dJ9_min_7cf53_10 : decode cJ9_min_7cf53 10 = .ok (.ireturn, 1) := by decide +kernel
end
section
/-! the world: every object of the law's two systems stands at a flat address; whole numbers in one memory, references in a fixed one -/
abbrev gX : Type := va_G × (Nat → ClassId) × (Nat → Nat) × Nat
abbrev gU : Type := Nat × (Nat → Nat) × (Nat → Int64)
abbrev gM : Type := Nat → Int32
abbrev gY : Type := gX × gU × Nat × Program × Launch × Env × Room × State × MethodId × Array Value × List Frame × Method × Code × Nat × Nat × (State → Prop)
def gBk (b : Nat) : List (Nat × Nat × Nat) := [(b, 0, 0), (b + 11, 10, 10), (b + 21, 8, 28), (b + 49, 7, 4), (b + 53, 7, 5), (b + 58, 7, 10)] ++ (List.range 10).flatMap (fun c => [(b + 68 + 24 * c, 1, 0), (b + 79 + 24 * c, 7, 7), (b + 86 + 24 * c, 7, 3), (b + 89 + 24 * c, 7, 3)])
def gObs : List (Nat × Nat × Nat) := [(0, 4, 0), (6, 3, 0), (8, 6, 120)] ++ gBk 128 ++ gBk 436 ++ [(744, 2, 0), (747, 9, 14)] ++ (List.range 14).flatMap (fun i => gBk (761 + 308 * i)) ++ [(5073, 9, 2), (5075, 8, 2)] ++ gBk 5077 ++ gBk 5385 ++ [(5693, 5, 0), (5704, 7, 120), (5824, 7, 258), (6082, 7, 258), (6340, 7, 3612), (9952, 7, 516), (10468, 8, 2), (10470, 11, 1)]
def gNf (kd : Nat) : Nat := match kd with | 0 => 11 | 1 => 11 | 2 => 3 | 3 => 2 | 4 => 6 | _ => 11
def gSz (o : Nat × Nat × Nat) : Nat := if o.2.1 < 6 then gNf o.2.1 else o.2.2
def gRef (kd j : Nat) : Bool := match kd with | 0 => decide (6 ≤ j) | 1 => decide (8 ≤ j) | 2 => decide (j = 0) | 3 => decide (j = 0) | 4 => true | 5 => decide (j = 1 ∨ (3 ≤ j ∧ j ≤ 5) ∨ j = 7 ∨ j = 8) | _ => false
/-- the references of a book that stands at d places ahead -/
def gTb (x d : Nat) : Nat := if d = 6 then x + 6 else if d = 7 then x + 15 else if d = 8 then x + 42 else if d = 9 then x + 45 else if d = 10 then x + 49 else if d < 21 then x + 23 * d - 184 - 11 else if (d - 68) % 24 = 8 then x + 4 else if (d - 68) % 24 = 9 then x + 10 else x + 12
def gTau (x : Nat) : Nat := if x < 128 then (if x = 0 then 7 else if x = 1 then 129 else if x = 2 then 437 else if x = 3 then 745 else if x = 4 then 5074 else if x = 5 then 5076 else 9) else if x < 744 then gTb x ((x - 128) % 308) else if x < 761 then (if x = 744 then 748 else 762 + 308 * (x - 747)) else if x < 5073 then gTb x ((x - 761) % 308) else if x < 5077 then (if x = 5073 then 5078 else 5386) else if x < 5693 then gTb x ((x - 5077) % 308) else if x = 5694 then 5705 else if x = 5696 then 5825 else if x = 5697 then 6083 else if x = 5698 then 6341 else if x = 5700 then 9953 else 10469
def gRn (G : gX) (t : Nat) : Option Nat := if t = 0 then none else some (G.2.2.1 (t - 1))
def gFld (G : gX) (u : gU) (σ : gM) (kd a j : Nat) : Value := if gRef kd j = true then va_rf (gRn G (u.2.1 (a + j))) else .int (σ (a + j))
def gCell (G : gX) (u : gU) (σ : gM) (o : Nat × Nat × Nat) : va_E :=
  if o.2.1 < 6 then .inr (o.2.1, (List.range (gNf o.2.1)).map (gFld G u σ o.2.1 o.1))
  else if o.2.1 < 9 then .inl (G.2.1 o.2.1, o.2.2, .inl (fun j => if j < o.2.2 then σ (o.1 + j) else 0))
  else if o.2.1 < 11 then .inl (G.2.1 o.2.1, o.2.2, .inr (.inr (.inr (.inr (fun j => if j < o.2.2 then gRn G (u.2.1 (o.1 + j)) else none)))))
  else .inl (G.2.1 o.2.1, o.2.2, .inr (.inl (fun j => if j < o.2.2 then u.2.2 (o.1 + j) else 0)))
def gWs (G : gX) (u : gU) (σ : gM) : va_W := (gObs.take u.1).map (fun o => (G.2.2.1 o.1, gCell G u σ o))
def gTys (G : gX) : List (ClassId × FieldType) := [(G.2.1 6, .char), (G.2.1 7, .int), (G.2.1 8, .boolean), (G.2.1 9, .object "LoafRounds$Book"), (G.2.1 10, .object "LoafRounds$Customer"), (G.2.1 11, .long)]
def gTi (kd : Nat) : FieldType := match kd with | 6 => .char | 7 => .int | 8 => .boolean | 9 => .object "LoafRounds$Book" | 10 => .object "LoafRounds$Customer" | _ => .long
abbrev gA (G : gX) : Nat → Prop := fun q => G.2.2.2 ≤ q
def gNest (w : Cond) : Bool := match w with | .fieldLinkNest _ _ _ _ _ _ => true | .methodLinkNest _ _ _ _ => true | _ => false
def gG : List Cond := lw_tbl.filter goodWord
def gN : List Cond := lw_tbl.filter gNest
/-- the numbers that stand in tables -/
def gFirst : Nat → Int32 := fun j => match j with | 0 => 30 | 1 => 1 | 2 => 2 | 3 => 10 | _ => 3
def gLeast : Nat → Int32 := fun j => match j with | 4 => 1 | _ => 0
def gGreat : Nat → Int32 := fun j => match j with | 0 => 99 | 1 => 9 | 2 => 9 | 3 => 30 | _ => 20
def gKS (G : gX) (U : State) : Prop := va_K G.1 vwCl (gTys G) U ∧ ∀ w ∈ gN, va_Nw w U
def gTx : List String := ["39999999", "969", "99999", "36+", "33", "499", "6d", ""]
def gStr (G : gX) (U : State) (H : Heap) : Prop := ∃ (len : List Nat) (byt : List (List Int32)) (adV : Nat → Nat), len = gTx.map String.length ∧ byt = gTx.map (fun t => t.toList.map (fun c => Int32.ofNat c.toNat)) ∧ vk_S 8 len byt (fun i => G.2.2.1 (20030 + i)) adV (gA G) U H
def gSt (G : gX) (U : State) (H : Heap) : Prop :=
  va_En "LoafRounds$Refusal" "LLoafRounds$Refusal;" ["NOTHING", "NO_PLACE", "NO_ARGUMENT", "NO_ROOM"] [] (fun i => G.2.2.1 (20000 + i)) (gA G) U H ∧
  (va_Z "LoafRounds" "FIRST_SETTING" "[I" (.ref (G.2.2.1 20010)) (gA G) U H ∧ va_T .int (G.2.2.1 20010) 5 (fun j => .int (gFirst j)) (gA G) U H) ∧
  (va_Z "LoafRounds" "LEAST_SETTING" "[I" (.ref (G.2.2.1 20011)) (gA G) U H ∧ va_T .int (G.2.2.1 20011) 5 (fun j => .int (gLeast j)) (gA G) U H) ∧
  (va_Z "LoafRounds" "GREATEST_SETTING" "[I" (.ref (G.2.2.1 20012)) (gA G) U H ∧ va_T .int (G.2.2.1 20012) 5 (fun j => .int (gGreat j)) (gA G) U H)
def gWd (G : gX) (u : gU) (σ : gM) (U : State) (H : Heap) : Prop := va_P G.1 vwCl (gWs G u σ) H ∧ va_D (gA G) (gWs G u σ) ∧ gKS G U ∧ gSt G U H ∧ G.2.2.2 ≤ H.size
def gV (G : gX) (v : Value) : Value := match v with | .ref a => .ref (G.2.2.1 a) | v => v
def gPr (G : gX) : Nat → List (Option Value) → List (Nat × Value)
  | _, [] => []
  | i, none :: t => gPr G (i + 1) t
  | i, some v :: t => (i, gV G v) :: gPr G (i + 1) t
def gFx (Y : gY) (cc : ByteArray) (own : String) : Prop := match Y with
  | (G, _, nL, p, _, _, R, s, m, args, _, _, c, cells, slots, _) => p.tables.exec = Jvm.exec ∧ c.code = cc ∧ c.maxLocals = nL ∧ s.vm.findClass own = some m.cls ∧ (∀ w ∈ gG, w.before args s = true) ∧ G.2.2.2 ≤ s.heap.size ∧ cells ≤ R.cells ∧ slots ≤ R.slots
/-- the method's frame, in the flat world -/
def AW (Y : gY) (cc : ByteArray) (own : String) (pc : Nat) (ls : List (Option Value)) (st : List Value) (σ : gM) : Prop := match Y with
  | (G, u, nL, p, l, e, R, s, m, args, below, meth, c, cells, slots, Q) => gFx Y cc own → ∀ (H : Heap) (locs : List Loc) (la : Array Slot), gWd G u σ s H → va_S (gA G) s.heap H locs → lv_has la nL (gPr G 0 ls) → W p l e R s m args below meth c H locs cells slots Q (F0 m pc la (st.map (gV G)))
def gIn (u : gU) (a kd len : Nat) : Prop := (a, kd, len) ∈ gObs.take u.1
def gUf (Y : gY) : gU := Y.2.1
def gRd {β : Type} (σ : gM) (a n : Nat) (i : Int32) (k : Int32 → Option β) : Option β := if i < 0 ∨ n ≤ i.toNatClampNeg then none else k (σ (a + i.toNatClampNeg))
def gWr {β : Type} (σ : gM) (a n : Nat) (i x : Int32) (k : gM → Option β) : Option β := if i < 0 ∨ n ≤ i.toNatClampNeg then none else k (upd σ (a + i.toNatClampNeg) x)
def gEl {β : Type} (n : Nat) (i : Int32) (k : Nat → Option β) : Option β := if i < 0 ∨ n ≤ i.toNatClampNeg then none else k i.toNatClampNeg
def gLt {α β : Type} (a : α) (k : α → Option β) : Option β := k a
def gDz {β : Type} (y : Int32) (k : Option β) : Option β := if y = 0 then none else k
def gDl {β : Type} (y : Int64) (k : Option β) : Option β := if y = 0 then none else k
def gRz {β : Type} (ty : FieldType) (x : Int32) (k : Option β) : Option β := if vp_nar ty x = x then k else none
def gW2 (x : Option Value) : Option Value := match x with | some (.long _) => none | some (.double _) => none | y => y
def gSet : Nat → Option Value → List (Option Value) → List (Option Value)
  | _, _, [] => []
  | 0, v, _ :: t => v :: t
  | 1, v, x :: t => gW2 x :: gSet 0 v t
  | n + 2, v, x :: t => x :: gSet (n + 1) v t
def gSet2 : Nat → Option Value → List (Option Value) → List (Option Value)
  | _, _, [] => []
  | 0, v, _ :: t => v :: (match t with | [] => [] | _ :: t' => none :: t')
  | 1, v, x :: t => gW2 x :: gSet2 0 v t
  | n + 2, v, x :: t => x :: gSet2 (n + 1) v t
def gMask : List Bool → List (Option Value) → List (Option Value)
  | true :: b, x :: t => x :: gMask b t
  | false :: b, _ :: t => none :: gMask b t
  | _, _ => []
end
section
/-! rows that touch no memory -/
def gNL (Y : gY) : Nat := Y.2.2.1
theorem gV_cat (G : gX) (v : Value) : (gV G v).category = v.category := by cases v <;> rfl
theorem gPr_get {G : gX} : ∀ {ls : List (Option Value)} {i j : Nat} {v : Value}, ls[i]? = some (some v) → (j + i, gV G v) ∈ gPr G j ls
  | [], i, j, v, h => by simp at h
  | x :: t, 0, j, v, h => by
    have hx : x = some v := by simpa using h
    subst hx
    exact List.mem_cons_self
  | x :: t, i + 1, j, v, h => by
    have h' : t[i]? = some (some v) := by simpa using h
    have := gPr_get (G := G) (j := j + 1) h'
    rw [show j + (i + 1) = j + 1 + i by omega]
    cases x with
    | none => exact this
    | some w => exact List.mem_cons_of_mem _ this
theorem gPr_mem {G : gX} {ls : List (Option Value)} {i : Nat} {v : Value} (h : ls[i]? = some (some v)) : (i, gV G v) ∈ gPr G 0 ls := by
  have := gPr_get (G := G) (j := 0) h
  rwa [Nat.zero_add] at this
theorem gPr_at {G : gX} {ls : List (Option Value)} {la : Array Slot} {nL i : Nat} {v : Value} (hl : lv_has la nL (gPr G 0 ls)) (h : ls[i]? = some (some v)) : la[i]? = some (.val (gV G v)) := hl.2.2 _ (gPr_mem h)
theorem gPr_inv {G : gX} : ∀ {ls : List (Option Value)} {j : Nat} {q : Nat × Value}, q ∈ gPr G j ls → ∃ (i : Nat) (v : Value), q = (j + i, gV G v) ∧ ls[i]? = some (some v)
  | [], j, q, h => by simp [gPr] at h
  | none :: t, j, q, h => by
    obtain ⟨i, v, e, hv⟩ := gPr_inv (ls := t) (j := j + 1) h
    exact ⟨i + 1, v, by rw [e]; congr 1; omega, by simpa using hv⟩
  | some w :: t, j, q, h => by
    rcases List.mem_cons.mp h with h | h
    · exact ⟨0, w, h, rfl⟩
    · obtain ⟨i, v, e, hv⟩ := gPr_inv (ls := t) (j := j + 1) h
      exact ⟨i + 1, v, by rw [e]; congr 1; omega, by simpa using hv⟩
theorem gW2_get {x : Option Value} {w : Value} (h : gW2 x = some w) : x = some w ∧ ¬ w.category = 2 := by
  cases x with
  | none => simp [gW2] at h
  | some y => cases y <;> simp [gW2] at h <;> subst h <;> exact ⟨rfl, by simp [Value.category]⟩
theorem gSet_get : ∀ {i : Nat} {v : Value} {ls : List (Option Value)} {j : Nat} {w : Value}, (gSet i (some v) ls)[j]? = some (some w) → (j = i ∧ w = v) ∨ (j ≠ i ∧ ls[j]? = some (some w) ∧ ¬ (j + 1 = i ∧ w.category = 2))
  | _, v, [], j, w, h => by simp [gSet] at h
  | 0, v, x :: t, 0, w, h => by
    simp [gSet] at h
    exact Or.inl ⟨rfl, h.symm⟩
  | 0, v, x :: t, j + 1, w, h => by
    simp [gSet] at h
    exact Or.inr ⟨by omega, by simpa using h, by omega⟩
  | 1, v, x :: t, 0, w, h => by
    have h2 := gW2_get (show gW2 x = some w by simpa [gSet] using h)
    exact Or.inr ⟨by omega, by rw [h2.1]; rfl, fun hh => h2.2 hh.2⟩
  | 1, v, x :: t, j + 1, w, h => by
    have h' : (gSet 0 (some v) t)[j]? = some (some w) := by simpa [gSet] using h
    rcases gSet_get h' with ⟨a, b⟩ | ⟨a, b, c⟩
    · exact Or.inl ⟨by omega, b⟩
    · exact Or.inr ⟨by omega, by simpa using b, by omega⟩
  | n + 2, v, x :: t, 0, w, h => Or.inr ⟨by omega, by simpa [gSet] using h, by omega⟩
  | n + 2, v, x :: t, j + 1, w, h => by
    have h' : (gSet (n + 1) (some v) t)[j]? = some (some w) := by simpa [gSet] using h
    rcases gSet_get h' with ⟨a, b⟩ | ⟨a, b, c⟩
    · exact Or.inl ⟨by omega, b⟩
    · exact Or.inr ⟨by omega, by simpa using b, fun ⟨q1, q2⟩ => c ⟨by omega, q2⟩⟩
theorem gSet2_get : ∀ {i : Nat} {v : Value} {ls : List (Option Value)} {j : Nat} {w : Value}, (gSet2 i (some v) ls)[j]? = some (some w) → (j = i ∧ w = v) ∨ (j ≠ i ∧ j ≠ i + 1 ∧ ls[j]? = some (some w) ∧ ¬ (j + 1 = i ∧ w.category = 2))
  | _, v, [], j, w, h => by simp [gSet2] at h
  | 0, v, x :: t, 0, w, h => by
    simp [gSet2] at h
    exact Or.inl ⟨rfl, h.symm⟩
  | 0, v, [x], j + 1, w, h => by simp [gSet2] at h
  | 0, v, x :: y :: t, 1, w, h => by simp [gSet2] at h
  | 0, v, x :: y :: t, j + 2, w, h => by
    simp [gSet2] at h
    exact Or.inr ⟨by omega, by omega, by simpa using h, by omega⟩
  | 1, v, x :: t, 0, w, h => by
    have h2 := gW2_get (show gW2 x = some w by simpa [gSet2] using h)
    exact Or.inr ⟨by omega, by omega, by rw [h2.1]; rfl, fun hh => h2.2 hh.2⟩
  | 1, v, x :: t, j + 1, w, h => by
    have h' : (gSet2 0 (some v) t)[j]? = some (some w) := by simpa [gSet2] using h
    rcases gSet2_get h' with ⟨a, b⟩ | ⟨a, a2, b, c⟩
    · exact Or.inl ⟨by omega, b⟩
    · exact Or.inr ⟨by omega, by omega, by simpa using b, by omega⟩
  | n + 2, v, x :: t, 0, w, h => Or.inr ⟨by omega, by omega, by simpa [gSet2] using h, by omega⟩
  | n + 2, v, x :: t, j + 1, w, h => by
    have h' : (gSet2 (n + 1) (some v) t)[j]? = some (some w) := by simpa [gSet2] using h
    rcases gSet2_get h' with ⟨a, b⟩ | ⟨a, a2, b, c⟩
    · exact Or.inl ⟨by omega, b⟩
    · exact Or.inr ⟨by omega, by omega, by simpa using b, fun ⟨q1, q2⟩ => c ⟨by omega, q2⟩⟩
theorem gS1_has {G : gX} {i nL : Nat} {v : Value} {z : Value} {la : Array Slot} {ls : List (Option Value)} (hz : gV G v = z) (h : lv_has la nL ((i, z) :: (gPr G 0 ls).filter (fun q => !(q.1 == i) && !(q.1 + 1 == i && q.2.category == 2)))) : lv_has la nL (gPr G 0 (gSet i (some v) ls)) := by
  subst hz
  refine ⟨h.1, h.2.1, fun q hq => h.2.2 q ?_⟩
  obtain ⟨j, w, e, hw⟩ := gPr_inv hq
  subst e
  rw [Nat.zero_add]
  rcases gSet_get hw with ⟨a, b⟩ | ⟨a, b, c⟩
  · subst a
    subst b
    exact List.mem_cons_self
  · refine List.mem_cons_of_mem _ (List.mem_filter.mpr ⟨gPr_mem b, ?_⟩)
    have c1 : (j == i) = false := by simpa using a
    by_cases h1 : j + 1 = i
    · have c2 : (w.category == 2) = false := by simpa using fun h2 => c ⟨h1, h2⟩
      simp [c1, gV_cat, c2]
    · have c2 : (j + 1 == i) = false := by simpa using h1
      simp [c1, c2]
theorem gS2_has {G : gX} {i nL : Nat} {v : Value} {z : Value} {la : Array Slot} {ls : List (Option Value)} (hz : gV G v = z) (h : lv_has la nL ((i, z) :: (gPr G 0 ls).filter (fun q => !(q.1 == i) && (!(q.1 == i + 1) && !(q.1 + 1 == i && q.2.category == 2))))) : lv_has la nL (gPr G 0 (gSet2 i (some v) ls)) := by
  subst hz
  refine ⟨h.1, h.2.1, fun q hq => h.2.2 q ?_⟩
  obtain ⟨j, w, e, hw⟩ := gPr_inv hq
  subst e
  rw [Nat.zero_add]
  rcases gSet2_get hw with ⟨a, b⟩ | ⟨a, a2, b, c⟩
  · subst a
    subst b
    exact List.mem_cons_self
  · refine List.mem_cons_of_mem _ (List.mem_filter.mpr ⟨gPr_mem b, ?_⟩)
    have c1 : (j == i) = false := by simpa using a
    have c3 : (j == i + 1) = false := by simpa using a2
    by_cases h1 : j + 1 = i
    · have c2 : (w.category == 2) = false := by simpa using fun h2 => c ⟨h1, h2⟩
      simp [c1, c3, gV_cat, c2]
    · have c2 : (j + 1 == i) = false := by simpa using h1
      simp [c1, c3, c2]
theorem gMask_get : ∀ {bs : List Bool} {ls : List (Option Value)} {j : Nat} {w : Value}, (gMask bs ls)[j]? = some (some w) → ls[j]? = some (some w)
  | [], ls, j, w, h => by simp [gMask] at h
  | b :: bs, [], j, w, h => by cases b <;> simp [gMask] at h
  | true :: bs, x :: t, 0, w, h => by simpa [gMask] using h
  | false :: bs, x :: t, 0, w, h => by simp [gMask] at h
  | true :: bs, x :: t, j + 1, w, h => by
    have h' : (gMask bs t)[j]? = some (some w) := by simpa [gMask] using h
    simpa using gMask_get h'
  | false :: bs, x :: t, j + 1, w, h => by
    have h' : (gMask bs t)[j]? = some (some w) := by simpa [gMask] using h
    simpa using gMask_get h'
theorem gMask_has {G : gX} {nL : Nat} {la : Array Slot} {ls : List (Option Value)} (bs : List Bool) (h : lv_has la nL (gPr G 0 ls)) : lv_has la nL (gPr G 0 (gMask bs ls)) := by
  refine ⟨h.1, h.2.1, fun q hq => h.2.2 q ?_⟩
  obtain ⟨j, w, e, hw⟩ := gPr_inv hq
  subst e
  rw [Nat.zero_add]
  exact gPr_mem (gMask_get hw)
theorem r_iconst {Y : gY} {cc : ByteArray} {own : String} {pc : Nat} {ls : List (Option Value)} {st : List Value} {σ : gM} {n : Int} {v : Int32} (hd : decode cc pc = .ok (.iconst n, 1)) (hv : Int32.ofInt n = v) (k : AW Y cc own (pc + 1) ls (.int v :: st) σ) : AW Y cc own pc ls (st) σ := by
  obtain ⟨G, u, nL, p, l, e, R, s, m, args, below, meth, c, cells, slots, Q⟩ := Y
  intro hf H locs la hW hS hl
  exact lv_iconst hf.1 hf.2.1 hd hv (k hf H locs la hW hS hl)

theorem r_bipush {Y : gY} {cc : ByteArray} {own : String} {pc : Nat} {ls : List (Option Value)} {st : List Value} {σ : gM} {n : Int} {v : Int32} (hd : decode cc pc = .ok (.bipush n, 2)) (hv : (Int8.ofInt n).toInt32 = v) (k : AW Y cc own (pc + 2) ls (.int v :: st) σ) : AW Y cc own pc ls (st) σ := by
  obtain ⟨G, u, nL, p, l, e, R, s, m, args, below, meth, c, cells, slots, Q⟩ := Y
  intro hf H locs la hW hS hl
  exact lv_bipush hf.1 hf.2.1 hd hv (k hf H locs la hW hS hl)

theorem r_sipush {Y : gY} {cc : ByteArray} {own : String} {pc : Nat} {ls : List (Option Value)} {st : List Value} {σ : gM} {n : Int} {v : Int32} (hd : decode cc pc = .ok (.sipush n, 3)) (hv : (Int16.ofInt n).toInt32 = v) (k : AW Y cc own (pc + 3) ls (.int v :: st) σ) : AW Y cc own pc ls (st) σ := by
  obtain ⟨G, u, nL, p, l, e, R, s, m, args, below, meth, c, cells, slots, Q⟩ := Y
  intro hf H locs la hW hS hl
  exact lv_sipush hf.1 hf.2.1 hd hv (k hf H locs la hW hS hl)

theorem r_lconst {Y : gY} {cc : ByteArray} {own : String} {pc : Nat} {ls : List (Option Value)} {st : List Value} {σ : gM} {n : Fin 2} {v : Int64} (hd : decode cc pc = .ok (.lconst n, 1)) (hv : Int64.ofNat (n : Nat) = v) (k : AW Y cc own (pc + 1) ls (.long v :: st) σ) : AW Y cc own pc ls (st) σ := by
  obtain ⟨G, u, nL, p, l, e, R, s, m, args, below, meth, c, cells, slots, Q⟩ := Y
  intro hf H locs la hW hS hl
  exact lv_lconst hf.1 hf.2.1 hd hv (k hf H locs la hW hS hl)

theorem r_ldc {Y : gY} {cc : ByteArray} {own : String} {pc : Nat} {ls : List (Option Value)} {st : List Value} {σ : gM} {index : Nat} {v : Int32} (hd : decode cc pc = .ok (.ldc index, 2)) (hc : Jvm.Cond.constant own index v ∈ gG) (k : AW Y cc own (pc + 2) ls (.int v :: st) σ) : AW Y cc own pc ls (st) σ := by
  obtain ⟨G, u, nL, p, l, e, R, s, m, args, below, meth, c, cells, slots, Q⟩ := Y
  intro hf H locs la hW hS hl
  exact lv_ldc hf.1 hf.2.1 hf.2.2.2.1 (hf.2.2.2.2.1 _ hc) hd (k hf H locs la hW hS hl)

theorem r_ldc2 {Y : gY} {cc : ByteArray} {own : String} {pc : Nat} {ls : List (Option Value)} {st : List Value} {σ : gM} {index : Nat} {v : Int64} (hd : decode cc pc = .ok (.ldc2_w index, 3)) (hc : Jvm.Cond.constantLong own index v ∈ gG) (k : AW Y cc own (pc + 3) ls (.long v :: st) σ) : AW Y cc own pc ls (st) σ := by
  obtain ⟨G, u, nL, p, l, e, R, s, m, args, below, meth, c, cells, slots, Q⟩ := Y
  intro hf H locs la hW hS hl
  exact lv_ldc2 hf.1 hf.2.1 hf.2.2.2.1 (hf.2.2.2.2.1 _ hc) hd (k hf H locs la hW hS hl)

theorem r_iload_n {Y : gY} {cc : ByteArray} {own : String} {pc : Nat} {ls : List (Option Value)} {st : List Value} {σ : gM} {kk : Fin 4} {i : Nat} {x : Int32} (hd : decode cc pc = .ok (.iload_n kk, 1)) (hi : (kk : Nat) = i) (hx : ls[i]? = some (some (.int x))) (k : AW Y cc own (pc + 1) ls (.int x :: st) σ) : AW Y cc own pc ls (st) σ := by
  obtain ⟨G, u, nL, p, l, e, R, s, m, args, below, meth, c, cells, slots, Q⟩ := Y
  intro hf H locs la hW hS hl
  exact lv_iload_n hf.1 hf.2.1 hd hi (gPr_at hl hx) (k hf H locs la hW hS hl)

theorem r_iload {Y : gY} {cc : ByteArray} {own : String} {pc : Nat} {ls : List (Option Value)} {st : List Value} {σ : gM} {i : Nat} {x : Int32} (hd : decode cc pc = .ok (.iload i, 2)) (hx : ls[i]? = some (some (.int x))) (k : AW Y cc own (pc + 2) ls (.int x :: st) σ) : AW Y cc own pc ls (st) σ := by
  obtain ⟨G, u, nL, p, l, e, R, s, m, args, below, meth, c, cells, slots, Q⟩ := Y
  intro hf H locs la hW hS hl
  exact lv_iload hf.1 hf.2.1 hd (gPr_at hl hx) (k hf H locs la hW hS hl)

theorem r_lload_n {Y : gY} {cc : ByteArray} {own : String} {pc : Nat} {ls : List (Option Value)} {st : List Value} {σ : gM} {kk : Fin 4} {i : Nat} {x : Int64} (hd : decode cc pc = .ok (.lload_n kk, 1)) (hi : (kk : Nat) = i) (hx : ls[i]? = some (some (.long x))) (k : AW Y cc own (pc + 1) ls (.long x :: st) σ) : AW Y cc own pc ls (st) σ := by
  obtain ⟨G, u, nL, p, l, e, R, s, m, args, below, meth, c, cells, slots, Q⟩ := Y
  intro hf H locs la hW hS hl
  exact lv_lload_n hf.1 hf.2.1 hd hi (gPr_at hl hx) (k hf H locs la hW hS hl)

theorem r_lload {Y : gY} {cc : ByteArray} {own : String} {pc : Nat} {ls : List (Option Value)} {st : List Value} {σ : gM} {i : Nat} {x : Int64} (hd : decode cc pc = .ok (.lload i, 2)) (hx : ls[i]? = some (some (.long x))) (k : AW Y cc own (pc + 2) ls (.long x :: st) σ) : AW Y cc own pc ls (st) σ := by
  obtain ⟨G, u, nL, p, l, e, R, s, m, args, below, meth, c, cells, slots, Q⟩ := Y
  intro hf H locs la hW hS hl
  exact lv_lload hf.1 hf.2.1 hd (gPr_at hl hx) (k hf H locs la hW hS hl)

theorem r_aload_n {Y : gY} {cc : ByteArray} {own : String} {pc : Nat} {ls : List (Option Value)} {st : List Value} {σ : gM} {kk : Fin 4} {i : Nat} {x : Nat} (hd : decode cc pc = .ok (.aload_n kk, 1)) (hi : (kk : Nat) = i) (hx : ls[i]? = some (some (.ref x))) (k : AW Y cc own (pc + 1) ls (.ref x :: st) σ) : AW Y cc own pc ls (st) σ := by
  obtain ⟨G, u, nL, p, l, e, R, s, m, args, below, meth, c, cells, slots, Q⟩ := Y
  intro hf H locs la hW hS hl
  exact lv_aload_n hf.1 hf.2.1 hd hi (gPr_at hl hx) (k hf H locs la hW hS hl)

theorem r_aload {Y : gY} {cc : ByteArray} {own : String} {pc : Nat} {ls : List (Option Value)} {st : List Value} {σ : gM} {i : Nat} {x : Nat} (hd : decode cc pc = .ok (.aload i, 2)) (hx : ls[i]? = some (some (.ref x))) (k : AW Y cc own (pc + 2) ls (.ref x :: st) σ) : AW Y cc own pc ls (st) σ := by
  obtain ⟨G, u, nL, p, l, e, R, s, m, args, below, meth, c, cells, slots, Q⟩ := Y
  intro hf H locs la hW hS hl
  exact lv_aload hf.1 hf.2.1 hd (gPr_at hl hx) (k hf H locs la hW hS hl)

theorem r_istore_n {Y : gY} {cc : ByteArray} {own : String} {pc : Nat} {ls : List (Option Value)} {st : List Value} {σ : gM} {kk : Fin 4} {i : Nat} {x : Int32} {ls' : List (Option Value)} (hd : decode cc pc = .ok (.istore_n kk, 1)) (hi : (kk : Nat) = i) (hn : i < gNL Y) (hs : gSet i (some (.int x)) ls = ls') (k : AW Y cc own (pc + 1) ls' (st) σ) : AW Y cc own pc ls (.int x :: st) σ := by
  obtain ⟨G, u, nL, p, l, e, R, s, m, args, below, meth, c, cells, slots, Q⟩ := Y
  intro hf H locs la hW hS hl
  subst hs
  exact lv_istore_n hf.1 hf.2.1 hd hi hl hn rfl (fun la' hl' => k hf H locs la' hW hS (gS1_has (G := G) (by rfl) hl'))

theorem r_istore_nL {Y : gY} {cc : ByteArray} {own : String} {pc : Nat} {ls : List (Option Value)} {st : List Value} {σ : gM} {kk : Fin 4} {i : Nat} {x : Int32} (hd : decode cc pc = .ok (.istore_n kk, 1)) (hi : (kk : Nat) = i) (hn : i < gNL Y) {β : Type} {o : β} {E : Int32 → Option β} (h : gLt x E = some o) (k : ∀ y : Int32, E y = some o → AW Y cc own (pc + 1) (gSet i (some (.int y)) ls) st σ) : AW Y cc own pc ls (.int x :: st) σ := by
  obtain ⟨G, u, nL, p, l, e, R, s, m, args, below, meth, c, cells, slots, Q⟩ := Y
  intro hf H locs la hW hS hl
  exact lv_istore_n hf.1 hf.2.1 hd hi hl hn rfl (fun la' hl' => k x h hf H locs la' hW hS (gS1_has (G := G) (by rfl) hl'))

theorem r_istore {Y : gY} {cc : ByteArray} {own : String} {pc : Nat} {ls : List (Option Value)} {st : List Value} {σ : gM} {i : Nat} {x : Int32} {ls' : List (Option Value)} (hd : decode cc pc = .ok (.istore i, 2)) (hn : i < gNL Y) (hs : gSet i (some (.int x)) ls = ls') (k : AW Y cc own (pc + 2) ls' (st) σ) : AW Y cc own pc ls (.int x :: st) σ := by
  obtain ⟨G, u, nL, p, l, e, R, s, m, args, below, meth, c, cells, slots, Q⟩ := Y
  intro hf H locs la hW hS hl
  subst hs
  exact lv_istore hf.1 hf.2.1 hd hl hn rfl (fun la' hl' => k hf H locs la' hW hS (gS1_has (G := G) (by rfl) hl'))

theorem r_istoreL {Y : gY} {cc : ByteArray} {own : String} {pc : Nat} {ls : List (Option Value)} {st : List Value} {σ : gM} {i : Nat} {x : Int32} (hd : decode cc pc = .ok (.istore i, 2)) (hn : i < gNL Y) {β : Type} {o : β} {E : Int32 → Option β} (h : gLt x E = some o) (k : ∀ y : Int32, E y = some o → AW Y cc own (pc + 2) (gSet i (some (.int y)) ls) st σ) : AW Y cc own pc ls (.int x :: st) σ := by
  obtain ⟨G, u, nL, p, l, e, R, s, m, args, below, meth, c, cells, slots, Q⟩ := Y
  intro hf H locs la hW hS hl
  exact lv_istore hf.1 hf.2.1 hd hl hn rfl (fun la' hl' => k x h hf H locs la' hW hS (gS1_has (G := G) (by rfl) hl'))

theorem r_astore_n {Y : gY} {cc : ByteArray} {own : String} {pc : Nat} {ls : List (Option Value)} {st : List Value} {σ : gM} {kk : Fin 4} {i : Nat} {x : Nat} {ls' : List (Option Value)} (hd : decode cc pc = .ok (.astore_n kk, 1)) (hi : (kk : Nat) = i) (hn : i < gNL Y) (hs : gSet i (some (.ref x)) ls = ls') (k : AW Y cc own (pc + 1) ls' (st) σ) : AW Y cc own pc ls (.ref x :: st) σ := by
  obtain ⟨G, u, nL, p, l, e, R, s, m, args, below, meth, c, cells, slots, Q⟩ := Y
  intro hf H locs la hW hS hl
  subst hs
  exact lv_astore_n hf.1 hf.2.1 hd hi hl hn rfl (fun la' hl' => k hf H locs la' hW hS (gS1_has (G := G) (by rfl) hl'))

theorem r_astore {Y : gY} {cc : ByteArray} {own : String} {pc : Nat} {ls : List (Option Value)} {st : List Value} {σ : gM} {i : Nat} {x : Nat} {ls' : List (Option Value)} (hd : decode cc pc = .ok (.astore i, 2)) (hn : i < gNL Y) (hs : gSet i (some (.ref x)) ls = ls') (k : AW Y cc own (pc + 2) ls' (st) σ) : AW Y cc own pc ls (.ref x :: st) σ := by
  obtain ⟨G, u, nL, p, l, e, R, s, m, args, below, meth, c, cells, slots, Q⟩ := Y
  intro hf H locs la hW hS hl
  subst hs
  exact lv_astore hf.1 hf.2.1 hd hl hn rfl (fun la' hl' => k hf H locs la' hW hS (gS1_has (G := G) (by rfl) hl'))

theorem r_lstore_n {Y : gY} {cc : ByteArray} {own : String} {pc : Nat} {ls : List (Option Value)} {st : List Value} {σ : gM} {kk : Fin 4} {i : Nat} {x : Int64} {ls' : List (Option Value)} (hd : decode cc pc = .ok (.lstore_n kk, 1)) (hi : (kk : Nat) = i) (hn : i + 1 < gNL Y) (hs : gSet2 i (some (.long x)) ls = ls') (k : AW Y cc own (pc + 1) ls' (st) σ) : AW Y cc own pc ls (.long x :: st) σ := by
  obtain ⟨G, u, nL, p, l, e, R, s, m, args, below, meth, c, cells, slots, Q⟩ := Y
  intro hf H locs la hW hS hl
  subst hs
  exact lv_lstore_n hf.1 hf.2.1 hd hi hl hn rfl (fun la' hl' => k hf H locs la' hW hS (gS2_has (G := G) (by rfl) hl'))

theorem r_lstore {Y : gY} {cc : ByteArray} {own : String} {pc : Nat} {ls : List (Option Value)} {st : List Value} {σ : gM} {i : Nat} {x : Int64} {ls' : List (Option Value)} (hd : decode cc pc = .ok (.lstore i, 2)) (hn : i + 1 < gNL Y) (hs : gSet2 i (some (.long x)) ls = ls') (k : AW Y cc own (pc + 2) ls' (st) σ) : AW Y cc own pc ls (.long x :: st) σ := by
  obtain ⟨G, u, nL, p, l, e, R, s, m, args, below, meth, c, cells, slots, Q⟩ := Y
  intro hf H locs la hW hS hl
  subst hs
  exact lv_lstore hf.1 hf.2.1 hd hl hn rfl (fun la' hl' => k hf H locs la' hW hS (gS2_has (G := G) (by rfl) hl'))

theorem r_iinc {Y : gY} {cc : ByteArray} {own : String} {pc : Nat} {ls : List (Option Value)} {st : List Value} {σ : gM} {i : Nat} {n : Int} {x d : Int32} (hd : decode cc pc = .ok (.iinc i n, 3)) (hx : ls[i]? = some (some (.int x))) (hv : Int32.ofInt n = d) (hn : i < gNL Y) {β : Type} {o : β} {E : Int32 → Option β} (h : gLt (x + d) E = some o) (k : ∀ y : Int32, E y = some o → AW Y cc own (pc + 3) (gSet i (some (.int y)) ls) st σ) : AW Y cc own pc ls (st) σ := by
  obtain ⟨G, u, nL, p, l, e, R, s, m, args, below, meth, c, cells, slots, Q⟩ := Y
  intro hf H locs la hW hS hl
  obtain ⟨k0, hk0⟩ := List.getElem?_of_mem (gPr_mem (G := G) hx)
  exact lv_iinc (v := x + d) hf.1 hf.2.1 hd hl hk0 (by rw [hv]) hn rfl (fun la' hl' => k _ h hf H locs la' hW hS (gS1_has (G := G) (by rfl) hl'))

theorem r_iadd {Y : gY} {cc : ByteArray} {own : String} {pc : Nat} {ls : List (Option Value)} {st : List Value} {σ : gM} {x y : Int32} (hd : decode cc pc = .ok (.iadd, 1)) (k : AW Y cc own (pc + 1) ls (.int (x + y) :: st) σ) : AW Y cc own pc ls (.int y :: .int x :: st) σ := by
  obtain ⟨G, u, nL, p, l, e, R, s, m, args, below, meth, c, cells, slots, Q⟩ := Y
  intro hf H locs la hW hS hl
  exact lv_iadd hf.1 hf.2.1 hd (k hf H locs la hW hS hl)

theorem r_isub {Y : gY} {cc : ByteArray} {own : String} {pc : Nat} {ls : List (Option Value)} {st : List Value} {σ : gM} {x y : Int32} (hd : decode cc pc = .ok (.isub, 1)) (k : AW Y cc own (pc + 1) ls (.int (x - y) :: st) σ) : AW Y cc own pc ls (.int y :: .int x :: st) σ := by
  obtain ⟨G, u, nL, p, l, e, R, s, m, args, below, meth, c, cells, slots, Q⟩ := Y
  intro hf H locs la hW hS hl
  exact lv_isub hf.1 hf.2.1 hd (k hf H locs la hW hS hl)

theorem r_imul {Y : gY} {cc : ByteArray} {own : String} {pc : Nat} {ls : List (Option Value)} {st : List Value} {σ : gM} {x y : Int32} (hd : decode cc pc = .ok (.imul, 1)) (k : AW Y cc own (pc + 1) ls (.int (x * y) :: st) σ) : AW Y cc own pc ls (.int y :: .int x :: st) σ := by
  obtain ⟨G, u, nL, p, l, e, R, s, m, args, below, meth, c, cells, slots, Q⟩ := Y
  intro hf H locs la hW hS hl
  exact lv_imul hf.1 hf.2.1 hd (k hf H locs la hW hS hl)

theorem r_iand {Y : gY} {cc : ByteArray} {own : String} {pc : Nat} {ls : List (Option Value)} {st : List Value} {σ : gM} {x y : Int32} (hd : decode cc pc = .ok (.iand, 1)) (k : AW Y cc own (pc + 1) ls (.int (x &&& y) :: st) σ) : AW Y cc own pc ls (.int y :: .int x :: st) σ := by
  obtain ⟨G, u, nL, p, l, e, R, s, m, args, below, meth, c, cells, slots, Q⟩ := Y
  intro hf H locs la hW hS hl
  exact lv_iand hf.1 hf.2.1 hd (k hf H locs la hW hS hl)

theorem r_ior {Y : gY} {cc : ByteArray} {own : String} {pc : Nat} {ls : List (Option Value)} {st : List Value} {σ : gM} {x y : Int32} (hd : decode cc pc = .ok (.ior, 1)) (k : AW Y cc own (pc + 1) ls (.int (x ||| y) :: st) σ) : AW Y cc own pc ls (.int y :: .int x :: st) σ := by
  obtain ⟨G, u, nL, p, l, e, R, s, m, args, below, meth, c, cells, slots, Q⟩ := Y
  intro hf H locs la hW hS hl
  exact lv_ior hf.1 hf.2.1 hd (k hf H locs la hW hS hl)

theorem r_ladd {Y : gY} {cc : ByteArray} {own : String} {pc : Nat} {ls : List (Option Value)} {st : List Value} {σ : gM} {x y : Int64} (hd : decode cc pc = .ok (.ladd, 1)) (k : AW Y cc own (pc + 1) ls (.long (x + y) :: st) σ) : AW Y cc own pc ls (.long y :: .long x :: st) σ := by
  obtain ⟨G, u, nL, p, l, e, R, s, m, args, below, meth, c, cells, slots, Q⟩ := Y
  intro hf H locs la hW hS hl
  exact lv_ladd hf.1 hf.2.1 hd (k hf H locs la hW hS hl)

theorem r_lsub {Y : gY} {cc : ByteArray} {own : String} {pc : Nat} {ls : List (Option Value)} {st : List Value} {σ : gM} {x y : Int64} (hd : decode cc pc = .ok (.lsub, 1)) (k : AW Y cc own (pc + 1) ls (.long (x - y) :: st) σ) : AW Y cc own pc ls (.long y :: .long x :: st) σ := by
  obtain ⟨G, u, nL, p, l, e, R, s, m, args, below, meth, c, cells, slots, Q⟩ := Y
  intro hf H locs la hW hS hl
  exact lv_lsub hf.1 hf.2.1 hd (k hf H locs la hW hS hl)

theorem r_lmul {Y : gY} {cc : ByteArray} {own : String} {pc : Nat} {ls : List (Option Value)} {st : List Value} {σ : gM} {x y : Int64} (hd : decode cc pc = .ok (.lmul, 1)) (k : AW Y cc own (pc + 1) ls (.long (x * y) :: st) σ) : AW Y cc own pc ls (.long y :: .long x :: st) σ := by
  obtain ⟨G, u, nL, p, l, e, R, s, m, args, below, meth, c, cells, slots, Q⟩ := Y
  intro hf H locs la hW hS hl
  exact lv_lmul hf.1 hf.2.1 hd (k hf H locs la hW hS hl)

theorem r_land {Y : gY} {cc : ByteArray} {own : String} {pc : Nat} {ls : List (Option Value)} {st : List Value} {σ : gM} {x y : Int64} (hd : decode cc pc = .ok (.land, 1)) (k : AW Y cc own (pc + 1) ls (.long (x &&& y) :: st) σ) : AW Y cc own pc ls (.long y :: .long x :: st) σ := by
  obtain ⟨G, u, nL, p, l, e, R, s, m, args, below, meth, c, cells, slots, Q⟩ := Y
  intro hf H locs la hW hS hl
  exact lv_land hf.1 hf.2.1 hd (k hf H locs la hW hS hl)

theorem r_lor {Y : gY} {cc : ByteArray} {own : String} {pc : Nat} {ls : List (Option Value)} {st : List Value} {σ : gM} {x y : Int64} (hd : decode cc pc = .ok (.lor, 1)) (k : AW Y cc own (pc + 1) ls (.long (x ||| y) :: st) σ) : AW Y cc own pc ls (.long y :: .long x :: st) σ := by
  obtain ⟨G, u, nL, p, l, e, R, s, m, args, below, meth, c, cells, slots, Q⟩ := Y
  intro hf H locs la hW hS hl
  exact lv_lor hf.1 hf.2.1 hd (k hf H locs la hW hS hl)

theorem r_idiv {Y : gY} {cc : ByteArray} {own : String} {pc : Nat} {ls : List (Option Value)} {st : List Value} {σ : gM} {x y : Int32} (hd : decode cc pc = .ok (.idiv, 1)) {β : Type} {o : β} {E : Option β} (h : gDz y E = some o) (k : E = some o → AW Y cc own (pc + 1) ls (.int (x / y) :: st) σ) : AW Y cc own pc ls (.int y :: .int x :: st) σ := by
  obtain ⟨G, u, nL, p, l, e, R, s, m, args, below, meth, c, cells, slots, Q⟩ := Y
  intro hf H locs la hW hS hl
  unfold gDz at h
  split at h
  · cases h
  · rename_i hy
    exact lv_idiv hf.1 hf.2.1 hd hy (k h hf H locs la hW hS hl)

theorem r_idivc {Y : gY} {cc : ByteArray} {own : String} {pc : Nat} {ls : List (Option Value)} {st : List Value} {σ : gM} {x y : Int32} (hd : decode cc pc = .ok (.idiv, 1)) (hy : ¬ y = 0) (k : AW Y cc own (pc + 1) ls (.int (x / y) :: st) σ) : AW Y cc own pc ls (.int y :: .int x :: st) σ := by
  obtain ⟨G, u, nL, p, l, e, R, s, m, args, below, meth, c, cells, slots, Q⟩ := Y
  intro hf H locs la hW hS hl
  exact lv_idiv hf.1 hf.2.1 hd hy (k hf H locs la hW hS hl)

theorem r_irem {Y : gY} {cc : ByteArray} {own : String} {pc : Nat} {ls : List (Option Value)} {st : List Value} {σ : gM} {x y : Int32} (hd : decode cc pc = .ok (.irem, 1)) {β : Type} {o : β} {E : Option β} (h : gDz y E = some o) (k : E = some o → AW Y cc own (pc + 1) ls (.int (x - x / y * y) :: st) σ) : AW Y cc own pc ls (.int y :: .int x :: st) σ := by
  obtain ⟨G, u, nL, p, l, e, R, s, m, args, below, meth, c, cells, slots, Q⟩ := Y
  intro hf H locs la hW hS hl
  unfold gDz at h
  split at h
  · cases h
  · rename_i hy
    exact lv_irem hf.1 hf.2.1 hd hy (k h hf H locs la hW hS hl)

theorem r_iremc {Y : gY} {cc : ByteArray} {own : String} {pc : Nat} {ls : List (Option Value)} {st : List Value} {σ : gM} {x y : Int32} (hd : decode cc pc = .ok (.irem, 1)) (hy : ¬ y = 0) (k : AW Y cc own (pc + 1) ls (.int (x - x / y * y) :: st) σ) : AW Y cc own pc ls (.int y :: .int x :: st) σ := by
  obtain ⟨G, u, nL, p, l, e, R, s, m, args, below, meth, c, cells, slots, Q⟩ := Y
  intro hf H locs la hW hS hl
  exact lv_irem hf.1 hf.2.1 hd hy (k hf H locs la hW hS hl)

theorem r_ldiv {Y : gY} {cc : ByteArray} {own : String} {pc : Nat} {ls : List (Option Value)} {st : List Value} {σ : gM} {x y : Int64} (hd : decode cc pc = .ok (.ldiv, 1)) {β : Type} {o : β} {E : Option β} (h : gDl y E = some o) (k : E = some o → AW Y cc own (pc + 1) ls (.long (x / y) :: st) σ) : AW Y cc own pc ls (.long y :: .long x :: st) σ := by
  obtain ⟨G, u, nL, p, l, e, R, s, m, args, below, meth, c, cells, slots, Q⟩ := Y
  intro hf H locs la hW hS hl
  unfold gDl at h
  split at h
  · cases h
  · rename_i hy
    exact lv_ldiv hf.1 hf.2.1 hd hy (k h hf H locs la hW hS hl)

theorem r_ldivc {Y : gY} {cc : ByteArray} {own : String} {pc : Nat} {ls : List (Option Value)} {st : List Value} {σ : gM} {x y : Int64} (hd : decode cc pc = .ok (.ldiv, 1)) (hy : ¬ y = 0) (k : AW Y cc own (pc + 1) ls (.long (x / y) :: st) σ) : AW Y cc own pc ls (.long y :: .long x :: st) σ := by
  obtain ⟨G, u, nL, p, l, e, R, s, m, args, below, meth, c, cells, slots, Q⟩ := Y
  intro hf H locs la hW hS hl
  exact lv_ldiv hf.1 hf.2.1 hd hy (k hf H locs la hW hS hl)

theorem r_lrem {Y : gY} {cc : ByteArray} {own : String} {pc : Nat} {ls : List (Option Value)} {st : List Value} {σ : gM} {x y : Int64} (hd : decode cc pc = .ok (.lrem, 1)) {β : Type} {o : β} {E : Option β} (h : gDl y E = some o) (k : E = some o → AW Y cc own (pc + 1) ls (.long (x - x / y * y) :: st) σ) : AW Y cc own pc ls (.long y :: .long x :: st) σ := by
  obtain ⟨G, u, nL, p, l, e, R, s, m, args, below, meth, c, cells, slots, Q⟩ := Y
  intro hf H locs la hW hS hl
  unfold gDl at h
  split at h
  · cases h
  · rename_i hy
    exact lv_lrem hf.1 hf.2.1 hd hy (k h hf H locs la hW hS hl)

theorem r_lremc {Y : gY} {cc : ByteArray} {own : String} {pc : Nat} {ls : List (Option Value)} {st : List Value} {σ : gM} {x y : Int64} (hd : decode cc pc = .ok (.lrem, 1)) (hy : ¬ y = 0) (k : AW Y cc own (pc + 1) ls (.long (x - x / y * y) :: st) σ) : AW Y cc own pc ls (.long y :: .long x :: st) σ := by
  obtain ⟨G, u, nL, p, l, e, R, s, m, args, below, meth, c, cells, slots, Q⟩ := Y
  intro hf H locs la hW hS hl
  exact lv_lrem hf.1 hf.2.1 hd hy (k hf H locs la hW hS hl)

theorem r_ineg {Y : gY} {cc : ByteArray} {own : String} {pc : Nat} {ls : List (Option Value)} {st : List Value} {σ : gM} {x : Int32} (hd : decode cc pc = .ok (.ineg, 1)) (k : AW Y cc own (pc + 1) ls (.int (-x) :: st) σ) : AW Y cc own pc ls (.int x :: st) σ := by
  obtain ⟨G, u, nL, p, l, e, R, s, m, args, below, meth, c, cells, slots, Q⟩ := Y
  intro hf H locs la hW hS hl
  exact lv_ineg hf.1 hf.2.1 hd (k hf H locs la hW hS hl)

theorem r_ishl {Y : gY} {cc : ByteArray} {own : String} {pc : Nat} {ls : List (Option Value)} {st : List Value} {σ : gM} {x y v : Int32} (hd : decode cc pc = .ok (.ishl, 1)) (hv : x <<< (y &&& 31) = v) (k : AW Y cc own (pc + 1) ls (.int v :: st) σ) : AW Y cc own pc ls (.int y :: .int x :: st) σ := by
  obtain ⟨G, u, nL, p, l, e, R, s, m, args, below, meth, c, cells, slots, Q⟩ := Y
  intro hf H locs la hW hS hl
  subst hv
  exact lv_ishl hf.1 hf.2.1 hd (k hf H locs la hW hS hl)

theorem r_i2l {Y : gY} {cc : ByteArray} {own : String} {pc : Nat} {ls : List (Option Value)} {st : List Value} {σ : gM} {x : Int32} (hd : decode cc pc = .ok (.i2l, 1)) (k : AW Y cc own (pc + 1) ls (.long x.toInt64 :: st) σ) : AW Y cc own pc ls (.int x :: st) σ := by
  obtain ⟨G, u, nL, p, l, e, R, s, m, args, below, meth, c, cells, slots, Q⟩ := Y
  intro hf H locs la hW hS hl
  exact lv_i2l hf.1 hf.2.1 hd rfl (k hf H locs la hW hS hl)

theorem r_l2i {Y : gY} {cc : ByteArray} {own : String} {pc : Nat} {ls : List (Option Value)} {st : List Value} {σ : gM} {x : Int64} (hd : decode cc pc = .ok (.l2i, 1)) (k : AW Y cc own (pc + 1) ls (.int x.toInt32 :: st) σ) : AW Y cc own pc ls (.long x :: st) σ := by
  obtain ⟨G, u, nL, p, l, e, R, s, m, args, below, meth, c, cells, slots, Q⟩ := Y
  intro hf H locs la hW hS hl
  exact lv_l2i hf.1 hf.2.1 hd rfl (k hf H locs la hW hS hl)

theorem r_i2c {Y : gY} {cc : ByteArray} {own : String} {pc : Nat} {ls : List (Option Value)} {st : List Value} {σ : gM} {x : Int32} (hd : decode cc pc = .ok (.i2c, 1)) (k : AW Y cc own (pc + 1) ls (.int (x.toUInt32 % 65536).toInt32 :: st) σ) : AW Y cc own pc ls (.int x :: st) σ := by
  obtain ⟨G, u, nL, p, l, e, R, s, m, args, below, meth, c, cells, slots, Q⟩ := Y
  intro hf H locs la hW hS hl
  exact lv_i2c hf.1 hf.2.1 hd rfl (k hf H locs la hW hS hl)

theorem r_lshl {Y : gY} {cc : ByteArray} {own : String} {pc : Nat} {ls : List (Option Value)} {st : List Value} {σ : gM} {x : Int64} {y : Int32} (hd : decode cc pc = .ok (.lshl, 1)) (k : AW Y cc own (pc + 1) ls (.long (x <<< (y.toInt64 &&& 63)) :: st) σ) : AW Y cc own pc ls (.int y :: .long x :: st) σ := by
  obtain ⟨G, u, nL, p, l, e, R, s, m, args, below, meth, c, cells, slots, Q⟩ := Y
  intro hf H locs la hW hS hl
  exact lv_lshl hf.1 hf.2.1 hd rfl (k hf H locs la hW hS hl)

theorem r_lushr {Y : gY} {cc : ByteArray} {own : String} {pc : Nat} {ls : List (Option Value)} {st : List Value} {σ : gM} {x : Int64} {y : Int32} (hd : decode cc pc = .ok (.lushr, 1)) (k : AW Y cc own (pc + 1) ls (.long (x.toUInt64 >>> (y.toInt64.toUInt64 &&& Int64.toUInt64 63)).toInt64 :: st) σ) : AW Y cc own pc ls (.int y :: .long x :: st) σ := by
  obtain ⟨G, u, nL, p, l, e, R, s, m, args, below, meth, c, cells, slots, Q⟩ := Y
  intro hf H locs la hW hS hl
  exact lv_lushr hf.1 hf.2.1 hd rfl (k hf H locs la hW hS hl)

theorem r_lcmp {Y : gY} {cc : ByteArray} {own : String} {pc : Nat} {ls : List (Option Value)} {st : List Value} {σ : gM} {x y : Int64} (hd : decode cc pc = .ok (.lcmp, 1)) (k : AW Y cc own (pc + 1) ls (.int (lg_cmp x y) :: st) σ) : AW Y cc own pc ls (.long y :: .long x :: st) σ := by
  obtain ⟨G, u, nL, p, l, e, R, s, m, args, below, meth, c, cells, slots, Q⟩ := Y
  intro hf H locs la hW hS hl
  exact W.lcmp hf.1 hf.2.1 hd (k hf H locs la hW hS hl)

theorem r_dup {Y : gY} {cc : ByteArray} {own : String} {pc : Nat} {ls : List (Option Value)} {st : List Value} {σ : gM} {v : Value} (hd : decode cc pc = .ok (.dup, 1)) (hv : v.category = 1) (k : AW Y cc own (pc + 1) ls (v :: v :: st) σ) : AW Y cc own pc ls (v :: st) σ := by
  obtain ⟨G, u, nL, p, l, e, R, s, m, args, below, meth, c, cells, slots, Q⟩ := Y
  intro hf H locs la hW hS hl
  exact lv_dup hf.1 hf.2.1 hd ((gV_cat G v).trans hv) (k hf H locs la hW hS hl)

theorem r_pop {Y : gY} {cc : ByteArray} {own : String} {pc : Nat} {ls : List (Option Value)} {st : List Value} {σ : gM} {v : Value} (hd : decode cc pc = .ok (.pop, 1)) (hv : v.category = 1) (k : AW Y cc own (pc + 1) ls (st) σ) : AW Y cc own pc ls (v :: st) σ := by
  obtain ⟨G, u, nL, p, l, e, R, s, m, args, below, meth, c, cells, slots, Q⟩ := Y
  intro hf H locs la hW hS hl
  exact lv_pop hf.1 hf.2.1 hd ((gV_cat G v).trans hv) (k hf H locs la hW hS hl)

theorem r_dup2 {Y : gY} {cc : ByteArray} {own : String} {pc : Nat} {ls : List (Option Value)} {st : List Value} {σ : gM} {v w : Value} (hd : decode cc pc = .ok (.dup2, 1)) (hv : v.category = 1) (hw : w.category = 1) (k : AW Y cc own (pc + 1) ls (v :: w :: v :: w :: st) σ) : AW Y cc own pc ls (v :: w :: st) σ := by
  obtain ⟨G, u, nL, p, l, e, R, s, m, args, below, meth, c, cells, slots, Q⟩ := Y
  intro hf H locs la hW hS hl
  exact lv_dup2_11 hf.1 hf.2.1 hd ((gV_cat G v).trans hv) ((gV_cat G w).trans hw) (k hf H locs la hW hS hl)

theorem r_goto {Y : gY} {cc : ByteArray} {own : String} {pc : Nat} {ls : List (Option Value)} {st : List Value} {σ : gM} {off : Int} {tgt : Nat} (hd : decode cc pc = .ok (.goto off, 3)) (ht : (pc : Int) + off = (tgt : Int)) (k : AW Y cc own tgt ls st σ) : AW Y cc own pc ls (st) σ := by
  obtain ⟨G, u, nL, p, l, e, R, s, m, args, below, meth, c, cells, slots, Q⟩ := Y
  intro hf H locs la hW hS hl
  exact lv_goto hf.1 hf.2.1 hd ht (k hf H locs la hW hS hl)

theorem r_icmp_eq {Y : gY} {cc : ByteArray} {own : String} {pc : Nat} {ls : List (Option Value)} {st : List Value} {σ : gM} {x y : Int32} {off : Int} {tgt : Nat} {β : Type} {o : β} {E1 E2 : Option β} (hd : decode cc pc = .ok (.if_icmp .eq off, 3)) (ht : (pc : Int) + off = (tgt : Int)) (h : (if x = y then E1 else E2) = some o) (kt : E1 = some o → AW Y cc own tgt ls st σ) (kf : E2 = some o → AW Y cc own (pc + 3) ls st σ) : AW Y cc own pc ls (.int y :: .int x :: st) σ := by
  obtain ⟨G, u, nL, p, l, e, R, s, m, args, below, meth, c, cells, slots, Q⟩ := Y
  intro hf H locs la hW hS hl
  refine lv_icmp_eq hf.1 hf.2.1 hd ht (fun hc => ?_) (fun hc => ?_)
  · rw [if_pos hc] at h
    exact kt h hf H locs la hW hS hl
  · rw [if_neg hc] at h
    exact kf h hf H locs la hW hS hl

theorem r_icmp_lt {Y : gY} {cc : ByteArray} {own : String} {pc : Nat} {ls : List (Option Value)} {st : List Value} {σ : gM} {x y : Int32} {off : Int} {tgt : Nat} {β : Type} {o : β} {E1 E2 : Option β} (hd : decode cc pc = .ok (.if_icmp .lt off, 3)) (ht : (pc : Int) + off = (tgt : Int)) (h : (if x < y then E1 else E2) = some o) (kt : E1 = some o → AW Y cc own tgt ls st σ) (kf : E2 = some o → AW Y cc own (pc + 3) ls st σ) : AW Y cc own pc ls (.int y :: .int x :: st) σ := by
  obtain ⟨G, u, nL, p, l, e, R, s, m, args, below, meth, c, cells, slots, Q⟩ := Y
  intro hf H locs la hW hS hl
  refine lv_icmp_lt hf.1 hf.2.1 hd ht (fun hc => ?_) (fun hc => ?_)
  · rw [if_pos hc] at h
    exact kt h hf H locs la hW hS hl
  · rw [if_neg hc] at h
    exact kf h hf H locs la hW hS hl

theorem r_icmp_ge {Y : gY} {cc : ByteArray} {own : String} {pc : Nat} {ls : List (Option Value)} {st : List Value} {σ : gM} {x y : Int32} {off : Int} {tgt : Nat} {β : Type} {o : β} {E1 E2 : Option β} (hd : decode cc pc = .ok (.if_icmp .ge off, 3)) (ht : (pc : Int) + off = (tgt : Int)) (h : (if y ≤ x then E1 else E2) = some o) (kt : E1 = some o → AW Y cc own tgt ls st σ) (kf : E2 = some o → AW Y cc own (pc + 3) ls st σ) : AW Y cc own pc ls (.int y :: .int x :: st) σ := by
  obtain ⟨G, u, nL, p, l, e, R, s, m, args, below, meth, c, cells, slots, Q⟩ := Y
  intro hf H locs la hW hS hl
  refine lv_icmp_ge hf.1 hf.2.1 hd ht (fun hc => ?_) (fun hc => ?_)
  · rw [if_pos hc] at h
    exact kt h hf H locs la hW hS hl
  · rw [if_neg hc] at h
    exact kf h hf H locs la hW hS hl

theorem r_icmp_gt {Y : gY} {cc : ByteArray} {own : String} {pc : Nat} {ls : List (Option Value)} {st : List Value} {σ : gM} {x y : Int32} {off : Int} {tgt : Nat} {β : Type} {o : β} {E1 E2 : Option β} (hd : decode cc pc = .ok (.if_icmp .gt off, 3)) (ht : (pc : Int) + off = (tgt : Int)) (h : (if y < x then E1 else E2) = some o) (kt : E1 = some o → AW Y cc own tgt ls st σ) (kf : E2 = some o → AW Y cc own (pc + 3) ls st σ) : AW Y cc own pc ls (.int y :: .int x :: st) σ := by
  obtain ⟨G, u, nL, p, l, e, R, s, m, args, below, meth, c, cells, slots, Q⟩ := Y
  intro hf H locs la hW hS hl
  refine lv_icmp_gt hf.1 hf.2.1 hd ht (fun hc => ?_) (fun hc => ?_)
  · rw [if_pos hc] at h
    exact kt h hf H locs la hW hS hl
  · rw [if_neg hc] at h
    exact kf h hf H locs la hW hS hl

theorem r_icmp_le {Y : gY} {cc : ByteArray} {own : String} {pc : Nat} {ls : List (Option Value)} {st : List Value} {σ : gM} {x y : Int32} {off : Int} {tgt : Nat} {β : Type} {o : β} {E1 E2 : Option β} (hd : decode cc pc = .ok (.if_icmp .le off, 3)) (ht : (pc : Int) + off = (tgt : Int)) (h : (if x ≤ y then E1 else E2) = some o) (kt : E1 = some o → AW Y cc own tgt ls st σ) (kf : E2 = some o → AW Y cc own (pc + 3) ls st σ) : AW Y cc own pc ls (.int y :: .int x :: st) σ := by
  obtain ⟨G, u, nL, p, l, e, R, s, m, args, below, meth, c, cells, slots, Q⟩ := Y
  intro hf H locs la hW hS hl
  refine lv_icmp_le hf.1 hf.2.1 hd ht (fun hc => ?_) (fun hc => ?_)
  · rw [if_pos hc] at h
    exact kt h hf H locs la hW hS hl
  · rw [if_neg hc] at h
    exact kf h hf H locs la hW hS hl

theorem r_if_eq {Y : gY} {cc : ByteArray} {own : String} {pc : Nat} {ls : List (Option Value)} {st : List Value} {σ : gM} {x y : Int32} {off : Int} {tgt : Nat} {β : Type} {o : β} {E1 E2 : Option β} (hd : decode cc pc = .ok (.ifCond .eq off, 3)) (ht : (pc : Int) + off = (tgt : Int)) (h : (if x = 0 then E1 else E2) = some o) (kt : E1 = some o → AW Y cc own tgt ls st σ) (kf : E2 = some o → AW Y cc own (pc + 3) ls st σ) : AW Y cc own pc ls (.int x :: st) σ := by
  obtain ⟨G, u, nL, p, l, e, R, s, m, args, below, meth, c, cells, slots, Q⟩ := Y
  intro hf H locs la hW hS hl
  refine lv_if_eq hf.1 hf.2.1 hd ht (fun hc => ?_) (fun hc => ?_)
  · rw [if_pos hc] at h
    exact kt h hf H locs la hW hS hl
  · rw [if_neg hc] at h
    exact kf h hf H locs la hW hS hl

theorem r_if_lt {Y : gY} {cc : ByteArray} {own : String} {pc : Nat} {ls : List (Option Value)} {st : List Value} {σ : gM} {x y : Int32} {off : Int} {tgt : Nat} {β : Type} {o : β} {E1 E2 : Option β} (hd : decode cc pc = .ok (.ifCond .lt off, 3)) (ht : (pc : Int) + off = (tgt : Int)) (h : (if x < 0 then E1 else E2) = some o) (kt : E1 = some o → AW Y cc own tgt ls st σ) (kf : E2 = some o → AW Y cc own (pc + 3) ls st σ) : AW Y cc own pc ls (.int x :: st) σ := by
  obtain ⟨G, u, nL, p, l, e, R, s, m, args, below, meth, c, cells, slots, Q⟩ := Y
  intro hf H locs la hW hS hl
  refine lv_if_lt hf.1 hf.2.1 hd ht (fun hc => ?_) (fun hc => ?_)
  · rw [if_pos hc] at h
    exact kt h hf H locs la hW hS hl
  · rw [if_neg hc] at h
    exact kf h hf H locs la hW hS hl

theorem r_if_ge {Y : gY} {cc : ByteArray} {own : String} {pc : Nat} {ls : List (Option Value)} {st : List Value} {σ : gM} {x y : Int32} {off : Int} {tgt : Nat} {β : Type} {o : β} {E1 E2 : Option β} (hd : decode cc pc = .ok (.ifCond .ge off, 3)) (ht : (pc : Int) + off = (tgt : Int)) (h : (if 0 ≤ x then E1 else E2) = some o) (kt : E1 = some o → AW Y cc own tgt ls st σ) (kf : E2 = some o → AW Y cc own (pc + 3) ls st σ) : AW Y cc own pc ls (.int x :: st) σ := by
  obtain ⟨G, u, nL, p, l, e, R, s, m, args, below, meth, c, cells, slots, Q⟩ := Y
  intro hf H locs la hW hS hl
  refine lv_if_ge hf.1 hf.2.1 hd ht (fun hc => ?_) (fun hc => ?_)
  · rw [if_pos hc] at h
    exact kt h hf H locs la hW hS hl
  · rw [if_neg hc] at h
    exact kf h hf H locs la hW hS hl

theorem r_if_gt {Y : gY} {cc : ByteArray} {own : String} {pc : Nat} {ls : List (Option Value)} {st : List Value} {σ : gM} {x y : Int32} {off : Int} {tgt : Nat} {β : Type} {o : β} {E1 E2 : Option β} (hd : decode cc pc = .ok (.ifCond .gt off, 3)) (ht : (pc : Int) + off = (tgt : Int)) (h : (if 0 < x then E1 else E2) = some o) (kt : E1 = some o → AW Y cc own tgt ls st σ) (kf : E2 = some o → AW Y cc own (pc + 3) ls st σ) : AW Y cc own pc ls (.int x :: st) σ := by
  obtain ⟨G, u, nL, p, l, e, R, s, m, args, below, meth, c, cells, slots, Q⟩ := Y
  intro hf H locs la hW hS hl
  refine lv_if_gt hf.1 hf.2.1 hd ht (fun hc => ?_) (fun hc => ?_)
  · rw [if_pos hc] at h
    exact kt h hf H locs la hW hS hl
  · rw [if_neg hc] at h
    exact kf h hf H locs la hW hS hl

theorem r_if_le {Y : gY} {cc : ByteArray} {own : String} {pc : Nat} {ls : List (Option Value)} {st : List Value} {σ : gM} {x y : Int32} {off : Int} {tgt : Nat} {β : Type} {o : β} {E1 E2 : Option β} (hd : decode cc pc = .ok (.ifCond .le off, 3)) (ht : (pc : Int) + off = (tgt : Int)) (h : (if x ≤ 0 then E1 else E2) = some o) (kt : E1 = some o → AW Y cc own tgt ls st σ) (kf : E2 = some o → AW Y cc own (pc + 3) ls st σ) : AW Y cc own pc ls (.int x :: st) σ := by
  obtain ⟨G, u, nL, p, l, e, R, s, m, args, below, meth, c, cells, slots, Q⟩ := Y
  intro hf H locs la hW hS hl
  refine lv_if_le hf.1 hf.2.1 hd ht (fun hc => ?_) (fun hc => ?_)
  · rw [if_pos hc] at h
    exact kt h hf H locs la hW hS hl
  · rw [if_neg hc] at h
    exact kf h hf H locs la hW hS hl

theorem r_icmp_ne {Y : gY} {cc : ByteArray} {own : String} {pc : Nat} {ls : List (Option Value)} {st : List Value} {σ : gM} {x y : Int32} {off : Int} {tgt : Nat} {β : Type} {o : β} {E1 E2 : Option β} (hd : decode cc pc = .ok (.if_icmp .ne off, 3)) (ht : (pc : Int) + off = (tgt : Int)) (h : (if x = y then E2 else E1) = some o) (kt : E1 = some o → AW Y cc own tgt ls st σ) (kf : E2 = some o → AW Y cc own (pc + 3) ls st σ) : AW Y cc own pc ls (.int y :: .int x :: st) σ := by
  obtain ⟨G, u, nL, p, l, e, R, s, m, args, below, meth, c, cells, slots, Q⟩ := Y
  intro hf H locs la hW hS hl
  refine lv_icmp_ne hf.1 hf.2.1 hd ht (fun hc => ?_) (fun hc => ?_)
  · rw [if_neg hc] at h
    exact kt h hf H locs la hW hS hl
  · rw [if_pos hc] at h
    exact kf h hf H locs la hW hS hl

theorem r_if_ne {Y : gY} {cc : ByteArray} {own : String} {pc : Nat} {ls : List (Option Value)} {st : List Value} {σ : gM} {x : Int32} {off : Int} {tgt : Nat} {β : Type} {o : β} {E1 E2 : Option β} (hd : decode cc pc = .ok (.ifCond .ne off, 3)) (ht : (pc : Int) + off = (tgt : Int)) (h : (if x = 0 then E2 else E1) = some o) (kt : E1 = some o → AW Y cc own tgt ls st σ) (kf : E2 = some o → AW Y cc own (pc + 3) ls st σ) : AW Y cc own pc ls (.int x :: st) σ := by
  obtain ⟨G, u, nL, p, l, e, R, s, m, args, below, meth, c, cells, slots, Q⟩ := Y
  intro hf H locs la hW hS hl
  refine lv_if_ne hf.1 hf.2.1 hd ht (fun hc => ?_) (fun hc => ?_)
  · rw [if_neg hc] at h
    exact kt h hf H locs la hW hS hl
  · rw [if_pos hc] at h
    exact kf h hf H locs la hW hS hl

theorem r_mask {Y : gY} {cc : ByteArray} {own : String} {pc : Nat} {ls : List (Option Value)} {st : List Value} {σ : gM} {ls' : List (Option Value)} (bs : List Bool) (hs : gMask bs ls = ls') (k : AW Y cc own pc ls' st σ) : AW Y cc own pc ls (st) σ := by
  obtain ⟨G, u, nL, p, l, e, R, s, m, args, below, meth, c, cells, slots, Q⟩ := Y
  intro hf H locs la hW hS hl
  subst hs
  exact k hf H locs la hW hS (gMask_has bs hl)

theorem r_tabIn {Y : gY} {cc : ByteArray} {own : String} {pc : Nat} {ls : List (Option Value)} {st : List Value} {σ : gM} {dflt lo hi off : Int} {offs : Array Int} {len tgt : Nat} {x v : Int32} (hd : decode cc pc = .ok (.tableswitch dflt lo hi offs, len)) (hx : x = v) (h1 : ¬ v.toInt < lo) (h2 : ¬ hi < v.toInt) (ho : offs[(v.toInt - lo).toNat]? = some off) (ht : (pc : Int) + off = (tgt : Int)) (k : AW Y cc own tgt ls st σ) : AW Y cc own pc ls (.int x :: st) σ := by
  obtain ⟨G, u, nL, p, l, e, R, s, m, args, below, meth, c, cells, slots, Q⟩ := Y
  intro hf H locs la hW hS hl
  subst hx
  exact lv_tableIn hf.1 hf.2.1 hd h1 h2 ho ht (k hf H locs la hW hS hl)

theorem r_tabOut {Y : gY} {cc : ByteArray} {own : String} {pc : Nat} {ls : List (Option Value)} {st : List Value} {σ : gM} {dflt lo hi : Int} {offs : Array Int} {len tgt : Nat} {x : Int32} (hd : decode cc pc = .ok (.tableswitch dflt lo hi offs, len)) (h1 : x.toInt < lo ∨ hi < x.toInt) (ht : (pc : Int) + dflt = (tgt : Int)) (k : AW Y cc own tgt ls st σ) : AW Y cc own pc ls (.int x :: st) σ := by
  obtain ⟨G, u, nL, p, l, e, R, s, m, args, below, meth, c, cells, slots, Q⟩ := Y
  intro hf H locs la hW hS hl
  exact lv_tableOut hf.1 hf.2.1 hd h1 ht (k hf H locs la hW hS hl)

theorem r_lookup {Y : gY} {cc : ByteArray} {own : String} {pc : Nat} {ls : List (Option Value)} {st : List Value} {σ : gM} {dflt off : Int} {ps : Array (Int × Int)} {len tgt : Nat} {x : Int32} (hd : decode cc pc = .ok (.lookupswitch dflt ps, len)) (hp : (ps.toList.zip (ps.toList.drop 1)).all (fun (a, next) => a.1 < next.1) = true) (ho : Op.lookupswitch.offset ps.toList dflt x.toInt = off) (ht : (pc : Int) + off = (tgt : Int)) (k : AW Y cc own tgt ls st σ) : AW Y cc own pc ls (.int x :: st) σ := by
  obtain ⟨G, u, nL, p, l, e, R, s, m, args, below, meth, c, cells, slots, Q⟩ := Y
  intro hf H locs la hW hS hl
  exact lv_lookup hf.1 hf.2.1 hd hp ho ht (k hf H locs la hW hS hl)
end
section
/-! rows that read and write the flat memory -/
def gChain : List (Nat × Nat × Nat) → Bool
  | a :: b :: t => decide (a.1 + gSz a = b.1) && gChain (b :: t)
  | _ => true
theorem gChain_lt : ∀ (t : List (Nat × Nat × Nat)) (a : Nat × Nat × Nat), gChain (a :: t) = true → ∀ (j : Nat) (o : Nat × Nat × Nat), t[j]? = some o → a.1 + gSz a ≤ o.1
  | [], a, _, j, o, h => by simp at h
  | b :: t, a, hc, 0, o, h => by
    simp only [gChain, Bool.and_eq_true, decide_eq_true_eq] at hc
    simp at h
    subst h
    omega
  | b :: t, a, hc, j + 1, o, h => by
    simp only [gChain, Bool.and_eq_true, decide_eq_true_eq] at hc
    have h' : t[j]? = some o := by simpa using h
    have := gChain_lt t b hc.2 j o h'
    omega
theorem gChain_tail {a : Nat × Nat × Nat} {t : List (Nat × Nat × Nat)} (h : gChain (a :: t) = true) : gChain t = true := by
  cases t with
  | nil => rfl
  | cons b t =>
    simp only [gChain, Bool.and_eq_true] at h
    exact h.2
theorem gChain_ord : ∀ (t : List (Nat × Nat × Nat)), gChain t = true → ∀ (i j : Nat) (o o' : Nat × Nat × Nat), i < j → t[i]? = some o → t[j]? = some o' → o.1 + gSz o ≤ o'.1
  | [], _, i, j, o, o', _, h, _ => by simp at h
  | a :: t, hc, 0, j + 1, o, o', _, h, h' => by
    simp at h
    subst h
    exact gChain_lt t a hc j o' (by simpa using h')
  | a :: t, hc, i + 1, j + 1, o, o', hij, h, h' => gChain_ord t (gChain_tail hc) i j o o' (by omega) (by simpa using h) (by simpa using h')
theorem gObs_chain : gChain gObs = true := by decide +kernel
theorem gObs_len : gObs.length = 843 := by decide +kernel
theorem gTake_get {n k : Nat} {o : Nat × Nat × Nat} (h : (gObs.take n)[k]? = some o) : gObs[k]? = some o := by
  rw [List.getElem?_take] at h
  split at h
  · exact h
  · cases h
theorem gObs_apart {n i k : Nat} {o o' : Nat × Nat × Nat} (h : (gObs.take n)[i]? = some o) (h' : (gObs.take n)[k]? = some o') (hik : i ≠ k) : o.1 + gSz o ≤ o'.1 ∨ o'.1 + gSz o' ≤ o.1 := by
  rcases Nat.lt_or_gt_of_ne hik with q | q
  · exact Or.inl (gChain_ord gObs gObs_chain i k o o' q (gTake_get h) (gTake_get h'))
  · exact Or.inr (gChain_ord gObs gObs_chain k i o' o q (gTake_get h') (gTake_get h))
theorem gCell_congr {G : gX} {u : gU} {σ σ' : gM} {o : Nat × Nat × Nat} (h : ∀ x, o.1 ≤ x → x < o.1 + gSz o → σ' x = σ x) : gCell G u σ' o = gCell G u σ o := by
  unfold gCell
  unfold gSz at h
  split
  · rename_i h6
    rw [if_pos h6] at h
    congr 2
    refine List.map_congr_left (fun j hj => ?_)
    unfold gFld
    rw [h (o.1 + j) (by omega) (by have := List.mem_range.mp hj; omega)]
  · rename_i h6
    rw [if_neg h6] at h
    split
    · congr 4
      funext j
      split
      · exact h _ (by omega) (by omega)
      · rfl
    · rfl
theorem gWs_get {G : gX} {u : gU} {a kd len : Nat} (h : gIn u a kd len) : ∃ k : Nat, (gObs.take u.1)[k]? = some (a, kd, len) ∧ ∀ σ : gM, (gWs G u σ)[k]? = some ((G.2.2.1 a, gCell G u σ (a, kd, len)) : Nat × va_E) := by
  obtain ⟨k, hk⟩ := List.getElem?_of_mem h
  refine ⟨k, hk, fun σ => ?_⟩
  unfold gWs
  rw [List.getElem?_map, hk]
  rfl
theorem gWs_set {G : gX} {u : gU} {σ σ' : gM} {k a kd len : Nat} (hk : (gObs.take u.1)[k]? = some (a, kd, len)) (h : ∀ x, (x < a ∨ a + gSz (a, kd, len) ≤ x) → σ' x = σ x) : (gWs G u σ).set k (G.2.2.1 a, gCell G u σ' (a, kd, len)) = gWs G u σ' := by
  refine List.ext_getElem? (fun i => ?_)
  by_cases hik : i = k
  · subst hik
    have hl : i < (gWs G u σ).length := by
      unfold gWs
      rw [List.length_map]
      exact (List.getElem?_eq_some_iff.mp hk).1
    rw [List.getElem?_set_self hl]
    unfold gWs
    rw [List.getElem?_map, hk]
    rfl
  · rw [List.getElem?_set_ne (Ne.symm hik)]
    unfold gWs
    rw [List.getElem?_map, List.getElem?_map]
    cases ho : (gObs.take u.1)[i]? with
    | none => rfl
    | some o =>
      show some (G.2.2.1 o.1, gCell G u σ o) = some (G.2.2.1 o.1, gCell G u σ' o)
      rw [gCell_congr (σ := σ) (σ' := σ') (fun x h1 h2 => h x ?_)]
      rcases gObs_apart ho hk hik with q | q
      · exact Or.inl (by have := q; simp only at this; omega)
      · exact Or.inr (by have := q; simp only at this; omega)
theorem gFs_get {G : gX} {u : gU} {σ : gM} {kd a j N : Nat} (hj : j < N) : ((List.range N).map (gFld G u σ kd a))[j]? = some (gFld G u σ kd a j) := by
  rw [List.getElem?_map, List.getElem?_range hj]
  rfl
theorem gFs_set {G : gX} {u : gU} {σ : gM} {kd a j N : Nat} {x : Int32} (hj : j < N) (hr : gRef kd j = false) : ((List.range N).map (gFld G u σ kd a)).set j (.int x) = (List.range N).map (gFld G u (upd σ (a + j) x) kd a) := by
  refine List.ext_getElem? (fun i => ?_)
  by_cases hij : i = j
  · subst hij
    rw [List.getElem?_set_self (by simpa using hj), gFs_get hj]
    simp [gFld, hr, upd]
  · rw [List.getElem?_set_ne (Ne.symm hij), List.getElem?_map, List.getElem?_map]
    cases hi : (List.range N)[i]? with
    | none => rfl
    | some w =>
      have hw : w = i := by
        rw [List.getElem?_range] at hi
        · exact (Option.some.inj hi).symm
        · have := (List.getElem?_eq_some_iff.mp hi).1
          simpa using this
      subst hw
      show some _ = some _
      congr 1
      simp [gFld, upd, hij]
theorem gCell_obj {G : gX} {u : gU} {σ : gM} {a kd : Nat} (h : kd < 6) : gCell G u σ (a, kd, 0) = .inr (kd, (List.range (gNf kd)).map (gFld G u σ kd a)) := by
  unfold gCell
  rw [if_pos h]
theorem gCell_arr {G : gX} {u : gU} {σ : gM} {a kd n : Nat} (h : 6 ≤ kd) (h9 : kd < 9) : gCell G u σ (a, kd, n) = .inl (G.2.1 kd, n, .inl (fun j => if j < n then σ (a + j) else 0)) := by
  unfold gCell
  rw [if_neg (show ¬ kd < 6 by omega), if_pos h9]
theorem gCell_rar {G : gX} {u : gU} {σ : gM} {a kd n : Nat} (h : 9 ≤ kd) (h9 : kd < 11) : gCell G u σ (a, kd, n) = .inl (G.2.1 kd, n, .inr (.inr (.inr (.inr (fun j => if j < n then gRn G (u.2.1 (a + j)) else none))))) := by
  unfold gCell
  rw [if_neg (show ¬ kd < 6 by omega), if_neg (show ¬ kd < 9 by omega), if_pos h9]
theorem gTy_get {G : gX} {kd : Nat} (h : 6 ≤ kd) (h9 : kd < 12) : (gTys G)[kd - 6]? = some (G.2.1 kd, gTi kd) := by
  rcases (show kd = 6 ∨ kd = 7 ∨ kd = 8 ∨ kd = 9 ∨ kd = 10 ∨ kd = 11 by omega) with q | q | q | q | q | q <;> subst q <;> rfl
theorem gSt_kept {G : gX} {U : State} {H H1 : Heap} (h : gSt G U H) (hq : ∀ a : Nat, a < H.size → ¬ gA G a → H1[a]? = H[a]?) : gSt G U H1 := ⟨h.1.kept hq, ⟨h.2.1.1.kept hq, h.2.1.2.kept hq⟩, ⟨h.2.2.1.1.kept hq, h.2.2.1.2.kept hq⟩, ⟨h.2.2.2.1.kept hq, h.2.2.2.2.kept hq⟩⟩
theorem gSt_moved {G : gX} {u U : State} {H : Heap} (hvm : u.vm.Alike U.vm) (h : gSt G u H) : gSt G U H := ⟨va_En.moved hvm h.1, ⟨va_Z.moved hvm h.2.1.1, va_T.moved hvm h.2.1.2⟩, ⟨va_Z.moved hvm h.2.2.1.1, va_T.moved hvm h.2.2.1.2⟩, ⟨va_Z.moved hvm h.2.2.2.1, va_T.moved hvm h.2.2.2.2⟩⟩
theorem gSt_S {G : gX} {U : State} {H0 H H1 : Heap} {l0 l1 : List Loc} (h : gSt G U H) (hS : va_S (gA G) H0 H l0) (hS1 : va_S (gA G) H0 H1 l1) (hz : G.2.2.2 ≤ H0.size) : gSt G U H1 := gSt_kept h (fun a ha hn => by
  have hlt : a < H0.size := by
    have h1 : ¬ G.2.2.2 ≤ a := hn
    omega
  rw [hS1.2.1 a hlt hn, hS.2.1 a hlt hn])
theorem gIn_obj {G : gX} {u : gU} {σ : gM} {a kd : Nat} (h6 : kd < 6) (h : gIn u a kd 0) : ∃ k : Nat, (gObs.take u.1)[k]? = some (a, kd, 0) ∧ (gWs G u σ)[k]? = some ((G.2.2.1 a, .inr (kd, (List.range (gNf kd)).map (gFld G u σ kd a))) : Nat × va_E) := by
  obtain ⟨k, h1, h2⟩ := gWs_get (G := G) h
  exact ⟨k, h1, by rw [h2 σ, gCell_obj h6]⟩
theorem gIn_arr {G : gX} {u : gU} {σ : gM} {a kd n : Nat} (h6 : 6 ≤ kd) (h9 : kd < 9) (h : gIn u a kd n) : ∃ k : Nat, (gObs.take u.1)[k]? = some (a, kd, n) ∧ (gWs G u σ)[k]? = some ((G.2.2.1 a, .inl (G.2.1 kd, n, .inl (fun j => if j < n then σ (a + j) else 0))) : Nat × va_E) := by
  obtain ⟨k, h1, h2⟩ := gWs_get (G := G) h
  exact ⟨k, h1, by rw [h2 σ, gCell_arr h6 h9]⟩
theorem gIn_rar {G : gX} {u : gU} {σ : gM} {a kd n : Nat} (h6 : 9 ≤ kd) (h9 : kd < 11) (h : gIn u a kd n) : ∃ k : Nat, (gObs.take u.1)[k]? = some (a, kd, n) ∧ (gWs G u σ)[k]? = some ((G.2.2.1 a, .inl (G.2.1 kd, n, .inr (.inr (.inr (.inr (fun j => if j < n then gRn G (u.2.1 (a + j)) else none)))))) : Nat × va_E) := by
  obtain ⟨k, h1, h2⟩ := gWs_get (G := G) h
  exact ⟨k, h1, by rw [h2 σ, gCell_rar h6 h9]⟩
theorem gArr_set {a n : Nat} {σ : gM} {i : Int32} {x : Int32} (hi : i.toNatClampNeg < n) : upd (fun j => if j < n then σ (a + j) else 0) i.toNatClampNeg x = (fun j => if j < n then upd σ (a + i.toNatClampNeg) x (a + j) else 0) := by
  funext j
  by_cases hj : j = i.toNatClampNeg
  · subst hj
    simp [upd, hi]
  · have : ¬ a + j = a + i.toNatClampNeg := by omega
    simp [upd, hj]
section GR
variable {Y : gY} {cc : ByteArray} {own : String} {pc : Nat} {ls : List (Option Value)} {st : List Value} {σ : gM} {β : Type} {o : β}
theorem r_getI {C : String} {T : u_T} {N kd j idx a : Nat} {E : Int32 → Option β} (hc : vwCl[kd]? = some (C, T, N)) (h6 : kd < 6) (hN : gNf kd = N) (hj : j < N) (hr : gRef kd j = false) (hin : ∀ w ∈ u_ws C T N, w ∈ gG) (hl : Cond.fieldLink own idx (T j).1 (T j).2.1 (T j).2.2.1 ∈ gG) (hd : decode cc pc = .ok (.getfield idx, 3)) (ha : gIn Y.2.1 a kd 0) (h : gLt (σ (a + j)) E = some o)
    (k : ∀ x, E x = some o → AW Y cc own (pc + 3) ls (.int x :: st) σ) : AW Y cc own pc ls (.ref a :: st) σ := by
  obtain ⟨G, u, nL, p, l, e, R, s, m, args, below, meth, c, cells, slots, Q⟩ := Y
  intro hf H locs la hW hS hl
  obtain ⟨q0, -, hq⟩ := gIn_obj (G := G) (σ := σ) h6 ha
  subst hN
  refine va_get hf.1 hf.2.1 hf.2.2.2.2.1 hin hf.2.2.2.1 hW.2.2.1.1 hW.1 q0 hq hc j hj (hf.2.2.2.2.1 _ (by assumption)) (fun _ h9 => h9) (v := .int (σ (a + j))) ?_ hd (k _ h hf H locs la hW hS hl)
  rw [gFs_get hj]
  simp [gFld, hr]
theorem r_getIN {C host : String} {T : u_T} {N kd j idx a : Nat} {E : Int32 → Option β} (hc : vwCl[kd]? = some (C, T, N)) (h6 : kd < 6) (hN : gNf kd = N) (hj : j < N) (hr : gRef kd j = false) (hin : ∀ w ∈ u_ws C T N, w ∈ gG) (hl : Cond.fieldLinkNest own idx (T j).1 (T j).2.1 (T j).2.2.1 host ∈ gN) (hd : decode cc pc = .ok (.getfield idx, 3)) (ha : gIn Y.2.1 a kd 0) (h : gLt (σ (a + j)) E = some o)
    (k : ∀ x, E x = some o → AW Y cc own (pc + 3) ls (.int x :: st) σ) : AW Y cc own pc ls (.ref a :: st) σ := by
  obtain ⟨G, u, nL, p, l, e, R, s, m, args, below, meth, c, cells, slots, Q⟩ := Y
  intro hf H locs la hW hS hl
  obtain ⟨q0, -, hq⟩ := gIn_obj (G := G) (σ := σ) h6 ha
  subst hN
  refine va_getN hf.1 hf.2.1 hf.2.2.2.2.1 hin hf.2.2.2.1 hW.2.2.1.1 hW.1 q0 hq hc j hj (va_Nw.use rfl (hW.2.2.1.2 _ (by assumption))) (fun _ h9 => h9) (v := .int (σ (a + j))) ?_ hd (k _ h hf H locs la hW hS hl)
  rw [gFs_get hj]
  simp [gFld, hr]
theorem r_getR {C : String} {T : u_T} {N kd j idx a b : Nat} (hc : vwCl[kd]? = some (C, T, N)) (h6 : kd < 6) (hN : gNf kd = N) (hj : j < N) (hr : gRef kd j = true) (hin : ∀ w ∈ u_ws C T N, w ∈ gG) (hl : Cond.fieldLink own idx (T j).1 (T j).2.1 (T j).2.2.1 ∈ gG) (hd : decode cc pc = .ok (.getfield idx, 3)) (ha : gIn Y.2.1 a kd 0) (hb : Y.2.1.2.1 (a + j) = b + 1)
    (k : AW Y cc own (pc + 3) ls (.ref b :: st) σ) : AW Y cc own pc ls (.ref a :: st) σ := by
  obtain ⟨G, u, nL, p, l, e, R, s, m, args, below, meth, c, cells, slots, Q⟩ := Y
  intro hf H locs la hW hS hl
  obtain ⟨q0, -, hq⟩ := gIn_obj (G := G) (σ := σ) h6 ha
  subst hN
  refine va_get hf.1 hf.2.1 hf.2.2.2.2.1 hin hf.2.2.2.1 hW.2.2.1.1 hW.1 q0 hq hc j hj (hf.2.2.2.2.1 _ (by assumption)) (fun _ h9 => h9) (v := .ref (G.2.2.1 b)) ?_ hd (k hf H locs la hW hS hl)
  rw [gFs_get hj]
  simp only [gFld, hr, if_true, gRn]
  rw [show u.2.1 (a + j) = b + 1 from hb]
  rfl
theorem r_getRN {C host : String} {T : u_T} {N kd j idx a b : Nat} (hc : vwCl[kd]? = some (C, T, N)) (h6 : kd < 6) (hN : gNf kd = N) (hj : j < N) (hr : gRef kd j = true) (hin : ∀ w ∈ u_ws C T N, w ∈ gG) (hl : Cond.fieldLinkNest own idx (T j).1 (T j).2.1 (T j).2.2.1 host ∈ gN) (hd : decode cc pc = .ok (.getfield idx, 3)) (ha : gIn Y.2.1 a kd 0) (hb : Y.2.1.2.1 (a + j) = b + 1)
    (k : AW Y cc own (pc + 3) ls (.ref b :: st) σ) : AW Y cc own pc ls (.ref a :: st) σ := by
  obtain ⟨G, u, nL, p, l, e, R, s, m, args, below, meth, c, cells, slots, Q⟩ := Y
  intro hf H locs la hW hS hl
  obtain ⟨q0, -, hq⟩ := gIn_obj (G := G) (σ := σ) h6 ha
  subst hN
  refine va_getN hf.1 hf.2.1 hf.2.2.2.2.1 hin hf.2.2.2.1 hW.2.2.1.1 hW.1 q0 hq hc j hj (va_Nw.use rfl (hW.2.2.1.2 _ (by assumption))) (fun _ h9 => h9) (v := .ref (G.2.2.1 b)) ?_ hd (k hf H locs la hW hS hl)
  rw [gFs_get hj]
  simp only [gFld, hr, if_true, gRn]
  rw [show u.2.1 (a + j) = b + 1 from hb]
  rfl
theorem r_putI {C : String} {T : u_T} {N kd j idx a : Nat} {x : Int32} {E : gM → Option β} (ty0 : Nat → FieldType) (hty : ∀ k, k < N → parseFieldDescriptor (T k).2.2.1 = some (ty0 k)) (hnm : ∀ a, a < N → ∀ b, b < N → a ≠ b → (T a).2.1 ≠ (T b).2.1) (hc : vwCl[kd]? = some (C, T, N)) (h6 : kd < 6) (hN : gNf kd = N) (hj : j < N) (hr : gRef kd j = false) (hin : ∀ w ∈ u_ws C T N, w ∈ gG) (hl : Cond.fieldLink own idx (T j).1 (T j).2.1 (T j).2.2.1 ∈ gG) (hfin : (T j).2.2.2 = false) (hi : parseFieldDescriptor (T j).2.2.1 = some .int) (hd : decode cc pc = .ok (.putfield idx, 3)) (ha : gIn Y.2.1 a kd 0) (h : gLt (upd σ (a + j) x) E = some o)
    (k : ∀ σ1, E σ1 = some o → AW Y cc own (pc + 3) ls st σ1) : AW Y cc own pc ls (.int x :: .ref a :: st) σ := by
  obtain ⟨G, u, nL, p, l, e, R, s, m, args, below, meth, c, cells, slots, Q⟩ := Y
  intro hf H locs la hW hS hl
  obtain ⟨q0, hq0, hq⟩ := gIn_obj (G := G) (σ := σ) h6 ha
  subst hN
  refine va_put hf.1 hf.2.1 hf.2.2.2.2.1 hin ty0 hty hnm hf.2.2.2.1 hW.2.2.1.1 hW.1 hW.2.1 hS q0 hq hc j hj (hf.2.2.2.2.1 _ (by assumption)) (fun _ h9 => h9) hfin hi rfl rfl (by simpa using hj) hd (fun H1 locs1 hP1 hD1 hS1 => ?_)
  have e1 : (gWs G u σ).set q0 (G.2.2.1 a, .inr (kd, ((List.range (gNf kd)).map (gFld G u σ kd a)).set j (.int x))) = gWs G u (upd σ (a + j) x) := by
    rw [gFs_set hj hr, ← gCell_obj h6]
    refine gWs_set hq0 (fun y hy => ?_)
    have hs : gSz (a, kd, 0) = gNf kd := by unfold gSz; rw [if_pos h6]
    rw [hs] at hy
    simp only [upd]
    rw [if_neg (by omega)]
  have hP1 : va_P G.1 vwCl (gWs G u (upd σ (a + j) x)) H1 := by
    rw [← e1]
    exact hP1
  have hD1 : va_D (gA G) (gWs G u (upd σ (a + j) x)) := by
    rw [← e1]
    exact hD1
  exact k _ h hf H1 locs1 la ⟨hP1, hD1, hW.2.2.1, gSt_S hW.2.2.2.1 hS hS1 hf.2.2.2.2.2.1, Nat.le_trans hf.2.2.2.2.2.1 hS1.1⟩ hS1 hl
theorem r_iald {n a : Nat} {i : Int32} {E : Int32 → Option β} (hd : decode cc pc = .ok (.iaload, 1)) (ha : gIn Y.2.1 a 7 n) (h : gRd σ a n i E = some o) (k : ∀ x, E x = some o → AW Y cc own (pc + 1) ls (.int x :: st) σ) : AW Y cc own pc ls (.int i :: .ref a :: st) σ := by
  unfold gRd at h
  split at h
  · cases h
  rename_i hi
  obtain ⟨G, u, nL, p, l, e, R, s, m, args, below, meth, c, cells, slots, Q⟩ := Y
  intro hf H locs la hW hS hl
  obtain ⟨q0, -, hq⟩ := gIn_arr (G := G) (σ := σ) (by decide) (by decide) ha
  refine va_iald hf.1 hf.2.1 hW.2.2.1.1 hW.1 q0 1 hq rfl hi hd ?_
  rw [if_pos (Nat.not_le.mp fun q => hi (Or.inr q))]
  exact k _ h hf H locs la hW hS hl
theorem r_zald {n a : Nat} {i : Int32} {E : Int32 → Option β} (hd : decode cc pc = .ok (.baload, 1)) (ha : gIn Y.2.1 a 8 n) (h : gRd σ a n i E = some o) (k : ∀ x, E x = some o → AW Y cc own (pc + 1) ls (.int x :: st) σ) : AW Y cc own pc ls (.int i :: .ref a :: st) σ := by
  unfold gRd at h
  split at h
  · cases h
  rename_i hi
  obtain ⟨G, u, nL, p, l, e, R, s, m, args, below, meth, c, cells, slots, Q⟩ := Y
  intro hf H locs la hW hS hl
  obtain ⟨q0, -, hq⟩ := gIn_arr (G := G) (σ := σ) (by decide) (by decide) ha
  refine va_zald hf.1 hf.2.1 hW.2.2.1.1 hW.1 q0 2 hq rfl hi hd ?_
  rw [if_pos (Nat.not_le.mp fun q => hi (Or.inr q))]
  exact k _ h hf H locs la hW hS hl
theorem r_cald {n a : Nat} {i : Int32} {E : Int32 → Option β} (hd : decode cc pc = .ok (.caload, 1)) (ha : gIn Y.2.1 a 6 n) (h : gRd σ a n i E = some o) (k : ∀ x, E x = some o → AW Y cc own (pc + 1) ls (.int x :: st) σ) : AW Y cc own pc ls (.int i :: .ref a :: st) σ := by
  unfold gRd at h
  split at h
  · cases h
  rename_i hi
  obtain ⟨G, u, nL, p, l, e, R, s, m, args, below, meth, c, cells, slots, Q⟩ := Y
  intro hf H locs la hW hS hl
  obtain ⟨q0, -, hq⟩ := gIn_arr (G := G) (σ := σ) (by decide) (by decide) ha
  refine va_cald hf.1 hf.2.1 hW.2.2.1.1 hW.1 q0 0 hq rfl hi hd ?_
  rw [if_pos (Nat.not_le.mp fun q => hi (Or.inr q))]
  exact k _ h hf H locs la hW hS hl
theorem gArrW {G : gX} {u : gU} {a kd n q0 : Nat} {i x : Int32} (h6 : 6 ≤ kd) (h9 : kd < 9) (hq0 : (gObs.take u.1)[q0]? = some (a, kd, n)) (hi : i.toNatClampNeg < n) : (gWs G u σ).set q0 (G.2.2.1 a, .inl (G.2.1 kd, n, .inl (upd (fun j => if j < n then σ (a + j) else 0) i.toNatClampNeg x))) = gWs G u (upd σ (a + i.toNatClampNeg) x) := by
  rw [gArr_set hi, ← gCell_arr (G := G) (u := u) (σ := upd σ (a + i.toNatClampNeg) x) h6 h9]
  refine gWs_set hq0 (fun y hy => ?_)
  have hs : gSz (a, kd, n) = n := by unfold gSz; rw [if_neg (by simp only; omega)]
  rw [hs] at hy
  simp only [upd]
  rw [if_neg (by omega)]
theorem r_iast {n a : Nat} {i x : Int32} {E : gM → Option β} (hd : decode cc pc = .ok (.iastore, 1)) (ha : gIn Y.2.1 a 7 n) (h : gWr σ a n i x E = some o) (k : ∀ σ1, E σ1 = some o → AW Y cc own (pc + 1) ls st σ1) : AW Y cc own pc ls (.int x :: .int i :: .ref a :: st) σ := by
  unfold gWr at h
  split at h
  · cases h
  rename_i hi
  obtain ⟨G, u, nL, p, l, e, R, s, m, args, below, meth, c, cells, slots, Q⟩ := Y
  intro hf H locs la hW hS hl
  obtain ⟨q0, hq0, hq⟩ := gIn_arr (G := G) (σ := σ) (by decide) (by decide) ha
  refine va_iast hf.1 hf.2.1 hW.2.2.1.1 hW.1 hW.2.1 hS q0 1 hq rfl hi hd (fun H1 locs1 hP1 hD1 hS1 => ?_)
  rw [gArrW (by decide) (by decide) hq0 (Nat.not_le.mp fun q => hi (Or.inr q))] at hP1 hD1
  exact k _ h hf H1 locs1 la ⟨hP1, hD1, hW.2.2.1, gSt_S hW.2.2.2.1 hS hS1 hf.2.2.2.2.2.1, Nat.le_trans hf.2.2.2.2.2.1 hS1.1⟩ hS1 hl
theorem r_zast {n a : Nat} {i x : Int32} {E : gM → Option β} (hd : decode cc pc = .ok (.bastore, 1)) (ha : gIn Y.2.1 a 8 n) (h : gWr σ a n i (vp_nar .boolean x) E = some o) (k : ∀ σ1, E σ1 = some o → AW Y cc own (pc + 1) ls st σ1) : AW Y cc own pc ls (.int x :: .int i :: .ref a :: st) σ := by
  unfold gWr at h
  split at h
  · cases h
  rename_i hi
  obtain ⟨G, u, nL, p, l, e, R, s, m, args, below, meth, c, cells, slots, Q⟩ := Y
  intro hf H locs la hW hS hl
  obtain ⟨q0, hq0, hq⟩ := gIn_arr (G := G) (σ := σ) (by decide) (by decide) ha
  refine va_zast hf.1 hf.2.1 hW.2.2.1.1 hW.1 hW.2.1 hS q0 2 hq rfl hi hd (fun H1 locs1 hP1 hD1 hS1 => ?_)
  rw [gArrW (by decide) (by decide) hq0 (Nat.not_le.mp fun q => hi (Or.inr q))] at hP1 hD1
  exact k _ h hf H1 locs1 la ⟨hP1, hD1, hW.2.2.1, gSt_S hW.2.2.2.1 hS hS1 hf.2.2.2.2.2.1, Nat.le_trans hf.2.2.2.2.2.1 hS1.1⟩ hS1 hl
theorem r_cast {n a : Nat} {i x : Int32} {E : gM → Option β} (hd : decode cc pc = .ok (.castore, 1)) (ha : gIn Y.2.1 a 6 n) (h : gWr σ a n i (vp_nar .char x) E = some o) (k : ∀ σ1, E σ1 = some o → AW Y cc own (pc + 1) ls st σ1) : AW Y cc own pc ls (.int x :: .int i :: .ref a :: st) σ := by
  unfold gWr at h
  split at h
  · cases h
  rename_i hi
  obtain ⟨G, u, nL, p, l, e, R, s, m, args, below, meth, c, cells, slots, Q⟩ := Y
  intro hf H locs la hW hS hl
  obtain ⟨q0, hq0, hq⟩ := gIn_arr (G := G) (σ := σ) (by decide) (by decide) ha
  refine va_cast hf.1 hf.2.1 hW.2.2.1.1 hW.1 hW.2.1 hS q0 0 hq rfl hi hd (fun H1 locs1 hP1 hD1 hS1 => ?_)
  rw [gArrW (by decide) (by decide) hq0 (Nat.not_le.mp fun q => hi (Or.inr q))] at hP1 hD1
  exact k _ h hf H1 locs1 la ⟨hP1, hD1, hW.2.2.1, gSt_S hW.2.2.2.1 hS hS1 hf.2.2.2.2.2.1, Nat.le_trans hf.2.2.2.2.2.1 hS1.1⟩ hS1 hl
theorem r_aald {n a kd : Nat} {i : Int32} {C : String} {E : Nat → Option β} (h9 : 9 ≤ kd) (h11 : kd < 11) (hC : gTi kd = .object C) (f : Nat → Nat) (hd : decode cc pc = .ok (.aaload, 1)) (ha : gIn Y.2.1 a kd n) (hb : ∀ j, j < n → Y.2.1.2.1 (a + j) = f j + 1) (h : gEl n i E = some o) (k : ∀ j, j < n → E j = some o → AW Y cc own (pc + 1) ls (.ref (f j) :: st) σ) : AW Y cc own pc ls (.int i :: .ref a :: st) σ := by
  unfold gEl at h
  split at h
  · cases h
  rename_i hi
  have hn : i.toNatClampNeg < n := Nat.not_le.mp fun q => hi (Or.inr q)
  obtain ⟨G, u, nL, p, l, e, R, s, m, args, below, meth, c, cells, slots, Q⟩ := Y
  intro hf H locs la hW hS hl
  obtain ⟨q0, -, hq⟩ := gIn_rar (G := G) (σ := σ) h9 h11 ha
  refine va_aldq (C := C) hf.1 hf.2.1 hW.2.2.1.1 hW.1 q0 (kd - 6) hq (by rw [gTy_get (by omega) (by omega), hC]) hi hd ?_
  rw [if_pos hn]
  simp only [gRn]
  rw [show u.2.1 (a + i.toNatClampNeg) = f i.toNatClampNeg + 1 from hb _ hn]
  exact k _ hn h hf H locs la hW hS hl
end GR
end
section
/-! contracts in the flat world; calls and returns -/
theorem gG_mem {w : Cond} (h : w ∈ lw_tbl) (hg : goodWord w = true) : w ∈ gG := List.mem_filter.mpr ⟨h, hg⟩
theorem gN_mem {w : Cond} (h : w ∈ lw_tbl) (hg : gNest w = true) : w ∈ gN := List.mem_filter.mpr ⟨h, hg⟩
theorem gG_good {cd : Cond} (h : cd ∈ gG) : GoodIn gG (cd :: gG) := by
  intro w hw
  rcases List.mem_cons.mp hw with q | q
  · subst q
    exact ⟨h, good_of_word (List.mem_filter.mp h).2⟩
  · exact ⟨q, good_of_word (List.mem_filter.mp q).2⟩
theorem gKS_warm {G : gX} {s U : State} (hW : s.WarmedH U.vm) (h : gKS G s) : gKS G U := by
  refine ⟨va_K.moved hW.alike h.1, fun w hw => ?_⟩
  have h1 := h.2 w hw
  have h2 := (List.mem_filter.mp hw).2
  cases w <;> first | exact va_Nw.warmF hW h1 | exact va_Nw.warmM hW h1 | (exact absurd h2 (by simp [gNest]))
theorem gKS_same {G : gX} {s U : State} (hv : s.vm = U.vm) (h : gKS G s) : gKS G U := by
  refine ⟨va_K.moved (by rw [hv]; exact Vm.Alike.refl U.vm) h.1, fun w hw => ?_⟩
  have h1 := h.2 w hw
  have h2 := (List.mem_filter.mp hw).2
  cases w <;> first | exact va_Nw.same rfl hv h1 | (exact absurd h2 (by simp [gNest]))
theorem gWd_warm {G : gX} {u : gU} {σ : gM} {s U : State} {H : Heap} (hW : s.WarmedH U.vm) (h : gWd G u σ s H) : gWd G u σ U H := ⟨h.1, h.2.1, gKS_warm hW h.2.2.1, gSt_moved hW.alike h.2.2.2.1, h.2.2.2.2⟩
theorem gWd_same {G : gX} {u : gU} {σ : gM} {s U : State} {H : Heap} (hv : s.vm = U.vm) (h : gWd G u σ s H) : gWd G u σ U H := ⟨h.1, h.2.1, gKS_same hv h.2.2.1, gSt_moved (by rw [hv]; exact Vm.Alike.refl U.vm) h.2.2.2.1, h.2.2.2.2⟩
def gQ (G : gX) (u : gU) (σ1 : gM) (r : Option Value) : Array Value → State → Outcome → State → Prop := fun _ st oc t => oc = .returned (r.map (gV G)) ∧ gWd G u σ1 t t.heap ∧ va_F (gA G) st t
def gMet (l : Launch) (G : gX) (u : gU) (y : MethodName) (cd : Cond) (rm : Room) (as : List Value) (σ σ1 : gM) (r : Option Value) : Prop := Met l y (cd :: gG) rm (va_Pc (as.map (gV G)) (fun U => gWd G u σ U U.heap)) (gQ G u σ1 r) 0 0 (gA G)
def gEnd (Y : gY) (ret : Option FieldType) (σ1 : gM) (r : Option Value) : Prop := match Y with
  | (G, u, _, _, _, _, _, s, _, args, below, meth, _, cells, slots, Q) => meth.sig.returnType = ret ∧ meth.locks = false ∧ Q = MQ below (gQ G u σ1 r) args s cells slots (gA G)
def gLn (Y : gY) : Launch := Y.2.2.2.2.1
def gRm (Y : gY) : Room := Y.2.2.2.2.2.2.1
def gArgs : List Value → List (Option Value)
  | [] => []
  | .long x :: t => some (.long x) :: none :: gArgs t
  | .double x :: t => some (.double x) :: none :: gArgs t
  | v :: t => some v :: gArgs t
theorem gPr_nones (G : gX) : ∀ (k i : Nat), gPr G i (List.replicate k none) = []
  | 0, i => rfl
  | k + 1, i => by
    rw [List.replicate_succ]
    exact gPr_nones G k (i + 1)
theorem gPr_args (G : gX) (k : Nat) : ∀ (as : List Value) (i : Nat), gPr G i (gArgs as ++ List.replicate k none) = lv_args i (as.map (gV G))
  | [], i => by simpa [gArgs, lv_args] using gPr_nones G k i
  | v :: t, i => by
    cases v <;> simp [gArgs, gPr, lv_args, gV, Value.category, gPr_args G k t]
theorem gMet_of {l : Launch} {G : gX} {u : gU} {y : MethodName} {rm : Room} {as : List Value} {σ σ1 : gM} {r : Option Value} {cc : ByteArray} {maxL k : Nat} {ret : Option FieldType} {own : String} (hy : plainName y.cls = true) (hown : y.cls = own) (hrm : rm.cells = 0 ∧ rm.slots = 0) (hlen : (lg_sl (as.map (gV G))).length ≤ maxL) (ls : List (Option Value)) (hls : gArgs as ++ List.replicate k none = ls)
    (body : ∀ Y : gY, Y.1 = G → Y.2.1 = u → gNL Y = maxL → gLn Y = l → gRm Y = rm → gEnd Y ret σ1 r → AW Y cc own 0 ls [] σ) : gMet l G u y (.code y cc maxL ret) rm as σ σ1 r := by
  refine Met.ofW (cc := cc) (maxL := maxL) (ret := ret) hy rfl ?_
  intro p e s m args below meth c s₁ B hml hv
  obtain ⟨rfl, hW⟩ := hv
  have hts := atoms_spec (ws := Cond.code y cc maxL ret :: gG) B.pre
  have hown' : s.vm.findClass own = some m.cls := by rw [← hown]; exact findClass_of_methodNamed B.named
  have hl := lv_entry (as.map (gV G)) (n := maxL) hlen
  rw [lg_entry_eq]
  generalize (lg_sl (as.map (gV G)) ++ List.replicate (maxL - (lg_sl (as.map (gV G))).length) Slot.unset).toArray = la at hl ⊢
  have hl2 : lv_has la maxL (gPr G 0 ls) := by rw [← hls, gPr_args]; exact hl
  exact body (G, u, maxL, p, l, e, rm, s, m, (as.map (gV G)).toArray, below, meth, c, 0, 0, MQ below (gQ G u σ1 r) (as.map (gV G)).toArray s 0 0 (gA G)) rfl rfl rfl rfl rfl ⟨B.returns, B.notSynchronized, rfl⟩ ⟨B.exec, B.bytes, hml, hown', fun w hw => hts w (List.mem_cons_of_mem _ hw), hW.2.2.2.2, Nat.zero_le _, Nat.zero_le _⟩ s.heap [] la hW va_S.rf hl2
section GC
variable {Y : gY} {cc : ByteArray} {own : String} {pc : Nat} {ls : List (Option Value)} {st : List Value} {σ σ1 : gM} {β : Type} {o : β}
theorem r_iret {x : Int32} (hd : decode cc pc = .ok (.ireturn, 1)) (he : gEnd Y (some .int) σ (some (.int x))) : AW Y cc own pc ls [.int x] σ := by
  obtain ⟨G, u, nL, p, l, e, R, s, m, args, below, meth, c, cells, slots, Q⟩ := Y
  intro hf H locs la hW hS hl
  obtain ⟨h1, h2, rfl⟩ := he
  exact W.iret (v := x) hf.1 hf.2.1 h1 (fun t ht hw => ⟨rfl, by rw [ht]; exact gWd_warm hw hW, hS.F ht⟩) hS.2.2 hd
theorem r_zret {x : Int32} {ty : FieldType} (hd : decode cc pc = .ok (.ireturn, 1)) (he : gEnd Y (some ty) σ (some (.int x))) (hn : vp_nar ty x = x) (hty : narrow ty (.int x) = .int (vp_nar ty x)) : AW Y cc own pc ls [.int x] σ := by
  obtain ⟨G, u, nL, p, l, e, R, s, m, args, below, meth, c, cells, slots, Q⟩ := Y
  intro hf H locs la hW hS hl
  obtain ⟨h1, h2, rfl⟩ := he
  exact W.zret (v := x) hf.1 hf.2.1 h1 (by rw [hty, hn]) (fun t ht hw => ⟨rfl, by rw [ht]; exact gWd_warm hw hW, hS.F ht⟩) hS.2.2 hd
theorem r_vret (hd : decode cc pc = .ok (.return_, 1)) (he : gEnd Y none σ none) : AW Y cc own pc ls [] σ := by
  obtain ⟨G, u, nL, p, l, e, R, s, m, args, below, meth, c, cells, slots, Q⟩ := Y
  intro hf H locs la hW hS hl
  obtain ⟨h1, h2, rfl⟩ := he
  exact W.vret hf.1 hf.2.1 h1 (fun t ht hw => ⟨rfl, by rw [ht]; exact gWd_warm hw hW, hS.F ht⟩) hS.2.2 hd
theorem r_aret {a : Nat} {rt : FieldType} (hd : decode cc pc = .ok (.areturn, 1)) (hrt : (∃ n, rt = .object n) ∨ ∃ t, rt = .array t) (he : gEnd Y (some rt) σ (some (.ref a))) : AW Y cc own pc ls [.ref a] σ := by
  obtain ⟨G, u, nL, p, l, e, R, s, m, args, below, meth, c, cells, slots, Q⟩ := Y
  intro hf H locs la hW hS hl
  obtain ⟨h1, h2, rfl⟩ := he
  exact W.aret (v := .ref (G.2.2.1 a)) hf.1 hf.2.1 h1 hrt (Or.inr ⟨_, rfl⟩) (fun t ht hw => ⟨rfl, by rw [ht]; exact gWd_warm hw hW, hS.F ht⟩) hS.2.2 hd
end GC
theorem gBlind {G : gX} {u : gU} {σ : gM} {av : List Value} : FrameBlind (va_Pc av (fun U => gWd G u σ U U.heap)) := by
  intro a U g mk h
  exact ⟨h.1, gWd_same (s := U) (U := U.calling g mk a) rfl h.2⟩
theorem gAfter {G : gX} {u : gU} {σ σ1 : gM} {r : Option Value} {p : Program} {l : Launch} {e : Env} {R : Room} {s : State} {m : MethodId} {args : Array Value} {below : List Frame} {meth : Method} {c : Code} {H : Heap} {locs : List Loc} {cells slots : Nat} {Q : State → Prop} {pc : Nat} {la : Array Slot} {st0 rest : List Value} {a : Array Value}
    (hr : va_Run p l e R s m args below meth c H locs cells slots 0 0 (F0 m pc la st0) rest (gQ G u σ1 r a) (gA G)) (hz : G.2.2.2 ≤ s.heap.size) (hW : gWd G u σ s H) (hS : va_S (gA G) s.heap H locs)
    (kk : ∀ (H1 : Heap) (locs1 : List Loc), gWd G u σ1 s H1 → va_S (gA G) s.heap H1 locs1 → W p l e R s m args below meth c H1 locs1 cells slots Q (F0 m (pc + 3) la ((r.map (gV G)).toList ++ rest))) : W p l e R s m args below meth c H locs cells slots Q (F0 m pc la st0) := by
  intro T hT X
  obtain ⟨v, st₀, t, T', L, h0, X', hL, e1, e2, ⟨hv, hw, hF⟩, st⟩ := hr T hT X
  cases hv
  obtain ⟨hk1, hk2⟩ := hF
  rw [h0] at hk1 hk2
  have hS1 : va_S (gA G) s.heap T'.heap (locs ++ L) := by
    refine ⟨Nat.le_trans hS.1 (by rw [e1]; exact hk1), fun q h1 h2 => ?_, fun q hq => ?_⟩
    · rw [e1, hk2 q (Nat.lt_of_lt_of_le h1 hS.1) h2]
      exact hS.2.1 q h1 h2
    · rcases List.mem_append.mp hq with h | h
      · exact hS.2.2 q h
      · exact hL q h
  obtain ⟨t2, a1, b1⟩ := kk T'.heap (locs ++ L) ⟨by rw [e1]; exact hw.1, hw.2.1, hW.2.2.1, gSt_S hW.2.2.2.1 hS hS1 hz, Nat.le_trans hz hS1.1⟩ hS1 T' rfl X'
  exact ⟨t2, st t2 a1, b1⟩
def gNm (y : MethodName) (n : Nat) : Prop := y.cls ≠ "java/lang/invoke/MethodHandle" ∧ y.cls ≠ "java/lang/invoke/VarHandle" ∧ (parseMethodDescriptor y.desc).map (fun d => d.parameters.length) = some n
section GCL
variable {Y : gY} {cc : ByteArray} {own : String} {pc : Nat} {ls : List (Option Value)} {st stk : List Value} {σ σ1 : gM}
variable {y : MethodName} {bytes : ByteArray} {maxL n idx : Nat} {ret : Option FieldType} {rm : Room} {r : Option Value}
theorem gStk (G : gX) (r : Option Value) (st : List Value) : (r.map (gV G)).toList ++ st.map (gV G) = (r.toList ++ st).map (gV G) := by cases r <;> rfl
theorem gCat (G : gX) (st : List Value) : ((st.map (gV G)).map fun v => v.category).sum = (st.map fun v => v.category).sum := by
  rw [List.map_map]
  congr 1
  exact List.map_congr_left (fun v _ => gV_cat G v)
theorem r_callV {C : String} {T : u_T} {N b kd : Nat} (as : List Value) (hM : gMet (gLn Y) Y.1 Y.2.1 y (.code y bytes maxL ret) rm (.ref b :: as) σ σ1 r) (hrm : rm.cells = 0 ∧ rm.slots = 0) (hcd : Cond.code y bytes maxL ret ∈ gG) (hw : Cond.methodLink own idx y ∈ gG ∧ Cond.instanceMethod y ∈ gG ∧ Cond.selects C y y ∈ gG ∧ Cond.initialized y.cls ∈ gG) (hnm : gNm y n) (hn : as.length = n) (hR : rm.frames + 1 ≤ (gRm Y).frames ∧ 8 + (maxL + 11) + rm.locals ≤ (gRm Y).locals) (hst : as.reverse ++ .ref b :: st = stk) (hcat : (st.map fun v => v.category).sum ≤ 8) (hc : vwCl[kd]? = some (C, T, N)) (h6 : kd < 6) (hb : gIn Y.2.1 b kd 0) (hd : decode cc pc = .ok (.invokevirtual idx, 3))
    (k : AW Y cc own (pc + 3) ls (r.toList ++ st) σ1) : AW Y cc own pc ls stk σ := by
  subst hst
  obtain ⟨G, u, nL, p, l, e, R, s, m, args, below, meth, c, cells, slots, Q⟩ := Y
  intro hf H locs la hW hS hl
  obtain ⟨q0, -, hq⟩ := gIn_obj (G := G) (σ := σ) h6 hb
  have hts := hf.2.2.2.2.1
  refine gAfter (va_runV (As := as.map (gV G)) (b := G.2.2.1 b) (rest := st.map (gV G)) (n := n) (Ts := gG) ⟨hf.1, hf.2.1, hf.2.2.1, hf.2.2.2.1, hts⟩ hM ⟨callB_of n hts (gG_good hcd) rfl hrm.1 hrm.2 (hts _ hw.2.2.2) (hts _ hw.1) hnm hR, hts _ hw.2.1, hts _ hw.2.2.1⟩ ⟨gBlind, va_recv hW.2.2.1.1 hW.1 hc hq, fun U hU hw1 => ⟨rfl, ?_⟩⟩ rfl (by rw [List.length_map]; exact hn) hl.1 (by rw [List.map_append, List.map_reverse]; rfl) ?_ hd ⟨hf.2.2.2.2.2.2.1, hf.2.2.2.2.2.2.2⟩) hf.2.2.2.2.2.1 hW hS (fun H1 locs1 hW1 hS1 => ?_)
  · show gWd G u σ U U.heap
    rw [hU]
    exact gWd_warm hw1 hW
  · rw [gCat]
    show 2 * 0 + _ ≤ 8
    omega
  · rw [gStk]
    exact k hf H1 locs1 la hW1 hS1 hl
theorem r_callVN {C host : String} {T : u_T} {N b kd : Nat} (as : List Value) (hM : gMet (gLn Y) Y.1 Y.2.1 y (.code y bytes maxL ret) rm (.ref b :: as) σ σ1 r) (hrm : rm.cells = 0 ∧ rm.slots = 0) (hcd : Cond.code y bytes maxL ret ∈ gG) (hw : Cond.methodLinkNest own idx y host ∈ gN ∧ Cond.instanceMethod y ∈ gG ∧ Cond.selects C y y ∈ gG ∧ Cond.initialized y.cls ∈ gG) (hnm : gNm y n) (hn : as.length = n) (hR : rm.frames + 1 ≤ (gRm Y).frames ∧ 8 + (maxL + 11) + rm.locals ≤ (gRm Y).locals) (hst : as.reverse ++ .ref b :: st = stk) (hcat : (st.map fun v => v.category).sum ≤ 8) (hc : vwCl[kd]? = some (C, T, N)) (h6 : kd < 6) (hb : gIn Y.2.1 b kd 0) (hd : decode cc pc = .ok (.invokevirtual idx, 3))
    (k : AW Y cc own (pc + 3) ls (r.toList ++ st) σ1) : AW Y cc own pc ls stk σ := by
  subst hst
  obtain ⟨G, u, nL, p, l, e, R, s, m, args, below, meth, c, cells, slots, Q⟩ := Y
  intro hf H locs la hW hS hl
  obtain ⟨q0, -, hq⟩ := gIn_obj (G := G) (σ := σ) h6 hb
  have hts := hf.2.2.2.2.1
  refine gAfter (va_runVN (As := as.map (gV G)) (b := G.2.2.1 b) (rest := st.map (gV G)) (n := n) (Ts := gG) ⟨hf.1, hf.2.1, hf.2.2.1, hf.2.2.2.1, hts⟩ hM ⟨va_cnB n hts (gG_good hcd) rfl hrm.1 hrm.2 (hW.2.2.1.2 _ hw.1) (hts _ hw.2.2.2) hnm hR, hts _ hw.2.1, hts _ hw.2.2.1⟩ ⟨gBlind, va_recv hW.2.2.1.1 hW.1 hc hq, fun U hU hw1 => ⟨rfl, ?_⟩⟩ rfl (by rw [List.length_map]; exact hn) hl.1 (by rw [List.map_append, List.map_reverse]; rfl) ?_ hd ⟨hf.2.2.2.2.2.2.1, hf.2.2.2.2.2.2.2⟩) hf.2.2.2.2.2.1 hW hS (fun H1 locs1 hW1 hS1 => ?_)
  · show gWd G u σ U U.heap
    rw [hU]
    exact gWd_warm hw1 hW
  · rw [gCat]
    show 2 * 0 + _ ≤ 8
    omega
  · rw [gStk]
    exact k hf H1 locs1 la hW1 hS1 hl
theorem r_callS (as : List Value) (hM : gMet (gLn Y) Y.1 Y.2.1 y (.code y bytes maxL ret) rm as σ σ1 r) (hrm : rm.cells = 0 ∧ rm.slots = 0) (hcd : Cond.code y bytes maxL ret ∈ gG) (hw : Cond.methodLink own idx y ∈ gG ∧ Cond.static y ∈ gG ∧ Cond.initialized y.cls ∈ gG) (hnm : gNm y n) (hn : as.length = n) (hR : rm.frames + 1 ≤ (gRm Y).frames ∧ 8 + (maxL + 11) + rm.locals ≤ (gRm Y).locals) (hst : as.reverse ++ st = stk) (hcat : (st.map fun v => v.category).sum ≤ 8) (hd : decode cc pc = .ok (.invokestatic idx, 3))
    (k : AW Y cc own (pc + 3) ls (r.toList ++ st) σ1) : AW Y cc own pc ls stk σ := by
  subst hst
  obtain ⟨G, u, nL, p, l, e, R, s, m, args, below, meth, c, cells, slots, Q⟩ := Y
  intro hf H locs la hW hS hl
  have hts := hf.2.2.2.2.1
  refine gAfter (va_runS (As := as.map (gV G)) (rest := st.map (gV G)) (n := n) (Ts := gG) ⟨hf.1, hf.2.1, hf.2.2.1, hf.2.2.2.1, hts⟩ hM ⟨callB_of n hts (gG_good hcd) rfl hrm.1 hrm.2 (hts _ hw.2.2) (hts _ hw.1) hnm hR, hts _ hw.2.1⟩ ⟨gBlind, fun U hU hw1 => ⟨rfl, ?_⟩⟩ rfl (by rw [List.length_map]; exact hn) hl.1 (by rw [List.map_append, List.map_reverse]) ?_ hd ⟨hf.2.2.2.2.2.2.1, hf.2.2.2.2.2.2.2⟩) hf.2.2.2.2.2.1 hW hS (fun H1 locs1 hW1 hS1 => ?_)
  · show gWd G u σ U U.heap
    rw [hU]
    exact gWd_warm hw1 hW
  · rw [gCat]
    show 2 * 0 + _ ≤ 8
    omega
  · rw [gStk]
    exact k hf H1 locs1 la hW1 hS1 hl
theorem r_callSN {host : String} (as : List Value) (hM : gMet (gLn Y) Y.1 Y.2.1 y (.code y bytes maxL ret) rm as σ σ1 r) (hrm : rm.cells = 0 ∧ rm.slots = 0) (hcd : Cond.code y bytes maxL ret ∈ gG) (hw : Cond.methodLinkNest own idx y host ∈ gN ∧ Cond.static y ∈ gG ∧ Cond.initialized y.cls ∈ gG) (hnm : gNm y n) (hn : as.length = n) (hR : rm.frames + 1 ≤ (gRm Y).frames ∧ 8 + (maxL + 11) + rm.locals ≤ (gRm Y).locals) (hst : as.reverse ++ st = stk) (hcat : (st.map fun v => v.category).sum ≤ 8) (hd : decode cc pc = .ok (.invokestatic idx, 3))
    (k : AW Y cc own (pc + 3) ls (r.toList ++ st) σ1) : AW Y cc own pc ls stk σ := by
  subst hst
  obtain ⟨G, u, nL, p, l, e, R, s, m, args, below, meth, c, cells, slots, Q⟩ := Y
  intro hf H locs la hW hS hl
  have hts := hf.2.2.2.2.1
  refine gAfter (va_runSN (As := as.map (gV G)) (rest := st.map (gV G)) (n := n) (Ts := gG) ⟨hf.1, hf.2.1, hf.2.2.1, hf.2.2.2.1, hts⟩ hM ⟨va_cnB n hts (gG_good hcd) rfl hrm.1 hrm.2 (hW.2.2.1.2 _ hw.1) (hts _ hw.2.2) hnm hR, hts _ hw.2.1, trivial⟩ ⟨gBlind, fun U hU hw1 => ⟨rfl, ?_⟩⟩ rfl (by rw [List.length_map]; exact hn) hl.1 (by rw [List.map_append, List.map_reverse]) ?_ hd ⟨hf.2.2.2.2.2.2.1, hf.2.2.2.2.2.2.2⟩) hf.2.2.2.2.2.1 hW hS (fun H1 locs1 hW1 hS1 => ?_)
  · show gWd G u σ U U.heap
    rw [hU]
    exact gWd_warm hw1 hW
  · rw [gCat]
    show 2 * 0 + _ ≤ 8
    omega
  · rw [gStk]
    exact k hf H1 locs1 la hW1 hS1 hl
end GCL
end
