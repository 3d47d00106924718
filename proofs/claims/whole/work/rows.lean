section
-- ===== PART A: goes FIRST, ahead of the names: the tables' words, and 'selects' of the private methods out of them =====
/-- a private method of a class that the tables say can be made, by its rows of tables_1 -/
def lw_okq (q : MethodName × Nat) : Prop := (q.1.cls ≠ "java/lang/invoke/MethodHandle" ∧ q.1.cls ≠ "java/lang/invoke/VarHandle") ∧ Cond.instantiable q.1.cls q.2 ∈ tables_1 ∧ Cond.privateMethod q.1 ∈ tables_1 ∧ Cond.instanceMethod q.1 ∈ tables_1
theorem lw_p0 : lw_okq (⟨"LoanVans$Plan", "empty", "()V"⟩, 17) := ⟨⟨by decide +kernel, by decide +kernel⟩, List.mem_of_getElem? (i := 151) (by decide +kernel), List.mem_of_getElem? (i := 159) (by decide +kernel), List.mem_of_getElem? (i := 160) (by decide +kernel)⟩
theorem lw_p1 : lw_okq (⟨"LoanVans$Ways", "forgetAll", "()V"⟩, 8) := ⟨⟨by decide +kernel, by decide +kernel⟩, List.mem_of_getElem? (i := 357) (by decide +kernel), List.mem_of_getElem? (i := 363) (by decide +kernel), List.mem_of_getElem? (i := 364) (by decide +kernel)⟩
theorem lw_p2 : lw_okq (⟨"LoanVans$Reader", "put", "(I)V"⟩, 15) := ⟨⟨by decide +kernel, by decide +kernel⟩, List.mem_of_getElem? (i := 29) (by decide +kernel), List.mem_of_getElem? (i := 458) (by decide +kernel), List.mem_of_getElem? (i := 459) (by decide +kernel)⟩
theorem lw_p3 : lw_okq (⟨"LoanVans$Reader", "readInto", "(LLoanVans$Plan;I)Z"⟩, 15) := ⟨⟨by decide +kernel, by decide +kernel⟩, List.mem_of_getElem? (i := 29) (by decide +kernel), List.mem_of_getElem? (i := 466) (by decide +kernel), List.mem_of_getElem? (i := 467) (by decide +kernel)⟩
theorem lw_p4 : lw_okq (⟨"LoanVans$Reader", "begin", "(LLoanVans$Plan;I)V"⟩, 15) := ⟨⟨by decide +kernel, by decide +kernel⟩, List.mem_of_getElem? (i := 29) (by decide +kernel), List.mem_of_getElem? (i := 470) (by decide +kernel), List.mem_of_getElem? (i := 471) (by decide +kernel)⟩
theorem lw_p5 : lw_okq (⟨"LoanVans$Reader", "advance", "()V"⟩, 15) := ⟨⟨by decide +kernel, by decide +kernel⟩, List.mem_of_getElem? (i := 29) (by decide +kernel), List.mem_of_getElem? (i := 478) (by decide +kernel), List.mem_of_getElem? (i := 479) (by decide +kernel)⟩
theorem lw_p6 : lw_okq (⟨"LoanVans$Reader", "scanWord", "()V"⟩, 15) := ⟨⟨by decide +kernel, by decide +kernel⟩, List.mem_of_getElem? (i := 29) (by decide +kernel), List.mem_of_getElem? (i := 488) (by decide +kernel), List.mem_of_getElem? (i := 489) (by decide +kernel)⟩
theorem lw_p7 : lw_okq (⟨"LoanVans$Reader", "tokenOfWord", "()I"⟩, 15) := ⟨⟨by decide +kernel, by decide +kernel⟩, List.mem_of_getElem? (i := 29) (by decide +kernel), List.mem_of_getElem? (i := 492) (by decide +kernel), List.mem_of_getElem? (i := 493) (by decide +kernel)⟩
theorem lw_p8 : lw_okq (⟨"LoanVans$Reader", "scanNumber", "()V"⟩, 15) := ⟨⟨by decide +kernel, by decide +kernel⟩, List.mem_of_getElem? (i := 29) (by decide +kernel), List.mem_of_getElem? (i := 499) (by decide +kernel), List.mem_of_getElem? (i := 500) (by decide +kernel)⟩
theorem lw_p9 : lw_okq (⟨"LoanVans$Reader", "readBranch", "()V"⟩, 15) := ⟨⟨by decide +kernel, by decide +kernel⟩, List.mem_of_getElem? (i := 29) (by decide +kernel), List.mem_of_getElem? (i := 503) (by decide +kernel), List.mem_of_getElem? (i := 504) (by decide +kernel)⟩
theorem lw_p10 : lw_okq (⟨"LoanVans$Reader", "beginsRow", "(II)Z"⟩, 15) := ⟨⟨by decide +kernel, by decide +kernel⟩, List.mem_of_getElem? (i := 29) (by decide +kernel), List.mem_of_getElem? (i := 507) (by decide +kernel), List.mem_of_getElem? (i := 508) (by decide +kernel)⟩
theorem lw_p11 : lw_okq (⟨"LoanVans$Reader", "fail", "(I)V"⟩, 15) := ⟨⟨by decide +kernel, by decide +kernel⟩, List.mem_of_getElem? (i := 29) (by decide +kernel), List.mem_of_getElem? (i := 511) (by decide +kernel), List.mem_of_getElem? (i := 512) (by decide +kernel)⟩
theorem lw_p12 : lw_okq (⟨"LoanVans$Reader", "takeNewName", "([II)I"⟩, 15) := ⟨⟨by decide +kernel, by decide +kernel⟩, List.mem_of_getElem? (i := 29) (by decide +kernel), List.mem_of_getElem? (i := 515) (by decide +kernel), List.mem_of_getElem? (i := 516) (by decide +kernel)⟩
theorem lw_p13 : lw_okq (⟨"LoanVans$Reader", "numberOfName", "([II)I"⟩, 15) := ⟨⟨by decide +kernel, by decide +kernel⟩, List.mem_of_getElem? (i := 29) (by decide +kernel), List.mem_of_getElem? (i := 519) (by decide +kernel), List.mem_of_getElem? (i := 520) (by decide +kernel)⟩
theorem lw_p14 : lw_okq (⟨"LoanVans$Reader", "takeNumber", "(II)I"⟩, 15) := ⟨⟨by decide +kernel, by decide +kernel⟩, List.mem_of_getElem? (i := 29) (by decide +kernel), List.mem_of_getElem? (i := 523) (by decide +kernel), List.mem_of_getElem? (i := 524) (by decide +kernel)⟩
theorem lw_p15 : lw_okq (⟨"LoanVans$Reader", "readTitle", "()V"⟩, 15) := ⟨⟨by decide +kernel, by decide +kernel⟩, List.mem_of_getElem? (i := 29) (by decide +kernel), List.mem_of_getElem? (i := 527) (by decide +kernel), List.mem_of_getElem? (i := 528) (by decide +kernel)⟩
def lw_privs_1 : List (MethodName × Nat) := [(⟨"LoanVans$Plan", "empty", "()V"⟩, 17), (⟨"LoanVans$Ways", "forgetAll", "()V"⟩, 8), (⟨"LoanVans$Reader", "put", "(I)V"⟩, 15), (⟨"LoanVans$Reader", "readInto", "(LLoanVans$Plan;I)Z"⟩, 15), (⟨"LoanVans$Reader", "begin", "(LLoanVans$Plan;I)V"⟩, 15), (⟨"LoanVans$Reader", "advance", "()V"⟩, 15), (⟨"LoanVans$Reader", "scanWord", "()V"⟩, 15), (⟨"LoanVans$Reader", "tokenOfWord", "()I"⟩, 15), (⟨"LoanVans$Reader", "scanNumber", "()V"⟩, 15), (⟨"LoanVans$Reader", "readBranch", "()V"⟩, 15), (⟨"LoanVans$Reader", "beginsRow", "(II)Z"⟩, 15), (⟨"LoanVans$Reader", "fail", "(I)V"⟩, 15), (⟨"LoanVans$Reader", "takeNewName", "([II)I"⟩, 15), (⟨"LoanVans$Reader", "numberOfName", "([II)I"⟩, 15), (⟨"LoanVans$Reader", "takeNumber", "(II)I"⟩, 15), (⟨"LoanVans$Reader", "readTitle", "()V"⟩, 15)]
theorem lw_r1 : ∀ q ∈ lw_privs_1, lw_okq q := List.forall_mem_cons.mpr ⟨lw_p0, List.forall_mem_cons.mpr ⟨lw_p1, List.forall_mem_cons.mpr ⟨lw_p2, List.forall_mem_cons.mpr ⟨lw_p3, List.forall_mem_cons.mpr ⟨lw_p4, List.forall_mem_cons.mpr ⟨lw_p5, List.forall_mem_cons.mpr ⟨lw_p6, List.forall_mem_cons.mpr ⟨lw_p7, List.forall_mem_cons.mpr ⟨lw_p8, List.forall_mem_cons.mpr ⟨lw_p9, List.forall_mem_cons.mpr ⟨lw_p10, List.forall_mem_cons.mpr ⟨lw_p11, List.forall_mem_cons.mpr ⟨lw_p12, List.forall_mem_cons.mpr ⟨lw_p13, List.forall_mem_cons.mpr ⟨lw_p14, List.forall_mem_cons.mpr ⟨lw_p15, fun _ h => absurd h List.not_mem_nil⟩⟩⟩⟩⟩⟩⟩⟩⟩⟩⟩⟩⟩⟩⟩⟩
theorem lw_p16 : lw_okq (⟨"LoanVans$Reader", "readItem", "()V"⟩, 15) := ⟨⟨by decide +kernel, by decide +kernel⟩, List.mem_of_getElem? (i := 29) (by decide +kernel), List.mem_of_getElem? (i := 531) (by decide +kernel), List.mem_of_getElem? (i := 532) (by decide +kernel)⟩
theorem lw_p17 : lw_okq (⟨"LoanVans$Reader", "takeToldName", "([II)I"⟩, 15) := ⟨⟨by decide +kernel, by decide +kernel⟩, List.mem_of_getElem? (i := 29) (by decide +kernel), List.mem_of_getElem? (i := 535) (by decide +kernel), List.mem_of_getElem? (i := 536) (by decide +kernel)⟩
theorem lw_p18 : lw_okq (⟨"LoanVans$Reader", "readVan", "()V"⟩, 15) := ⟨⟨by decide +kernel, by decide +kernel⟩, List.mem_of_getElem? (i := 29) (by decide +kernel), List.mem_of_getElem? (i := 539) (by decide +kernel), List.mem_of_getElem? (i := 540) (by decide +kernel)⟩
theorem lw_p19 : lw_okq (⟨"LoanVans$Reader", "readStop", "(I)V"⟩, 15) := ⟨⟨by decide +kernel, by decide +kernel⟩, List.mem_of_getElem? (i := 29) (by decide +kernel), List.mem_of_getElem? (i := 543) (by decide +kernel), List.mem_of_getElem? (i := 544) (by decide +kernel)⟩
theorem lw_p20 : lw_okq (⟨"LoanVans$Reader", "readHold", "()V"⟩, 15) := ⟨⟨by decide +kernel, by decide +kernel⟩, List.mem_of_getElem? (i := 29) (by decide +kernel), List.mem_of_getElem? (i := 547) (by decide +kernel), List.mem_of_getElem? (i := 548) (by decide +kernel)⟩
theorem lw_p21 : lw_okq (⟨"LoanVans$Reader", "readGrace", "()V"⟩, 15) := ⟨⟨by decide +kernel, by decide +kernel⟩, List.mem_of_getElem? (i := 29) (by decide +kernel), List.mem_of_getElem? (i := 551) (by decide +kernel), List.mem_of_getElem? (i := 552) (by decide +kernel)⟩
theorem lw_p22 : lw_okq (⟨"LoanVans$Reader", "readRenews", "()V"⟩, 15) := ⟨⟨by decide +kernel, by decide +kernel⟩, List.mem_of_getElem? (i := 29) (by decide +kernel), List.mem_of_getElem? (i := 555) (by decide +kernel), List.mem_of_getElem? (i := 556) (by decide +kernel)⟩
theorem lw_p23 : lw_okq (⟨"LoanVans$Reader", "endLine", "()V"⟩, 15) := ⟨⟨by decide +kernel, by decide +kernel⟩, List.mem_of_getElem? (i := 29) (by decide +kernel), List.mem_of_getElem? (i := 559) (by decide +kernel), List.mem_of_getElem? (i := 560) (by decide +kernel)⟩
theorem lw_p24 : lw_okq (⟨"LoanVans$Plan", "copyFrom", "(LLoanVans$Plan;)V"⟩, 17) := ⟨⟨by decide +kernel, by decide +kernel⟩, List.mem_of_getElem? (i := 151) (by decide +kernel), List.mem_of_getElem? (i := 563) (by decide +kernel), List.mem_of_getElem? (i := 564) (by decide +kernel)⟩
theorem lw_p25 : lw_okq (⟨"LoanVans$World", "begin", "()V"⟩, 5) := ⟨⟨by decide +kernel, by decide +kernel⟩, List.mem_of_getElem? (i := 145) (by decide +kernel), List.mem_of_getElem? (i := 570) (by decide +kernel), List.mem_of_getElem? (i := 571) (by decide +kernel)⟩
theorem lw_p26 : lw_okq (⟨"LoanVans$State", "begin", "(LLoanVans$Plan;)V"⟩, 19) := ⟨⟨by decide +kernel, by decide +kernel⟩, List.mem_of_getElem? (i := 259) (by decide +kernel), List.mem_of_getElem? (i := 574) (by decide +kernel), List.mem_of_getElem? (i := 575) (by decide +kernel)⟩
theorem lw_p27 : lw_okq (⟨"LoanVans$State", "putAt", "(II)V"⟩, 19) := ⟨⟨by decide +kernel, by decide +kernel⟩, List.mem_of_getElem? (i := 259) (by decide +kernel), List.mem_of_getElem? (i := 578) (by decide +kernel), List.mem_of_getElem? (i := 579) (by decide +kernel)⟩
theorem lw_p28 : lw_okq (⟨"LoanVans$State", "addHold", "(II)I"⟩, 19) := ⟨⟨by decide +kernel, by decide +kernel⟩, List.mem_of_getElem? (i := 259) (by decide +kernel), List.mem_of_getElem? (i := 582) (by decide +kernel), List.mem_of_getElem? (i := 583) (by decide +kernel)⟩
theorem lw_p29 : lw_okq (⟨"LoanVans$Past", "clear", "()V"⟩, 3) := ⟨⟨by decide +kernel, by decide +kernel⟩, List.mem_of_getElem? (i := 413) (by decide +kernel), List.mem_of_getElem? (i := 587) (by decide +kernel), List.mem_of_getElem? (i := 588) (by decide +kernel)⟩
theorem lw_p30 : lw_okq (⟨"LoanVans", "isVan", "(I)Z"⟩, 7) := ⟨⟨by decide +kernel, by decide +kernel⟩, List.mem_of_getElem? (i := 21) (by decide +kernel), List.mem_of_getElem? (i := 599) (by decide +kernel), List.mem_of_getElem? (i := 600) (by decide +kernel)⟩
theorem lw_p31 : lw_okq (⟨"LoanVans$Plan", "branchOn", "(II)I"⟩, 17) := ⟨⟨by decide +kernel, by decide +kernel⟩, List.mem_of_getElem? (i := 151) (by decide +kernel), List.mem_of_getElem? (i := 603) (by decide +kernel), List.mem_of_getElem? (i := 604) (by decide +kernel)⟩
def lw_privs_2 : List (MethodName × Nat) := [(⟨"LoanVans$Reader", "readItem", "()V"⟩, 15), (⟨"LoanVans$Reader", "takeToldName", "([II)I"⟩, 15), (⟨"LoanVans$Reader", "readVan", "()V"⟩, 15), (⟨"LoanVans$Reader", "readStop", "(I)V"⟩, 15), (⟨"LoanVans$Reader", "readHold", "()V"⟩, 15), (⟨"LoanVans$Reader", "readGrace", "()V"⟩, 15), (⟨"LoanVans$Reader", "readRenews", "()V"⟩, 15), (⟨"LoanVans$Reader", "endLine", "()V"⟩, 15), (⟨"LoanVans$Plan", "copyFrom", "(LLoanVans$Plan;)V"⟩, 17), (⟨"LoanVans$World", "begin", "()V"⟩, 5), (⟨"LoanVans$State", "begin", "(LLoanVans$Plan;)V"⟩, 19), (⟨"LoanVans$State", "putAt", "(II)V"⟩, 19), (⟨"LoanVans$State", "addHold", "(II)I"⟩, 19), (⟨"LoanVans$Past", "clear", "()V"⟩, 3), (⟨"LoanVans", "isVan", "(I)Z"⟩, 7), (⟨"LoanVans$Plan", "branchOn", "(II)I"⟩, 17)]
theorem lw_r2 : ∀ q ∈ lw_privs_2, lw_okq q := List.forall_mem_cons.mpr ⟨lw_p16, List.forall_mem_cons.mpr ⟨lw_p17, List.forall_mem_cons.mpr ⟨lw_p18, List.forall_mem_cons.mpr ⟨lw_p19, List.forall_mem_cons.mpr ⟨lw_p20, List.forall_mem_cons.mpr ⟨lw_p21, List.forall_mem_cons.mpr ⟨lw_p22, List.forall_mem_cons.mpr ⟨lw_p23, List.forall_mem_cons.mpr ⟨lw_p24, List.forall_mem_cons.mpr ⟨lw_p25, List.forall_mem_cons.mpr ⟨lw_p26, List.forall_mem_cons.mpr ⟨lw_p27, List.forall_mem_cons.mpr ⟨lw_p28, List.forall_mem_cons.mpr ⟨lw_p29, List.forall_mem_cons.mpr ⟨lw_p30, List.forall_mem_cons.mpr ⟨lw_p31, fun _ h => absurd h List.not_mem_nil⟩⟩⟩⟩⟩⟩⟩⟩⟩⟩⟩⟩⟩⟩⟩⟩
theorem lw_p32 : lw_okq (⟨"LoanVans$State", "countItems", "(II)I"⟩, 19) := ⟨⟨by decide +kernel, by decide +kernel⟩, List.mem_of_getElem? (i := 259) (by decide +kernel), List.mem_of_getElem? (i := 607) (by decide +kernel), List.mem_of_getElem? (i := 608) (by decide +kernel)⟩
theorem lw_p33 : lw_okq (⟨"LoanVans$State", "isThere", "(III)Z"⟩, 19) := ⟨⟨by decide +kernel, by decide +kernel⟩, List.mem_of_getElem? (i := 259) (by decide +kernel), List.mem_of_getElem? (i := 611) (by decide +kernel), List.mem_of_getElem? (i := 612) (by decide +kernel)⟩
theorem lw_p34 : lw_okq (⟨"LoanVans", "isStop", "(II)Z"⟩, 7) := ⟨⟨by decide +kernel, by decide +kernel⟩, List.mem_of_getElem? (i := 21) (by decide +kernel), List.mem_of_getElem? (i := 619) (by decide +kernel), List.mem_of_getElem? (i := 620) (by decide +kernel)⟩
theorem lw_p35 : lw_okq (⟨"LoanVans", "isBranch", "(I)Z"⟩, 7) := ⟨⟨by decide +kernel, by decide +kernel⟩, List.mem_of_getElem? (i := 21) (by decide +kernel), List.mem_of_getElem? (i := 627) (by decide +kernel), List.mem_of_getElem? (i := 628) (by decide +kernel)⟩
theorem lw_p36 : lw_okq (⟨"LoanVans", "isTitle", "(I)Z"⟩, 7) := ⟨⟨by decide +kernel, by decide +kernel⟩, List.mem_of_getElem? (i := 21) (by decide +kernel), List.mem_of_getElem? (i := 631) (by decide +kernel), List.mem_of_getElem? (i := 632) (by decide +kernel)⟩
theorem lw_p37 : lw_okq (⟨"LoanVans$Past", "keep", "(LLoanVans$State;)V"⟩, 3) := ⟨⟨by decide +kernel, by decide +kernel⟩, List.mem_of_getElem? (i := 413) (by decide +kernel), List.mem_of_getElem? (i := 635) (by decide +kernel), List.mem_of_getElem? (i := 636) (by decide +kernel)⟩
theorem lw_p38 : lw_okq (⟨"LoanVans$State", "copyFrom", "(LLoanVans$State;)V"⟩, 19) := ⟨⟨by decide +kernel, by decide +kernel⟩, List.mem_of_getElem? (i := 259) (by decide +kernel), List.mem_of_getElem? (i := 640) (by decide +kernel), List.mem_of_getElem? (i := 641) (by decide +kernel)⟩
theorem lw_p39 : lw_okq (⟨"LoanVans", "isHold", "(I)Z"⟩, 7) := ⟨⟨by decide +kernel, by decide +kernel⟩, List.mem_of_getElem? (i := 21) (by decide +kernel), List.mem_of_getElem? (i := 651) (by decide +kernel), List.mem_of_getElem? (i := 652) (by decide +kernel)⟩
theorem lw_p40 : lw_okq (⟨"LoanVans$State", "isWaiting", "(I)Z"⟩, 19) := ⟨⟨by decide +kernel, by decide +kernel⟩, List.mem_of_getElem? (i := 259) (by decide +kernel), List.mem_of_getElem? (i := 655) (by decide +kernel), List.mem_of_getElem? (i := 656) (by decide +kernel)⟩
theorem lw_p41 : lw_okq (⟨"LoanVans$State", "cancelHold", "(I)V"⟩, 19) := ⟨⟨by decide +kernel, by decide +kernel⟩, List.mem_of_getElem? (i := 259) (by decide +kernel), List.mem_of_getElem? (i := 659) (by decide +kernel), List.mem_of_getElem? (i := 660) (by decide +kernel)⟩
theorem lw_p42 : lw_okq (⟨"LoanVans", "isItem", "(I)Z"⟩, 7) := ⟨⟨by decide +kernel, by decide +kernel⟩, List.mem_of_getElem? (i := 21) (by decide +kernel), List.mem_of_getElem? (i := 667) (by decide +kernel), List.mem_of_getElem? (i := 668) (by decide +kernel)⟩
theorem lw_p43 : lw_okq (⟨"LoanVans$Plan", "openFrom", "(II)I"⟩, 17) := ⟨⟨by decide +kernel, by decide +kernel⟩, List.mem_of_getElem? (i := 151) (by decide +kernel), List.mem_of_getElem? (i := 671) (by decide +kernel), List.mem_of_getElem? (i := 672) (by decide +kernel)⟩
theorem lw_p44 : lw_okq (⟨"LoanVans$Plan", "isShut", "(II)Z"⟩, 17) := ⟨⟨by decide +kernel, by decide +kernel⟩, List.mem_of_getElem? (i := 151) (by decide +kernel), List.mem_of_getElem? (i := 675) (by decide +kernel), List.mem_of_getElem? (i := 676) (by decide +kernel)⟩
theorem lw_p45 : lw_okq (⟨"LoanVans$State", "countOpenOf", "(I)I"⟩, 19) := ⟨⟨by decide +kernel, by decide +kernel⟩, List.mem_of_getElem? (i := 259) (by decide +kernel), List.mem_of_getElem? (i := 683) (by decide +kernel), List.mem_of_getElem? (i := 684) (by decide +kernel)⟩
theorem lw_p46 : lw_okq (⟨"LoanVans$State", "isOpenOf", "(II)Z"⟩, 19) := ⟨⟨by decide +kernel, by decide +kernel⟩, List.mem_of_getElem? (i := 259) (by decide +kernel), List.mem_of_getElem? (i := 687) (by decide +kernel), List.mem_of_getElem? (i := 688) (by decide +kernel)⟩
theorem lw_p47 : lw_okq (⟨"LoanVans$World", "goDays", "(I)V"⟩, 5) := ⟨⟨by decide +kernel, by decide +kernel⟩, List.mem_of_getElem? (i := 145) (by decide +kernel), List.mem_of_getElem? (i := 698) (by decide +kernel), List.mem_of_getElem? (i := 699) (by decide +kernel)⟩
def lw_privs_3 : List (MethodName × Nat) := [(⟨"LoanVans$State", "countItems", "(II)I"⟩, 19), (⟨"LoanVans$State", "isThere", "(III)Z"⟩, 19), (⟨"LoanVans", "isStop", "(II)Z"⟩, 7), (⟨"LoanVans", "isBranch", "(I)Z"⟩, 7), (⟨"LoanVans", "isTitle", "(I)Z"⟩, 7), (⟨"LoanVans$Past", "keep", "(LLoanVans$State;)V"⟩, 3), (⟨"LoanVans$State", "copyFrom", "(LLoanVans$State;)V"⟩, 19), (⟨"LoanVans", "isHold", "(I)Z"⟩, 7), (⟨"LoanVans$State", "isWaiting", "(I)Z"⟩, 19), (⟨"LoanVans$State", "cancelHold", "(I)V"⟩, 19), (⟨"LoanVans", "isItem", "(I)Z"⟩, 7), (⟨"LoanVans$Plan", "openFrom", "(II)I"⟩, 17), (⟨"LoanVans$Plan", "isShut", "(II)Z"⟩, 17), (⟨"LoanVans$State", "countOpenOf", "(I)I"⟩, 19), (⟨"LoanVans$State", "isOpenOf", "(II)Z"⟩, 19), (⟨"LoanVans$World", "goDays", "(I)V"⟩, 5)]
theorem lw_r3 : ∀ q ∈ lw_privs_3, lw_okq q := List.forall_mem_cons.mpr ⟨lw_p32, List.forall_mem_cons.mpr ⟨lw_p33, List.forall_mem_cons.mpr ⟨lw_p34, List.forall_mem_cons.mpr ⟨lw_p35, List.forall_mem_cons.mpr ⟨lw_p36, List.forall_mem_cons.mpr ⟨lw_p37, List.forall_mem_cons.mpr ⟨lw_p38, List.forall_mem_cons.mpr ⟨lw_p39, List.forall_mem_cons.mpr ⟨lw_p40, List.forall_mem_cons.mpr ⟨lw_p41, List.forall_mem_cons.mpr ⟨lw_p42, List.forall_mem_cons.mpr ⟨lw_p43, List.forall_mem_cons.mpr ⟨lw_p44, List.forall_mem_cons.mpr ⟨lw_p45, List.forall_mem_cons.mpr ⟨lw_p46, List.forall_mem_cons.mpr ⟨lw_p47, fun _ h => absurd h List.not_mem_nil⟩⟩⟩⟩⟩⟩⟩⟩⟩⟩⟩⟩⟩⟩⟩⟩
theorem lw_p48 : lw_okq (⟨"LoanVans$World", "goDay", "()V"⟩, 5) := ⟨⟨by decide +kernel, by decide +kernel⟩, List.mem_of_getElem? (i := 145) (by decide +kernel), List.mem_of_getElem? (i := 702) (by decide +kernel), List.mem_of_getElem? (i := 703) (by decide +kernel)⟩
theorem lw_p49 : lw_okq (⟨"LoanVans$World", "takeBackItems", "()V"⟩, 5) := ⟨⟨by decide +kernel, by decide +kernel⟩, List.mem_of_getElem? (i := 145) (by decide +kernel), List.mem_of_getElem? (i := 706) (by decide +kernel), List.mem_of_getElem? (i := 707) (by decide +kernel)⟩
theorem lw_p50 : lw_okq (⟨"LoanVans$State", "takeBack", "(I)V"⟩, 19) := ⟨⟨by decide +kernel, by decide +kernel⟩, List.mem_of_getElem? (i := 259) (by decide +kernel), List.mem_of_getElem? (i := 710) (by decide +kernel), List.mem_of_getElem? (i := 711) (by decide +kernel)⟩
theorem lw_p51 : lw_okq (⟨"LoanVans$World", "giveItems", "()V"⟩, 5) := ⟨⟨by decide +kernel, by decide +kernel⟩, List.mem_of_getElem? (i := 145) (by decide +kernel), List.mem_of_getElem? (i := 714) (by decide +kernel), List.mem_of_getElem? (i := 715) (by decide +kernel)⟩
theorem lw_p52 : lw_okq (⟨"LoanVans$World", "nearestFree", "(II)I"⟩, 5) := ⟨⟨by decide +kernel, by decide +kernel⟩, List.mem_of_getElem? (i := 145) (by decide +kernel), List.mem_of_getElem? (i := 718) (by decide +kernel), List.mem_of_getElem? (i := 719) (by decide +kernel)⟩
theorem lw_p53 : lw_okq (⟨"LoanVans$State", "isFree", "(I)Z"⟩, 19) := ⟨⟨by decide +kernel, by decide +kernel⟩, List.mem_of_getElem? (i := 259) (by decide +kernel), List.mem_of_getElem? (i := 723) (by decide +kernel), List.mem_of_getElem? (i := 724) (by decide +kernel)⟩
theorem lw_p54 : lw_okq (⟨"LoanVans$Ways", "arrivalAt", "(III)I"⟩, 8) := ⟨⟨by decide +kernel, by decide +kernel⟩, List.mem_of_getElem? (i := 357) (by decide +kernel), List.mem_of_getElem? (i := 727) (by decide +kernel), List.mem_of_getElem? (i := 728) (by decide +kernel)⟩
theorem lw_p55 : lw_okq (⟨"LoanVans$Ways", "beginRow", "(III)V"⟩, 8) := ⟨⟨by decide +kernel, by decide +kernel⟩, List.mem_of_getElem? (i := 357) (by decide +kernel), List.mem_of_getElem? (i := 731) (by decide +kernel), List.mem_of_getElem? (i := 732) (by decide +kernel)⟩
theorem lw_p56 : lw_okq (⟨"LoanVans$State", "giveItem", "(II)V"⟩, 19) := ⟨⟨by decide +kernel, by decide +kernel⟩, List.mem_of_getElem? (i := 259) (by decide +kernel), List.mem_of_getElem? (i := 737) (by decide +kernel), List.mem_of_getElem? (i := 738) (by decide +kernel)⟩
theorem lw_p57 : lw_okq (⟨"LoanVans$World", "lendItems", "()V"⟩, 5) := ⟨⟨by decide +kernel, by decide +kernel⟩, List.mem_of_getElem? (i := 145) (by decide +kernel), List.mem_of_getElem? (i := 741) (by decide +kernel), List.mem_of_getElem? (i := 742) (by decide +kernel)⟩
theorem lw_p58 : lw_okq (⟨"LoanVans$State", "lend", "(III)V"⟩, 19) := ⟨⟨by decide +kernel, by decide +kernel⟩, List.mem_of_getElem? (i := 259) (by decide +kernel), List.mem_of_getElem? (i := 748) (by decide +kernel), List.mem_of_getElem? (i := 749) (by decide +kernel)⟩
theorem lw_p59 : lw_okq (⟨"LoanVans$World", "leaveVan", "(I)V"⟩, 5) := ⟨⟨by decide +kernel, by decide +kernel⟩, List.mem_of_getElem? (i := 145) (by decide +kernel), List.mem_of_getElem? (i := 752) (by decide +kernel), List.mem_of_getElem? (i := 753) (by decide +kernel)⟩
theorem lw_p60 : lw_okq (⟨"LoanVans$World", "boardVan", "(I)V"⟩, 5) := ⟨⟨by decide +kernel, by decide +kernel⟩, List.mem_of_getElem? (i := 145) (by decide +kernel), List.mem_of_getElem? (i := 757) (by decide +kernel), List.mem_of_getElem? (i := 758) (by decide +kernel)⟩
theorem lw_p61 : lw_okq (⟨"LoanVans$World", "lineUp", "(I)V"⟩, 5) := ⟨⟨by decide +kernel, by decide +kernel⟩, List.mem_of_getElem? (i := 145) (by decide +kernel), List.mem_of_getElem? (i := 763) (by decide +kernel), List.mem_of_getElem? (i := 764) (by decide +kernel)⟩
theorem lw_p62 : lw_okq (⟨"LoanVans$World", "stepIntoLine", "(II)V"⟩, 5) := ⟨⟨by decide +kernel, by decide +kernel⟩, List.mem_of_getElem? (i := 145) (by decide +kernel), List.mem_of_getElem? (i := 767) (by decide +kernel), List.mem_of_getElem? (i := 768) (by decide +kernel)⟩
theorem lw_p63 : lw_okq (⟨"LoanVans$World", "goalOf", "(I)I"⟩, 5) := ⟨⟨by decide +kernel, by decide +kernel⟩, List.mem_of_getElem? (i := 145) (by decide +kernel), List.mem_of_getElem? (i := 771) (by decide +kernel), List.mem_of_getElem? (i := 772) (by decide +kernel)⟩
def lw_privs_4 : List (MethodName × Nat) := [(⟨"LoanVans$World", "goDay", "()V"⟩, 5), (⟨"LoanVans$World", "takeBackItems", "()V"⟩, 5), (⟨"LoanVans$State", "takeBack", "(I)V"⟩, 19), (⟨"LoanVans$World", "giveItems", "()V"⟩, 5), (⟨"LoanVans$World", "nearestFree", "(II)I"⟩, 5), (⟨"LoanVans$State", "isFree", "(I)Z"⟩, 19), (⟨"LoanVans$Ways", "arrivalAt", "(III)I"⟩, 8), (⟨"LoanVans$Ways", "beginRow", "(III)V"⟩, 8), (⟨"LoanVans$State", "giveItem", "(II)V"⟩, 19), (⟨"LoanVans$World", "lendItems", "()V"⟩, 5), (⟨"LoanVans$State", "lend", "(III)V"⟩, 19), (⟨"LoanVans$World", "leaveVan", "(I)V"⟩, 5), (⟨"LoanVans$World", "boardVan", "(I)V"⟩, 5), (⟨"LoanVans$World", "lineUp", "(I)V"⟩, 5), (⟨"LoanVans$World", "stepIntoLine", "(II)V"⟩, 5), (⟨"LoanVans$World", "goalOf", "(I)I"⟩, 5)]
theorem lw_r4 : ∀ q ∈ lw_privs_4, lw_okq q := List.forall_mem_cons.mpr ⟨lw_p48, List.forall_mem_cons.mpr ⟨lw_p49, List.forall_mem_cons.mpr ⟨lw_p50, List.forall_mem_cons.mpr ⟨lw_p51, List.forall_mem_cons.mpr ⟨lw_p52, List.forall_mem_cons.mpr ⟨lw_p53, List.forall_mem_cons.mpr ⟨lw_p54, List.forall_mem_cons.mpr ⟨lw_p55, List.forall_mem_cons.mpr ⟨lw_p56, List.forall_mem_cons.mpr ⟨lw_p57, List.forall_mem_cons.mpr ⟨lw_p58, List.forall_mem_cons.mpr ⟨lw_p59, List.forall_mem_cons.mpr ⟨lw_p60, List.forall_mem_cons.mpr ⟨lw_p61, List.forall_mem_cons.mpr ⟨lw_p62, List.forall_mem_cons.mpr ⟨lw_p63, fun _ h => absurd h List.not_mem_nil⟩⟩⟩⟩⟩⟩⟩⟩⟩⟩⟩⟩⟩⟩⟩⟩
theorem lw_p64 : lw_okq (⟨"LoanVans$Ways", "vanToBoard", "(IIII)I"⟩, 8) := ⟨⟨by decide +kernel, by decide +kernel⟩, List.mem_of_getElem? (i := 357) (by decide +kernel), List.mem_of_getElem? (i := 775) (by decide +kernel), List.mem_of_getElem? (i := 776) (by decide +kernel)⟩
theorem lw_p65 : lw_okq (⟨"LoanVans$State", "board", "(IIII)V"⟩, 19) := ⟨⟨by decide +kernel, by decide +kernel⟩, List.mem_of_getElem? (i := 259) (by decide +kernel), List.mem_of_getElem? (i := 780) (by decide +kernel), List.mem_of_getElem? (i := 781) (by decide +kernel)⟩
theorem lw_p66 : lw_okq (⟨"LoanVans$Past", "restore", "(LLoanVans$State;)V"⟩, 3) := ⟨⟨by decide +kernel, by decide +kernel⟩, List.mem_of_getElem? (i := 413) (by decide +kernel), List.mem_of_getElem? (i := 788) (by decide +kernel), List.mem_of_getElem? (i := 789) (by decide +kernel)⟩
theorem lw_p67 : lw_okq (⟨"LoanVans$World", "countLoans", "(II)I"⟩, 5) := ⟨⟨by decide +kernel, by decide +kernel⟩, List.mem_of_getElem? (i := 145) (by decide +kernel), List.mem_of_getElem? (i := 797) (by decide +kernel), List.mem_of_getElem? (i := 798) (by decide +kernel)⟩
theorem lw_p68 : lw_okq (⟨"LoanVans$World", "homeOfLoan", "(I)I"⟩, 5) := ⟨⟨by decide +kernel, by decide +kernel⟩, List.mem_of_getElem? (i := 145) (by decide +kernel), List.mem_of_getElem? (i := 801) (by decide +kernel), List.mem_of_getElem? (i := 802) (by decide +kernel)⟩
theorem lw_p69 : lw_okq (⟨"LoanVans$World", "branchOfLoan", "(I)I"⟩, 5) := ⟨⟨by decide +kernel, by decide +kernel⟩, List.mem_of_getElem? (i := 145) (by decide +kernel), List.mem_of_getElem? (i := 805) (by decide +kernel), List.mem_of_getElem? (i := 806) (by decide +kernel)⟩
theorem lw_p70 : lw_okq (⟨"LoanVans", "branchRanked", "(I)I"⟩, 7) := ⟨⟨by decide +kernel, by decide +kernel⟩, List.mem_of_getElem? (i := 21) (by decide +kernel), List.mem_of_getElem? (i := 817) (by decide +kernel), List.mem_of_getElem? (i := 818) (by decide +kernel)⟩
theorem lw_p71 : lw_okq (⟨"LoanVans", "countAhead", "(I)I"⟩, 7) := ⟨⟨by decide +kernel, by decide +kernel⟩, List.mem_of_getElem? (i := 21) (by decide +kernel), List.mem_of_getElem? (i := 821) (by decide +kernel), List.mem_of_getElem? (i := 822) (by decide +kernel)⟩
theorem lw_p72 : lw_okq (⟨"LoanVans$World", "balance", "(I)I"⟩, 5) := ⟨⟨by decide +kernel, by decide +kernel⟩, List.mem_of_getElem? (i := 145) (by decide +kernel), List.mem_of_getElem? (i := 825) (by decide +kernel), List.mem_of_getElem? (i := 826) (by decide +kernel)⟩
theorem lw_p73 : lw_okq (⟨"LoanVans$State", "daysWaited", "(I)I"⟩, 19) := ⟨⟨by decide +kernel, by decide +kernel⟩, List.mem_of_getElem? (i := 259) (by decide +kernel), List.mem_of_getElem? (i := 856) (by decide +kernel), List.mem_of_getElem? (i := 857) (by decide +kernel)⟩
theorem lw_p74 : lw_okq (⟨"LoanVans$Ways", "findLeg", "(III)Z"⟩, 8) := ⟨⟨by decide +kernel, by decide +kernel⟩, List.mem_of_getElem? (i := 357) (by decide +kernel), List.mem_of_getElem? (i := 896) (by decide +kernel), List.mem_of_getElem? (i := 897) (by decide +kernel)⟩
theorem lw_p75 : lw_okq (⟨"LoanVans$Ways", "legPart", "(I)I"⟩, 8) := ⟨⟨by decide +kernel, by decide +kernel⟩, List.mem_of_getElem? (i := 357) (by decide +kernel), List.mem_of_getElem? (i := 901) (by decide +kernel), List.mem_of_getElem? (i := 902) (by decide +kernel)⟩
theorem lw_p76 : lw_okq (⟨"LoanVans$Ways", "goLegs", "(IIII)I"⟩, 8) := ⟨⟨by decide +kernel, by decide +kernel⟩, List.mem_of_getElem? (i := 357) (by decide +kernel), List.mem_of_getElem? (i := 909) (by decide +kernel), List.mem_of_getElem? (i := 910) (by decide +kernel)⟩
theorem lw_p77 : lw_okq (⟨"LoanVans", "daysToAll", "(I)I"⟩, 7) := ⟨⟨by decide +kernel, by decide +kernel⟩, List.mem_of_getElem? (i := 21) (by decide +kernel), List.mem_of_getElem? (i := 930) (by decide +kernel), List.mem_of_getElem? (i := 931) (by decide +kernel)⟩
theorem lw_p78 : lw_okq (⟨"LoanVans$World", "copyFrom", "(LLoanVans$World;)V"⟩, 5) := ⟨⟨by decide +kernel, by decide +kernel⟩, List.mem_of_getElem? (i := 145) (by decide +kernel), List.mem_of_getElem? (i := 961) (by decide +kernel), List.mem_of_getElem? (i := 962) (by decide +kernel)⟩
theorem lw_p79 : lw_okq (⟨"LoanVans$World", "lentWithin", "(I)I"⟩, 5) := ⟨⟨by decide +kernel, by decide +kernel⟩, List.mem_of_getElem? (i := 145) (by decide +kernel), List.mem_of_getElem? (i := 967) (by decide +kernel), List.mem_of_getElem? (i := 968) (by decide +kernel)⟩
def lw_privs_5 : List (MethodName × Nat) := [(⟨"LoanVans$Ways", "vanToBoard", "(IIII)I"⟩, 8), (⟨"LoanVans$State", "board", "(IIII)V"⟩, 19), (⟨"LoanVans$Past", "restore", "(LLoanVans$State;)V"⟩, 3), (⟨"LoanVans$World", "countLoans", "(II)I"⟩, 5), (⟨"LoanVans$World", "homeOfLoan", "(I)I"⟩, 5), (⟨"LoanVans$World", "branchOfLoan", "(I)I"⟩, 5), (⟨"LoanVans", "branchRanked", "(I)I"⟩, 7), (⟨"LoanVans", "countAhead", "(I)I"⟩, 7), (⟨"LoanVans$World", "balance", "(I)I"⟩, 5), (⟨"LoanVans$State", "daysWaited", "(I)I"⟩, 19), (⟨"LoanVans$Ways", "findLeg", "(III)Z"⟩, 8), (⟨"LoanVans$Ways", "legPart", "(I)I"⟩, 8), (⟨"LoanVans$Ways", "goLegs", "(IIII)I"⟩, 8), (⟨"LoanVans", "daysToAll", "(I)I"⟩, 7), (⟨"LoanVans$World", "copyFrom", "(LLoanVans$World;)V"⟩, 5), (⟨"LoanVans$World", "lentWithin", "(I)I"⟩, 5)]
theorem lw_r5 : ∀ q ∈ lw_privs_5, lw_okq q := List.forall_mem_cons.mpr ⟨lw_p64, List.forall_mem_cons.mpr ⟨lw_p65, List.forall_mem_cons.mpr ⟨lw_p66, List.forall_mem_cons.mpr ⟨lw_p67, List.forall_mem_cons.mpr ⟨lw_p68, List.forall_mem_cons.mpr ⟨lw_p69, List.forall_mem_cons.mpr ⟨lw_p70, List.forall_mem_cons.mpr ⟨lw_p71, List.forall_mem_cons.mpr ⟨lw_p72, List.forall_mem_cons.mpr ⟨lw_p73, List.forall_mem_cons.mpr ⟨lw_p74, List.forall_mem_cons.mpr ⟨lw_p75, List.forall_mem_cons.mpr ⟨lw_p76, List.forall_mem_cons.mpr ⟨lw_p77, List.forall_mem_cons.mpr ⟨lw_p78, List.forall_mem_cons.mpr ⟨lw_p79, fun _ h => absurd h List.not_mem_nil⟩⟩⟩⟩⟩⟩⟩⟩⟩⟩⟩⟩⟩⟩⟩⟩
theorem lw_p80 : lw_okq (⟨"LoanVans$World", "countAstray", "()I"⟩, 5) := ⟨⟨by decide +kernel, by decide +kernel⟩, List.mem_of_getElem? (i := 145) (by decide +kernel), List.mem_of_getElem? (i := 1015) (by decide +kernel), List.mem_of_getElem? (i := 1016) (by decide +kernel)⟩
theorem lw_p81 : lw_okq (⟨"LoanVans$State", "branchBit", "(I)I"⟩, 19) := ⟨⟨by decide +kernel, by decide +kernel⟩, List.mem_of_getElem? (i := 259) (by decide +kernel), List.mem_of_getElem? (i := 1023) (by decide +kernel), List.mem_of_getElem? (i := 1024) (by decide +kernel)⟩
theorem lw_p82 : lw_okq (⟨"LoanVans$State", "countStage", "(I)I"⟩, 19) := ⟨⟨by decide +kernel, by decide +kernel⟩, List.mem_of_getElem? (i := 259) (by decide +kernel), List.mem_of_getElem? (i := 1031) (by decide +kernel), List.mem_of_getElem? (i := 1032) (by decide +kernel)⟩
theorem lw_p83 : lw_okq (⟨"java/lang/Throwable", "fillInStackTrace", "(I)Ljava/lang/Throwable;"⟩, 6) := ⟨⟨by decide +kernel, by decide +kernel⟩, List.mem_of_getElem? (i := 1081) (by decide +kernel), List.mem_of_getElem? (i := 1079) (by decide +kernel), List.mem_of_getElem? (i := 1080) (by decide +kernel)⟩
theorem lw_p84 : lw_okq (⟨"LoanVans$Plan", "countAtHome", "(I)I"⟩, 17) := ⟨⟨by decide +kernel, by decide +kernel⟩, List.mem_of_getElem? (i := 151) (by decide +kernel), List.mem_of_getElem? (i := 1110) (by decide +kernel), List.mem_of_getElem? (i := 1111) (by decide +kernel)⟩
theorem lw_p85 : lw_okq (⟨"LoanVans$State", "countOpenAt", "(I)I"⟩, 19) := ⟨⟨by decide +kernel, by decide +kernel⟩, List.mem_of_getElem? (i := 259) (by decide +kernel), List.mem_of_getElem? (i := 1114) (by decide +kernel), List.mem_of_getElem? (i := 1115) (by decide +kernel)⟩
theorem lw_p86 : lw_okq (⟨"LoanVans$Plan", "countOfTitle", "(I)I"⟩, 17) := ⟨⟨by decide +kernel, by decide +kernel⟩, List.mem_of_getElem? (i := 151) (by decide +kernel), List.mem_of_getElem? (i := 1142) (by decide +kernel), List.mem_of_getElem? (i := 1143) (by decide +kernel)⟩
theorem lw_p87 : lw_okq (⟨"LoanVans$World", "countFree", "(I)I"⟩, 5) := ⟨⟨by decide +kernel, by decide +kernel⟩, List.mem_of_getElem? (i := 145) (by decide +kernel), List.mem_of_getElem? (i := 1146) (by decide +kernel), List.mem_of_getElem? (i := 1147) (by decide +kernel)⟩
theorem lw_p88 : lw_okq (⟨"LoanVans$State", "countLoansOf", "(I)I"⟩, 19) := ⟨⟨by decide +kernel, by decide +kernel⟩, List.mem_of_getElem? (i := 259) (by decide +kernel), List.mem_of_getElem? (i := 1158) (by decide +kernel), List.mem_of_getElem? (i := 1159) (by decide +kernel)⟩
theorem lw_p89 : lw_okq (⟨"LoanVansModel", "four", "(I)V"⟩, 57) := ⟨⟨by decide +kernel, by decide +kernel⟩, List.mem_of_getElem? (i := 1170) (by decide +kernel), List.mem_of_getElem? (i := 1357) (by decide +kernel), List.mem_of_getElem? (i := 1358) (by decide +kernel)⟩
theorem lw_p90 : lw_okq (⟨"LoanVansModel", "begins", "()V"⟩, 57) := ⟨⟨by decide +kernel, by decide +kernel⟩, List.mem_of_getElem? (i := 1170) (by decide +kernel), List.mem_of_getElem? (i := 1368) (by decide +kernel), List.mem_of_getElem? (i := 1369) (by decide +kernel)⟩
theorem lw_p91 : lw_okq (⟨"LoanVansModel", "advance", "()V"⟩, 57) := ⟨⟨by decide +kernel, by decide +kernel⟩, List.mem_of_getElem? (i := 1170) (by decide +kernel), List.mem_of_getElem? (i := 1372) (by decide +kernel), List.mem_of_getElem? (i := 1373) (by decide +kernel)⟩
theorem lw_p92 : lw_okq (⟨"LoanVansModel", "see", "()I"⟩, 57) := ⟨⟨by decide +kernel, by decide +kernel⟩, List.mem_of_getElem? (i := 1170) (by decide +kernel), List.mem_of_getElem? (i := 1376) (by decide +kernel), List.mem_of_getElem? (i := 1377) (by decide +kernel)⟩
theorem lw_p93 : lw_okq (⟨"LoanVansModel", "readsLine", "()V"⟩, 57) := ⟨⟨by decide +kernel, by decide +kernel⟩, List.mem_of_getElem? (i := 1170) (by decide +kernel), List.mem_of_getElem? (i := 1380) (by decide +kernel), List.mem_of_getElem? (i := 1381) (by decide +kernel)⟩
theorem lw_p94 : lw_okq (⟨"LoanVansModel", "isWord", "(I)Z"⟩, 57) := ⟨⟨by decide +kernel, by decide +kernel⟩, List.mem_of_getElem? (i := 1170) (by decide +kernel), List.mem_of_getElem? (i := 1385) (by decide +kernel), List.mem_of_getElem? (i := 1386) (by decide +kernel)⟩
theorem lw_p95 : lw_okq (⟨"LoanVansModel", "readsBranch", "()V"⟩, 57) := ⟨⟨by decide +kernel, by decide +kernel⟩, List.mem_of_getElem? (i := 1170) (by decide +kernel), List.mem_of_getElem? (i := 1389) (by decide +kernel), List.mem_of_getElem? (i := 1390) (by decide +kernel)⟩
def lw_privs_6 : List (MethodName × Nat) := [(⟨"LoanVans$World", "countAstray", "()I"⟩, 5), (⟨"LoanVans$State", "branchBit", "(I)I"⟩, 19), (⟨"LoanVans$State", "countStage", "(I)I"⟩, 19), (⟨"java/lang/Throwable", "fillInStackTrace", "(I)Ljava/lang/Throwable;"⟩, 6), (⟨"LoanVans$Plan", "countAtHome", "(I)I"⟩, 17), (⟨"LoanVans$State", "countOpenAt", "(I)I"⟩, 19), (⟨"LoanVans$Plan", "countOfTitle", "(I)I"⟩, 17), (⟨"LoanVans$World", "countFree", "(I)I"⟩, 5), (⟨"LoanVans$State", "countLoansOf", "(I)I"⟩, 19), (⟨"LoanVansModel", "four", "(I)V"⟩, 57), (⟨"LoanVansModel", "begins", "()V"⟩, 57), (⟨"LoanVansModel", "advance", "()V"⟩, 57), (⟨"LoanVansModel", "see", "()I"⟩, 57), (⟨"LoanVansModel", "readsLine", "()V"⟩, 57), (⟨"LoanVansModel", "isWord", "(I)Z"⟩, 57), (⟨"LoanVansModel", "readsBranch", "()V"⟩, 57)]
theorem lw_r6 : ∀ q ∈ lw_privs_6, lw_okq q := List.forall_mem_cons.mpr ⟨lw_p80, List.forall_mem_cons.mpr ⟨lw_p81, List.forall_mem_cons.mpr ⟨lw_p82, List.forall_mem_cons.mpr ⟨lw_p83, List.forall_mem_cons.mpr ⟨lw_p84, List.forall_mem_cons.mpr ⟨lw_p85, List.forall_mem_cons.mpr ⟨lw_p86, List.forall_mem_cons.mpr ⟨lw_p87, List.forall_mem_cons.mpr ⟨lw_p88, List.forall_mem_cons.mpr ⟨lw_p89, List.forall_mem_cons.mpr ⟨lw_p90, List.forall_mem_cons.mpr ⟨lw_p91, List.forall_mem_cons.mpr ⟨lw_p92, List.forall_mem_cons.mpr ⟨lw_p93, List.forall_mem_cons.mpr ⟨lw_p94, List.forall_mem_cons.mpr ⟨lw_p95, fun _ h => absurd h List.not_mem_nil⟩⟩⟩⟩⟩⟩⟩⟩⟩⟩⟩⟩⟩⟩⟩⟩
theorem lw_p96 : lw_okq (⟨"LoanVansModel", "opens", "(ZI)V"⟩, 57) := ⟨⟨by decide +kernel, by decide +kernel⟩, List.mem_of_getElem? (i := 1170) (by decide +kernel), List.mem_of_getElem? (i := 1393) (by decide +kernel), List.mem_of_getElem? (i := 1394) (by decide +kernel)⟩
theorem lw_p97 : lw_okq (⟨"LoanVansModel", "must", "(ZI)V"⟩, 57) := ⟨⟨by decide +kernel, by decide +kernel⟩, List.mem_of_getElem? (i := 1170) (by decide +kernel), List.mem_of_getElem? (i := 1397) (by decide +kernel), List.mem_of_getElem? (i := 1398) (by decide +kernel)⟩
theorem lw_p98 : lw_okq (⟨"LoanVansModel", "freshHere", "([II)I"⟩, 57) := ⟨⟨by decide +kernel, by decide +kernel⟩, List.mem_of_getElem? (i := 1170) (by decide +kernel), List.mem_of_getElem? (i := 1401) (by decide +kernel), List.mem_of_getElem? (i := 1402) (by decide +kernel)⟩
theorem lw_p99 : lw_okq (⟨"LoanVansModel", "isName", "()Z"⟩, 57) := ⟨⟨by decide +kernel, by decide +kernel⟩, List.mem_of_getElem? (i := 1170) (by decide +kernel), List.mem_of_getElem? (i := 1405) (by decide +kernel), List.mem_of_getElem? (i := 1406) (by decide +kernel)⟩
theorem lw_p100 : lw_okq (⟨"LoanVansModel", "numberHere", "(II)I"⟩, 57) := ⟨⟨by decide +kernel, by decide +kernel⟩, List.mem_of_getElem? (i := 1170) (by decide +kernel), List.mem_of_getElem? (i := 1418) (by decide +kernel), List.mem_of_getElem? (i := 1419) (by decide +kernel)⟩
theorem lw_p101 : lw_okq (⟨"LoanVansModel", "readsTitle", "()V"⟩, 57) := ⟨⟨by decide +kernel, by decide +kernel⟩, List.mem_of_getElem? (i := 1170) (by decide +kernel), List.mem_of_getElem? (i := 1422) (by decide +kernel), List.mem_of_getElem? (i := 1423) (by decide +kernel)⟩
theorem lw_p102 : lw_okq (⟨"LoanVansModel", "readsItem", "()V"⟩, 57) := ⟨⟨by decide +kernel, by decide +kernel⟩, List.mem_of_getElem? (i := 1170) (by decide +kernel), List.mem_of_getElem? (i := 1426) (by decide +kernel), List.mem_of_getElem? (i := 1427) (by decide +kernel)⟩
theorem lw_p103 : lw_okq (⟨"LoanVansModel", "titleHere", "()I"⟩, 57) := ⟨⟨by decide +kernel, by decide +kernel⟩, List.mem_of_getElem? (i := 1170) (by decide +kernel), List.mem_of_getElem? (i := 1430) (by decide +kernel), List.mem_of_getElem? (i := 1431) (by decide +kernel)⟩
theorem lw_p104 : lw_okq (⟨"LoanVansModel", "toldHere", "([II)I"⟩, 57) := ⟨⟨by decide +kernel, by decide +kernel⟩, List.mem_of_getElem? (i := 1170) (by decide +kernel), List.mem_of_getElem? (i := 1434) (by decide +kernel), List.mem_of_getElem? (i := 1435) (by decide +kernel)⟩
theorem lw_p105 : lw_okq (⟨"LoanVansModel", "branchHere", "()I"⟩, 57) := ⟨⟨by decide +kernel, by decide +kernel⟩, List.mem_of_getElem? (i := 1170) (by decide +kernel), List.mem_of_getElem? (i := 1438) (by decide +kernel), List.mem_of_getElem? (i := 1439) (by decide +kernel)⟩
theorem lw_p106 : lw_okq (⟨"LoanVansModel", "readsVan", "()V"⟩, 57) := ⟨⟨by decide +kernel, by decide +kernel⟩, List.mem_of_getElem? (i := 1170) (by decide +kernel), List.mem_of_getElem? (i := 1442) (by decide +kernel), List.mem_of_getElem? (i := 1443) (by decide +kernel)⟩
theorem lw_p107 : lw_okq (⟨"LoanVansModel", "readsHold", "()V"⟩, 57) := ⟨⟨by decide +kernel, by decide +kernel⟩, List.mem_of_getElem? (i := 1170) (by decide +kernel), List.mem_of_getElem? (i := 1446) (by decide +kernel), List.mem_of_getElem? (i := 1447) (by decide +kernel)⟩
theorem lw_p108 : lw_okq (⟨"LoanVansModel", "becomes", "()V"⟩, 57) := ⟨⟨by decide +kernel, by decide +kernel⟩, List.mem_of_getElem? (i := 1170) (by decide +kernel), List.mem_of_getElem? (i := 1450) (by decide +kernel), List.mem_of_getElem? (i := 1451) (by decide +kernel)⟩
theorem lw_p109 : lw_okq (⟨"LoanVansModel", "puts", "(III)V"⟩, 57) := ⟨⟨by decide +kernel, by decide +kernel⟩, List.mem_of_getElem? (i := 1170) (by decide +kernel), List.mem_of_getElem? (i := 1457) (by decide +kernel), List.mem_of_getElem? (i := 1458) (by decide +kernel)⟩
theorem lw_p110 : lw_okq (⟨"LoanVansModel", "setItem", "(III)V"⟩, 57) := ⟨⟨by decide +kernel, by decide +kernel⟩, List.mem_of_getElem? (i := 1170) (by decide +kernel), List.mem_of_getElem? (i := 1461) (by decide +kernel), List.mem_of_getElem? (i := 1462) (by decide +kernel)⟩
theorem lw_p111 : lw_okq (⟨"LoanVansModel", "freesItem", "(I)V"⟩, 57) := ⟨⟨by decide +kernel, by decide +kernel⟩, List.mem_of_getElem? (i := 1170) (by decide +kernel), List.mem_of_getElem? (i := 1465) (by decide +kernel), List.mem_of_getElem? (i := 1466) (by decide +kernel)⟩
def lw_privs_7 : List (MethodName × Nat) := [(⟨"LoanVansModel", "opens", "(ZI)V"⟩, 57), (⟨"LoanVansModel", "must", "(ZI)V"⟩, 57), (⟨"LoanVansModel", "freshHere", "([II)I"⟩, 57), (⟨"LoanVansModel", "isName", "()Z"⟩, 57), (⟨"LoanVansModel", "numberHere", "(II)I"⟩, 57), (⟨"LoanVansModel", "readsTitle", "()V"⟩, 57), (⟨"LoanVansModel", "readsItem", "()V"⟩, 57), (⟨"LoanVansModel", "titleHere", "()I"⟩, 57), (⟨"LoanVansModel", "toldHere", "([II)I"⟩, 57), (⟨"LoanVansModel", "branchHere", "()I"⟩, 57), (⟨"LoanVansModel", "readsVan", "()V"⟩, 57), (⟨"LoanVansModel", "readsHold", "()V"⟩, 57), (⟨"LoanVansModel", "becomes", "()V"⟩, 57), (⟨"LoanVansModel", "puts", "(III)V"⟩, 57), (⟨"LoanVansModel", "setItem", "(III)V"⟩, 57), (⟨"LoanVansModel", "freesItem", "(I)V"⟩, 57)]
theorem lw_r7 : ∀ q ∈ lw_privs_7, lw_okq q := List.forall_mem_cons.mpr ⟨lw_p96, List.forall_mem_cons.mpr ⟨lw_p97, List.forall_mem_cons.mpr ⟨lw_p98, List.forall_mem_cons.mpr ⟨lw_p99, List.forall_mem_cons.mpr ⟨lw_p100, List.forall_mem_cons.mpr ⟨lw_p101, List.forall_mem_cons.mpr ⟨lw_p102, List.forall_mem_cons.mpr ⟨lw_p103, List.forall_mem_cons.mpr ⟨lw_p104, List.forall_mem_cons.mpr ⟨lw_p105, List.forall_mem_cons.mpr ⟨lw_p106, List.forall_mem_cons.mpr ⟨lw_p107, List.forall_mem_cons.mpr ⟨lw_p108, List.forall_mem_cons.mpr ⟨lw_p109, List.forall_mem_cons.mpr ⟨lw_p110, List.forall_mem_cons.mpr ⟨lw_p111, fun _ h => absurd h List.not_mem_nil⟩⟩⟩⟩⟩⟩⟩⟩⟩⟩⟩⟩⟩⟩⟩⟩
theorem lw_p112 : lw_okq (⟨"LoanVansModel", "addsHold", "(II)V"⟩, 57) := ⟨⟨by decide +kernel, by decide +kernel⟩, List.mem_of_getElem? (i := 1170) (by decide +kernel), List.mem_of_getElem? (i := 1469) (by decide +kernel), List.mem_of_getElem? (i := 1470) (by decide +kernel)⟩
theorem lw_p113 : lw_okq (⟨"LoanVansModel", "setHold", "(III)V"⟩, 57) := ⟨⟨by decide +kernel, by decide +kernel⟩, List.mem_of_getElem? (i := 1170) (by decide +kernel), List.mem_of_getElem? (i := 1473) (by decide +kernel), List.mem_of_getElem? (i := 1474) (by decide +kernel)⟩
theorem lw_p114 : lw_okq (⟨"LoanVansModel", "isWay", "(III)Z"⟩, 57) := ⟨⟨by decide +kernel, by decide +kernel⟩, List.mem_of_getElem? (i := 1170) (by decide +kernel), List.mem_of_getElem? (i := 1485) (by decide +kernel), List.mem_of_getElem? (i := 1486) (by decide +kernel)⟩
theorem lw_p115 : lw_okq (⟨"LoanVansModel", "isBranch", "(I)Z"⟩, 57) := ⟨⟨by decide +kernel, by decide +kernel⟩, List.mem_of_getElem? (i := 1170) (by decide +kernel), List.mem_of_getElem? (i := 1489) (by decide +kernel), List.mem_of_getElem? (i := 1490) (by decide +kernel)⟩
theorem lw_p116 : lw_okq (⟨"LoanVansModel", "arrivalOf", "(III)I"⟩, 57) := ⟨⟨by decide +kernel, by decide +kernel⟩, List.mem_of_getElem? (i := 1170) (by decide +kernel), List.mem_of_getElem? (i := 1493) (by decide +kernel), List.mem_of_getElem? (i := 1494) (by decide +kernel)⟩
theorem lw_p117 : lw_okq (⟨"LoanVansModel", "laysEarly", "(II)V"⟩, 57) := ⟨⟨by decide +kernel, by decide +kernel⟩, List.mem_of_getElem? (i := 1170) (by decide +kernel), List.mem_of_getElem? (i := 1497) (by decide +kernel), List.mem_of_getElem? (i := 1498) (by decide +kernel)⟩
theorem lw_p118 : lw_okq (⟨"LoanVansModel", "stopOf", "(II)I"⟩, 57) := ⟨⟨by decide +kernel, by decide +kernel⟩, List.mem_of_getElem? (i := 1170) (by decide +kernel), List.mem_of_getElem? (i := 1501) (by decide +kernel), List.mem_of_getElem? (i := 1502) (by decide +kernel)⟩
theorem lw_p119 : lw_okq (⟨"LoanVansModel", "laysLeg", "(III)Z"⟩, 57) := ⟨⟨by decide +kernel, by decide +kernel⟩, List.mem_of_getElem? (i := 1170) (by decide +kernel), List.mem_of_getElem? (i := 1509) (by decide +kernel), List.mem_of_getElem? (i := 1510) (by decide +kernel)⟩
theorem lw_p120 : lw_okq (⟨"LoanVansModel", "laysLeads", "(III)V"⟩, 57) := ⟨⟨by decide +kernel, by decide +kernel⟩, List.mem_of_getElem? (i := 1170) (by decide +kernel), List.mem_of_getElem? (i := 1513) (by decide +kernel), List.mem_of_getElem? (i := 1514) (by decide +kernel)⟩
theorem lw_p121 : lw_okq (⟨"LoanVansModel", "openOf", "(II)I"⟩, 57) := ⟨⟨by decide +kernel, by decide +kernel⟩, List.mem_of_getElem? (i := 1170) (by decide +kernel), List.mem_of_getElem? (i := 1545) (by decide +kernel), List.mem_of_getElem? (i := 1546) (by decide +kernel)⟩
theorem lw_p122 : lw_okq (⟨"LoanVansModel", "ofHold", "(II)I"⟩, 57) := ⟨⟨by decide +kernel, by decide +kernel⟩, List.mem_of_getElem? (i := 1170) (by decide +kernel), List.mem_of_getElem? (i := 1549) (by decide +kernel), List.mem_of_getElem? (i := 1550) (by decide +kernel)⟩
theorem lw_p123 : lw_okq (⟨"LoanVansModel", "isAt", "(II)Z"⟩, 57) := ⟨⟨by decide +kernel, by decide +kernel⟩, List.mem_of_getElem? (i := 1170) (by decide +kernel), List.mem_of_getElem? (i := 1553) (by decide +kernel), List.mem_of_getElem? (i := 1554) (by decide +kernel)⟩
theorem lw_p124 : lw_okq (⟨"LoanVansModel", "ofItem", "(II)I"⟩, 57) := ⟨⟨by decide +kernel, by decide +kernel⟩, List.mem_of_getElem? (i := 1170) (by decide +kernel), List.mem_of_getElem? (i := 1557) (by decide +kernel), List.mem_of_getElem? (i := 1558) (by decide +kernel)⟩
theorem lw_p125 : lw_okq (⟨"LoanVansModel", "isTitle", "(I)Z"⟩, 57) := ⟨⟨by decide +kernel, by decide +kernel⟩, List.mem_of_getElem? (i := 1170) (by decide +kernel), List.mem_of_getElem? (i := 1565) (by decide +kernel), List.mem_of_getElem? (i := 1566) (by decide +kernel)⟩
theorem lw_p126 : lw_okq (⟨"LoanVansModel", "isFree", "(I)Z"⟩, 57) := ⟨⟨by decide +kernel, by decide +kernel⟩, List.mem_of_getElem? (i := 1170) (by decide +kernel), List.mem_of_getElem? (i := 1569) (by decide +kernel), List.mem_of_getElem? (i := 1570) (by decide +kernel)⟩
theorem lw_p127 : lw_okq (⟨"LoanVansModel", "isItem", "(I)Z"⟩, 57) := ⟨⟨by decide +kernel, by decide +kernel⟩, List.mem_of_getElem? (i := 1170) (by decide +kernel), List.mem_of_getElem? (i := 1577) (by decide +kernel), List.mem_of_getElem? (i := 1578) (by decide +kernel)⟩
def lw_privs_8 : List (MethodName × Nat) := [(⟨"LoanVansModel", "addsHold", "(II)V"⟩, 57), (⟨"LoanVansModel", "setHold", "(III)V"⟩, 57), (⟨"LoanVansModel", "isWay", "(III)Z"⟩, 57), (⟨"LoanVansModel", "isBranch", "(I)Z"⟩, 57), (⟨"LoanVansModel", "arrivalOf", "(III)I"⟩, 57), (⟨"LoanVansModel", "laysEarly", "(II)V"⟩, 57), (⟨"LoanVansModel", "stopOf", "(II)I"⟩, 57), (⟨"LoanVansModel", "laysLeg", "(III)Z"⟩, 57), (⟨"LoanVansModel", "laysLeads", "(III)V"⟩, 57), (⟨"LoanVansModel", "openOf", "(II)I"⟩, 57), (⟨"LoanVansModel", "ofHold", "(II)I"⟩, 57), (⟨"LoanVansModel", "isAt", "(II)Z"⟩, 57), (⟨"LoanVansModel", "ofItem", "(II)I"⟩, 57), (⟨"LoanVansModel", "isTitle", "(I)Z"⟩, 57), (⟨"LoanVansModel", "isFree", "(I)Z"⟩, 57), (⟨"LoanVansModel", "isItem", "(I)Z"⟩, 57)]
theorem lw_r8 : ∀ q ∈ lw_privs_8, lw_okq q := List.forall_mem_cons.mpr ⟨lw_p112, List.forall_mem_cons.mpr ⟨lw_p113, List.forall_mem_cons.mpr ⟨lw_p114, List.forall_mem_cons.mpr ⟨lw_p115, List.forall_mem_cons.mpr ⟨lw_p116, List.forall_mem_cons.mpr ⟨lw_p117, List.forall_mem_cons.mpr ⟨lw_p118, List.forall_mem_cons.mpr ⟨lw_p119, List.forall_mem_cons.mpr ⟨lw_p120, List.forall_mem_cons.mpr ⟨lw_p121, List.forall_mem_cons.mpr ⟨lw_p122, List.forall_mem_cons.mpr ⟨lw_p123, List.forall_mem_cons.mpr ⟨lw_p124, List.forall_mem_cons.mpr ⟨lw_p125, List.forall_mem_cons.mpr ⟨lw_p126, List.forall_mem_cons.mpr ⟨lw_p127, fun _ h => absurd h List.not_mem_nil⟩⟩⟩⟩⟩⟩⟩⟩⟩⟩⟩⟩⟩⟩⟩⟩
theorem lw_p128 : lw_okq (⟨"LoanVansModel", "isHold", "(I)Z"⟩, 57) := ⟨⟨by decide +kernel, by decide +kernel⟩, List.mem_of_getElem? (i := 1170) (by decide +kernel), List.mem_of_getElem? (i := 1585) (by decide +kernel), List.mem_of_getElem? (i := 1586) (by decide +kernel)⟩
theorem lw_p129 : lw_okq (⟨"LoanVansModel", "isVan", "(I)Z"⟩, 57) := ⟨⟨by decide +kernel, by decide +kernel⟩, List.mem_of_getElem? (i := 1170) (by decide +kernel), List.mem_of_getElem? (i := 1593) (by decide +kernel), List.mem_of_getElem? (i := 1594) (by decide +kernel)⟩
theorem lw_p130 : lw_okq (⟨"LoanVansModel", "inside", "(I)I"⟩, 57) := ⟨⟨by decide +kernel, by decide +kernel⟩, List.mem_of_getElem? (i := 1170) (by decide +kernel), List.mem_of_getElem? (i := 1597) (by decide +kernel), List.mem_of_getElem? (i := 1598) (by decide +kernel)⟩
theorem lw_p131 : lw_okq (⟨"LoanVansModel", "keeps", "()V"⟩, 57) := ⟨⟨by decide +kernel, by decide +kernel⟩, List.mem_of_getElem? (i := 1170) (by decide +kernel), List.mem_of_getElem? (i := 1609) (by decide +kernel), List.mem_of_getElem? (i := 1610) (by decide +kernel)⟩
theorem lw_p132 : lw_okq (⟨"LoanVansModel", "mayCancel", "(I)Z"⟩, 57) := ⟨⟨by decide +kernel, by decide +kernel⟩, List.mem_of_getElem? (i := 1170) (by decide +kernel), List.mem_of_getElem? (i := 1617) (by decide +kernel), List.mem_of_getElem? (i := 1618) (by decide +kernel)⟩
theorem lw_p133 : lw_okq (⟨"LoanVansModel", "cancels", "(I)V"⟩, 57) := ⟨⟨by decide +kernel, by decide +kernel⟩, List.mem_of_getElem? (i := 1170) (by decide +kernel), List.mem_of_getElem? (i := 1621) (by decide +kernel), List.mem_of_getElem? (i := 1622) (by decide +kernel)⟩
theorem lw_p134 : lw_okq (⟨"LoanVansModel", "openFrom", "(II)I"⟩, 57) := ⟨⟨by decide +kernel, by decide +kernel⟩, List.mem_of_getElem? (i := 1170) (by decide +kernel), List.mem_of_getElem? (i := 1629) (by decide +kernel), List.mem_of_getElem? (i := 1630) (by decide +kernel)⟩
theorem lw_p135 : lw_okq (⟨"LoanVansModel", "isShut", "(II)Z"⟩, 57) := ⟨⟨by decide +kernel, by decide +kernel⟩, List.mem_of_getElem? (i := 1170) (by decide +kernel), List.mem_of_getElem? (i := 1633) (by decide +kernel), List.mem_of_getElem? (i := 1634) (by decide +kernel)⟩
theorem lw_p136 : lw_okq (⟨"LoanVansModel", "passes", "()V"⟩, 57) := ⟨⟨by decide +kernel, by decide +kernel⟩, List.mem_of_getElem? (i := 1170) (by decide +kernel), List.mem_of_getElem? (i := 1645) (by decide +kernel), List.mem_of_getElem? (i := 1646) (by decide +kernel)⟩
theorem lw_p137 : lw_okq (⟨"LoanVansModel", "comesBack", "(I)V"⟩, 57) := ⟨⟨by decide +kernel, by decide +kernel⟩, List.mem_of_getElem? (i := 1170) (by decide +kernel), List.mem_of_getElem? (i := 1649) (by decide +kernel), List.mem_of_getElem? (i := 1650) (by decide +kernel)⟩
theorem lw_p138 : lw_okq (⟨"LoanVansModel", "gives", "(I)V"⟩, 57) := ⟨⟨by decide +kernel, by decide +kernel⟩, List.mem_of_getElem? (i := 1170) (by decide +kernel), List.mem_of_getElem? (i := 1653) (by decide +kernel), List.mem_of_getElem? (i := 1654) (by decide +kernel)⟩
theorem lw_p139 : lw_okq (⟨"LoanVansModel", "givenTo", "(II)I"⟩, 57) := ⟨⟨by decide +kernel, by decide +kernel⟩, List.mem_of_getElem? (i := 1170) (by decide +kernel), List.mem_of_getElem? (i := 1657) (by decide +kernel), List.mem_of_getElem? (i := 1658) (by decide +kernel)⟩
theorem lw_p140 : lw_okq (⟨"LoanVansModel", "lends", "(I)V"⟩, 57) := ⟨⟨by decide +kernel, by decide +kernel⟩, List.mem_of_getElem? (i := 1170) (by decide +kernel), List.mem_of_getElem? (i := 1661) (by decide +kernel), List.mem_of_getElem? (i := 1662) (by decide +kernel)⟩
theorem lw_p141 : lw_okq (⟨"LoanVansModel", "drives", "(I)V"⟩, 57) := ⟨⟨by decide +kernel, by decide +kernel⟩, List.mem_of_getElem? (i := 1170) (by decide +kernel), List.mem_of_getElem? (i := 1665) (by decide +kernel), List.mem_of_getElem? (i := 1666) (by decide +kernel)⟩
theorem lw_p142 : lw_okq (⟨"LoanVansModel", "boards", "(II)V"⟩, 57) := ⟨⟨by decide +kernel, by decide +kernel⟩, List.mem_of_getElem? (i := 1170) (by decide +kernel), List.mem_of_getElem? (i := 1669) (by decide +kernel), List.mem_of_getElem? (i := 1670) (by decide +kernel)⟩
theorem lw_p143 : lw_okq (⟨"LoanVansModel", "goal", "(I)I"⟩, 57) := ⟨⟨by decide +kernel, by decide +kernel⟩, List.mem_of_getElem? (i := 1170) (by decide +kernel), List.mem_of_getElem? (i := 1673) (by decide +kernel), List.mem_of_getElem? (i := 1674) (by decide +kernel)⟩
def lw_privs_9 : List (MethodName × Nat) := [(⟨"LoanVansModel", "isHold", "(I)Z"⟩, 57), (⟨"LoanVansModel", "isVan", "(I)Z"⟩, 57), (⟨"LoanVansModel", "inside", "(I)I"⟩, 57), (⟨"LoanVansModel", "keeps", "()V"⟩, 57), (⟨"LoanVansModel", "mayCancel", "(I)Z"⟩, 57), (⟨"LoanVansModel", "cancels", "(I)V"⟩, 57), (⟨"LoanVansModel", "openFrom", "(II)I"⟩, 57), (⟨"LoanVansModel", "isShut", "(II)Z"⟩, 57), (⟨"LoanVansModel", "passes", "()V"⟩, 57), (⟨"LoanVansModel", "comesBack", "(I)V"⟩, 57), (⟨"LoanVansModel", "gives", "(I)V"⟩, 57), (⟨"LoanVansModel", "givenTo", "(II)I"⟩, 57), (⟨"LoanVansModel", "lends", "(I)V"⟩, 57), (⟨"LoanVansModel", "drives", "(I)V"⟩, 57), (⟨"LoanVansModel", "boards", "(II)V"⟩, 57), (⟨"LoanVansModel", "goal", "(I)I"⟩, 57)]
theorem lw_r9 : ∀ q ∈ lw_privs_9, lw_okq q := List.forall_mem_cons.mpr ⟨lw_p128, List.forall_mem_cons.mpr ⟨lw_p129, List.forall_mem_cons.mpr ⟨lw_p130, List.forall_mem_cons.mpr ⟨lw_p131, List.forall_mem_cons.mpr ⟨lw_p132, List.forall_mem_cons.mpr ⟨lw_p133, List.forall_mem_cons.mpr ⟨lw_p134, List.forall_mem_cons.mpr ⟨lw_p135, List.forall_mem_cons.mpr ⟨lw_p136, List.forall_mem_cons.mpr ⟨lw_p137, List.forall_mem_cons.mpr ⟨lw_p138, List.forall_mem_cons.mpr ⟨lw_p139, List.forall_mem_cons.mpr ⟨lw_p140, List.forall_mem_cons.mpr ⟨lw_p141, List.forall_mem_cons.mpr ⟨lw_p142, List.forall_mem_cons.mpr ⟨lw_p143, fun _ h => absurd h List.not_mem_nil⟩⟩⟩⟩⟩⟩⟩⟩⟩⟩⟩⟩⟩⟩⟩⟩
theorem lw_p144 : lw_okq (⟨"LoanVansModel", "balance", "(II)I"⟩, 57) := ⟨⟨by decide +kernel, by decide +kernel⟩, List.mem_of_getElem? (i := 1170) (by decide +kernel), List.mem_of_getElem? (i := 1685) (by decide +kernel), List.mem_of_getElem? (i := 1686) (by decide +kernel)⟩
theorem lw_p145 : lw_okq (⟨"LoanVansModel", "tries", "()V"⟩, 57) := ⟨⟨by decide +kernel, by decide +kernel⟩, List.mem_of_getElem? (i := 1170) (by decide +kernel), List.mem_of_getElem? (i := 1714) (by decide +kernel), List.mem_of_getElem? (i := 1715) (by decide +kernel)⟩
theorem lw_p146 : lw_okq (⟨"LoanVansModel", "lentAhead", "(I)I"⟩, 57) := ⟨⟨by decide +kernel, by decide +kernel⟩, List.mem_of_getElem? (i := 1170) (by decide +kernel), List.mem_of_getElem? (i := 1718) (by decide +kernel), List.mem_of_getElem? (i := 1719) (by decide +kernel)⟩
theorem lw_p147 : lw_okq (⟨"LoanVansModel", "returns", "()V"⟩, 57) := ⟨⟨by decide +kernel, by decide +kernel⟩, List.mem_of_getElem? (i := 1170) (by decide +kernel), List.mem_of_getElem? (i := 1722) (by decide +kernel), List.mem_of_getElem? (i := 1723) (by decide +kernel)⟩
theorem lw_p148 : lw_okq (⟨"LoanVansModel", "servedIn", "(I)I"⟩, 57) := ⟨⟨by decide +kernel, by decide +kernel⟩, List.mem_of_getElem? (i := 1170) (by decide +kernel), List.mem_of_getElem? (i := 1746) (by decide +kernel), List.mem_of_getElem? (i := 1747) (by decide +kernel)⟩
theorem lw_p149 : lw_okq (⟨"LoanVansModel", "wasLent", "(I)Z"⟩, 57) := ⟨⟨by decide +kernel, by decide +kernel⟩, List.mem_of_getElem? (i := 1170) (by decide +kernel), List.mem_of_getElem? (i := 1750) (by decide +kernel), List.mem_of_getElem? (i := 1751) (by decide +kernel)⟩
theorem lw_p150 : lw_okq (⟨"LoanVansModel", "isSooner", "(II)Z"⟩, 57) := ⟨⟨by decide +kernel, by decide +kernel⟩, List.mem_of_getElem? (i := 1170) (by decide +kernel), List.mem_of_getElem? (i := 1782) (by decide +kernel), List.mem_of_getElem? (i := 1783) (by decide +kernel)⟩
theorem lw_p151 : lw_okq (⟨"LoanVansModel", "allOwed", "(I)I"⟩, 57) := ⟨⟨by decide +kernel, by decide +kernel⟩, List.mem_of_getElem? (i := 1170) (by decide +kernel), List.mem_of_getElem? (i := 1790) (by decide +kernel), List.mem_of_getElem? (i := 1791) (by decide +kernel)⟩
theorem lw_p152 : lw_okq (⟨"LoanVansModel", "inState", "(I)I"⟩, 57) := ⟨⟨by decide +kernel, by decide +kernel⟩, List.mem_of_getElem? (i := 1170) (by decide +kernel), List.mem_of_getElem? (i := 1834) (by decide +kernel), List.mem_of_getElem? (i := 1835) (by decide +kernel)⟩
def lw_privs_10 : List (MethodName × Nat) := [(⟨"LoanVansModel", "balance", "(II)I"⟩, 57), (⟨"LoanVansModel", "tries", "()V"⟩, 57), (⟨"LoanVansModel", "lentAhead", "(I)I"⟩, 57), (⟨"LoanVansModel", "returns", "()V"⟩, 57), (⟨"LoanVansModel", "servedIn", "(I)I"⟩, 57), (⟨"LoanVansModel", "wasLent", "(I)Z"⟩, 57), (⟨"LoanVansModel", "isSooner", "(II)Z"⟩, 57), (⟨"LoanVansModel", "allOwed", "(I)I"⟩, 57), (⟨"LoanVansModel", "inState", "(I)I"⟩, 57)]
theorem lw_r10 : ∀ q ∈ lw_privs_10, lw_okq q := List.forall_mem_cons.mpr ⟨lw_p144, List.forall_mem_cons.mpr ⟨lw_p145, List.forall_mem_cons.mpr ⟨lw_p146, List.forall_mem_cons.mpr ⟨lw_p147, List.forall_mem_cons.mpr ⟨lw_p148, List.forall_mem_cons.mpr ⟨lw_p149, List.forall_mem_cons.mpr ⟨lw_p150, List.forall_mem_cons.mpr ⟨lw_p151, List.forall_mem_cons.mpr ⟨lw_p152, fun _ h => absurd h List.not_mem_nil⟩⟩⟩⟩⟩⟩⟩⟩⟩
def lw_privs : List (MethodName × Nat) := lw_privs_1 ++ (lw_privs_2 ++ (lw_privs_3 ++ (lw_privs_4 ++ (lw_privs_5 ++ (lw_privs_6 ++ (lw_privs_7 ++ (lw_privs_8 ++ (lw_privs_9 ++ (lw_privs_10)))))))))
def lw_tbl : List Cond := k2_sels lw_privs ++ tables_1
theorem lw_privs_ok : ∀ q ∈ lw_privs, lw_okq q := by
  show ∀ q ∈ lw_privs_1 ++ (lw_privs_2 ++ (lw_privs_3 ++ (lw_privs_4 ++ (lw_privs_5 ++ (lw_privs_6 ++ (lw_privs_7 ++ (lw_privs_8 ++ (lw_privs_9 ++ (lw_privs_10))))))))), lw_okq q
  exact List.forall_mem_append.mpr ⟨lw_r1, List.forall_mem_append.mpr ⟨lw_r2, List.forall_mem_append.mpr ⟨lw_r3, List.forall_mem_append.mpr ⟨lw_r4, List.forall_mem_append.mpr ⟨lw_r5, List.forall_mem_append.mpr ⟨lw_r6, List.forall_mem_append.mpr ⟨lw_r7, List.forall_mem_append.mpr ⟨lw_r8, List.forall_mem_append.mpr ⟨lw_r9, lw_r10⟩⟩⟩⟩⟩⟩⟩⟩⟩
-- ===== end of PART A; then your names; then what follows =====
def va_AOA (ty : FieldType) (U : State) : Prop := (Cond.arrayOver (.array ty)).before #[] U = true
theorem va_AOA.use {ty : FieldType} {A : Array Value} {U : State} (h : va_AOA ty U) : (Cond.arrayOver (.array ty)).before A U = true := h
/-! ===== BEGIN words of one list among another's, by their places ===== -/
theorem goodIn_r {big : List Cond} (ws : List Cond) (ps : List Nat) (hp : ws = ps.filterMap (fun i => big[i]?)) (h : ws.all goodWord = true) : GoodIn big ws := by
  intro w hw
  have h1 := List.all_eq_true.mp h w hw
  rw [hp] at hw
  obtain ⟨i, -, hi⟩ := List.mem_filterMap.mp hw
  have hm : w ∈ big := by first | exact List.mem_of_getElem? hi | exact List.getElem?_mem hi
  exact ⟨hm, good_of_word h1⟩
theorem goodIn_app {big a b : List Cond} (ha : GoodIn big a) (hb : GoodIn big b) : GoodIn big (a ++ b) := fun w h => (List.mem_append.mp h).elim (ha w) (hb w)
theorem goodIn_ca {big a b : List Cond} {c : Cond} (ha : GoodIn big (c :: a)) (hb : GoodIn big b) : GoodIn big (c :: (a ++ b)) := fun w h => (List.mem_cons.mp h).elim (fun e => ha w (List.mem_cons.mpr (Or.inl e))) (fun h => (List.mem_append.mp h).elim (fun h => ha w (List.mem_cons.mpr (Or.inr h))) (hb w))
theorem goodIn_sub {big ws : List Cond} (hm : ∀ w ∈ ws, w ∈ big) (h : ws.all goodWord = true) : GoodIn big ws := fun w hw => ⟨hm w hw, good_of_word (List.all_eq_true.mp h w hw)⟩
/-! ===== END ===== -/

/-! ===== BEGIN new T[n][m]: the outer array a place, the inner ones among the pooled ===== -/
/-- f, but v at every address of l -/
def vr_up {α : Type} (f : Nat → α) (l : List Nat) (v : α) : Nat → α := fun a => if a ∈ l then v else f a
theorem vr_up_in {α : Type} {f : Nat → α} {l : List Nat} {v : α} {a : Nat} (h : a ∈ l) : vr_up f l v a = v := if_pos h
theorem vr_up_ne {α : Type} {f : Nat → α} {l : List Nat} {v : α} {a : Nat} (h : a ∉ l) : vr_up f l v a = f a := if_neg h
theorem vr_rows {L l : List Nat} {f : Nat → va_E} {e : va_E} (h : ∀ a, a ∈ l → a ∉ L) : va_pl L f ++ l.map (fun a => (a, e)) = va_pl (L ++ l) (vr_up f l e) := by
  unfold va_pl
  rw [List.map_append]
  congr 1
  · apply List.map_congr_left
    intro a ha
    rw [vr_up_ne (fun q => h a q ha)]
  · apply List.map_congr_left
    intro a ha
    rw [vr_up_in ha]
theorem vr_lay {X rows : va_W} {x : Nat × va_E} {pl : va_W} {D : va_G} {cl : List vw_C} {H : Heap} (hP : va_P D cl (((X ++ pl) ++ [x]) ++ rows) H) : va_P D cl ((X ++ [x]) ++ (pl ++ rows)) H := by
  rw [List.append_assoc (X ++ pl)] at hP
  have h := va_P.swap hP
  rw [← List.append_assoc X] at h
  have h2 := va_P.swap h
  rw [List.append_assoc (X ++ [x])] at h2
  exact h2
theorem vr_layD {X rows : va_W} {x : Nat × va_E} {pl : va_W} {A : Nat → Prop} (hD : va_D A (((X ++ pl) ++ [x]) ++ rows)) : va_D A ((X ++ [x]) ++ (pl ++ rows)) := by
  rw [List.append_assoc (X ++ pl)] at hD
  have h := va_D.swap hD
  rw [← List.append_assoc X] at h
  have h2 := va_D.swap h
  rw [List.append_assoc (X ++ [x])] at h2
  exact h2
theorem vr_outer (c : ClassId) (N h0 : Nat) : ∀ i : Nat, Jvm.Free.Multi.outerC c N h0 i = arrV c N (fun j => va_rf (if j < i then some (h0 + 1 + j) else none))
  | 0 => by
    show ({ cls := c, slots := Array.replicate N .null, vm := .none } : Cell) = _
    rw [arrV_new]
    refine congrArg (arrV c N) (funext fun j => ?_)
    simp [va_rf]
  | i + 1 => by
    show (Jvm.Free.Multi.outerC c N h0 i).setSlot i (.ref (h0 + 1 + i)) = _
    rw [vr_outer c N h0 i, arrV_store]
    refine congrArg (arrV c N) (funext fun j => ?_)
    by_cases e : j = i
    · subst e
      simp [updV, va_rf]
    · by_cases h : j < i
      · simp [updV, e, h, Nat.lt_succ_of_lt h]
      · simp [updV, e, h, show ¬ j < i + 1 by omega]
section VGM
variable {p : Program} {l : Launch} {e : Env} {R : Room} {s : State} {m : MethodId} {args : Array Value} {below : List Frame} {meth : Method} {c : Code} {H : Heap} {locs : List Loc} {cells slots : Nat} {Q : State → Prop}
variable {cc : ByteArray} {pc : Nat} {ls : Array Slot} {rest : List Value} {D : va_G} {cl : List vw_C} {A : Nat → Prop} {a : Nat} {tys : List (ClassId × FieldType)} {ws : va_W} {H0 : Heap}
theorem va_mna {X : va_W} {L : List Nat} {f : Nat → va_E} {cc : ByteArray} (hexec : p.tables.exec = Jvm.exec) (hb : c.code = cc) {own : String} {index : Nat} {ty : FieldType} {cy : ClassId} (hown : s.vm.findClass own = some m.cls) (hclink : (Cond.classLink own index ("[" ++ (FieldType.array ty).toString)).before args s = true) (hover : va_AOA ty s) (harr : (Cond.arrayClass ty).before args s = true) (hcy : s.vm.findClass (FieldType.array ty).toString = some cy)
    (hK : va_K D cl tys s) (hP : va_P D cl (X ++ va_pl L f) H) (hD : va_D A (X ++ va_pl L f)) (hS : va_S A H0 H locs) (hA : ∀ q, H0.size ≤ q → A q) {n k : Int32} {N' K' : Nat} {z : vp_A} (hn : ¬ n < 0) (hk : ¬ k < 0) (hN : n.toNatClampNeg = N') (hM : k.toNatClampNeg = K')
    (hb1 : N' * 4 ≤ 536870912) (hb2 : K' * componentBytes ty ≤ 536870912) (hb3 : K' ≤ 536870912) (hdf : fits ty (defaultValue ty) = true) (hdd : (defaultValue ty).isDefault = true) (hcells : cells + (1 + N') ≤ R.cells) (hslots : slots + (N' + N' * K') ≤ R.slots) (hz : ∀ c : ClassId, Jvm.Free.Multi.innerC c K' (defaultValue ty) = vp_cell c z) (hdg : decode cc pc = .ok (.multianewarray index 2, 4))
    (kk : ∀ (q : Nat) (r : Nat → Nat) (cA : ClassId) (H1 : Heap), (∀ i j : Nat, i < N' → j < N' → r i = r j → i = j) → (∀ i : Nat, i < N' → r i ∉ L) → va_K D cl (tys ++ [(cA, .array ty)]) s →
      va_P D cl ((X ++ [(q, .inl (cA, N', .inr (.inr (.inr (.inr (fun i => if i < N' then some (r i) else none))))))]) ++ va_pl (L ++ (List.range N').map r) (vr_up f ((List.range N').map r) (.inl (cy, z)))) H1 → va_D A ((X ++ [(q, .inl (cA, N', .inr (.inr (.inr (.inr (fun i => if i < N' then some (r i) else none))))))]) ++ va_pl (L ++ (List.range N').map r) (vr_up f ((List.range N').map r) (.inl (cy, z)))) → va_S A H0 H1 locs →
      W p l e R s m args below meth c H1 locs (cells + 1 + N') (slots + N' + N' * K') Q (F0 m (pc + 4) ls (.ref q :: rest))) : W p l e R s m args below meth c H locs cells slots Q (F0 m pc ls (.int k :: .int n :: rest)) := by
  subst hN
  subst hM
  intro T hT Xs
  obtain ⟨vm₁, cA, comp, -, fA, fC, hO, -, X', step⟩ := Xs.multianewarray2F hexec hown hclink (va_AOA.use hover) harr (g := F0 m pc ls (.int k :: .int n :: rest)) rfl (by rw [hb]; exact hdg) rfl hn hk hb1 hb2 hb3 hdf hdd hcells hslots
  have ec : some cy = some comp := hcy.symm.trans fC
  cases ec
  generalize hF : Jvm.Free.Multi.fill (T.setVm vm₁) cA cy n.toNatClampNeg k.toNatClampNeg (defaultValue ty) n.toNatClampNeg = F at X' step
  have hTh : (T.setVm vm₁).heap = H := hT
  obtain ⟨f1, f2, -, -⟩ := Jvm.Free.Multi.fill_facts (T.setVm vm₁) cA cy n.toNatClampNeg k.toNatClampNeg (defaultValue ty) n.toNatClampNeg
  rw [hF, hTh] at f1 f2
  have hold : ∀ x : Nat, x < H.size → F.heap[x]? = H[x]? := fun x hx => by
    have := Jvm.Free.Multi.fill_old (T.setVm vm₁) cA cy n.toNatClampNeg k.toNatClampNeg (defaultValue ty) (a := x) (by rw [hTh]; exact hx) n.toNatClampNeg
    rw [hF, hTh] at this
    exact this
  have hrow : ∀ j : Nat, j < n.toNatClampNeg → F.heap[H.size + 1 + j]? = some (vp_cell cy z) := fun j hj => by
    have := Jvm.Free.Multi.fill_inner (T.setVm vm₁) cA cy n.toNatClampNeg k.toNatClampNeg (defaultValue ty) n.toNatClampNeg j hj
    rw [hF, hTh, hz] at this
    exact this
  have hout : Jvm.Free.Multi.outerC cA n.toNatClampNeg H.size n.toNatClampNeg = vp_cell cA (n.toNatClampNeg, .inr (.inr (.inr (.inr (fun i => if i < n.toNatClampNeg then some (H.size + 1 + i) else none))))) := by
    rw [vp_cell_q]
    exact vr_outer cA n.toNatClampNeg H.size n.toNatClampNeg
  rw [hout] at f2
  have hlt : ∀ a, a ∈ L → a < H.size := fun a ha => by
    obtain ⟨k9, hk9⟩ := va_pl_get (X := X) (f := f) ha
    exact (hP k9 _ hk9).lt
  have hnl : ∀ i : Nat, i < n.toNatClampNeg → H.size + 1 + i ∉ L := fun i _ h => by
    have := hlt _ h
    omega
  have hnm : ∀ a, a ∈ (List.range n.toNatClampNeg).map (fun i => H.size + 1 + i) → a ∉ L := fun a ha h => by
    obtain ⟨i, -, rfl⟩ := List.mem_map.mp ha
    have := hlt _ h
    omega
  have hP0 : va_P D cl (X ++ va_pl L f) F.heap := hP.kept (fun k9 x hx => hold x.1 ((hP k9 x hx).lt))
  have hP1 : va_P D cl ((X ++ va_pl L f) ++ [(H.size, .inl (cA, n.toNatClampNeg, .inr (.inr (.inr (.inr (fun i => if i < n.toNatClampNeg then some (H.size + 1 + i) else none))))))]) F.heap := hP0.app (fun k9 x hx => by
    have h0 : k9 < 1 := (List.getElem?_eq_some_iff.mp hx).1
    rw [show k9 = 0 by omega] at hx
    cases hx
    exact f2)
  have hP2 : va_P D cl (((X ++ va_pl L f) ++ [(H.size, .inl (cA, n.toNatClampNeg, .inr (.inr (.inr (.inr (fun i => if i < n.toNatClampNeg then some (H.size + 1 + i) else none))))))]) ++ ((List.range n.toNatClampNeg).map (fun i => H.size + 1 + i)).map (fun a => (a, .inl (cy, z)))) F.heap := hP1.app (fun k9 x hx => by
    obtain ⟨a, ha, rfl⟩ := List.mem_map.mp (List.mem_of_getElem? hx)
    obtain ⟨i, hi, rfl⟩ := List.mem_map.mp ha
    exact hrow i (List.mem_range.mp hi))
  have hD2 : va_D A (((X ++ va_pl L f) ++ [(H.size, .inl (cA, n.toNatClampNeg, .inr (.inr (.inr (.inr (fun i => if i < n.toNatClampNeg then some (H.size + 1 + i) else none))))))]) ++ ((List.range n.toNatClampNeg).map (fun i => H.size + 1 + i)).map (fun a => (a, .inl (cy, z)))) := by
    have hD1 := hD.push (e := .inl (cA, n.toNatClampNeg, .inr (.inr (.inr (.inr (fun i => if i < n.toNatClampNeg then some (H.size + 1 + i) else none)))))) hP rfl (hA _ hS.1)
    generalize hW1 : (X ++ va_pl L f) ++ [(H.size, .inl (cA, n.toNatClampNeg, .inr (.inr (.inr (.inr (fun i => if i < n.toNatClampNeg then some (H.size + 1 + i) else none))))))] = W1 at hD1 hP1 ⊢
    have hle : ∀ (k9 : Nat) (x : Nat × va_E), W1[k9]? = some x → x.1 ≤ H.size := fun k9 x hx => by
      rw [← hW1] at hx
      by_cases hl : k9 < (X ++ va_pl L f).length
      · rw [List.getElem?_append_left hl] at hx
        exact Nat.le_of_lt ((hP k9 x hx).lt)
      · rw [List.getElem?_append_right (by omega)] at hx
        have h0 : k9 - (X ++ va_pl L f).length < 1 := (List.getElem?_eq_some_iff.mp hx).1
        rw [show k9 - (X ++ va_pl L f).length = 0 by omega] at hx
        cases hx
        exact Nat.le_refl _
    have hr : ∀ (k9 : Nat) (x : Nat × va_E), (((List.range n.toNatClampNeg).map (fun i => H.size + 1 + i)).map (fun a => ((a, .inl (cy, z)) : Nat × va_E)))[k9]? = some x → x.1 = H.size + 1 + k9 := fun k9 x hx => by
      rw [List.getElem?_map, List.getElem?_map] at hx
      by_cases h9 : k9 < n.toNatClampNeg
      · rw [List.getElem?_range h9] at hx
        cases hx
        rfl
      · have hn0 : (List.range n.toNatClampNeg)[k9]? = none := List.getElem?_eq_none (by rw [List.length_range]; omega)
        rw [hn0] at hx
        cases hx
    refine ⟨fun i j x y hi hj hxy => ?_, fun k9 x hx => ?_⟩
    · by_cases h1 : i < W1.length <;> by_cases h2 : j < W1.length
      · rw [List.getElem?_append_left h1] at hi
        rw [List.getElem?_append_left h2] at hj
        exact hD1.1 i j x y hi hj hxy
      · rw [List.getElem?_append_left h1] at hi
        rw [List.getElem?_append_right (by omega)] at hj
        have := hle _ _ hi
        have := hr _ _ hj
        omega
      · rw [List.getElem?_append_right (by omega)] at hi
        rw [List.getElem?_append_left h2] at hj
        have := hle _ _ hj
        have := hr _ _ hi
        omega
      · rw [List.getElem?_append_right (by omega)] at hi hj
        have := hr _ _ hi
        have := hr _ _ hj
        omega
    · by_cases h1 : k9 < W1.length
      · rw [List.getElem?_append_left h1] at hx
        exact hD1.2 k9 x hx
      · rw [List.getElem?_append_right (by omega)] at hx
        have := hr _ _ hx
        exact hA _ (by have := hS.1; omega)
  have hAr : ArrOfT s cA (.array ty) := fun N9 z9 => by
    obtain ⟨-, k9, hk9, cm9, hkk9⟩ := (hO 0 0 0).1
    exact ⟨(fun q hq => by cases hq), k9, hk9, cm9, hkk9⟩
  have hK2 : va_K D cl (tys ++ [(cA, .array ty)]) s := ⟨hK.1, fun k9 x hx => by
    by_cases hl : k9 < tys.length
    · rw [List.getElem?_append_left hl] at hx
      exact hK.2 k9 x hx
    · rw [List.getElem?_append_right (by omega)] at hx
      have h0 : k9 - tys.length < 1 := (List.getElem?_eq_some_iff.mp hx).1
      rw [show k9 - tys.length = 0 by omega] at hx
      cases hx
      exact ⟨hAr, fA⟩⟩
  obtain ⟨t, a1, b1⟩ := kk H.size (fun i => H.size + 1 + i) cA F.heap (fun i j _ _ h => by have h9 : H.size + 1 + i = H.size + 1 + j := h; omega) hnl hK2 (by rw [← vr_rows hnm]; exact vr_lay hP2) (by rw [← vr_rows hnm]; exact vr_layD hD2) ⟨by rw [f1]; have := hS.1; omega, fun x h1 h2 => (hold x (Nat.lt_of_lt_of_le h1 hS.1)).trans (hS.2.1 x h1 h2), hS.2.2⟩ F rfl X'
  refine ⟨t, step t ?_, b1⟩
  have e : T.heap.size = H.size := by rw [hT]
  rw [e]
  exact a1
end VGM
/-! ===== END ===== -/

/-! ===== BEGIN exceptions that leave a method, and their catching by the caller (launches without stack traces) ===== -/
section VXA
/-! The laws vx_back, vx_callV, vx_callS, vx_callSW, vx_throw0, vx_throwS follow proofs of the library, with one case more: JvmDerived/Free/Laws.lean (Back.of_free), Shelf42/LK1.lean (callV, callS), Shelf/KitTraced.lean (throwNew0V, throwNewS). -/
/-- where a method has thrown q: the class by its name, the cell, what was written, the world -/
def vx_T (XC : String → State → State → Prop) (st : State) (q : Addr) (t : State) (mc ms : Nat) (free : Addr → Prop) : Prop :=
  ∃ (E : String) (ce : Cell) (L : List Loc), XC E st t ∧ t.heap[q]? = some ce ∧ ce.vm = .none ∧ st.vm.findClass E = some ce.cls ∧ st.WarmedH t.vm ∧ st.sameButNew ({ t with vm := st.vm } : State) L mc ms ∧ ∀ z ∈ L, free z.base
def vx_Q (Qc : Array Value → State → Outcome → State → Prop) (XC : String → State → State → Prop) (mc ms : Nat) (free : Addr → Prop) : Array Value → State → Outcome → State → Prop := fun a st o t =>
  (Qc a st o t ∧ ∃ L, FrameEnd st o t L mc ms ∧ ∀ q ∈ L, free q.base) ∨ ∃ q, o = .threw q ∧ vx_T XC st q t mc ms free
/-- a callee that returns or throws -/
def vx_Met (l : Launch) (y : MethodName) (ws : List Cond) (rm : Room) (Pc : Array Value → State → Prop) (Qc : Array Value → State → Outcome → State → Prop) (XC : String → State → State → Prop) (mc ms : Nat) (free : Addr → Prop) : Prop :=
  MetFree l y (headSpec ws rm) Pc (fun _ _ _ _ _ => True) (vx_Q Qc XC mc ms free)
def vx_Post (XC : String → State → State → Prop) (mc ms : Nat) (free : Addr → Prop) : Pt → Array Value → Addr → Pt → Prop := fun A a q B =>
  ∃ (g : JFrame) (mk : MethodId) (t : State) (L : List Loc) (E : String) (ce : Cell), B.U.heap = t.heap ∧ B.U.vm = t.vm ∧ XC E (A.U.calling g mk a) t ∧ t.heap[q]? = some ce ∧ ce.vm = .none ∧ A.U.vm.findClass E = some ce.cls ∧ B.locs = A.locs ++ L ∧ (∀ z ∈ L, free z.base) ∧ B.cells = A.cells + mc ∧ B.slots = A.slots + ms
def vx_Back (l : Launch) (R : Room) (p : Program) (e : Env) (below : List Frame) (s : State) (sargs : Array Value) (y : MethodName) (len W9 : Nat)
    (Pre : Pt → Array Value → Prop) (Post : Pt → Array Value → Option Value → Pt → Prop) (PostX : Pt → Array Value → Addr → Pt → Prop) : Prop :=
  ∀ (m : MethodId) (meth : Method) (c : Code) (A : Pt) (g : JFrame) (ig : Instr) (mk : MethodId) (a : Array Value),
    Stand p l e R s m sargs below meth c A.U A.locs A.cells A.slots → g.method = m → g.locals.size = c.maxLocals → decode c.code g.pc = .ok (ig, len) →
    2 * g.monitorRoom + (g.stack.map fun v => v.category).sum ≤ W9 → A.U.methodNamed? y = some mk → Pre A a →
    (∃ (v : Option Value) (B : Pt), Stand p l e R s m sargs below meth c B.U B.locs B.cells B.slots ∧ Post A a v B ∧
      Steps p.tables e below (doInvoke e (A.U.setTop g) [] mk a).1 (B.U.setTop { g with pc := g.pc + len, stack := v.toList ++ g.stack })) ∨
    (∃ (q : Addr) (B : Pt), Stand p l e R s m sargs below meth c B.U B.locs B.cells B.slots ∧ PostX A a q B ∧
      Steps p.tables e below (doInvoke e (A.U.setTop g) [] mk a).1 ((B.U.setTop g).pushFrame (.throwing q)))
section Payer
variable {l : Launch} {R : Room} {p : Program} {e : Env} {below : List Frame} {s : State} {sargs : Array Value} {y : MethodName} {len W9 : Nat}
theorem vx_back {ws : List Cond} {rm : Room} {Pc : Array Value → State → Prop} {Qc : Array Value → State → Outcome → State → Prop} {XC : String → State → State → Prop} {mc ms : Nat} {free : Addr → Prop} {bytes : ByteArray} {maxL : Nat} {ret : Option FieldType}
    (hM : vx_Met l y ws rm Pc Qc XC mc ms free) (hblind : FrameBlind Pc) (hrc : rm.cells = mc) (hrs : rm.slots = ms)
    (hframes : rm.frames + 1 ≤ R.frames) (hlocals : W9 + (maxL + 11) + rm.locals ≤ R.locals)
    (hws : ∀ w ∈ ws, ∀ a' U, s.WarmedH U.vm → w.before a' U = true) (hcode : Cond.code y bytes maxL ret ∈ ws) (hinit : ∀ a' U, s.WarmedH U.vm → (Cond.initialized y.cls).before a' U = true) :
    vx_Back l R p e below s sargs y len W9 (PreOf R mc ms Pc) (PostOf Qc mc ms free) (vx_Post XC mc ms free) := by
  intro m meth c A g ig mk a X hg hsize hdg hW hn hp
  have h1 : (headSpec ws rm).pre.before a A.U = true := atoms_intro fun w hw => hws w hw _ _ X.warmed
  have h2 : (Cond.code y bytes maxL ret).before a A.U = true := hws _ hcode _ _ X.warmed
  have h3 : (Cond.initialized y.cls).before a A.U = true := hinit _ _ X.warmed
  have h4 : A.cells + (headSpec ws rm).room.cells ≤ R.cells := by rw [show (headSpec ws rm).room.cells = mc from hrc]; exact hp.1
  have h5 : A.slots + (headSpec ws rm).room.slots ≤ R.slots := by rw [show (headSpec ws rm).room.slots = ms from hrs]; exact hp.2.1
  have hPc : Pc a (A.U.calling g mk a) := hblind _ _ _ _ hp.2.2
  obtain ⟨U, Ls, c0, s0⟩ := A
  dsimp only [Pt.U, Pt.locs, Pt.cells, Pt.slots] at h1 h2 h3 h4 h5 X hn hPc ⊢
  obtain ⟨methY, cY, hmY, hcY, -, hlY, -, -, -, -⟩ := Cond.code_spec hn h2
  obtain ⟨kY, hkY, -⟩ := className_of_methodNamed hn
  have hinitY : kY.init = .initialized := Cond.initialized_spec (findClass_of_methodNamed hn) hkY h3
  have h : At U g.method c below := by rw [hg]; exact X.here
  have hlocals9 : W9 + (maxL + 11) + (headSpec ws rm).room.locals ≤ R.locals := hlocals
  have happ : (headSpec ws rm).appliesLoose y e.platform (U.calling g mk a) = true :=
    Spec.appliesLoose_calling (g := g) h hdg hn hkY hinitY
      (X.room_calling (g := g) (R' := (headSpec ws rm).room) hsize hmY hcY hframes (by rw [hlY]; omega) h4 h5) h1
  obtain ⟨mid, hmid⟩ := h.above
  have hfr : (U.setTop g).frames = (.java g :: mid) ++ below := by rw [State.frames_setTop' g h.top, hmid]; rfl
  obtain ⟨o, s₂, hsteps, -, hend, hq⟩ := Steps.callFree hM p X.admits X.cas X.clock (acts := []) hfr happ hPc trivial
  have hq' : vx_Q Qc XC mc ms free a (U.calling g mk a) o s₂ := hq
  rw [State.frames_setTop' g h.top] at hend
  obtain ⟨g₀, hg0⟩ := Option.isSome_iff_exists.mp h.top
  obtain ⟨r, hr⟩ := State.topJava?_eq_some.mp hg0
  have hr' : (({ U with heap := s₂.heap, slotsUsed := s₂.slotsUsed } : State).setVm s₂.vm).frames = .java g₀ :: r := hr
  rcases hq' with ⟨hqc, L, hfe, hL⟩ | ⟨q, rfl, E, ce, L, hx, hce, hcv, hcl, hW₂, hsm, hL⟩
  · obtain ⟨⟨v, rfl⟩, hW₂, e2, q2, q3, q4, q5, q6⟩ := id hfe
    have e3 : s₂ = ({ (U.calling g mk a).setFrames s₂.frames with heap := s₂.heap, slotsUsed := s₂.slotsUsed } : State).setVm s₂.vm := by
      have : s₂ = ({ s₂ with vm := (U.calling g mk a).vm } : State).setVm s₂.vm := rfl
      rw [e2] at this
      exact this
    obtain ⟨c₂, i₂, len₂, hc₂, hd₂, hf₂⟩ := hend
    have hW' : U.WarmedH s₂.vm := hW₂
    have hcc : c₂ = c := by
      have h1 : s₂.code? g.method = U.code? g.method := by
        rw [State.code?_eq, State.code?_eq, hW'.alike.method?]
      exact Option.some.inj (hc₂.symm.trans (h1.trans h.code))
    subst hcc
    have hlen : len₂ = len := by rw [hdg] at hd₂; cases hd₂; rfl
    subst hlen
    have hs₂ : s₂ = (({ U with heap := s₂.heap, slotsUsed := s₂.slotsUsed } : State).setVm s₂.vm).setTop { g with pc := g.pc + len₂, stack := v.toList ++ g.stack } := by
      refine e3.trans ?_
      rw [hf₂, State.calling_eq h.top, State.setFrames_setFrames, State.setTop_of_frames _ hr', hr]
      rfl
    have hsame : U.sameButNew ({ U with heap := s₂.heap, slotsUsed := s₂.slotsUsed } : State) L mc ms := by
      refine ⟨?_, q2, q3, q4, q5, q6⟩
      obtain ⟨t, ht, -⟩ := State.frames_cons hr
      show ({ U with heap := s₂.heap, slotsUsed := s₂.slotsUsed } : State) = { U.setFrames U.frames with heap := s₂.heap, slotsUsed := s₂.slotsUsed }
      rw [State.setFrames_self ht]
    subst hg
    refine Or.inl ⟨v, ⟨(({ U with heap := s₂.heap, slotsUsed := s₂.slotsUsed } : State).setVm s₂.vm), Ls ++ L, c0 + mc, s0 + ms⟩,
      ⟨X.admits, X.cas, X.clock, X.frames, X.room, X.hears, X.method, X.code, (X.here.setHeapUsed s₂.heap s₂.slotsUsed).setVm hW'.alike, X.tail, State.WarmedH.trans X.warmed hW', X.limits, X.bytes, X.same.trans (hsame.setVm s.vm)⟩,
      ⟨g, mk, s₂, L, rfl, rfl, hqc, rfl, hL, rfl, rfl⟩, ?_⟩
    show Steps p.tables e below _ ((({ U with heap := s₂.heap, slotsUsed := s₂.slotsUsed } : State).setVm s₂.vm).setTop { g with pc := g.pc + len₂, stack := v.toList ++ g.stack })
    rw [← hs₂]
    exact hsteps
  · obtain ⟨e2, q2, q3, q4, q5, q6⟩ := id hsm
    have e3 : s₂ = ({ (U.calling g mk a).setFrames s₂.frames with heap := s₂.heap, slotsUsed := s₂.slotsUsed } : State).setVm s₂.vm := by
      have : s₂ = ({ s₂ with vm := (U.calling g mk a).vm } : State).setVm s₂.vm := rfl
      rw [e2] at this
      exact this
    have hf₂ : s₂.frames = .throwing q :: .java g :: U.frames.tail := hend
    have hW' : U.WarmedH s₂.vm := hW₂
    have hs₂ : s₂ = ((({ U with heap := s₂.heap, slotsUsed := s₂.slotsUsed } : State).setVm s₂.vm).setTop g).pushFrame (.throwing q) := by
      refine e3.trans ?_
      rw [hf₂, State.calling_eq h.top, State.setFrames_setFrames, State.pushFrame, State.frames_setTop _ hr', State.setTop_of_frames _ hr', State.setFrames_setFrames, hr]
      rfl
    have hsame : U.sameButNew ({ U with heap := s₂.heap, slotsUsed := s₂.slotsUsed } : State) L mc ms := by
      refine ⟨?_, q2, q3, q4, q5, q6⟩
      obtain ⟨t, ht, -⟩ := State.frames_cons hr
      show ({ U with heap := s₂.heap, slotsUsed := s₂.slotsUsed } : State) = { U.setFrames U.frames with heap := s₂.heap, slotsUsed := s₂.slotsUsed }
      rw [State.setFrames_self ht]
    subst hg
    refine Or.inr ⟨q, ⟨(({ U with heap := s₂.heap, slotsUsed := s₂.slotsUsed } : State).setVm s₂.vm), Ls ++ L, c0 + mc, s0 + ms⟩,
      ⟨X.admits, X.cas, X.clock, X.frames, X.room, X.hears, X.method, X.code, (X.here.setHeapUsed s₂.heap s₂.slotsUsed).setVm hW'.alike, X.tail, State.WarmedH.trans X.warmed hW', X.limits, X.bytes, X.same.trans (hsame.setVm s.vm)⟩,
      ⟨g, mk, s₂, L, E, ce, rfl, rfl, hx, hce, hcv, hcl, rfl, hL, rfl, rfl⟩, ?_⟩
    show Steps p.tables e below _ (((({ U with heap := s₂.heap, slotsUsed := s₂.slotsUsed } : State).setVm s₂.vm).setTop g).pushFrame (.throwing q))
    rw [← hs₂]
    exact hsteps
end Payer
section Calls
variable {p : Program} {l : Launch} {e : Env} {R : Room} {s : State} {m : MethodId} {args : Array Value} {below : List Frame} {meth : Method} {c : Code} {T : State} {locs : List Loc} {cells slots : Nat}
theorem vx_callV (X : Stand p l e R s m args below meth c T locs cells slots) (hexec : p.tables.exec = Jvm.exec) {own C : String} {index : Nat} {y : MethodName} {bytes : ByteArray} {maxL : Nat} {ret : Option FieldType}
    (hown : s.vm.findClass own = some m.cls) (hlink : (Cond.methodLink own index y).before args s = true) (hinst : (Cond.instanceMethod y).before args s = true) (hsel : (Cond.selects C y y).before args s = true)
    (hcode : (Cond.code y bytes maxL ret).before args s = true) (hy : y.cls ≠ "java/lang/invoke/MethodHandle" ∧ y.cls ≠ "java/lang/invoke/VarHandle")
    {W9 : Nat} {Pre : Pt → Array Value → Prop} {Post : Pt → Array Value → Option Value → Pt → Prop} {PostX : Pt → Array Value → Addr → Pt → Prop} (hK : vx_Back l R p e below s args y 3 W9 Pre Post PostX)
    {b : Addr} {cellB : Cell} (hcell : T.heap[b]? = some cellB) (hobj : cellB.vm.isStatics = false) (hcls : s.vm.findClass C = some cellB.cls)
    {g : JFrame} (hg : g.method = m) (hsize : g.locals.size = c.maxLocals) {argsL rest : List Value} (hlen : ∀ sig, parseMethodDescriptor y.desc = some sig → argsL.length = sig.parameters.length)
    (hstack : g.stack = argsL.reverse ++ .ref b :: rest) (hW : 2 * g.monitorRoom + (rest.map fun v => v.category).sum ≤ W9) (hdg : decode c.code g.pc = .ok (.invokevirtual index, 3))
    (hpre : ∀ vm₁, s.WarmedH vm₁ → Pre ⟨T.setVm vm₁, locs, cells, slots⟩ (Value.ref b :: argsL).toArray) :
    (∃ (v : Option Value) (vm₁ : Vm) (B : Pt), s.WarmedH vm₁ ∧ Stand p l e R s m args below meth c B.U B.locs B.cells B.slots ∧ Post ⟨T.setVm vm₁, locs, cells, slots⟩ (Value.ref b :: argsL).toArray v B ∧
      ∀ target, Steps p.tables e below (B.U.setTop { g with pc := g.pc + 3, stack := v.toList ++ rest }) target → Steps p.tables e below (T.setTop g) target) ∨
    (∃ (q : Addr) (vm₁ : Vm) (B : Pt), s.WarmedH vm₁ ∧ Stand p l e R s m args below meth c B.U B.locs B.cells B.slots ∧ PostX ⟨T.setVm vm₁, locs, cells, slots⟩ (Value.ref b :: argsL).toArray q B ∧
      Steps p.tables e below (T.setTop g) ((B.U.setTop { g with stack := rest }).pushFrame (.throwing q))) := by
  obtain ⟨mk, methM, hnamed, hmethM, hstM, habM⟩ := Cond.instanceMethod_spec hinst
  obtain ⟨methM', cM, hmethM', -, -, -, -, -, -, hsigM⟩ := Cond.code_spec hnamed hcode
  cases hmethM.symm.trans hmethM'
  obtain ⟨c2, r2, m2, q1, q2, q3, q4, kP, hkP, hkPi⟩ := Cond.selects_spec hsel
  cases hcls.symm.trans q1
  cases (State.methodFound?_of_named hnamed hy).symm.trans q2
  cases hnamed.symm.trans q3
  have hselP : selectMethod e.platform s.vm cellB.cls mk = .method mk := by rw [Launch.admits_selectMethod X.admits]; exact q4
  obtain ⟨vm₁, X₁, hstep₁⟩ := X.invokevirtual hexec hown hlink hnamed hmethM hstM hkP hkPi hy (a := b) (cell := cellB) hcell
    (fun z h => by rw [h] at hobj; cases hobj) hselP hmethM habM hkP hkPi (g := g) hg (argsL := argsL) (rest := rest) (hlen _ hsigM) hstack hdg
  rcases hK m meth c ⟨T.setVm vm₁, locs, cells, slots⟩ { g with stack := rest } (.invokevirtual index) mk (Value.ref b :: argsL).toArray X₁ hg hsize hdg hW (X₁.named hnamed) (hpre vm₁ X₁.warmed) with ⟨v, B, X', hpost, hsteps⟩ | ⟨q, B, X', hpost, hsteps⟩
  · exact Or.inl ⟨v, vm₁, B, X₁.warmed, X', hpost, fun target h => hstep₁ _ fun acts => by rw [doInvoke_state]; exact hsteps.trans h⟩
  · exact Or.inr ⟨q, vm₁, B, X₁.warmed, X', hpost, hstep₁ _ fun acts => by rw [doInvoke_state]; exact hsteps⟩
theorem vx_callS (X : Stand p l e R s m args below meth c T locs cells slots) (hexec : p.tables.exec = Jvm.exec) {own : String} {index : Nat} {y : MethodName} {bytes : ByteArray} {maxL : Nat} {ret : Option FieldType}
    (hown : s.vm.findClass own = some m.cls) (hlink : (Cond.methodLink own index y).before args s = true) (hstat : (Cond.static y).before args s = true) (hinit : (Cond.initialized y.cls).before args s = true)
    (hcode : (Cond.code y bytes maxL ret).before args s = true) (hy : y.cls ≠ "java/lang/invoke/MethodHandle" ∧ y.cls ≠ "java/lang/invoke/VarHandle")
    {W9 : Nat} {Pre : Pt → Array Value → Prop} {Post : Pt → Array Value → Option Value → Pt → Prop} {PostX : Pt → Array Value → Addr → Pt → Prop} (hK : vx_Back l R p e below s args y 3 W9 Pre Post PostX)
    {g : JFrame} (hg : g.method = m) (hsize : g.locals.size = c.maxLocals) {argsL rest : List Value} (hlen : ∀ sig, parseMethodDescriptor y.desc = some sig → argsL.length = sig.parameters.length)
    (hstack : g.stack = argsL.reverse ++ rest) (hW : 2 * g.monitorRoom + (rest.map fun v => v.category).sum ≤ W9) (hdg : decode c.code g.pc = .ok (.invokestatic index, 3))
    (hpre : ∀ vm₁, s.WarmedH vm₁ → Pre ⟨T.setVm vm₁, locs, cells, slots⟩ argsL.toArray) :
    (∃ (v : Option Value) (vm₁ : Vm) (B : Pt), s.WarmedH vm₁ ∧ Stand p l e R s m args below meth c B.U B.locs B.cells B.slots ∧ Post ⟨T.setVm vm₁, locs, cells, slots⟩ argsL.toArray v B ∧
      ∀ target, Steps p.tables e below (B.U.setTop { g with pc := g.pc + 3, stack := v.toList ++ rest }) target → Steps p.tables e below (T.setTop g) target) ∨
    (∃ (q : Addr) (vm₁ : Vm) (B : Pt), s.WarmedH vm₁ ∧ Stand p l e R s m args below meth c B.U B.locs B.cells B.slots ∧ PostX ⟨T.setVm vm₁, locs, cells, slots⟩ argsL.toArray q B ∧
      Steps p.tables e below (T.setTop g) ((B.U.setTop { g with stack := rest }).pushFrame (.throwing q))) := by
  obtain ⟨mk, hnamed⟩ := Cond.code_named hcode
  obtain ⟨methM, cM, hmethM, -, -, -, -, -, -, hsigM⟩ := Cond.code_spec hnamed hcode
  have hstatic : methM.isStatic = true := Cond.static_spec hnamed hmethM hstat
  obtain ⟨kP, hkP, -⟩ := className_of_methodNamed hnamed
  have hinitP : kP.init = .initialized := Cond.initialized_spec (findClass_of_methodNamed hnamed) hkP hinit
  obtain ⟨vm₁, X₁, hstep₁⟩ := X.invokestatic hexec hown hlink hnamed hmethM hstatic hkP hinitP hy (g := g) hg (argsL := argsL) (rest := rest) (hlen _ hsigM) hstack hdg
  rcases hK m meth c ⟨T.setVm vm₁, locs, cells, slots⟩ { g with stack := rest } (.invokestatic index) mk argsL.toArray X₁ hg hsize hdg hW (X₁.named hnamed) (hpre vm₁ X₁.warmed) with ⟨v, B, X', hpost, hsteps⟩ | ⟨q, B, X', hpost, hsteps⟩
  · exact Or.inl ⟨v, vm₁, B, X₁.warmed, X', hpost, fun target h => hstep₁ _ fun acts => by rw [doInvoke_state]; exact hsteps.trans h⟩
  · exact Or.inr ⟨q, vm₁, B, X₁.warmed, X', hpost, hstep₁ _ fun acts => by rw [doInvoke_state]; exact hsteps⟩
end Calls
theorem vx_cls {s : State} {T : State} {vm₁ : Vm} {E : String} {k : ClassId} (hW : s.WarmedH vm₁) (h : (T.setVm vm₁).vm.findClass E = some k) : s.vm.findClass E = some k := by
  have h1 : vm₁.findClass E = some k := h
  rw [hW.alike.findClass] at h1
  exact h1
/-- the method's frame g, with q thrown over it -/
def vx_W (p : Program) (l : Launch) (e : Env) (R : Room) (s : State) (m : MethodId) (args : Array Value) (below : List Frame) (meth : Method) (c : Code) (H : Heap) (locs : List Loc) (cells slots : Nat) (Q : State → Prop) (g : JFrame) (q : Addr) : Prop :=
  ∀ T : State, T.heap = H → Stand p l e R s m args below meth c T locs cells slots → ∃ t, Steps p.tables e below ((T.setTop g).pushFrame (.throwing q)) t ∧ Q t
def vx_Run (p : Program) (l : Launch) (e : Env) (R : Room) (s : State) (m : MethodId) (args : Array Value) (below : List Frame) (meth : Method) (c : Code) (H : Heap) (locs : List Loc) (cells slots mc ms : Nat) (g : JFrame) (rest : List Value) (Qa : State → Outcome → State → Prop) (XC : String → State → State → Prop) (free : Addr → Prop) : Prop :=
  ∀ T : State, T.heap = H → Stand p l e R s m args below meth c T locs cells slots →
    (∃ (v : Option Value) (st₀ t T' : State) (L : List Loc), st₀.heap = H ∧ Stand p l e R s m args below meth c T' (locs ++ L) (cells + mc) (slots + ms) ∧ (∀ q ∈ L, free q.base) ∧ T'.heap = t.heap ∧ T'.vm = t.vm ∧ Qa st₀ (.returned v) t ∧
      Goes p e below T g T' { g with pc := g.pc + 3, stack := v.toList ++ rest }) ∨
    (∃ (q : Addr) (st₀ t T' : State) (L : List Loc) (E : String) (ce : Cell), st₀.heap = H ∧ Stand p l e R s m args below meth c T' (locs ++ L) (cells + mc) (slots + ms) ∧ (∀ z ∈ L, free z.base) ∧ T'.heap = t.heap ∧ T'.vm = t.vm ∧ XC E st₀ t ∧ t.heap[q]? = some ce ∧ ce.vm = .none ∧ s.vm.findClass E = some ce.cls ∧
      Steps p.tables e below (T.setTop g) ((T'.setTop { g with stack := rest }).pushFrame (.throwing q)))
def vx_X {S : Type} (px : S → Prop) (B : String → S → State → Prop) (A : Nat → Prop) : String → State → State → Prop := fun E st t => ∃ u : S, px u ∧ B E u t ∧ va_F A st t
section Runs
variable {p : Program} {l : Launch} {e : Env} {R : Room} {s : State} {m : MethodId} {args : Array Value} {below : List Frame} {meth : Method} {c : Code} {H : Heap} {locs : List Loc} {cells slots : Nat}
variable {y : MethodName} {bytes cc : ByteArray} {maxL nL mc ms n index : Nat} {ret : Option FieldType} {ws : List Cond} {rm : Room} {Pc : Array Value → State → Prop} {Qc : Array Value → State → Outcome → State → Prop} {XC : String → State → State → Prop} {free : Addr → Prop} {Ts : List Cond} {own C : String} {b : Addr} {As rest : List Value} {g : JFrame}
theorem vx_callBack (cb : CallB R s args own index y bytes maxL ret ws rm mc ms n) (hM : vx_Met l y ws rm Pc Qc XC mc ms free) (hbl : FrameBlind Pc) : vx_Back l R p e below s args y 3 8 (PreOf R mc ms Pc) (PostOf Qc mc ms free) (vx_Post XC mc ms free) := by
  obtain ⟨hrc, hrs, hfr, hlo, hws, hcw, -, hini, -⟩ := cb
  exact vx_back (bytes := bytes) (maxL := maxL) (ret := ret) hM hbl hrc hrs hfr hlo hws hcw (fun a' U hW => word_at hW (Or.inl (by first | rfl | simp [Cond.onTables, Cond.keeps, Cond.steady])) hini)
theorem vx_runV (S : CallFix p m c cc nL s args Ts own) (hM : vx_Met l y ws rm Pc Qc XC mc ms free) (cw : CallW R s args own C index y bytes maxL ret ws rm mc ms n) (hp : PreV s H C b Pc As)
    (hg : g.method = m) (hn : As.length = n) (hsize : g.locals.size = nL) (hstack : g.stack = As.reverse ++ .ref b :: rest) (hW : 2 * g.monitorRoom + (rest.map fun v => v.category).sum ≤ 8) (hdg : decode cc g.pc = .ok (.invokevirtual index, 3)) (hf : cells + mc ≤ R.cells ∧ slots + ms ≤ R.slots) :
    vx_Run p l e R s m args below meth c H locs cells slots mc ms g rest (Qc (Value.ref b :: As).toArray) XC free := by
  have hK : vx_Back l R p e below s args y 3 8 (PreOf R mc ms Pc) (PostOf Qc mc ms free) (vx_Post XC mc ms free) := vx_callBack cw.1 hM hp.1
  obtain ⟨⟨-, -, -, -, -, -, hcode, -, hy, hlen, hl⟩, hin, hse⟩ := cw
  obtain ⟨hx, hb, hml, ho, -⟩ := S
  obtain ⟨-, ⟨cellB, hcB, hoB, hclB⟩, hPc⟩ := hp
  intro T hT X
  rcases vx_callV X hx (C := C) (bytes := bytes) (maxL := maxL) (ret := ret) ho hl hin hse hcode hy hK (by rw [hT]; exact hcB) hoB hclB hg (hsize.trans hml.symm) (argsL := As) (rest := rest) (fun sig h => hn.trans (hlen sig h)) hstack hW (by rw [hb]; exact hdg)
    (fun vm₁ hW₁ => ⟨hf.1, hf.2, hPc (T.setVm vm₁) hT hW₁⟩) with ⟨v, vm₁, ⟨U', l2, c2, s2⟩, hW₁, X', ⟨g', mk, t, L, e1, e2, hq, h1, hL, h2, h3⟩, st⟩ | ⟨q, vm₁, ⟨U', l2, c2, s2⟩, hW₁, X', ⟨g', mk, t, L, E, ce, e1, e2, hq, hce, hcv, hcl, h1, hL, h2, h3⟩, st⟩
  · dsimp only [Pt.U, Pt.locs, Pt.cells, Pt.slots] at X' e1 e2 h1 h2 h3 st
    subst h1; subst h2; subst h3
    exact Or.inl ⟨v, (T.setVm vm₁).calling g' mk (Value.ref b :: As).toArray, t, U', L, hT, X', hL, e1, e2, hq, st⟩
  · dsimp only [Pt.U, Pt.locs, Pt.cells, Pt.slots] at X' e1 e2 h1 h2 h3 st hcl
    subst h1; subst h2; subst h3
    exact Or.inr ⟨q, (T.setVm vm₁).calling g' mk (Value.ref b :: As).toArray, t, U', L, E, ce, hT, X', hL, e1, e2, hq, hce, hcv, vx_cls hW₁ hcl, st⟩
theorem vx_runS (S : CallFix p m c cc nL s args Ts own) (hM : vx_Met l y ws rm Pc Qc XC mc ms free) (cw : CallB R s args own index y bytes maxL ret ws rm mc ms n ∧ (Cond.static y).before args s = true) (hp : PreS s H Pc As)
    (hg : g.method = m) (hn : As.length = n) (hsize : g.locals.size = nL) (hstack : g.stack = As.reverse ++ rest) (hW : 2 * g.monitorRoom + (rest.map fun v => v.category).sum ≤ 8) (hdg : decode cc g.pc = .ok (.invokestatic index, 3)) (hf : cells + mc ≤ R.cells ∧ slots + ms ≤ R.slots) :
    vx_Run p l e R s m args below meth c H locs cells slots mc ms g rest (Qc As.toArray) XC free := by
  have hK : vx_Back l R p e below s args y 3 8 (PreOf R mc ms Pc) (PostOf Qc mc ms free) (vx_Post XC mc ms free) := vx_callBack cw.1 hM hp.1
  obtain ⟨⟨-, -, -, -, -, -, hcode, hini, hy, hlen, hl⟩, hstt⟩ := cw
  obtain ⟨hx, hb, hml, ho, -⟩ := S
  intro T hT X
  rcases vx_callS X hx (bytes := bytes) (maxL := maxL) (ret := ret) ho hl hstt hini hcode hy hK hg (hsize.trans hml.symm) (argsL := As) (rest := rest) (fun sig h => hn.trans (hlen sig h)) hstack hW (by rw [hb]; exact hdg)
    (fun vm₁ hW₁ => ⟨hf.1, hf.2, hp.2 (T.setVm vm₁) hT hW₁⟩) with ⟨v, vm₁, ⟨U', l2, c2, s2⟩, hW₁, X', ⟨g', mk, t, L, e1, e2, hq, h1, hL, h2, h3⟩, st⟩ | ⟨q, vm₁, ⟨U', l2, c2, s2⟩, hW₁, X', ⟨g', mk, t, L, E, ce, e1, e2, hq, hce, hcv, hcl, h1, hL, h2, h3⟩, st⟩
  · dsimp only [Pt.U, Pt.locs, Pt.cells, Pt.slots] at X' e1 e2 h1 h2 h3 st
    subst h1; subst h2; subst h3
    exact Or.inl ⟨v, (T.setVm vm₁).calling g' mk As.toArray, t, U', L, hT, X', hL, e1, e2, hq, st⟩
  · dsimp only [Pt.U, Pt.locs, Pt.cells, Pt.slots] at X' e1 e2 h1 h2 h3 st hcl
    subst h1; subst h2; subst h3
    exact Or.inr ⟨q, (T.setVm vm₁).calling g' mk As.toArray, t, U', L, E, ce, hT, X', hL, e1, e2, hq, hce, hcv, vx_cls hW₁ hcl, st⟩
end Runs
section Rows
variable {p : Program} {l : Launch} {e : Env} {R : Room} {s : State} {m : MethodId} {args : Array Value} {below : List Frame} {meth : Method} {c : Code} {H : Heap} {locs : List Loc} {cells slots : Nat} {Q : State → Prop}
variable {mc ms : Nat} {free : Addr → Prop} {A0 A1 : Nat → Prop} {H0 : Heap} {a : Array Value} {pc : Nat} {ls : Array Slot} {st0 rest : List Value}
theorem vx_keep {st₀ t T' : State} {L : List Loc} (h0 : st₀.heap = H) (e1 : T'.heap = t.heap) (hS : va_S A0 H0 H locs) (hA : ∀ q, q < H.size → A1 q → A0 q) (hf : ∀ q, free q → A0 q) (hL : ∀ q ∈ L, free q.base) (hF : va_F A1 st₀ t) :
    H.size ≤ T'.heap.size ∧ (∀ q : Nat, q < H.size → ¬ A1 q → T'.heap[q]? = H[q]?) ∧ va_S A0 H0 T'.heap (locs ++ L) := by
  obtain ⟨hz, hk⟩ := hF
  rw [h0] at hz hk
  exact ⟨by rw [e1]; exact hz, fun q h1 h2 => by rw [e1]; exact hk q h1 h2,
    ⟨Nat.le_trans hS.1 (by rw [e1]; exact hz), fun q h1 h2 => by rw [e1, hk q (Nat.lt_of_lt_of_le h1 hS.1) (fun z => h2 (hA q (Nat.lt_of_lt_of_le h1 hS.1) z))]; exact hS.2.1 q h1 h2, fun q hq => by
      rcases List.mem_append.mp hq with h | h
      · exact hS.2.2 q h
      · exact hf _ (hL q h)⟩⟩
theorem vx_calli {S SX : Type} {post : Int32 → S → Prop} {px : SX → Prop} {B : S → State → Prop} {BX : String → SX → State → Prop} {AX : Nat → Prop} (hr : vx_Run p l e R s m args below meth c H locs cells slots mc ms (F0 m pc ls st0) rest (va_Qi post B A1 a) (vx_X px BX AX) free) (hS : va_S A0 H0 H locs) (hA : ∀ q, q < H.size → A1 q → A0 q) (hf : ∀ q, free q → A0 q) (hAX : ∀ q, q < H.size → AX q → A0 q)
    (kx : ∀ (E : String) (ce : Cell) (q9 : Addr) (u : SX) (t : State) (H1 : Heap) (locs1 : List Loc), t.heap = H1 → s.vm.Alike t.vm → px u → BX E u t → H.size ≤ H1.size → (∀ q : Nat, q < H.size → ¬ AX q → H1[q]? = H[q]?) → va_S A0 H0 H1 locs1 → H1[q9]? = some ce → ce.vm = .none → s.vm.findClass E = some ce.cls → vx_W p l e R s m args below meth c H1 locs1 (cells + mc) (slots + ms) Q (F0 m pc ls rest) q9)
    (kk : ∀ (r : Int32) (u : S) (t : State) (H1 : Heap) (locs1 : List Loc), t.heap = H1 → s.vm.Alike t.vm → post r u → B u t → H.size ≤ H1.size → (∀ q : Nat, q < H.size → ¬ A1 q → H1[q]? = H[q]?) → va_S A0 H0 H1 locs1 → W p l e R s m args below meth c H1 locs1 (cells + mc) (slots + ms) Q (F0 m (pc + 3) ls (.int r :: rest))) : W p l e R s m args below meth c H locs cells slots Q (F0 m pc ls st0) := by
  intro T hT X
  rcases hr T hT X with ⟨v, st₀, t, T', L, h0, X', hL, e1, e2, ⟨⟨r, u, hv, hp, hb⟩, hF⟩, st⟩ | ⟨q, st₀, t, T', L, E, ce, h0, X', hL, e1, e2, ⟨u, hp, hb, hF⟩, hce, hcv, hcl, st⟩
  · cases hv
    obtain ⟨k1, k2, k3⟩ := vx_keep h0 e1 hS hA hf hL hF
    obtain ⟨t2, a1, b1⟩ := kk r u t T'.heap (locs ++ L) e1.symm (by rw [← e2]; exact X'.warmed.alike) hp hb k1 k2 k3 T' rfl X'
    exact ⟨t2, st t2 a1, b1⟩
  · obtain ⟨k1, k2, k3⟩ := vx_keep h0 e1 hS hAX hf hL hF
    obtain ⟨t2, a1, b1⟩ := kx E ce q u t T'.heap (locs ++ L) e1.symm (by rw [← e2]; exact X'.warmed.alike) hp hb k1 k2 k3 (by rw [e1]; exact hce) hcv hcl T' rfl X'
    exact ⟨t2, st.trans a1, b1⟩
theorem vx_calll {S SX : Type} {post : Int64 → S → Prop} {px : SX → Prop} {B : S → State → Prop} {BX : String → SX → State → Prop} {AX : Nat → Prop} (hr : vx_Run p l e R s m args below meth c H locs cells slots mc ms (F0 m pc ls st0) rest (va_Ql post B A1 a) (vx_X px BX AX) free) (hS : va_S A0 H0 H locs) (hA : ∀ q, q < H.size → A1 q → A0 q) (hf : ∀ q, free q → A0 q) (hAX : ∀ q, q < H.size → AX q → A0 q)
    (kx : ∀ (E : String) (ce : Cell) (q9 : Addr) (u : SX) (t : State) (H1 : Heap) (locs1 : List Loc), t.heap = H1 → s.vm.Alike t.vm → px u → BX E u t → H.size ≤ H1.size → (∀ q : Nat, q < H.size → ¬ AX q → H1[q]? = H[q]?) → va_S A0 H0 H1 locs1 → H1[q9]? = some ce → ce.vm = .none → s.vm.findClass E = some ce.cls → vx_W p l e R s m args below meth c H1 locs1 (cells + mc) (slots + ms) Q (F0 m pc ls rest) q9)
    (kk : ∀ (r : Int64) (u : S) (t : State) (H1 : Heap) (locs1 : List Loc), t.heap = H1 → s.vm.Alike t.vm → post r u → B u t → H.size ≤ H1.size → (∀ q : Nat, q < H.size → ¬ A1 q → H1[q]? = H[q]?) → va_S A0 H0 H1 locs1 → W p l e R s m args below meth c H1 locs1 (cells + mc) (slots + ms) Q (F0 m (pc + 3) ls (.long r :: rest))) : W p l e R s m args below meth c H locs cells slots Q (F0 m pc ls st0) := by
  intro T hT X
  rcases hr T hT X with ⟨v, st₀, t, T', L, h0, X', hL, e1, e2, ⟨⟨r, u, hv, hp, hb⟩, hF⟩, st⟩ | ⟨q, st₀, t, T', L, E, ce, h0, X', hL, e1, e2, ⟨u, hp, hb, hF⟩, hce, hcv, hcl, st⟩
  · cases hv
    obtain ⟨k1, k2, k3⟩ := vx_keep h0 e1 hS hA hf hL hF
    obtain ⟨t2, a1, b1⟩ := kk r u t T'.heap (locs ++ L) e1.symm (by rw [← e2]; exact X'.warmed.alike) hp hb k1 k2 k3 T' rfl X'
    exact ⟨t2, st t2 a1, b1⟩
  · obtain ⟨k1, k2, k3⟩ := vx_keep h0 e1 hS hAX hf hL hF
    obtain ⟨t2, a1, b1⟩ := kx E ce q u t T'.heap (locs ++ L) e1.symm (by rw [← e2]; exact X'.warmed.alike) hp hb k1 k2 k3 (by rw [e1]; exact hce) hcv hcl T' rfl X'
    exact ⟨t2, st.trans a1, b1⟩
theorem vx_callf {S SX : Type} {post : UInt32 → S → Prop} {px : SX → Prop} {B : S → State → Prop} {BX : String → SX → State → Prop} {AX : Nat → Prop} (hr : vx_Run p l e R s m args below meth c H locs cells slots mc ms (F0 m pc ls st0) rest (va_Qf post B A1 a) (vx_X px BX AX) free) (hS : va_S A0 H0 H locs) (hA : ∀ q, q < H.size → A1 q → A0 q) (hf : ∀ q, free q → A0 q) (hAX : ∀ q, q < H.size → AX q → A0 q)
    (kx : ∀ (E : String) (ce : Cell) (q9 : Addr) (u : SX) (t : State) (H1 : Heap) (locs1 : List Loc), t.heap = H1 → s.vm.Alike t.vm → px u → BX E u t → H.size ≤ H1.size → (∀ q : Nat, q < H.size → ¬ AX q → H1[q]? = H[q]?) → va_S A0 H0 H1 locs1 → H1[q9]? = some ce → ce.vm = .none → s.vm.findClass E = some ce.cls → vx_W p l e R s m args below meth c H1 locs1 (cells + mc) (slots + ms) Q (F0 m pc ls rest) q9)
    (kk : ∀ (r : UInt32) (u : S) (t : State) (H1 : Heap) (locs1 : List Loc), t.heap = H1 → s.vm.Alike t.vm → post r u → B u t → H.size ≤ H1.size → (∀ q : Nat, q < H.size → ¬ A1 q → H1[q]? = H[q]?) → va_S A0 H0 H1 locs1 → W p l e R s m args below meth c H1 locs1 (cells + mc) (slots + ms) Q (F0 m (pc + 3) ls (.float r :: rest))) : W p l e R s m args below meth c H locs cells slots Q (F0 m pc ls st0) := by
  intro T hT X
  rcases hr T hT X with ⟨v, st₀, t, T', L, h0, X', hL, e1, e2, ⟨⟨r, u, hv, hp, hb⟩, hF⟩, st⟩ | ⟨q, st₀, t, T', L, E, ce, h0, X', hL, e1, e2, ⟨u, hp, hb, hF⟩, hce, hcv, hcl, st⟩
  · cases hv
    obtain ⟨k1, k2, k3⟩ := vx_keep h0 e1 hS hA hf hL hF
    obtain ⟨t2, a1, b1⟩ := kk r u t T'.heap (locs ++ L) e1.symm (by rw [← e2]; exact X'.warmed.alike) hp hb k1 k2 k3 T' rfl X'
    exact ⟨t2, st t2 a1, b1⟩
  · obtain ⟨k1, k2, k3⟩ := vx_keep h0 e1 hS hAX hf hL hF
    obtain ⟨t2, a1, b1⟩ := kx E ce q u t T'.heap (locs ++ L) e1.symm (by rw [← e2]; exact X'.warmed.alike) hp hb k1 k2 k3 (by rw [e1]; exact hce) hcv hcl T' rfl X'
    exact ⟨t2, st.trans a1, b1⟩
theorem vx_calld {S SX : Type} {post : UInt64 → S → Prop} {px : SX → Prop} {B : S → State → Prop} {BX : String → SX → State → Prop} {AX : Nat → Prop} (hr : vx_Run p l e R s m args below meth c H locs cells slots mc ms (F0 m pc ls st0) rest (va_Qd post B A1 a) (vx_X px BX AX) free) (hS : va_S A0 H0 H locs) (hA : ∀ q, q < H.size → A1 q → A0 q) (hf : ∀ q, free q → A0 q) (hAX : ∀ q, q < H.size → AX q → A0 q)
    (kx : ∀ (E : String) (ce : Cell) (q9 : Addr) (u : SX) (t : State) (H1 : Heap) (locs1 : List Loc), t.heap = H1 → s.vm.Alike t.vm → px u → BX E u t → H.size ≤ H1.size → (∀ q : Nat, q < H.size → ¬ AX q → H1[q]? = H[q]?) → va_S A0 H0 H1 locs1 → H1[q9]? = some ce → ce.vm = .none → s.vm.findClass E = some ce.cls → vx_W p l e R s m args below meth c H1 locs1 (cells + mc) (slots + ms) Q (F0 m pc ls rest) q9)
    (kk : ∀ (r : UInt64) (u : S) (t : State) (H1 : Heap) (locs1 : List Loc), t.heap = H1 → s.vm.Alike t.vm → post r u → B u t → H.size ≤ H1.size → (∀ q : Nat, q < H.size → ¬ A1 q → H1[q]? = H[q]?) → va_S A0 H0 H1 locs1 → W p l e R s m args below meth c H1 locs1 (cells + mc) (slots + ms) Q (F0 m (pc + 3) ls (.double r :: rest))) : W p l e R s m args below meth c H locs cells slots Q (F0 m pc ls st0) := by
  intro T hT X
  rcases hr T hT X with ⟨v, st₀, t, T', L, h0, X', hL, e1, e2, ⟨⟨r, u, hv, hp, hb⟩, hF⟩, st⟩ | ⟨q, st₀, t, T', L, E, ce, h0, X', hL, e1, e2, ⟨u, hp, hb, hF⟩, hce, hcv, hcl, st⟩
  · cases hv
    obtain ⟨k1, k2, k3⟩ := vx_keep h0 e1 hS hA hf hL hF
    obtain ⟨t2, a1, b1⟩ := kk r u t T'.heap (locs ++ L) e1.symm (by rw [← e2]; exact X'.warmed.alike) hp hb k1 k2 k3 T' rfl X'
    exact ⟨t2, st t2 a1, b1⟩
  · obtain ⟨k1, k2, k3⟩ := vx_keep h0 e1 hS hAX hf hL hF
    obtain ⟨t2, a1, b1⟩ := kx E ce q u t T'.heap (locs ++ L) e1.symm (by rw [← e2]; exact X'.warmed.alike) hp hb k1 k2 k3 (by rw [e1]; exact hce) hcv hcl T' rfl X'
    exact ⟨t2, st.trans a1, b1⟩
theorem vx_callv {S SX : Type} {post : S → Prop} {px : SX → Prop} {B : S → State → Prop} {BX : String → SX → State → Prop} {AX : Nat → Prop} (hr : vx_Run p l e R s m args below meth c H locs cells slots mc ms (F0 m pc ls st0) rest (va_Qv post B A1 a) (vx_X px BX AX) free) (hS : va_S A0 H0 H locs) (hA : ∀ q, q < H.size → A1 q → A0 q) (hf : ∀ q, free q → A0 q) (hAX : ∀ q, q < H.size → AX q → A0 q)
    (kx : ∀ (E : String) (ce : Cell) (q9 : Addr) (u : SX) (t : State) (H1 : Heap) (locs1 : List Loc), t.heap = H1 → s.vm.Alike t.vm → px u → BX E u t → H.size ≤ H1.size → (∀ q : Nat, q < H.size → ¬ AX q → H1[q]? = H[q]?) → va_S A0 H0 H1 locs1 → H1[q9]? = some ce → ce.vm = .none → s.vm.findClass E = some ce.cls → vx_W p l e R s m args below meth c H1 locs1 (cells + mc) (slots + ms) Q (F0 m pc ls rest) q9)
    (kk : ∀ (u : S) (t : State) (H1 : Heap) (locs1 : List Loc), t.heap = H1 → s.vm.Alike t.vm → post u → B u t → H.size ≤ H1.size → (∀ q : Nat, q < H.size → ¬ A1 q → H1[q]? = H[q]?) → va_S A0 H0 H1 locs1 → W p l e R s m args below meth c H1 locs1 (cells + mc) (slots + ms) Q (F0 m (pc + 3) ls (rest))) : W p l e R s m args below meth c H locs cells slots Q (F0 m pc ls st0) := by
  intro T hT X
  rcases hr T hT X with ⟨v, st₀, t, T', L, h0, X', hL, e1, e2, ⟨⟨u, hv, hp, hb⟩, hF⟩, st⟩ | ⟨q, st₀, t, T', L, E, ce, h0, X', hL, e1, e2, ⟨u, hp, hb, hF⟩, hce, hcv, hcl, st⟩
  · cases hv
    obtain ⟨k1, k2, k3⟩ := vx_keep h0 e1 hS hA hf hL hF
    obtain ⟨t2, a1, b1⟩ := kk u t T'.heap (locs ++ L) e1.symm (by rw [← e2]; exact X'.warmed.alike) hp hb k1 k2 k3 T' rfl X'
    exact ⟨t2, st t2 a1, b1⟩
  · obtain ⟨k1, k2, k3⟩ := vx_keep h0 e1 hS hAX hf hL hF
    obtain ⟨t2, a1, b1⟩ := kx E ce q u t T'.heap (locs ++ L) e1.symm (by rw [← e2]; exact X'.warmed.alike) hp hb k1 k2 k3 (by rw [e1]; exact hce) hcv hcl T' rfl X'
    exact ⟨t2, st.trans a1, b1⟩
/-- caught by the row x of this method's table; the rows ahead don't take it -/
theorem vx_catch {own name : String} {E : String} {ce : Cell} {q : Addr} (hown : s.vm.findClass own = some m.cls) (pre : List ExceptionTableEntry) (x : ExceptionTableEntry) (suf : List ExceptionTableEntry) (hsplit : c.exceptionTable.toList = pre ++ x :: suf)
    (hpass : ∀ z ∈ pre, covers z pc = false ∨ (z.catchType ≠ 0 ∧ ∃ nm : String, (Cond.classLink own z.catchType nm).before args s = true ∧ va_Nc E nm s)) (hx : covers x pc = true) (h0 : x.catchType ≠ 0)
    (hlink : (Cond.classLink own x.catchType name).before args s = true) (hcast : (Cond.castable E name).before args s = true) (hcell : H[q]? = some ce) (hv : ce.vm = .none) (hcl : s.vm.findClass E = some ce.cls)
    (kk : W p l e R s m args below meth c H locs cells slots Q (F0 m x.handlerPc ls [.ref q])) : vx_W p l e R s m args below meth c H locs cells slots Q (F0 m pc ls rest) q := by
  intro T hT X
  have hpl : e.platform.magicAccessors = ({} : Platform).magicAccessors := by rw [X.admits.platform]
  obtain ⟨c3, c4, hc3, hc4, hasg⟩ := Cond.castable_spec hcast
  cases Option.some.inj (hc3.symm.trans hcl)
  obtain ⟨c5, hc5, hcl5⟩ := Cond.classLink_spec hown hlink e.platform hpl
  cases Option.some.inj (hc4.symm.trans hc5)
  obtain ⟨vm', X', st⟩ := X.thenCaughtThrough q (g := F0 m pc ls rest) rfl (Steps.refl _) (by rw [hT]; exact hcell) (by rw [hv]; rfl) (by obtain ⟨k9, h9, -⟩ := Vm.findClass_spec hcl; exact ⟨k9, h9⟩) pre x suf hsplit
    (fun z hz => by
      rcases hpass z hz with h | ⟨hz0, nm, hl1, hn1⟩
      · exact Or.inl h
      · obtain ⟨c6, hc6, hcl6⟩ := Cond.classLink_spec hown hl1 e.platform hpl
        obtain ⟨a8, b8, h1, h2, h3⟩ := hn1
        cases Option.some.inj (h1.symm.trans hcl)
        cases Option.some.inj (h2.symm.trans hc6)
        exact Or.inr ⟨hz0, _, hcl6, h3⟩) hx (Or.inr ⟨h0, c4, hcl5, hasg⟩)
  obtain ⟨t, a1, b1⟩ := kk (T.setVm vm') hT X'
  exact ⟨t, st.trans a1, b1⟩
end Rows
section Ends
variable {p : Program} {l : Launch} {e : Env} {R : Room} {s : State} {m : MethodId} {args : Array Value} {below : List Frame} {meth : Method} {c : Code} {H : Heap} {locs : List Loc} {cells slots : Nat} {Q : State → Prop}
variable {mc ms : Nat} {free : Addr → Prop} {A0 A1 : Nat → Prop} {H0 : Heap} {a : Array Value} {ls : Array Slot} {st0 rest : List Value}
variable {Qc : Array Value → State → Outcome → State → Prop} {XC : String → State → State → Prop}
/-- what a body that may throw owes at its end -/
def vx_MQ (below : List Frame) (Qc : Array Value → State → Outcome → State → Prop) (XC : String → State → State → Prop) (a : Array Value) (s : State) (mc ms : Nat) (free : Addr → Prop) : State → Prop := fun t =>
  ∃ o, t.status = .running ∧ Ended t below o ∧ vx_Q Qc XC mc ms free a s o t
theorem vx_ret {g : JFrame} {mc ms : Nat} (k : W p l e R s m args below meth c H locs cells slots (MQ below Qc args s mc ms free) g) : W p l e R s m args below meth c H locs cells slots (vx_MQ below Qc XC args s mc ms free) g := by
  intro T hT X
  obtain ⟨t, a1, o, b1, b2, b3, b4⟩ := k T hT X
  exact ⟨t, a1, o, b1, b2, Or.inl ⟨b3, b4⟩⟩
/-- not caught here: it goes on to the caller -/
theorem vx_widen {g : JFrame} {q : Addr} {k n : Nat} (h1 : cells ≤ k) (h2 : slots ≤ n) (kk : vx_W p l e R s m args below meth c H locs k n Q g q) : vx_W p l e R s m args below meth c H locs cells slots Q g q := fun T hT X => kk T hT (stand_widen X h1 h2)
theorem vx_out {pc : Nat} {E : String} {ce : Cell} {q : Addr} {mc ms : Nat} (hout : ∀ x ∈ c.exceptionTable.toList, covers x pc = false) (hlocks : meth.locks = false) (hcell : H[q]? = some ce) (hv : ce.vm = .none) (hcl : s.vm.findClass E = some ce.cls)
    (hx : ∀ t : State, t.heap = H → s.vm.Alike t.vm → XC E s t) (hf : ∀ z ∈ locs, free z.base) (hc : cells ≤ mc) (hs : slots ≤ ms) :
    vx_W p l e R s m args below meth c H locs cells slots (vx_MQ below Qc XC args s mc ms free) (F0 m pc ls rest) q := by
  intro T hT X
  obtain ⟨st1, hrun, hend, hW, hsm⟩ := X.leaveThrown q (g := F0 m pc ls rest) rfl rfl rfl hout hlocks
  have hcell9 : (T.setFrames (.throwing q :: below)).heap[q]? = some ce := by
    show T.heap[q]? = some ce
    rw [hT]; exact hcell
  exact ⟨_, st1, .threw q, hrun, hend, Or.inr ⟨q, rfl, E, ce, locs, hx _ hT hW.alike, hcell9, hv, hcl, hW, hsm.mono hc hs, hf⟩⟩
theorem vx_frame {U : State} {k n : Nat} (h : s.sameButNew ({ U with vm := s.vm } : State) locs k n) : s.heap.size ≤ U.heap.size ∧ ∀ q : Nat, q < s.heap.size → (∀ z ∈ locs, z.base ≠ q) → U.heap[q]? = s.heap[q]? := by
  obtain ⟨-, h2, -, -, -, h6⟩ := h
  refine ⟨h2, fun q hq hz => ?_⟩
  obtain ⟨c9, e1, e2, e3, e4⟩ := h6 q _ (Array.getElem?_eq_getElem hq)
  have hs : c9.slots = (s.heap[q]).slots := Array.ext_getElem? fun i => e4 i fun hm => hz _ hm rfl
  have h9 : c9 = s.heap[q] := by
    rw [hs] at e2
    exact e2
  have e5 : U.heap[q]? = some c9 := e1
  rw [e5, h9, Array.getElem?_eq_getElem hq]
/-- the words of a throw but the four that speak of the heap -/
def vx_no (w : Cond) : Bool := decide (w ≠ .isRef (.static Bundle.tN "UNASSIGNED_STACK" Bundle.steD)) && decide (w ≠ .isRef (.static Bundle.tN "SUPPRESSED_SENTINEL" Bundle.listD)) && decide (w ≠ .laysStatic Bundle.tN "UNASSIGNED_STACK" Bundle.steD) && decide (w ≠ .laysStatic Bundle.tN "SUPPRESSED_SENTINEL" Bundle.listD)
def vx_at0 (own : String) (ic : Nat) (X : String) (names : List String) : List Cond := (Bundle.ownAtoms0 own ic X names).filter vx_no
def vx_atS (own : String) (ic : Nat) (X : String) (names : List String) : List Cond := (Bundle.ownAtoms own ic X names).filter vx_no
/-- a word that the tables alone decide, or a good one -/
def vx_ot (w : Cond) : Bool := w.onTables || goodWord w
theorem vx_ot_at {args a' : Array Value} {s U : State} {w : Cond} (hW : s.WarmedH U.vm) (hvm : s.vm = U.vm) (hg : vx_ot w = true) (h : w.before args s = true) : w.before a' U = true := by
  simp only [vx_ot, Bool.or_eq_true] at hg
  rcases hg with hg | hg
  · exact va_tabs hg hvm h
  · exact word_at hW (good_of_word hg) h
/-- a list's words: the good ones out of the method's own list, the others by premises of their own -/
theorem vx_hat {args : Array Value} {s : State} {L B : List Cond} (h1 : ∀ w ∈ L.filter goodWord, w.before args s = true) (h2 : ∀ w ∈ L.filter (fun w => !goodWord w), w ∈ B) (h3 : ∀ w ∈ B, w.before args s = true) : ∀ w ∈ L, w.before args s = true := by
  intro w hw
  by_cases g : goodWord w = true
  · exact h1 w (List.mem_filter.mpr ⟨hw, g⟩)
  · refine h3 w (h2 w (List.mem_filter.mpr ⟨hw, ?_⟩))
    show (!goodWord w) = true
    cases hgw : goodWord w
    · rfl
    · exact absurd hgw g
theorem vx_c {args : Array Value} {s : State} {w : Cond} {B : List Cond} (h : w.before args s = true) (t : ∀ w ∈ B, w.before args s = true) : ∀ w' ∈ w :: B, w'.before args s = true := fun w' h' => (List.mem_cons.mp h').elim (fun e => by rw [e]; exact h) (t w')
theorem vx_n {args : Array Value} {s : State} : ∀ w ∈ ([] : List Cond), w.before args s = true := fun _ h => nomatch h
theorem vx_own {args : Array Value} {s : State} {L : List Cond} (h1 : ∀ w ∈ L.filter vx_no, w.before args s = true)
    (hU : (Cond.isRef (.static Bundle.tN "UNASSIGNED_STACK" Bundle.steD)).before args s = true) (hN : (Cond.isRef (.static Bundle.tN "SUPPRESSED_SENTINEL" Bundle.listD)).before args s = true)
    (lU : (Cond.laysStatic Bundle.tN "UNASSIGNED_STACK" Bundle.steD).before args s = true) (lN : (Cond.laysStatic Bundle.tN "SUPPRESSED_SENTINEL" Bundle.listD).before args s = true) : ∀ w ∈ L, w.before args s = true := by
  intro w hw
  by_cases e1 : w = .isRef (.static Bundle.tN "UNASSIGNED_STACK" Bundle.steD)
  · rw [e1]; exact hU
  · by_cases e2 : w = .isRef (.static Bundle.tN "SUPPRESSED_SENTINEL" Bundle.listD)
    · rw [e2]; exact hN
    · by_cases e3 : w = .laysStatic Bundle.tN "UNASSIGNED_STACK" Bundle.steD
      · rw [e3]; exact lU
      · by_cases e4 : w = .laysStatic Bundle.tN "SUPPRESSED_SENTINEL" Bundle.listD
        · rw [e4]; exact lN
        · exact h1 w (List.mem_filter.mpr ⟨hw, by unfold vx_no; rw [decide_eq_true e1, decide_eq_true e2, decide_eq_true e3, decide_eq_true e4]; rfl⟩)
/-- where a static field lies, its class's statics cell in H -/
def vx_L (C n d : String) (A : Nat → Prop) (U : State) (H : Heap) : Prop := ∃ (c : ClassId) (k : Class) (i : Nat) (f : Field) (a : Nat) (cell : Cell), U.vm.findClass C = some c ∧ U.fieldFound? C n d = some (c, k, i, f) ∧ f.isStatic = true ∧ k.statics = some a ∧ H[a]? = some cell ∧ cell.vm.isStatics = true ∧ cell.cls = c ∧ f.slot < cell.slots.size ∧ k.staticTypes[f.slot]? = some f.type ∧ ¬ A a
theorem vx_L.moved {C n d : String} {A : Nat → Prop} {u U : State} {H : Heap} (hvm : u.vm.Alike U.vm) (h : vx_L C n d A u H) : vx_L C n d A U H := by
  obtain ⟨c, k, i, f, a, cell, h1, h2, h3, h4, h5, h6, h7, h8, h9, h10⟩ := h
  obtain ⟨k', hi', he⟩ := State.fieldFound?_setVm hvm h2
  exact ⟨c, k', i, f, a, cell, by rw [hvm.findClass]; exact h1, hi', h3, by rw [he]; exact h4, h5, h6, h7, h8, by rw [he]; exact h9, h10⟩
theorem vx_L.kept {C n d : String} {A : Nat → Prop} {U : State} {H H1 : Heap} (h : vx_L C n d A U H) (hq : ∀ a : Nat, a < H.size → ¬ A a → H1[a]? = H[a]?) : vx_L C n d A U H1 := by
  obtain ⟨c, k, i, f, a, cell, h1, h2, h3, h4, h5, h6, h7, h8, h9, h10⟩ := h
  exact ⟨c, k, i, f, a, cell, h1, h2, h3, h4, by rw [hq a (Array.getElem?_eq_some_iff.mp h5).1 h10]; exact h5, h6, h7, h8, h9, h10⟩
theorem vx_L.narrow {C n d : String} {A B : Nat → Prop} {U : State} {H : Heap} (h : vx_L C n d A U H) (hAB : ∀ q, B q → A q) : vx_L C n d B U H := by
  obtain ⟨c, k, i, f, a, cell, h1, h2, h3, h4, h5, h6, h7, h8, h9, h10⟩ := h
  exact ⟨c, k, i, f, a, cell, h1, h2, h3, h4, h5, h6, h7, h8, h9, fun z => h10 (hAB _ z)⟩
theorem vx_L.word {C n d : String} {A : Nat → Prop} {s : State} {args : Array Value} (h : vx_L C n d A s s.heap) : (Cond.laysStatic C n d).before args s = true := by
  obtain ⟨c, k, i, f, a, cell, h1, h2, h3, h4, h5, h6, h7, h8, h9, -⟩ := h
  show (Cond.laysStatic C n d).holds args s none s [] = true
  exact Cond.laysStatic_of h1 h2 h3 h4 h5 h6 h7 h8 h9
/-- .. and what it holds: null or some reference -/
def vx_Zq (C n d : String) (A : Nat → Prop) (U : State) (H : Heap) : Prop := va_Zq C n d A U H ∧ vx_L C n d A U H
theorem vx_Zq.moved {C n d : String} {A : Nat → Prop} {u U : State} {H : Heap} (hvm : u.vm.Alike U.vm) (h : vx_Zq C n d A u H) : vx_Zq C n d A U H := ⟨va_Zq.moved hvm h.1, vx_L.moved hvm h.2⟩
theorem vx_Zq.kept {C n d : String} {A : Nat → Prop} {U : State} {H H1 : Heap} (h : vx_Zq C n d A U H) (hq : ∀ a : Nat, a < H.size → ¬ A a → H1[a]? = H[a]?) : vx_Zq C n d A U H1 := ⟨va_Zq.kept h.1 hq, vx_L.kept h.2 hq⟩
theorem vx_Zq.narrow {C n d : String} {A B : Nat → Prop} {U : State} {H : Heap} (h : vx_Zq C n d A U H) (hAB : ∀ q, B q → A q) : vx_Zq C n d B U H := ⟨va_Zq.narrow h.1 hAB, vx_L.narrow h.2 hAB⟩
theorem vx_Zqof {args : Array Value} {s : State} {C n d : String} {A : Nat → Prop} (hl : (Cond.laysStatic C n d).before args s = true) (hini : (Cond.initialized C).before args s = true) (h : (Cond.isRef (.static C n d)).before args s = true) (hA : ∀ a : Nat, a < s.heap.size → ¬ A a) : vx_Zq C n d A s s.heap := by
  refine ⟨va_Zqof hl hini h hA, ?_⟩
  obtain ⟨c, k, i, f, a, cell, h1, h2, h3, h4, h5, h6, h7, h8, h9⟩ := Cond.laysStatic_spec hl
  exact ⟨c, k, i, f, a, cell, h1, h2, h3, h4, h5, h6, h7, h8, h9, hA a (Array.getElem?_eq_some_iff.mp h5).1⟩
theorem vx_isRef {C n d : String} {v : Value} {A : Nat → Prop} {s : State} {args : Array Value} (h : va_Z C n d v A s s.heap) (hv : v.isRef = true) : (Cond.isRef (.static C n d)).before args s = true := by
  obtain ⟨cf, kf, fi, f, a, cell, h1, h2, h3, h4, h5, h6, h7, -⟩ := h
  have he : (Term.static C n d).eval args s none [] s = some v := by
    simp [Term.eval, State.fieldNamed?, h1, h2, h4, h5, h6, h7]
  simp only [Cond.before, Cond.holds, Cond.value, he]
  cases v <;> simp_all [Value.isRef]
theorem vx_isRefq {C n d : String} {A : Nat → Prop} {s : State} {args : Array Value} (h : va_Zq C n d A s s.heap) : (Cond.isRef (.static C n d)).before args s = true := by
  rcases h with h | ⟨t, h⟩
  · exact vx_isRef h rfl
  · exact vx_isRef h rfl
/-- the same frame, seen from here: as if the method were called anew in this heap -/
theorem vx_rebase {T : State} (X : Stand p l e R s m args below meth c T locs cells slots) {R' : Room} (hf : R'.frames ≤ R.frames) (hl : R'.locals ≤ R.locals) (hc : cells + R'.cells ≤ R.cells) (hs : slots + R'.slots ≤ R.slots) :
    Stand p l e R' ((T.setVm s.vm).setFrames (.invoking m args :: below)) m args below meth c T [] 0 0 := by
  have htop : (T.setVm s.vm).topJava?.isSome := X.here.top
  have hF : ((T.setVm s.vm).setFrames (.invoking m args :: below)).frames = .invoking m args :: below := State.frames_setFrames _ (State.cur_lt_of_top htop)
  obtain ⟨g₀, hg0⟩ := Option.isSome_iff_exists.mp htop
  obtain ⟨r, hr⟩ := State.topJava?_eq_some.mp hg0
  have hl9 : e.platform.stackLimits (T.setVm s.vm).me = e.platform.stackLimits s.me := X.limits
  have hb9 : (T.setVm s.vm).me.stackBytes = s.me.stackBytes := X.bytes
  refine ⟨X.admits, X.cas, X.clock, hF, ?_, X.hears, X.method, X.code, X.here, X.tail, X.warmed, ?_, ?_, ?_⟩
  · have h := X.room
    have hU : ((T.setVm s.vm).setFrames (.invoking m args :: below)).localsInUse = s.localsInUse := by
      rw [State.localsInUse_invoking hF (meth := meth) (c := c) X.method X.code, State.localsInUse_invoking X.frames X.method X.code]
    simp only [State.hasRoom, Bool.and_eq_true, decide_eq_true_eq] at h ⊢
    obtain ⟨⟨⟨⟨h1, h2, h3, h4, h5, h6⟩, h7⟩, h8⟩, h9⟩ := h
    rw [X.frames, List.length_cons] at h2 h3
    have q1 := X.heapSize
    have q2 := X.used
    simp only [hF, hU, List.length_cons, State.stackLimits_setFrames, State.stackBytes_setFrames, hl9, hb9]
    refine ⟨⟨⟨⟨by omega, by omega, by omega, by omega, by omega, h6⟩, ?_⟩, ?_⟩, X.book⟩
    · show T.heap.size + R'.cells ≤ e.platform.maxCells
      omega
    · show T.slotsUsed + R'.slots ≤ e.platform.maxSlots
      omega
  · rw [State.stackLimits_setFrames]; rfl
  · rw [State.stackBytes_setFrames]; rfl
  · refine ⟨?_, Nat.le_refl _, Nat.le_refl _, ?_, ?_, fun a c9 h9 => ⟨c9, h9, rfl, rfl, fun _ _ => rfl⟩⟩
    · obtain ⟨t, ht, -⟩ := State.frames_cons hr
      show T.setVm s.vm = { ((T.setVm s.vm).setFrames (.invoking m args :: below)).setFrames (T.setVm s.vm).frames with heap := T.heap, slotsUsed := T.slotsUsed }
      rw [State.setFrames_setFrames, State.setFrames_self ht]
      rfl
    · show T.slotsUsed = T.slotsUsed + ((T.heap.toList.drop T.heap.size).map (·.slots.size)).sum
      rw [List.drop_eq_nil_of_le (Nat.le_of_eq Array.length_toList)]
      rfl
    · show ((T.heap.toList.drop T.heap.size).map (·.slots.size)).sum ≤ 0
      rw [List.drop_eq_nil_of_le (Nat.le_of_eq Array.length_toList)]
      exact Nat.le_refl _
/-- 'throw new E()': new; dup; invokespecial; athrow -/
theorem vx_throw0 {cc : ByteArray} {pc : Nat} (hexec : p.tables.exec = Jvm.exec) (hb : c.code = cc) (hl : l.stackTraces = false) {own cls : String} {names : List String} {ik ic mc ms : Nat} {A : Nat → Prop}
    (hown : s.vm.findClass own = some m.cls) (hcls : Bundle.fit cls = true) (hnames : ∀ n ∈ names, Bundle.fit n = true)
    (hk : (Cond.classLink own ik cls).before args s = true) (hini : (Cond.initialized cls).before args s = true) (hat : ∀ w ∈ vx_at0 own ic cls names, w.before args s = true)
    (hgood : ∀ w ∈ Cond.classLink own ik cls :: Cond.initialized cls :: vx_at0 own ic cls names, vx_ot w = true)
    (hU : vx_Zq Bundle.tN "UNASSIGNED_STACK" Bundle.steD A s s.heap) (hN : vx_Zq Bundle.tN "SUPPRESSED_SENTINEL" Bundle.listD A s s.heap) (hS : va_S A s.heap H locs) (hsize : ls.size = c.maxLocals)
    (d0 : decode cc pc = .ok (.new ik, 3)) (d3 : decode cc (pc + 3) = .ok (.dup, 1)) (d4 : decode cc (pc + 4) = .ok (.invokespecial ic, 3)) (d7 : decode cc (pc + 7) = .ok (.athrow, 1))
    (hout : ∀ x ∈ c.exceptionTable.toList, covers x (pc + 7) = false)
    (hRframes : names.length + 3 < R.frames) (hRlocals : (rest.map fun v => v.category).sum + (13 * (names.length + 1) + 42) ≤ R.locals) (hRcells : cells + 1 ≤ R.cells) (hRslots : slots + 6 ≤ R.slots) (hlocks : meth.locks = false)
    (hx : ∀ t : State, s.vm.Alike t.vm → H.size ≤ t.heap.size → (∀ q : Nat, q < H.size → t.heap[q]? = H[q]?) → XC cls s t)
    (hf : ∀ z ∈ locs, free z.base) (hc : cells + 1 ≤ mc) (hs : slots + 6 ≤ ms) :
    W p l e R s m args below meth c H locs cells slots (vx_MQ below Qc XC args s mc ms free) (F0 m pc ls rest) := by
  intro T hT X
  have htr : e.platform.stackTraces = false := (show e.platform.stackTraces = l.stackTraces by rw [X.admits.platform]).trans hl
  have Y := vx_rebase X (R' := { frames := R.frames, locals := R.locals, cells := 1, slots := 6 }) (Nat.le_refl _) (Nat.le_refl _) hRcells hRslots
  obtain ⟨s', hA⟩ : ∃ z, z = (T.setVm s.vm).setFrames (.invoking m args :: below) := ⟨_, rfl⟩
  rw [← hA] at Y
  have hvm : s'.vm = s.vm := by rw [hA]; rfl
  have hhp : s'.heap = H := by rw [hA]; exact hT
  have hW0 : s.WarmedH s'.vm := by rw [hvm]; exact State.WarmedH.refl s
  have hat' : ∀ w ∈ vx_at0 own ic cls names, w.before args s' = true := fun w hw => vx_ot_at hW0 hvm.symm (hgood w (List.mem_cons_of_mem _ (List.mem_cons_of_mem _ hw))) (hat w hw)
  have hk' : (Cond.classLink own ik cls).before args s' = true := vx_ot_at hW0 hvm.symm (hgood _ List.mem_cons_self) hk
  have hini' : (Cond.initialized cls).before args s' = true := vx_ot_at hW0 hvm.symm (hgood _ (List.mem_cons_of_mem _ List.mem_cons_self)) hini
  have hU' : vx_Zq Bundle.tN "UNASSIGNED_STACK" Bundle.steD A s' s'.heap := by rw [hhp]; exact vx_Zq.moved hW0.alike (hU.kept hS.2.1)
  have hN' : vx_Zq Bundle.tN "SUPPRESSED_SENTINEL" Bundle.listD A s' s'.heap := by rw [hhp]; exact vx_Zq.moved hW0.alike (hN.kept hS.2.1)
  have h : ∀ w ∈ Bundle.ownAtoms0 own ic cls names, w.before args s' = true := vx_own hat' (vx_isRefq hU'.1) (vx_isRefq hN'.1) hU'.2.word hN'.2.word
  have hown' : s'.vm.findClass own = some m.cls := by rw [hvm]; exact hown
  have hins : (Cond.instantiable cls 6).before args s' = true := h _ (by simp [Bundle.ownAtoms0])
  obtain ⟨vm₁, cX, kX, hfX, hkX, -, -, X₁, st1⟩ := Y.newCold hexec (own := own) (C := cls) (index := ik) (n := 6) hown' hk' hins hini'
    (g := F0 m pc ls rest) rfl (by rw [hb]; exact d0) (Nat.le_refl _) (Nat.le_refl _)
  generalize hT1 : (T.setVm vm₁).pushCell { cls := cX, slots := kX.instanceTypes.map defaultValue, vm := .none } = T1 at X₁ st1
  have hcat : (Value.ref T.heap.size).category = 1 := rfl
  have hcellA : T1.heap[T.heap.size]? = some (freshCell cX kX) := by rw [← hT1]; exact State.heap_pushCell_size _ _
  have d3' : decode c.code (pc + 3) = .ok (.dup, 1) := by rw [hb]; exact d3
  obtain ⟨U, hsteps, hrun, hend, hW, hsame, ce, hce, hO⟩ := X₁.ctorThrow0 hexec htr (own := own) (cls := cls) (names := names) (ic := ic) hown' hcls hnames h (fun x hx => nomatch hx) hfX hkX hcellA (by rw [hhp, hT]; exact Nat.le_refl _)
    (g := { method := m, pc := pc + 4, locals := ls, stack := .ref T.heap.size :: .ref T.heap.size :: rest, locked := none }) rfl hsize rfl rfl (rest := rest) rfl
    (by rw [hb]; exact d4) (by rw [hb]; exact d7) hout hRframes (by simp only [List.map_cons, List.sum_cons, hcat]; omega) hlocks
  obtain ⟨f1, f2⟩ := vx_frame hsame
  rw [hhp] at f1 f2
  have hWs : s.WarmedH U.vm := State.WarmedH.trans hW0 hW
  have hcl : s.vm.findClass cls = some ce.cls := by
    have h9 := hO.cls
    rw [hvm] at h9
    exact h9
  have hall : s.sameButNew ({ U with vm := s.vm } : State) locs mc ms := by
    subst hA
    obtain ⟨e1, e2⟩ := hsame
    rw [State.setFrames_setFrames] at e1
    have h2 : (T.setVm s.vm).sameButNew ({ U with vm := s.vm } : State) [] (0 + 1) (0 + 6) := ⟨e1, e2⟩
    have h3 := X.same.trans h2
    rw [List.append_nil] at h3
    exact h3.mono hc hs
  refine ⟨U, ?_, .threw T.heap.size, hrun, hend, Or.inr ⟨T.heap.size, rfl, cls, ce, locs, hx U hWs.alike f1 (fun q hq => f2 q hq (fun z hz => nomatch hz)), hce, hO.vm, hcl, hWs, hall, hf⟩⟩
  refine st1 _ ?_
  show Steps p.tables e below (T1.setTop { method := m, pc := pc + 3, locals := ls, stack := .ref T.heap.size :: rest, locked := none }) _
  jvm_step X₁.here [X₁.here.top, hexec, d3', Value.category]
  exact hsteps
/-- 'throw new E("text")': new; dup; ldc; invokespecial; athrow -/
theorem vx_throwS {cc : ByteArray} {pc : Nat} (hexec : p.tables.exec = Jvm.exec) (hb : c.code = cc) (hl : l.stackTraces = false) {own cls text : String} {names : List String} {ik is ic mc ms sa : Nat} {A : Nat → Prop}
    (hown : s.vm.findClass own = some m.cls) (hcls : Bundle.fit cls = true) (hnames : ∀ n ∈ names, Bundle.fit n = true)
    (hk : (Cond.classLink own ik cls).before args s = true) (hini : (Cond.initialized cls).before args s = true) (hstr : vk_R own is text sa s) (hat : ∀ w ∈ vx_atS own ic cls names, w.before args s = true)
    (hgood : ∀ w ∈ Cond.classLink own ik cls :: Cond.initialized cls :: vx_atS own ic cls names, vx_ot w = true)
    (hU : vx_Zq Bundle.tN "UNASSIGNED_STACK" Bundle.steD A s s.heap) (hN : vx_Zq Bundle.tN "SUPPRESSED_SENTINEL" Bundle.listD A s s.heap) (hS : va_S A s.heap H locs) (hsize : ls.size = c.maxLocals)
    (d0 : decode cc pc = .ok (.new ik, 3)) (d3 : decode cc (pc + 3) = .ok (.dup, 1)) (d4 : decode cc (pc + 4) = .ok (.ldc is, 2)) (d6 : decode cc (pc + 6) = .ok (.invokespecial ic, 3)) (d9 : decode cc (pc + 9) = .ok (.athrow, 1))
    (hout : ∀ x ∈ c.exceptionTable.toList, covers x (pc + 9) = false)
    (hRframes : names.length + 3 < R.frames) (hRlocals : (rest.map fun v => v.category).sum + (13 * (names.length + 1) + 43) ≤ R.locals) (hRcells : cells + 1 ≤ R.cells) (hRslots : slots + 6 ≤ R.slots) (hlocks : meth.locks = false)
    (hx : ∀ t : State, s.vm.Alike t.vm → H.size ≤ t.heap.size → (∀ q : Nat, q < H.size → t.heap[q]? = H[q]?) → XC cls s t)
    (hf : ∀ z ∈ locs, free z.base) (hc : cells + 1 ≤ mc) (hs : slots + 6 ≤ ms) :
    W p l e R s m args below meth c H locs cells slots (vx_MQ below Qc XC args s mc ms free) (F0 m pc ls rest) := by
  intro T hT X
  have htr : e.platform.stackTraces = false := (show e.platform.stackTraces = l.stackTraces by rw [X.admits.platform]).trans hl
  have Y := vx_rebase X (R' := { frames := R.frames, locals := R.locals, cells := 1, slots := 6 }) (Nat.le_refl _) (Nat.le_refl _) hRcells hRslots
  obtain ⟨s', hA⟩ : ∃ z, z = (T.setVm s.vm).setFrames (.invoking m args :: below) := ⟨_, rfl⟩
  rw [← hA] at Y
  have hvm : s'.vm = s.vm := by rw [hA]; rfl
  have hhp : s'.heap = H := by rw [hA]; exact hT
  have hW0 : s.WarmedH s'.vm := by rw [hvm]; exact State.WarmedH.refl s
  have hat' : ∀ w ∈ vx_atS own ic cls names, w.before args s' = true := fun w hw => vx_ot_at hW0 hvm.symm (hgood w (List.mem_cons_of_mem _ (List.mem_cons_of_mem _ hw))) (hat w hw)
  have hk' : (Cond.classLink own ik cls).before args s' = true := vx_ot_at hW0 hvm.symm (hgood _ List.mem_cons_self) hk
  have hini' : (Cond.initialized cls).before args s' = true := vx_ot_at hW0 hvm.symm (hgood _ (List.mem_cons_of_mem _ List.mem_cons_self)) hini
  have hU' : vx_Zq Bundle.tN "UNASSIGNED_STACK" Bundle.steD A s' s'.heap := by rw [hhp]; exact vx_Zq.moved hW0.alike (hU.kept hS.2.1)
  have hN' : vx_Zq Bundle.tN "SUPPRESSED_SENTINEL" Bundle.listD A s' s'.heap := by rw [hhp]; exact vx_Zq.moved hW0.alike (hN.kept hS.2.1)
  have h : ∀ w ∈ Bundle.ownAtoms own ic cls names, w.before args s' = true := vx_own hat' (vx_isRefq hU'.1) (vx_isRefq hN'.1) hU'.2.word hN'.2.word
  have hown' : s'.vm.findClass own = some m.cls := by rw [hvm]; exact hown
  have hins : (Cond.instantiable cls 6).before args s' = true := h _ (by simp [Bundle.ownAtoms])
  obtain ⟨vm₁, cX, kX, hfX, hkX, -, -, X₁, st1⟩ := Y.newCold hexec (own := own) (C := cls) (index := ik) (n := 6) hown' hk' hins hini'
    (g := F0 m pc ls rest) rfl (by rw [hb]; exact d0) (Nat.le_refl _) (Nat.le_refl _)
  generalize hT1 : (T.setVm vm₁).pushCell { cls := cX, slots := kX.instanceTypes.map defaultValue, vm := .none } = T1 at X₁ st1
  have hcat : (Value.ref T.heap.size).category = 1 := rfl
  have hcellA : T1.heap[T.heap.size]? = some (freshCell cX kX) := by rw [← hT1]; exact State.heap_pushCell_size _ _
  have d3' : decode c.code (pc + 3) = .ok (.dup, 1) := by rw [hb]; exact d3
  have d4' : decode c.code (pc + 4) = .ok (.ldc is, 2) := by rw [hb]; exact d4
  have hstr' : vk_R own is text sa s' := vk_R.warm hW0 hstr
  obtain ⟨U, hsteps, hrun, hend, hW, hsame, ce, hce, hO⟩ := X₁.ctorThrowS hexec htr (own := own) (cls := cls) (names := names) (ic := ic) hown' hcls hnames h (fun x hx => nomatch hx) hfX hkX hcellA (by rw [hhp, hT]; exact Nat.le_refl _) (msg := .ref sa) rfl
    (g := { method := m, pc := pc + 6, locals := ls, stack := .ref sa :: .ref T.heap.size :: .ref T.heap.size :: rest, locked := none }) rfl hsize rfl rfl (rest := rest) rfl
    (by rw [hb]; exact d6) (by rw [hb]; exact d9) hout hRframes (by simp only [List.map_cons, List.sum_cons, hcat]; omega) hlocks
  obtain ⟨f1, f2⟩ := vx_frame hsame
  rw [hhp] at f1 f2
  have hWs : s.WarmedH U.vm := State.WarmedH.trans hW0 hW
  have hcl : s.vm.findClass cls = some ce.cls := by
    have h9 := hO.cls
    rw [hvm] at h9
    exact h9
  have hall : s.sameButNew ({ U with vm := s.vm } : State) locs mc ms := by
    subst hA
    obtain ⟨e1, e2⟩ := hsame
    rw [State.setFrames_setFrames] at e1
    have h2 : (T.setVm s.vm).sameButNew ({ U with vm := s.vm } : State) [] (0 + 1) (0 + 6) := ⟨e1, e2⟩
    have h3 := X.same.trans h2
    rw [List.append_nil] at h3
    exact h3.mono hc hs
  refine ⟨U, ?_, .threw T.heap.size, hrun, hend, Or.inr ⟨T.heap.size, rfl, cls, ce, locs, hx U hWs.alike f1 (fun q hq => f2 q hq (fun z hz => nomatch hz)), hce, hO.vm, hcl, hWs, hall, hf⟩⟩
  refine st1 _ ?_
  show Steps p.tables e below (T1.setTop { method := m, pc := pc + 3, locals := ls, stack := .ref T.heap.size :: rest, locked := none }) _
  jvm_step X₁.here [X₁.here.top, hexec, d3', Value.category]
  exact X₁.ldcString hexec (own := own) (text := text) (index := is) (a := sa) hown' hstr'.1 hstr'.2
    (g := { method := m, pc := pc + 4, locals := ls, stack := .ref T.heap.size :: .ref T.heap.size :: rest, locked := none }) rfl d4' _ hsteps
/-- 'throw new E("text")', the text by a wide index -/
theorem vx_throwSW {cc : ByteArray} {pc : Nat} (hexec : p.tables.exec = Jvm.exec) (hb : c.code = cc) (hl : l.stackTraces = false) {own cls text : String} {names : List String} {ik is ic mc ms sa : Nat} {A : Nat → Prop}
    (hown : s.vm.findClass own = some m.cls) (hcls : Bundle.fit cls = true) (hnames : ∀ n ∈ names, Bundle.fit n = true)
    (hk : (Cond.classLink own ik cls).before args s = true) (hini : (Cond.initialized cls).before args s = true) (hstr : vk_R own is text sa s) (hat : ∀ w ∈ vx_atS own ic cls names, w.before args s = true)
    (hgood : ∀ w ∈ Cond.classLink own ik cls :: Cond.initialized cls :: vx_atS own ic cls names, vx_ot w = true)
    (hU : vx_Zq Bundle.tN "UNASSIGNED_STACK" Bundle.steD A s s.heap) (hN : vx_Zq Bundle.tN "SUPPRESSED_SENTINEL" Bundle.listD A s s.heap) (hS : va_S A s.heap H locs) (hsize : ls.size = c.maxLocals)
    (d0 : decode cc pc = .ok (.new ik, 3)) (d3 : decode cc (pc + 3) = .ok (.dup, 1)) (d4 : decode cc (pc + 4) = .ok (.ldc_w is, 3)) (d7 : decode cc (pc + 7) = .ok (.invokespecial ic, 3)) (d10 : decode cc (pc + 10) = .ok (.athrow, 1))
    (hout : ∀ x ∈ c.exceptionTable.toList, covers x (pc + 10) = false)
    (hRframes : names.length + 3 < R.frames) (hRlocals : (rest.map fun v => v.category).sum + (13 * (names.length + 1) + 43) ≤ R.locals) (hRcells : cells + 1 ≤ R.cells) (hRslots : slots + 6 ≤ R.slots) (hlocks : meth.locks = false)
    (hx : ∀ t : State, s.vm.Alike t.vm → H.size ≤ t.heap.size → (∀ q : Nat, q < H.size → t.heap[q]? = H[q]?) → XC cls s t)
    (hf : ∀ z ∈ locs, free z.base) (hc : cells + 1 ≤ mc) (hs : slots + 6 ≤ ms) :
    W p l e R s m args below meth c H locs cells slots (vx_MQ below Qc XC args s mc ms free) (F0 m pc ls rest) := by
  intro T hT X
  have htr : e.platform.stackTraces = false := (show e.platform.stackTraces = l.stackTraces by rw [X.admits.platform]).trans hl
  have Y := vx_rebase X (R' := { frames := R.frames, locals := R.locals, cells := 1, slots := 6 }) (Nat.le_refl _) (Nat.le_refl _) hRcells hRslots
  obtain ⟨s', hA⟩ : ∃ z, z = (T.setVm s.vm).setFrames (.invoking m args :: below) := ⟨_, rfl⟩
  rw [← hA] at Y
  have hvm : s'.vm = s.vm := by rw [hA]; rfl
  have hhp : s'.heap = H := by rw [hA]; exact hT
  have hW0 : s.WarmedH s'.vm := by rw [hvm]; exact State.WarmedH.refl s
  have hat' : ∀ w ∈ vx_atS own ic cls names, w.before args s' = true := fun w hw => vx_ot_at hW0 hvm.symm (hgood w (List.mem_cons_of_mem _ (List.mem_cons_of_mem _ hw))) (hat w hw)
  have hk' : (Cond.classLink own ik cls).before args s' = true := vx_ot_at hW0 hvm.symm (hgood _ List.mem_cons_self) hk
  have hini' : (Cond.initialized cls).before args s' = true := vx_ot_at hW0 hvm.symm (hgood _ (List.mem_cons_of_mem _ List.mem_cons_self)) hini
  have hU' : vx_Zq Bundle.tN "UNASSIGNED_STACK" Bundle.steD A s' s'.heap := by rw [hhp]; exact vx_Zq.moved hW0.alike (hU.kept hS.2.1)
  have hN' : vx_Zq Bundle.tN "SUPPRESSED_SENTINEL" Bundle.listD A s' s'.heap := by rw [hhp]; exact vx_Zq.moved hW0.alike (hN.kept hS.2.1)
  have h : ∀ w ∈ Bundle.ownAtoms own ic cls names, w.before args s' = true := vx_own hat' (vx_isRefq hU'.1) (vx_isRefq hN'.1) hU'.2.word hN'.2.word
  have hown' : s'.vm.findClass own = some m.cls := by rw [hvm]; exact hown
  have hins : (Cond.instantiable cls 6).before args s' = true := h _ (by simp [Bundle.ownAtoms])
  obtain ⟨vm₁, cX, kX, hfX, hkX, -, -, X₁, st1⟩ := Y.newCold hexec (own := own) (C := cls) (index := ik) (n := 6) hown' hk' hins hini'
    (g := F0 m pc ls rest) rfl (by rw [hb]; exact d0) (Nat.le_refl _) (Nat.le_refl _)
  generalize hT1 : (T.setVm vm₁).pushCell { cls := cX, slots := kX.instanceTypes.map defaultValue, vm := .none } = T1 at X₁ st1
  have hcat : (Value.ref T.heap.size).category = 1 := rfl
  have hcellA : T1.heap[T.heap.size]? = some (freshCell cX kX) := by rw [← hT1]; exact State.heap_pushCell_size _ _
  have d3' : decode c.code (pc + 3) = .ok (.dup, 1) := by rw [hb]; exact d3
  have d4' : decode c.code (pc + 4) = .ok (.ldc_w is, 3) := by rw [hb]; exact d4
  have hstr' : vk_R own is text sa s' := vk_R.warm hW0 hstr
  obtain ⟨U, hsteps, hrun, hend, hW, hsame, ce, hce, hO⟩ := X₁.ctorThrowS hexec htr (own := own) (cls := cls) (names := names) (ic := ic) hown' hcls hnames h (fun x hx => nomatch hx) hfX hkX hcellA (by rw [hhp, hT]; exact Nat.le_refl _) (msg := .ref sa) rfl
    (g := { method := m, pc := pc + 7, locals := ls, stack := .ref sa :: .ref T.heap.size :: .ref T.heap.size :: rest, locked := none }) rfl hsize rfl rfl (rest := rest) rfl
    (by rw [hb]; exact d7) (by rw [hb]; exact d10) hout hRframes (by simp only [List.map_cons, List.sum_cons, hcat]; omega) hlocks
  obtain ⟨f1, f2⟩ := vx_frame hsame
  rw [hhp] at f1 f2
  have hWs : s.WarmedH U.vm := State.WarmedH.trans hW0 hW
  have hcl : s.vm.findClass cls = some ce.cls := by
    have h9 := hO.cls
    rw [hvm] at h9
    exact h9
  have hall : s.sameButNew ({ U with vm := s.vm } : State) locs mc ms := by
    subst hA
    obtain ⟨e1, e2⟩ := hsame
    rw [State.setFrames_setFrames] at e1
    have h2 : (T.setVm s.vm).sameButNew ({ U with vm := s.vm } : State) [] (0 + 1) (0 + 6) := ⟨e1, e2⟩
    have h3 := X.same.trans h2
    rw [List.append_nil] at h3
    exact h3.mono hc hs
  refine ⟨U, ?_, .threw T.heap.size, hrun, hend, Or.inr ⟨T.heap.size, rfl, cls, ce, locs, hx U hWs.alike f1 (fun q hq => f2 q hq (fun z hz => nomatch hz)), hce, hO.vm, hcl, hWs, hall, hf⟩⟩
  refine st1 _ ?_
  show Steps p.tables e below (T1.setTop { method := m, pc := pc + 3, locals := ls, stack := .ref T.heap.size :: rest, locked := none }) _
  jvm_step X₁.here [X₁.here.top, hexec, d3', Value.category]
  exact X₁.ldcStringW hexec (own := own) (text := text) (index := is) (a := sa) hown' hstr'.1 hstr'.2
    (g := { method := m, pc := pc + 4, locals := ls, stack := .ref T.heap.size :: .ref T.heap.size :: rest, locked := none }) rfl d4' _ hsteps
end Ends
section Bodies
variable {l : Launch}
theorem vx_ofW {y : MethodName} {ws ws' : List Cond} {rm : Room} {Pc : Array Value → State → Prop} {Qc : Array Value → State → Outcome → State → Prop} {XC : String → State → State → Prop} {mc ms : Nat} {free : Addr → Prop} {cc : ByteArray} {maxL : Nat} {ret : Option FieldType}
    (hy : plainName y.cls = true) (hw : ws = Cond.code y cc maxL ret :: ws')
    (body : ∀ p e s m args below meth c s₁, BodyLoose p l y (headSpec ws rm) cc maxL ret e s m args below meth c s₁ → c.maxLocals = maxL → (∀ x ∈ c.exceptionTable.toList, False) → Pc args s →
      W p l e (headSpec ws rm).room s m args below meth c s.heap [] 0 0 (vx_MQ below Qc XC args s mc ms free) (entryFrame m args maxL)) : vx_Met l y ws rm Pc Qc XC mc ms free := by
  refine MetFree.of_bodyS (code := cc) (maxLocals := maxL) (ret := ret) hy ?_ ?_
  · intro args s m h hn
    obtain ⟨meth, c, h1, h2, h3, h4, h5, h6, -, -⟩ := Cond.code_spec hn (atoms_spec (ws := ws) h _ (by rw [hw]; exact List.mem_cons_self))
    exact ⟨meth, c, h1, h2, h3, h4, h5, h6⟩
  · intro p e s m args below meth c s₁ B hml hP _
    have hh0 : s₁.heap = s.heap := by rw [B.state]; rfl
    have ht : ∀ x ∈ c.exceptionTable.toList, False := by
      obtain ⟨meth9, c9, h1, h2, -, -, -, -, h7, -⟩ := Cond.code_spec B.named (atoms_spec (ws := ws) B.pre _ (by rw [hw]; exact List.mem_cons_self))
      cases Option.some.inj (h1.symm.trans B.method)
      cases Option.some.inj (h2.symm.trans (Stand.of_body B).code)
      intro x hx
      rw [Array.isEmpty_iff.mp h7] at hx
      cases hx
    obtain ⟨t, a1, o, b1, b2, b3⟩ := body p e s m args below meth c s₁ B hml ht hP s₁ hh0 (Stand.of_body B)
    exact ⟨t, o, a1, b1, b2, b3⟩
/-- the table of a body with handlers -/
theorem vx_table {p : Program} {x y : MethodName} {S : Spec} {cc bytes : ByteArray} {maxL maxL' : Nat} {ret ret' : Option FieldType} {e : Env} {s s₁ : State} {m : MethodId} {args : Array Value} {below : List Frame} {meth : Method} {c : Code} {hh : List (Nat × Nat × Nat × Nat)}
    (B : BodyLoose p l y S cc maxL ret e s m args below meth c s₁) (h : (Cond.codeWith y bytes maxL' ret' hh).before args s = true) : c.exceptionTable.toList = tableOf hh := by
  obtain ⟨m9, meth9, c9, hn9, h1, h2, -, -, h6, -⟩ := Cond.codeWith_spec h
  cases Option.some.inj (hn9.symm.trans B.named)
  cases Option.some.inj (h1.symm.trans B.method)
  cases Option.some.inj (h2.symm.trans (Stand.of_body B).code)
  rw [← h6, table_eq]
end Bodies
end VXA
/-! ===== END ===== -/
/-! ===== BEGIN a static call of a method with an exception table ===== -/
section VXS
variable {p : Program} {l : Launch} {e : Env} {R : Room} {s : State} {m : MethodId} {args : Array Value} {below : List Frame} {meth : Method} {c : Code} {T : State} {H : Heap} {locs : List Loc} {cells slots : Nat}
abbrev vx_CSW (R : Room) (s : State) (args : Array Value) (own : String) (index : Nat) (y : MethodName) (bytes : ByteArray) (maxL : Nat) (ret : Option FieldType) (hh : List (Nat × Nat × Nat × Nat)) (ws : List Cond) (rm : Room) (mc ms n : Nat) : Prop :=
  (rm.cells = mc ∧ rm.slots = ms ∧ rm.frames + 1 ≤ R.frames ∧ 8 + (maxL + 11) + rm.locals ≤ R.locals ∧ (∀ w ∈ ws, ∀ (a' : Array Value) (U : State), s.WarmedH U.vm → w.before a' U = true) ∧ Cond.codeWith y bytes maxL ret hh ∈ ws) ∧
  (Cond.codeWith y bytes maxL ret hh).before args s = true ∧ (Cond.initialized y.cls).before args s = true ∧ (y.cls ≠ "java/lang/invoke/MethodHandle" ∧ y.cls ≠ "java/lang/invoke/VarHandle") ∧
  (∀ sig, parseMethodDescriptor y.desc = some sig → n = sig.parameters.length) ∧ (Cond.methodLink own index y).before args s = true ∧ (Cond.static y).before args s = true
theorem vx_cwSW {own : String} {index maxL mc ms : Nat} {y : MethodName} {bytes : ByteArray} {ret : Option FieldType} {hh : List (Nat × Nat × Nat × Nat)} {Ts ws ws' : List Cond} {rm : Room} (n : Nat) (ht : ∀ w ∈ Ts, w.before args s = true) (hT : GoodIn Ts (va_wsS own index y ws)) (hw : ws = Cond.codeWith y bytes maxL ret hh :: ws') (hrc : rm.cells = mc) (hrs : rm.slots = ms)
    (hd : y.cls ≠ "java/lang/invoke/MethodHandle" ∧ y.cls ≠ "java/lang/invoke/VarHandle" ∧ (parseMethodDescriptor y.desc).map (fun d => d.parameters.length) = some n) (hR : rm.frames + 1 ≤ R.frames ∧ 8 + (maxL + 11) + rm.locals ≤ R.locals) :
    vx_CSW R s args own index y bytes maxL ret hh ws rm mc ms n := by
  have ok : ∀ w ∈ va_wsS own index y ws, w.before args s = true := fun w h => ht w (hT w h).1
  have hG : GoodIn Ts ws := fun w h => hT w (by unfold va_wsS; exact List.mem_append_right _ h)
  have hc : Cond.codeWith y bytes maxL ret hh ∈ ws := by rw [hw]; exact List.mem_cons_self
  refine ⟨⟨hrc, hrs, hR.1, hR.2, pay_in ht hG, hc⟩, ht _ (hG _ hc).1, ok _ (by simp [va_wsS]), ⟨hd.1, hd.2.1⟩, fun sig h => ?_, ok _ (by simp [va_wsS]), ok _ (by simp [va_wsS])⟩
  have h2 := hd.2.2
  rw [h] at h2
  exact (Option.some.inj h2).symm
theorem vx_callSW (X : Stand p l e R s m args below meth c T locs cells slots) (hexec : p.tables.exec = Jvm.exec) {own : String} {index : Nat} {y : MethodName} {bytes : ByteArray} {maxL : Nat} {ret : Option FieldType} {hh : List (Nat × Nat × Nat × Nat)}
    (hown : s.vm.findClass own = some m.cls) (hlink : (Cond.methodLink own index y).before args s = true) (hstat : (Cond.static y).before args s = true) (hinit : (Cond.initialized y.cls).before args s = true)
    (hcode : (Cond.codeWith y bytes maxL ret hh).before args s = true) (hy : y.cls ≠ "java/lang/invoke/MethodHandle" ∧ y.cls ≠ "java/lang/invoke/VarHandle")
    {W9 : Nat} {Pre : Pt → Array Value → Prop} {Post : Pt → Array Value → Option Value → Pt → Prop} (hK : Back l R p e below s args y 3 W9 Pre Post)
    {g : JFrame} (hg : g.method = m) (hsize : g.locals.size = c.maxLocals) {argsL rest : List Value} (hlen : ∀ sig, parseMethodDescriptor y.desc = some sig → argsL.length = sig.parameters.length)
    (hstack : g.stack = argsL.reverse ++ rest) (hW : 2 * g.monitorRoom + (rest.map fun v => v.category).sum ≤ W9) (hdg : decode c.code g.pc = .ok (.invokestatic index, 3))
    (hpre : ∀ vm₁, s.WarmedH vm₁ → Pre ⟨T.setVm vm₁, locs, cells, slots⟩ argsL.toArray) :
    ∃ (v : Option Value) (vm₁ : Vm) (B : Pt), s.WarmedH vm₁ ∧ Stand p l e R s m args below meth c B.U B.locs B.cells B.slots ∧ Post ⟨T.setVm vm₁, locs, cells, slots⟩ argsL.toArray v B ∧
      ∀ target, Steps p.tables e below (B.U.setTop { g with pc := g.pc + 3, stack := v.toList ++ rest }) target → Steps p.tables e below (T.setTop g) target := by
  obtain ⟨mk, methM, cM, hnamed, hmethM, -, -, -, -, -, -, hsigM⟩ := Cond.codeWith_spec hcode
  have hstatic : methM.isStatic = true := Cond.static_spec hnamed hmethM hstat
  obtain ⟨kP, hkP, -⟩ := className_of_methodNamed hnamed
  have hinitP : kP.init = .initialized := Cond.initialized_spec (findClass_of_methodNamed hnamed) hkP hinit
  obtain ⟨vm₁, X₁, hstep₁⟩ := X.invokestatic hexec hown hlink hnamed hmethM hstatic hkP hinitP hy (g := g) hg (argsL := argsL) (rest := rest) (hlen _ hsigM) hstack hdg
  obtain ⟨v, B, X', hpost, hsteps⟩ := hK m meth c ⟨T.setVm vm₁, locs, cells, slots⟩ { g with stack := rest } (.invokestatic index) mk argsL.toArray X₁ hg hsize hdg hW (X₁.named hnamed) (hpre vm₁ X₁.warmed)
  exact ⟨v, vm₁, B, X₁.warmed, X', hpost, fun target h => hstep₁ _ fun acts => by rw [doInvoke_state]; exact hsteps.trans h⟩
theorem vx_runSW {y : MethodName} {bytes cc : ByteArray} {maxL nL mc ms n index : Nat} {ret : Option FieldType} {hh : List (Nat × Nat × Nat × Nat)} {ws : List Cond} {rm : Room} {Pc : Array Value → State → Prop} {Qc : Array Value → State → Outcome → State → Prop} {free : Addr → Prop} {Ts : List Cond} {own : String} {As rest : List Value} {g : JFrame}
    (S : CallFix p m c cc nL s args Ts own) (hM : Met l y ws rm Pc Qc mc ms free) (cw : vx_CSW R s args own index y bytes maxL ret hh ws rm mc ms n) (hp : PreS s H Pc As)
    (hg : g.method = m) (hn : As.length = n) (hsize : g.locals.size = nL) (hstack : g.stack = As.reverse ++ rest) (hW : 2 * g.monitorRoom + (rest.map fun v => v.category).sum ≤ 8) (hdg : decode cc g.pc = .ok (.invokestatic index, 3)) (hf : cells + mc ≤ R.cells ∧ slots + ms ≤ R.slots) :
    va_Run p l e R s m args below meth c H locs cells slots mc ms g rest (Qc As.toArray) (free) := by
  obtain ⟨⟨hrc, hrs, hfr, hlo, hws, hcw⟩, hcode, hini, hy, hlen, hl, hstt⟩ := cw
  have hK : Back l R p e below s args y 3 8 (PreOf R mc ms Pc) (PostOf Qc mc ms free) := va_backW (hh := hh) (bytes := bytes) (maxL := maxL) (ret := ret) hM hp.1 hrc hrs hfr hlo hws hcw (fun a' U hW => word_at hW (Or.inl (by first | rfl | simp [Cond.onTables, Cond.keeps, Cond.steady])) hini)
  obtain ⟨hx, hb, hml, ho, -⟩ := S
  intro T hT X
  obtain ⟨v, vm₁, ⟨U', l2, c2, s2⟩, hW₁, X', ⟨g', mk, t, L, e1, e2, hq, h1, hL, h2, h3⟩, st⟩ := vx_callSW X hx (hh := hh) (bytes := bytes) (maxL := maxL) (ret := ret) ho hl hstt hini hcode hy hK hg (hsize.trans hml.symm) (argsL := As) (rest := rest) (fun sig h => hn.trans (hlen sig h)) hstack hW (by rw [hb]; exact hdg)
    (fun vm₁ hW₁ => ⟨hf.1, hf.2, hp.2 (T.setVm vm₁) hT hW₁⟩)
  dsimp only [Pt.U, Pt.locs, Pt.cells, Pt.slots] at X' e1 e2 h1 h2 h3 st
  subst h1; subst h2; subst h3
  exact ⟨v, (T.setVm vm₁).calling g' mk As.toArray, t, U', L, hT, X', hL, e1, e2, hq, st⟩
/-- not caught here, past rows that name other classes: it goes on to the caller -/
theorem vx_outP {p : Program} {l : Launch} {e : Env} {R : Room} {s : State} {m : MethodId} {args : Array Value} {below : List Frame} {meth : Method} {c : Code} {H : Heap} {locs : List Loc} {cells slots : Nat} {free : Addr → Prop} {ls : Array Slot} {rest : List Value} {Qc : Array Value → State → Outcome → State → Prop} {XC : String → State → State → Prop}
    {pc : Nat} {own E : String} {ce : Cell} {q : Addr} {mc ms : Nat} (hown : s.vm.findClass own = some m.cls) (hlocks : meth.locks = false)
    (hpass : ∀ z ∈ c.exceptionTable.toList, covers z pc = false ∨ (z.catchType ≠ 0 ∧ ∃ nm : String, (Cond.classLink own z.catchType nm).before args s = true ∧ va_Nc E nm s)) (hcell : H[q]? = some ce) (hv : ce.vm = .none) (hcl : s.vm.findClass E = some ce.cls)
    (hx : ∀ t : State, t.heap = H → s.vm.Alike t.vm → XC E s t) (hf : ∀ z ∈ locs, free z.base) (hc : cells ≤ mc) (hs : slots ≤ ms) :
    vx_W p l e R s m args below meth c H locs cells slots (vx_MQ below Qc XC args s mc ms free) (F0 m pc ls rest) q := by
  intro T hT X
  have hpl : e.platform.magicAccessors = ({} : Platform).magicAccessors := by rw [X.admits.platform]
  obtain ⟨vm', hW', X', st⟩ := X.outThrough hlocks q (g := F0 m pc ls rest) rfl rfl rfl (cell := ce) (by rw [hT]; exact hcell) (by rw [hv]; rfl)
    (by obtain ⟨k9, h9, -⟩ := Vm.findClass_spec hcl; exact ⟨k9, h9⟩) (fun z hz => by
      rcases hpass z hz with h | ⟨hz0, nm, hl1, hn1⟩
      · exact Or.inl h
      · obtain ⟨c6, hc6, hcl6⟩ := Cond.classLink_spec hown hl1 e.platform hpl
        obtain ⟨a8, b8, h1, h2, h3⟩ := hn1
        cases Option.some.inj (h1.symm.trans hcl)
        cases Option.some.inj (h2.symm.trans hc6)
        exact Or.inr ⟨hz0, _, hcl6, h3⟩)
  obtain ⟨g₀, hfr⟩ := X'.frames_eq
  have hcell9 : ((T.setVm vm').setFrames (.throwing q :: below)).heap[q]? = some ce := by
    show T.heap[q]? = some ce
    rw [hT]; exact hcell
  have hend : Ended ((T.setVm vm').setFrames (.throwing q :: below)) below (.threw q) := State.frames_setFrames _ (State.cur_lt_of_frames hfr)
  refine ⟨(T.setVm vm').setFrames (.throwing q :: below), ?_, .threw q, X'.here.running, hend, Or.inr ⟨q, rfl, E, ce, locs, hx _ hT (X'.ends _).1.alike, hcell9, hv, hcl, (X'.ends _).1, (X'.ends _).2.mono hc hs, hf⟩⟩
  rw [X.pushThrowing_eq]
  exact st
/-- a thing of a world lies in the heap -/
theorem vx_lt {D : va_G} {cl : List vw_C} {ws : va_W} {H1 : Heap} (h : va_P D cl ws H1) {k : Nat} {q : Nat × va_E} (hk : ws[k]? = some q) : q.1 < H1.size := (h k q hk).lt
end VXS
/-! ===== END ===== -/
/-! ===== BEGIN methods with a table of their own: called by a name, returning or throwing ===== -/
section VXH
/-! vx_backW, vx_callVX, vx_callSX, vx_callVW, vx_runVW, vx_runVX, vx_runSX, vx_ofWH follow the same proofs as their sisters above (Free/Laws.lean, Shelf42/LK1.lean); vx_outP calls Shelf42/NT130.lean (outThrough). -/
section
variable {l : Launch} {R : Room} {p : Program} {e : Env} {below : List Frame} {s : State} {sargs : Array Value} {y : MethodName} {len W9 : Nat}
theorem vx_backW {ws : List Cond} {rm : Room} {Pc : Array Value → State → Prop} {Qc : Array Value → State → Outcome → State → Prop} {XC : String → State → State → Prop} {mc ms : Nat} {free : Addr → Prop} {bytes : ByteArray} {maxL : Nat} {ret : Option FieldType} {hh : List (Nat × Nat × Nat × Nat)}
    (hM : vx_Met l y ws rm Pc Qc XC mc ms free) (hblind : FrameBlind Pc) (hrc : rm.cells = mc) (hrs : rm.slots = ms)
    (hframes : rm.frames + 1 ≤ R.frames) (hlocals : W9 + (maxL + 11) + rm.locals ≤ R.locals)
    (hws : ∀ w ∈ ws, ∀ a' U, s.WarmedH U.vm → w.before a' U = true) (hcode : Cond.codeWith y bytes maxL ret hh ∈ ws) (hinit : ∀ a' U, s.WarmedH U.vm → (Cond.initialized y.cls).before a' U = true) :
    vx_Back l R p e below s sargs y len W9 (PreOf R mc ms Pc) (PostOf Qc mc ms free) (vx_Post XC mc ms free) := by
  intro m meth c A g ig mk a X hg hsize hdg hW hn hp
  have h1 : (headSpec ws rm).pre.before a A.U = true := atoms_intro fun w hw => hws w hw _ _ X.warmed
  have h2 : (Cond.codeWith y bytes maxL ret hh).before a A.U = true := hws _ hcode _ _ X.warmed
  have h3 : (Cond.initialized y.cls).before a A.U = true := hinit _ _ X.warmed
  have h4 : A.cells + (headSpec ws rm).room.cells ≤ R.cells := by rw [show (headSpec ws rm).room.cells = mc from hrc]; exact hp.1
  have h5 : A.slots + (headSpec ws rm).room.slots ≤ R.slots := by rw [show (headSpec ws rm).room.slots = ms from hrs]; exact hp.2.1
  have hPc : Pc a (A.U.calling g mk a) := hblind _ _ _ _ hp.2.2
  obtain ⟨U, Ls, c0, s0⟩ := A
  dsimp only [Pt.U, Pt.locs, Pt.cells, Pt.slots] at h1 h2 h3 h4 h5 X hn hPc ⊢
  obtain ⟨m9, methY, cY, hn9, hmY, hcY, -, hlY, -⟩ := Cond.codeWith_spec h2
  cases Option.some.inj (hn9.symm.trans hn)
  obtain ⟨kY, hkY, -⟩ := className_of_methodNamed hn
  have hinitY : kY.init = .initialized := Cond.initialized_spec (findClass_of_methodNamed hn) hkY h3
  have h : At U g.method c below := by rw [hg]; exact X.here
  have hlocals9 : W9 + (maxL + 11) + (headSpec ws rm).room.locals ≤ R.locals := hlocals
  have happ : (headSpec ws rm).appliesLoose y e.platform (U.calling g mk a) = true :=
    Spec.appliesLoose_calling (g := g) h hdg hn hkY hinitY
      (X.room_calling (g := g) (R' := (headSpec ws rm).room) hsize hmY hcY hframes (by rw [hlY]; omega) h4 h5) h1
  obtain ⟨mid, hmid⟩ := h.above
  have hfr : (U.setTop g).frames = (.java g :: mid) ++ below := by rw [State.frames_setTop' g h.top, hmid]; rfl
  obtain ⟨o, s₂, hsteps, -, hend, hq⟩ := Steps.callFree hM p X.admits X.cas X.clock (acts := []) hfr happ hPc trivial
  have hq' : vx_Q Qc XC mc ms free a (U.calling g mk a) o s₂ := hq
  rw [State.frames_setTop' g h.top] at hend
  obtain ⟨g₀, hg0⟩ := Option.isSome_iff_exists.mp h.top
  obtain ⟨r, hr⟩ := State.topJava?_eq_some.mp hg0
  have hr' : (({ U with heap := s₂.heap, slotsUsed := s₂.slotsUsed } : State).setVm s₂.vm).frames = .java g₀ :: r := hr
  rcases hq' with ⟨hqc, L, hfe, hL⟩ | ⟨q, rfl, E, ce, L, hx, hce, hcv, hcl, hW₂, hsm, hL⟩
  · obtain ⟨⟨v, rfl⟩, hW₂, e2, q2, q3, q4, q5, q6⟩ := id hfe
    have e3 : s₂ = ({ (U.calling g mk a).setFrames s₂.frames with heap := s₂.heap, slotsUsed := s₂.slotsUsed } : State).setVm s₂.vm := by
      have : s₂ = ({ s₂ with vm := (U.calling g mk a).vm } : State).setVm s₂.vm := rfl
      rw [e2] at this
      exact this
    obtain ⟨c₂, i₂, len₂, hc₂, hd₂, hf₂⟩ := hend
    have hW' : U.WarmedH s₂.vm := hW₂
    have hcc : c₂ = c := by
      have h1 : s₂.code? g.method = U.code? g.method := by
        rw [State.code?_eq, State.code?_eq, hW'.alike.method?]
      exact Option.some.inj (hc₂.symm.trans (h1.trans h.code))
    subst hcc
    have hlen : len₂ = len := by rw [hdg] at hd₂; cases hd₂; rfl
    subst hlen
    have hs₂ : s₂ = (({ U with heap := s₂.heap, slotsUsed := s₂.slotsUsed } : State).setVm s₂.vm).setTop { g with pc := g.pc + len₂, stack := v.toList ++ g.stack } := by
      refine e3.trans ?_
      rw [hf₂, State.calling_eq h.top, State.setFrames_setFrames, State.setTop_of_frames _ hr', hr]
      rfl
    have hsame : U.sameButNew ({ U with heap := s₂.heap, slotsUsed := s₂.slotsUsed } : State) L mc ms := by
      refine ⟨?_, q2, q3, q4, q5, q6⟩
      obtain ⟨t, ht, -⟩ := State.frames_cons hr
      show ({ U with heap := s₂.heap, slotsUsed := s₂.slotsUsed } : State) = { U.setFrames U.frames with heap := s₂.heap, slotsUsed := s₂.slotsUsed }
      rw [State.setFrames_self ht]
    subst hg
    refine Or.inl ⟨v, ⟨(({ U with heap := s₂.heap, slotsUsed := s₂.slotsUsed } : State).setVm s₂.vm), Ls ++ L, c0 + mc, s0 + ms⟩,
      ⟨X.admits, X.cas, X.clock, X.frames, X.room, X.hears, X.method, X.code, (X.here.setHeapUsed s₂.heap s₂.slotsUsed).setVm hW'.alike, X.tail, State.WarmedH.trans X.warmed hW', X.limits, X.bytes, X.same.trans (hsame.setVm s.vm)⟩,
      ⟨g, mk, s₂, L, rfl, rfl, hqc, rfl, hL, rfl, rfl⟩, ?_⟩
    show Steps p.tables e below _ ((({ U with heap := s₂.heap, slotsUsed := s₂.slotsUsed } : State).setVm s₂.vm).setTop { g with pc := g.pc + len₂, stack := v.toList ++ g.stack })
    rw [← hs₂]
    exact hsteps
  · obtain ⟨e2, q2, q3, q4, q5, q6⟩ := id hsm
    have e3 : s₂ = ({ (U.calling g mk a).setFrames s₂.frames with heap := s₂.heap, slotsUsed := s₂.slotsUsed } : State).setVm s₂.vm := by
      have : s₂ = ({ s₂ with vm := (U.calling g mk a).vm } : State).setVm s₂.vm := rfl
      rw [e2] at this
      exact this
    have hf₂ : s₂.frames = .throwing q :: .java g :: U.frames.tail := hend
    have hW' : U.WarmedH s₂.vm := hW₂
    have hs₂ : s₂ = ((({ U with heap := s₂.heap, slotsUsed := s₂.slotsUsed } : State).setVm s₂.vm).setTop g).pushFrame (.throwing q) := by
      refine e3.trans ?_
      rw [hf₂, State.calling_eq h.top, State.setFrames_setFrames, State.pushFrame, State.frames_setTop _ hr', State.setTop_of_frames _ hr', State.setFrames_setFrames, hr]
      rfl
    have hsame : U.sameButNew ({ U with heap := s₂.heap, slotsUsed := s₂.slotsUsed } : State) L mc ms := by
      refine ⟨?_, q2, q3, q4, q5, q6⟩
      obtain ⟨t, ht, -⟩ := State.frames_cons hr
      show ({ U with heap := s₂.heap, slotsUsed := s₂.slotsUsed } : State) = { U.setFrames U.frames with heap := s₂.heap, slotsUsed := s₂.slotsUsed }
      rw [State.setFrames_self ht]
    subst hg
    refine Or.inr ⟨q, ⟨(({ U with heap := s₂.heap, slotsUsed := s₂.slotsUsed } : State).setVm s₂.vm), Ls ++ L, c0 + mc, s0 + ms⟩,
      ⟨X.admits, X.cas, X.clock, X.frames, X.room, X.hears, X.method, X.code, (X.here.setHeapUsed s₂.heap s₂.slotsUsed).setVm hW'.alike, X.tail, State.WarmedH.trans X.warmed hW', X.limits, X.bytes, X.same.trans (hsame.setVm s.vm)⟩,
      ⟨g, mk, s₂, L, E, ce, rfl, rfl, hx, hce, hcv, hcl, rfl, hL, rfl, rfl⟩, ?_⟩
    show Steps p.tables e below _ (((({ U with heap := s₂.heap, slotsUsed := s₂.slotsUsed } : State).setVm s₂.vm).setTop g).pushFrame (.throwing q))
    rw [← hs₂]
    exact hsteps
end
variable {p : Program} {l : Launch} {e : Env} {R : Room} {s : State} {m : MethodId} {args : Array Value} {below : List Frame} {meth : Method} {c : Code} {T : State} {H : Heap} {locs : List Loc} {cells slots : Nat}
theorem vx_callVX (X : Stand p l e R s m args below meth c T locs cells slots) (hexec : p.tables.exec = Jvm.exec) {own C : String} {index : Nat} {y : MethodName} {bytes : ByteArray} {maxL : Nat} {ret : Option FieldType} {hh : List (Nat × Nat × Nat × Nat)}
    (hown : s.vm.findClass own = some m.cls) (hlink : (Cond.methodLink own index y).before args s = true) (hinst : (Cond.instanceMethod y).before args s = true) (hsel : (Cond.selects C y y).before args s = true)
    (hcode : (Cond.codeWith y bytes maxL ret hh).before args s = true) (hy : y.cls ≠ "java/lang/invoke/MethodHandle" ∧ y.cls ≠ "java/lang/invoke/VarHandle")
    {W9 : Nat} {Pre : Pt → Array Value → Prop} {Post : Pt → Array Value → Option Value → Pt → Prop} {PostX : Pt → Array Value → Addr → Pt → Prop} (hK : vx_Back l R p e below s args y 3 W9 Pre Post PostX)
    {b : Addr} {cellB : Cell} (hcell : T.heap[b]? = some cellB) (hobj : cellB.vm.isStatics = false) (hcls : s.vm.findClass C = some cellB.cls)
    {g : JFrame} (hg : g.method = m) (hsize : g.locals.size = c.maxLocals) {argsL rest : List Value} (hlen : ∀ sig, parseMethodDescriptor y.desc = some sig → argsL.length = sig.parameters.length)
    (hstack : g.stack = argsL.reverse ++ .ref b :: rest) (hW : 2 * g.monitorRoom + (rest.map fun v => v.category).sum ≤ W9) (hdg : decode c.code g.pc = .ok (.invokevirtual index, 3))
    (hpre : ∀ vm₁, s.WarmedH vm₁ → Pre ⟨T.setVm vm₁, locs, cells, slots⟩ (Value.ref b :: argsL).toArray) :
    (∃ (v : Option Value) (vm₁ : Vm) (B : Pt), s.WarmedH vm₁ ∧ Stand p l e R s m args below meth c B.U B.locs B.cells B.slots ∧ Post ⟨T.setVm vm₁, locs, cells, slots⟩ (Value.ref b :: argsL).toArray v B ∧
      ∀ target, Steps p.tables e below (B.U.setTop { g with pc := g.pc + 3, stack := v.toList ++ rest }) target → Steps p.tables e below (T.setTop g) target) ∨
    (∃ (q : Addr) (vm₁ : Vm) (B : Pt), s.WarmedH vm₁ ∧ Stand p l e R s m args below meth c B.U B.locs B.cells B.slots ∧ PostX ⟨T.setVm vm₁, locs, cells, slots⟩ (Value.ref b :: argsL).toArray q B ∧
      Steps p.tables e below (T.setTop g) ((B.U.setTop { g with stack := rest }).pushFrame (.throwing q))) := by
  obtain ⟨mk, methM, hnamed, hmethM, hstM, habM⟩ := Cond.instanceMethod_spec hinst
  obtain ⟨m8, methM', cM, hn8, hmethM', -, -, -, -, -, -, hsigM⟩ := Cond.codeWith_spec hcode
  cases Option.some.inj (hn8.symm.trans hnamed)
  cases hmethM.symm.trans hmethM'
  obtain ⟨c2, r2, m2, q1, q2, q3, q4, kP, hkP, hkPi⟩ := Cond.selects_spec hsel
  cases hcls.symm.trans q1
  cases (State.methodFound?_of_named hnamed hy).symm.trans q2
  cases hnamed.symm.trans q3
  have hselP : selectMethod e.platform s.vm cellB.cls mk = .method mk := by rw [Launch.admits_selectMethod X.admits]; exact q4
  obtain ⟨vm₁, X₁, hstep₁⟩ := X.invokevirtual hexec hown hlink hnamed hmethM hstM hkP hkPi hy (a := b) (cell := cellB) hcell
    (fun z h => by rw [h] at hobj; cases hobj) hselP hmethM habM hkP hkPi (g := g) hg (argsL := argsL) (rest := rest) (hlen _ hsigM) hstack hdg
  rcases hK m meth c ⟨T.setVm vm₁, locs, cells, slots⟩ { g with stack := rest } (.invokevirtual index) mk (Value.ref b :: argsL).toArray X₁ hg hsize hdg hW (X₁.named hnamed) (hpre vm₁ X₁.warmed) with ⟨v, B, X', hpost, hsteps⟩ | ⟨q, B, X', hpost, hsteps⟩
  · exact Or.inl ⟨v, vm₁, B, X₁.warmed, X', hpost, fun target h => hstep₁ _ fun acts => by rw [doInvoke_state]; exact hsteps.trans h⟩
  · exact Or.inr ⟨q, vm₁, B, X₁.warmed, X', hpost, hstep₁ _ fun acts => by rw [doInvoke_state]; exact hsteps⟩
theorem vx_callSX (X : Stand p l e R s m args below meth c T locs cells slots) (hexec : p.tables.exec = Jvm.exec) {own : String} {index : Nat} {y : MethodName} {bytes : ByteArray} {maxL : Nat} {ret : Option FieldType} {hh : List (Nat × Nat × Nat × Nat)}
    (hown : s.vm.findClass own = some m.cls) (hlink : (Cond.methodLink own index y).before args s = true) (hstat : (Cond.static y).before args s = true) (hinit : (Cond.initialized y.cls).before args s = true)
    (hcode : (Cond.codeWith y bytes maxL ret hh).before args s = true) (hy : y.cls ≠ "java/lang/invoke/MethodHandle" ∧ y.cls ≠ "java/lang/invoke/VarHandle")
    {W9 : Nat} {Pre : Pt → Array Value → Prop} {Post : Pt → Array Value → Option Value → Pt → Prop} {PostX : Pt → Array Value → Addr → Pt → Prop} (hK : vx_Back l R p e below s args y 3 W9 Pre Post PostX)
    {g : JFrame} (hg : g.method = m) (hsize : g.locals.size = c.maxLocals) {argsL rest : List Value} (hlen : ∀ sig, parseMethodDescriptor y.desc = some sig → argsL.length = sig.parameters.length)
    (hstack : g.stack = argsL.reverse ++ rest) (hW : 2 * g.monitorRoom + (rest.map fun v => v.category).sum ≤ W9) (hdg : decode c.code g.pc = .ok (.invokestatic index, 3))
    (hpre : ∀ vm₁, s.WarmedH vm₁ → Pre ⟨T.setVm vm₁, locs, cells, slots⟩ argsL.toArray) :
    (∃ (v : Option Value) (vm₁ : Vm) (B : Pt), s.WarmedH vm₁ ∧ Stand p l e R s m args below meth c B.U B.locs B.cells B.slots ∧ Post ⟨T.setVm vm₁, locs, cells, slots⟩ argsL.toArray v B ∧
      ∀ target, Steps p.tables e below (B.U.setTop { g with pc := g.pc + 3, stack := v.toList ++ rest }) target → Steps p.tables e below (T.setTop g) target) ∨
    (∃ (q : Addr) (vm₁ : Vm) (B : Pt), s.WarmedH vm₁ ∧ Stand p l e R s m args below meth c B.U B.locs B.cells B.slots ∧ PostX ⟨T.setVm vm₁, locs, cells, slots⟩ argsL.toArray q B ∧
      Steps p.tables e below (T.setTop g) ((B.U.setTop { g with stack := rest }).pushFrame (.throwing q))) := by
  obtain ⟨mk, methM, cM, hnamed, hmethM, -, -, -, -, -, -, hsigM⟩ := Cond.codeWith_spec hcode
  have hstatic : methM.isStatic = true := Cond.static_spec hnamed hmethM hstat
  obtain ⟨kP, hkP, -⟩ := className_of_methodNamed hnamed
  have hinitP : kP.init = .initialized := Cond.initialized_spec (findClass_of_methodNamed hnamed) hkP hinit
  obtain ⟨vm₁, X₁, hstep₁⟩ := X.invokestatic hexec hown hlink hnamed hmethM hstatic hkP hinitP hy (g := g) hg (argsL := argsL) (rest := rest) (hlen _ hsigM) hstack hdg
  rcases hK m meth c ⟨T.setVm vm₁, locs, cells, slots⟩ { g with stack := rest } (.invokestatic index) mk argsL.toArray X₁ hg hsize hdg hW (X₁.named hnamed) (hpre vm₁ X₁.warmed) with ⟨v, B, X', hpost, hsteps⟩ | ⟨q, B, X', hpost, hsteps⟩
  · exact Or.inl ⟨v, vm₁, B, X₁.warmed, X', hpost, fun target h => hstep₁ _ fun acts => by rw [doInvoke_state]; exact hsteps.trans h⟩
  · exact Or.inr ⟨q, vm₁, B, X₁.warmed, X', hpost, hstep₁ _ fun acts => by rw [doInvoke_state]; exact hsteps⟩
theorem vx_callVW (X : Stand p l e R s m args below meth c T locs cells slots) (hexec : p.tables.exec = Jvm.exec) {own C : String} {index : Nat} {y : MethodName} {bytes : ByteArray} {maxL : Nat} {ret : Option FieldType} {hh : List (Nat × Nat × Nat × Nat)}
    (hown : s.vm.findClass own = some m.cls) (hlink : (Cond.methodLink own index y).before args s = true) (hinst : (Cond.instanceMethod y).before args s = true) (hsel : (Cond.selects C y y).before args s = true)
    (hcode : (Cond.codeWith y bytes maxL ret hh).before args s = true) (hy : y.cls ≠ "java/lang/invoke/MethodHandle" ∧ y.cls ≠ "java/lang/invoke/VarHandle")
    {W9 : Nat} {Pre : Pt → Array Value → Prop} {Post : Pt → Array Value → Option Value → Pt → Prop} (hK : Back l R p e below s args y 3 W9 Pre Post)
    {b : Addr} {cellB : Cell} (hcell : T.heap[b]? = some cellB) (hobj : cellB.vm.isStatics = false) (hcls : s.vm.findClass C = some cellB.cls)
    {g : JFrame} (hg : g.method = m) (hsize : g.locals.size = c.maxLocals) {argsL rest : List Value} (hlen : ∀ sig, parseMethodDescriptor y.desc = some sig → argsL.length = sig.parameters.length)
    (hstack : g.stack = argsL.reverse ++ .ref b :: rest) (hW : 2 * g.monitorRoom + (rest.map fun v => v.category).sum ≤ W9) (hdg : decode c.code g.pc = .ok (.invokevirtual index, 3))
    (hpre : ∀ vm₁, s.WarmedH vm₁ → Pre ⟨T.setVm vm₁, locs, cells, slots⟩ (Value.ref b :: argsL).toArray) :
    ∃ (v : Option Value) (vm₁ : Vm) (B : Pt), s.WarmedH vm₁ ∧ Stand p l e R s m args below meth c B.U B.locs B.cells B.slots ∧ Post ⟨T.setVm vm₁, locs, cells, slots⟩ (Value.ref b :: argsL).toArray v B ∧
      ∀ target, Steps p.tables e below (B.U.setTop { g with pc := g.pc + 3, stack := v.toList ++ rest }) target → Steps p.tables e below (T.setTop g) target := by
  obtain ⟨mk, methM, hnamed, hmethM, hstM, habM⟩ := Cond.instanceMethod_spec hinst
  obtain ⟨m8, methM', cM, hn8, hmethM', -, -, -, -, -, -, hsigM⟩ := Cond.codeWith_spec hcode
  cases Option.some.inj (hn8.symm.trans hnamed)
  cases hmethM.symm.trans hmethM'
  obtain ⟨c2, r2, m2, q1, q2, q3, q4, kP, hkP, hkPi⟩ := Cond.selects_spec hsel
  cases hcls.symm.trans q1
  cases (State.methodFound?_of_named hnamed hy).symm.trans q2
  cases hnamed.symm.trans q3
  have hselP : selectMethod e.platform s.vm cellB.cls mk = .method mk := by rw [Launch.admits_selectMethod X.admits]; exact q4
  obtain ⟨vm₁, X₁, hstep₁⟩ := X.invokevirtual hexec hown hlink hnamed hmethM hstM hkP hkPi hy (a := b) (cell := cellB) hcell
    (fun z h => by rw [h] at hobj; cases hobj) hselP hmethM habM hkP hkPi (g := g) hg (argsL := argsL) (rest := rest) (hlen _ hsigM) hstack hdg
  obtain ⟨v, B, X', hpost, hsteps⟩ := hK m meth c ⟨T.setVm vm₁, locs, cells, slots⟩ { g with stack := rest } (.invokevirtual index) mk (Value.ref b :: argsL).toArray X₁ hg hsize hdg hW (X₁.named hnamed) (hpre vm₁ X₁.warmed)
  exact ⟨v, vm₁, B, X₁.warmed, X', hpost, fun target h => hstep₁ _ fun acts => by rw [doInvoke_state]; exact hsteps.trans h⟩
abbrev vx_CVW (R : Room) (s : State) (args : Array Value) (own C : String) (index : Nat) (y : MethodName) (bytes : ByteArray) (maxL : Nat) (ret : Option FieldType) (hh : List (Nat × Nat × Nat × Nat)) (ws : List Cond) (rm : Room) (mc ms n : Nat) : Prop :=
  (rm.cells = mc ∧ rm.slots = ms ∧ rm.frames + 1 ≤ R.frames ∧ 8 + (maxL + 11) + rm.locals ≤ R.locals ∧ (∀ w ∈ ws, ∀ (a' : Array Value) (U : State), s.WarmedH U.vm → w.before a' U = true) ∧ Cond.codeWith y bytes maxL ret hh ∈ ws) ∧
  (Cond.codeWith y bytes maxL ret hh).before args s = true ∧ (Cond.initialized y.cls).before args s = true ∧ (y.cls ≠ "java/lang/invoke/MethodHandle" ∧ y.cls ≠ "java/lang/invoke/VarHandle") ∧
  (∀ sig, parseMethodDescriptor y.desc = some sig → n = sig.parameters.length) ∧ (Cond.methodLink own index y).before args s = true ∧ (Cond.instanceMethod y).before args s = true ∧ (Cond.selects C y y).before args s = true
theorem vx_cwVW {own C : String} {index maxL mc ms : Nat} {y : MethodName} {bytes : ByteArray} {ret : Option FieldType} {hh : List (Nat × Nat × Nat × Nat)} {Ts ws ws' : List Cond} {rm : Room} (n : Nat) (ht : ∀ w ∈ Ts, w.before args s = true) (hT : GoodIn Ts (wsV own index C y ws)) (hw : ws = Cond.codeWith y bytes maxL ret hh :: ws') (hrc : rm.cells = mc) (hrs : rm.slots = ms)
    (hd : y.cls = C ∧ y.cls ≠ "java/lang/invoke/MethodHandle" ∧ y.cls ≠ "java/lang/invoke/VarHandle" ∧ (parseMethodDescriptor y.desc).map (fun d => d.parameters.length) = some n) (hR : rm.frames + 1 ≤ R.frames ∧ 8 + (maxL + 11) + rm.locals ≤ R.locals) :
    vx_CVW R s args own C index y bytes maxL ret hh ws rm mc ms n := by
  obtain ⟨hC, hd⟩ := hd
  subst hC
  have ok : ∀ w ∈ wsV own index y.cls y ws, w.before args s = true := fun w h => ht w (hT w h).1
  have hG : GoodIn Ts ws := fun w h => hT w (by unfold wsV; exact List.mem_append_right _ h)
  have hc : Cond.codeWith y bytes maxL ret hh ∈ ws := by rw [hw]; exact List.mem_cons_self
  refine ⟨⟨hrc, hrs, hR.1, hR.2, pay_in ht hG, hc⟩, ht _ (hG _ hc).1, ok _ (by simp [wsV]), ⟨hd.1, hd.2.1⟩, fun sig h => ?_, ok _ (by simp [wsV]), ok _ (by simp [wsV]), ok _ (by simp [wsV])⟩
  have h2 := hd.2.2
  rw [h] at h2
  exact (Option.some.inj h2).symm
theorem vx_runVW {y : MethodName} {bytes cc : ByteArray} {maxL nL mc ms n index : Nat} {ret : Option FieldType} {hh : List (Nat × Nat × Nat × Nat)} {ws : List Cond} {rm : Room} {Pc : Array Value → State → Prop} {Qc : Array Value → State → Outcome → State → Prop} {free : Addr → Prop} {Ts : List Cond} {own C : String} {b : Addr} {As rest : List Value} {g : JFrame}
    (S : CallFix p m c cc nL s args Ts own) (hM : Met l y ws rm Pc Qc mc ms free) (cw : vx_CVW R s args own C index y bytes maxL ret hh ws rm mc ms n) (hp : PreV s H C b Pc As)
    (hg : g.method = m) (hn : As.length = n) (hsize : g.locals.size = nL) (hstack : g.stack = As.reverse ++ .ref b :: rest) (hW : 2 * g.monitorRoom + (rest.map fun v => v.category).sum ≤ 8) (hdg : decode cc g.pc = .ok (.invokevirtual index, 3)) (hf : cells + mc ≤ R.cells ∧ slots + ms ≤ R.slots) :
    va_Run p l e R s m args below meth c H locs cells slots mc ms g rest (Qc (Value.ref b :: As).toArray) free := by
  obtain ⟨⟨hrc, hrs, hfr, hlo, hws, hcw⟩, hcode, hini, hy, hlen, hl, hin, hse⟩ := cw
  have hK : Back l R p e below s args y 3 8 (PreOf R mc ms Pc) (PostOf Qc mc ms free) := va_backW (hh := hh) (bytes := bytes) (maxL := maxL) (ret := ret) hM hp.1 hrc hrs hfr hlo hws hcw (fun a' U hW => word_at hW (Or.inl (by first | rfl | simp [Cond.onTables, Cond.keeps, Cond.steady])) hini)
  obtain ⟨hx, hb, hml, ho, -⟩ := S
  obtain ⟨-, ⟨cellB, hcB, hoB, hclB⟩, hPc⟩ := hp
  intro T hT X
  obtain ⟨v, vm₁, ⟨U', l2, c2, s2⟩, hW₁, X', ⟨g', mk, t, L, e1, e2, hq, h1, hL, h2, h3⟩, st⟩ := vx_callVW X hx (C := C) (hh := hh) (bytes := bytes) (maxL := maxL) (ret := ret) ho hl hin hse hcode hy hK (by rw [hT]; exact hcB) hoB hclB hg (hsize.trans hml.symm) (argsL := As) (rest := rest) (fun sig h => hn.trans (hlen sig h)) hstack hW (by rw [hb]; exact hdg)
    (fun vm₁ hW₁ => ⟨hf.1, hf.2, hPc (T.setVm vm₁) hT hW₁⟩)
  dsimp only [Pt.U, Pt.locs, Pt.cells, Pt.slots] at X' e1 e2 h1 h2 h3 st
  subst h1; subst h2; subst h3
  exact ⟨v, (T.setVm vm₁).calling g' mk (Value.ref b :: As).toArray, t, U', L, hT, X', hL, e1, e2, hq, st⟩
section
variable {y : MethodName} {bytes cc : ByteArray} {maxL nL mc ms n index : Nat} {ret : Option FieldType} {ws : List Cond} {rm : Room} {Pc : Array Value → State → Prop} {Qc : Array Value → State → Outcome → State → Prop} {XC : String → State → State → Prop} {free : Addr → Prop} {Ts : List Cond} {own C : String} {b : Addr} {As rest : List Value} {g : JFrame}
theorem vx_runVX {hh : List (Nat × Nat × Nat × Nat)} (S : CallFix p m c cc nL s args Ts own) (hM : vx_Met l y ws rm Pc Qc XC mc ms free) (cw : vx_CVW R s args own C index y bytes maxL ret hh ws rm mc ms n) (hp : PreV s H C b Pc As)
    (hg : g.method = m) (hn : As.length = n) (hsize : g.locals.size = nL) (hstack : g.stack = As.reverse ++ .ref b :: rest) (hW : 2 * g.monitorRoom + (rest.map fun v => v.category).sum ≤ 8) (hdg : decode cc g.pc = .ok (.invokevirtual index, 3)) (hf : cells + mc ≤ R.cells ∧ slots + ms ≤ R.slots) :
    vx_Run p l e R s m args below meth c H locs cells slots mc ms g rest (Qc (Value.ref b :: As).toArray) XC free := by
  obtain ⟨⟨hrc, hrs, hfr, hlo, hws, hcw⟩, hcode, hini, hy, hlen, hl, hin, hse⟩ := cw
  have hK : vx_Back l R p e below s args y 3 8 (PreOf R mc ms Pc) (PostOf Qc mc ms free) (vx_Post XC mc ms free) := vx_backW (hh := hh) (bytes := bytes) (maxL := maxL) (ret := ret) hM hp.1 hrc hrs hfr hlo hws hcw (fun a' U hW => word_at hW (Or.inl (by first | rfl | simp [Cond.onTables, Cond.keeps, Cond.steady])) hini)
  obtain ⟨hx, hb, hml, ho, -⟩ := S
  obtain ⟨-, ⟨cellB, hcB, hoB, hclB⟩, hPc⟩ := hp
  intro T hT X
  rcases vx_callVX X hx (C := C) (hh := hh) (bytes := bytes) (maxL := maxL) (ret := ret) ho hl hin hse hcode hy hK (by rw [hT]; exact hcB) hoB hclB hg (hsize.trans hml.symm) (argsL := As) (rest := rest) (fun sig h => hn.trans (hlen sig h)) hstack hW (by rw [hb]; exact hdg)
    (fun vm₁ hW₁ => ⟨hf.1, hf.2, hPc (T.setVm vm₁) hT hW₁⟩) with ⟨v, vm₁, ⟨U', l2, c2, s2⟩, hW₁, X', ⟨g', mk, t, L, e1, e2, hq, h1, hL, h2, h3⟩, st⟩ | ⟨q, vm₁, ⟨U', l2, c2, s2⟩, hW₁, X', ⟨g', mk, t, L, E, ce, e1, e2, hq, hce, hcv, hcl, h1, hL, h2, h3⟩, st⟩
  · dsimp only [Pt.U, Pt.locs, Pt.cells, Pt.slots] at X' e1 e2 h1 h2 h3 st
    subst h1; subst h2; subst h3
    exact Or.inl ⟨v, (T.setVm vm₁).calling g' mk (Value.ref b :: As).toArray, t, U', L, hT, X', hL, e1, e2, hq, st⟩
  · dsimp only [Pt.U, Pt.locs, Pt.cells, Pt.slots] at X' e1 e2 h1 h2 h3 st hcl
    subst h1; subst h2; subst h3
    exact Or.inr ⟨q, (T.setVm vm₁).calling g' mk (Value.ref b :: As).toArray, t, U', L, E, ce, hT, X', hL, e1, e2, hq, hce, hcv, vx_cls hW₁ hcl, st⟩
theorem vx_runSX {hh : List (Nat × Nat × Nat × Nat)} (S : CallFix p m c cc nL s args Ts own) (hM : vx_Met l y ws rm Pc Qc XC mc ms free) (cw : vx_CSW R s args own index y bytes maxL ret hh ws rm mc ms n) (hp : PreS s H Pc As)
    (hg : g.method = m) (hn : As.length = n) (hsize : g.locals.size = nL) (hstack : g.stack = As.reverse ++ rest) (hW : 2 * g.monitorRoom + (rest.map fun v => v.category).sum ≤ 8) (hdg : decode cc g.pc = .ok (.invokestatic index, 3)) (hf : cells + mc ≤ R.cells ∧ slots + ms ≤ R.slots) :
    vx_Run p l e R s m args below meth c H locs cells slots mc ms g rest (Qc As.toArray) XC free := by
  obtain ⟨⟨hrc, hrs, hfr, hlo, hws, hcw⟩, hcode, hini, hy, hlen, hl, hstt⟩ := cw
  have hK : vx_Back l R p e below s args y 3 8 (PreOf R mc ms Pc) (PostOf Qc mc ms free) (vx_Post XC mc ms free) := vx_backW (hh := hh) (bytes := bytes) (maxL := maxL) (ret := ret) hM hp.1 hrc hrs hfr hlo hws hcw (fun a' U hW => word_at hW (Or.inl (by first | rfl | simp [Cond.onTables, Cond.keeps, Cond.steady])) hini)
  obtain ⟨hx, hb, hml, ho, -⟩ := S
  intro T hT X
  rcases vx_callSX X hx (hh := hh) (bytes := bytes) (maxL := maxL) (ret := ret) ho hl hstt hini hcode hy hK hg (hsize.trans hml.symm) (argsL := As) (rest := rest) (fun sig h => hn.trans (hlen sig h)) hstack hW (by rw [hb]; exact hdg)
    (fun vm₁ hW₁ => ⟨hf.1, hf.2, hp.2 (T.setVm vm₁) hT hW₁⟩) with ⟨v, vm₁, ⟨U', l2, c2, s2⟩, hW₁, X', ⟨g', mk, t, L, e1, e2, hq, h1, hL, h2, h3⟩, st⟩ | ⟨q, vm₁, ⟨U', l2, c2, s2⟩, hW₁, X', ⟨g', mk, t, L, E, ce, e1, e2, hq, hce, hcv, hcl, h1, hL, h2, h3⟩, st⟩
  · dsimp only [Pt.U, Pt.locs, Pt.cells, Pt.slots] at X' e1 e2 h1 h2 h3 st
    subst h1; subst h2; subst h3
    exact Or.inl ⟨v, (T.setVm vm₁).calling g' mk As.toArray, t, U', L, hT, X', hL, e1, e2, hq, st⟩
  · dsimp only [Pt.U, Pt.locs, Pt.cells, Pt.slots] at X' e1 e2 h1 h2 h3 st hcl
    subst h1; subst h2; subst h3
    exact Or.inr ⟨q, (T.setVm vm₁).calling g' mk As.toArray, t, U', L, E, ce, hT, X', hL, e1, e2, hq, hce, hcv, vx_cls hW₁ hcl, st⟩
end
end VXH
theorem vx_ofWH {l : Launch} {y : MethodName} {ws ws' : List Cond} {rm : Room} {Pc : Array Value → State → Prop} {Qc : Array Value → State → Outcome → State → Prop} {XC : String → State → State → Prop} {mc ms : Nat} {free : Addr → Prop} {cc : ByteArray} {maxL : Nat} {ret : Option FieldType} {hh : List (Nat × Nat × Nat × Nat)}
    (hy : plainName y.cls = true) (hw : ws = Cond.codeWith y cc maxL ret hh :: ws')
    (body : ∀ p e s m args below meth c s₁, BodyLoose p l y (headSpec ws rm) cc maxL ret e s m args below meth c s₁ → c.maxLocals = maxL → Pc args s →
      W p l e (headSpec ws rm).room s m args below meth c s.heap [] 0 0 (vx_MQ below Qc XC args s mc ms free) (entryFrame m args maxL)) : vx_Met l y ws rm Pc Qc XC mc ms free := by
  refine MetFree.of_bodyS (code := cc) (maxLocals := maxL) (ret := ret) hy ?_ ?_
  · intro args s m h hn
    obtain ⟨m9, meth, c, hn9, h1, h2, h3, h4, -, h5, h6, -⟩ := Cond.codeWith_spec (atoms_spec (ws := ws) h _ (by rw [hw]; exact List.mem_cons_self))
    cases hn.symm.trans hn9
    exact ⟨meth, c, h1, h2, h3, h4, h5, h6⟩
  · intro p e s m args below meth c s₁ B hml hP _
    have hh0 : s₁.heap = s.heap := by rw [B.state]; rfl
    obtain ⟨t, a1, o, b1, b2, b3⟩ := body p e s m args below meth c s₁ B hml hP s₁ hh0 (Stand.of_body B)
    exact ⟨t, o, a1, b1, b2, b3⟩
/-! ===== END ===== -/

/-! ===== BEGIN printed: names, fields, word lists, decode rows ===== -/
def RX0 : String := "LoanVans$Past"
def TX0 : u_T := fun k => match k with
  | 0 => ("LoanVans$Past", "states", "[LLoanVans$State;", true)
  | 1 => ("LoanVans$Past", "next", "I", false)
  | _ => ("LoanVans$Past", "size", "I", false)
def tyX0 : Nat → FieldType := fun k => match k with
  | 0 => .array (.object "LoanVans$State")
  | 1 => .int
  | _ => .int
abbrev wsX00 : List Cond := u_ws RX0 TX0 3
theorem nmX0 : ∀ a, a < 3 → ∀ b, b < 3 → a ≠ b → (TX0 a).2.1 ≠ (TX0 b).2.1 := by decide +kernel
theorem tyX0_ok : ∀ k, k < 3 → parseFieldDescriptor (TX0 k).2.2.1 = some (tyX0 k) := by decide +kernel
abbrev cX0_init : ByteArray := prog_2_method_1_code
def yX0_init : MethodName := ⟨RX0, "<init>", "()V"⟩
abbrev cX0_clear : ByteArray := prog_2_method_2_code
def yX0_clear : MethodName := ⟨RX0, "clear", "()V"⟩
abbrev cX0_keep : ByteArray := prog_2_method_3_code
def yX0_keep : MethodName := ⟨RX0, "keep", "(LLoanVans$State;)V"⟩
abbrev cX0_restore : ByteArray := prog_2_method_4_code
def yX0_restore : MethodName := ⟨RX0, "restore", "(LLoanVans$State;)V"⟩
def RX1 : String := "LoanVans$Plan"
def TX1 : u_T := fun k => match k with
  | 0 => ("LoanVans$Plan", "lines", "I", false)
  | 1 => ("LoanVans$Plan", "branches", "I", false)
  | 2 => ("LoanVans$Plan", "titles", "I", false)
  | 3 => ("LoanVans$Plan", "items", "I", false)
  | 4 => ("LoanVans$Plan", "vans", "I", false)
  | 5 => ("LoanVans$Plan", "holds", "I", false)
  | 6 => ("LoanVans$Plan", "grace", "I", false)
  | 7 => ("LoanVans$Plan", "renews", "I", false)
  | 8 => ("LoanVans$Plan", "shut", "[I", true)
  | 9 => ("LoanVans$Plan", "period", "[I", true)
  | 10 => ("LoanVans$Plan", "itemTitle", "[I", true)
  | 11 => ("LoanVans$Plan", "itemHome", "[I", true)
  | 12 => ("LoanVans$Plan", "room", "[I", true)
  | 13 => ("LoanVans$Plan", "round", "[I", true)
  | 14 => ("LoanVans$Plan", "stops", "[[I", true)
  | 15 => ("LoanVans$Plan", "holdBranch", "[I", true)
  | _ => ("LoanVans$Plan", "holdTitle", "[I", true)
def tyX1 : Nat → FieldType := fun k => match k with
  | 0 => .int
  | 1 => .int
  | 2 => .int
  | 3 => .int
  | 4 => .int
  | 5 => .int
  | 6 => .int
  | 7 => .int
  | 8 => .array .int
  | 9 => .array .int
  | 10 => .array .int
  | 11 => .array .int
  | 12 => .array .int
  | 13 => .array .int
  | 14 => .array (.array .int)
  | 15 => .array .int
  | _ => .array .int
abbrev wsX10 : List Cond := u_ws RX1 TX1 17
theorem nmX1 : ∀ a, a < 17 → ∀ b, b < 17 → a ≠ b → (TX1 a).2.1 ≠ (TX1 b).2.1 := by decide +kernel
theorem tyX1_ok : ∀ k, k < 17 → parseFieldDescriptor (TX1 k).2.2.1 = some (tyX1 k) := by decide +kernel
abbrev cX1_init : ByteArray := prog_3_method_1_code
def yX1_init : MethodName := ⟨RX1, "<init>", "()V"⟩
abbrev cX1_empty : ByteArray := prog_3_method_2_code
def yX1_empty : MethodName := ⟨RX1, "empty", "()V"⟩
abbrev cX1_copyFrom : ByteArray := prog_3_method_3_code
def yX1_copyFrom : MethodName := ⟨RX1, "copyFrom", "(LLoanVans$Plan;)V"⟩
abbrev cX1_branchOn : ByteArray := prog_3_method_4_code
def yX1_branchOn : MethodName := ⟨RX1, "branchOn", "(II)I"⟩
abbrev cX1_isShut : ByteArray := prog_3_method_5_code
def yX1_isShut : MethodName := ⟨RX1, "isShut", "(II)Z"⟩
abbrev cX1_openFrom : ByteArray := prog_3_method_6_code
def yX1_openFrom : MethodName := ⟨RX1, "openFrom", "(II)I"⟩
abbrev cX1_countAtHome : ByteArray := prog_3_method_7_code
def yX1_countAtHome : MethodName := ⟨RX1, "countAtHome", "(I)I"⟩
abbrev cX1_countOfTitle : ByteArray := prog_3_method_8_code
def yX1_countOfTitle : MethodName := ⟨RX1, "countOfTitle", "(I)I"⟩
def RX2 : String := "LoanVans$Reader"
def TX2 : u_T := fun k => match k with
  | 0 => ("LoanVans$Reader", "lineWords", "[I", true)
  | 1 => ("LoanVans$Reader", "tape", "[I", true)
  | 2 => ("LoanVans$Reader", "branchNames", "[I", true)
  | 3 => ("LoanVans$Reader", "titleNames", "[I", true)
  | 4 => ("LoanVans$Reader", "size", "I", false)
  | 5 => ("LoanVans$Reader", "fault", "I", false)
  | 6 => ("LoanVans$Reader", "place", "I", false)
  | 7 => ("LoanVans$Reader", "graceTold", "Z", false)
  | 8 => ("LoanVans$Reader", "renewsTold", "Z", false)
  | 9 => ("LoanVans$Reader", "at", "I", false)
  | 10 => ("LoanVans$Reader", "end", "I", false)
  | 11 => ("LoanVans$Reader", "token", "I", false)
  | 12 => ("LoanVans$Reader", "start", "I", false)
  | 13 => ("LoanVans$Reader", "value", "I", false)
  | _ => ("LoanVans$Reader", "plan", "LLoanVans$Plan;", false)
def tyX2 : Nat → FieldType := fun k => match k with
  | 0 => .array .int
  | 1 => .array .int
  | 2 => .array .int
  | 3 => .array .int
  | 4 => .int
  | 5 => .int
  | 6 => .int
  | 7 => .boolean
  | 8 => .boolean
  | 9 => .int
  | 10 => .int
  | 11 => .int
  | 12 => .int
  | 13 => .int
  | _ => .object "LoanVans$Plan"
abbrev wsX20 : List Cond := u_ws RX2 TX2 15
theorem nmX2 : ∀ a, a < 15 → ∀ b, b < 15 → a ≠ b → (TX2 a).2.1 ≠ (TX2 b).2.1 := by decide +kernel
theorem tyX2_ok : ∀ k, k < 15 → parseFieldDescriptor (TX2 k).2.2.1 = some (tyX2 k) := by decide +kernel
abbrev cX2_init : ByteArray := prog_4_method_1_code
def yX2_init : MethodName := ⟨RX2, "<init>", "()V"⟩
abbrev cX2_put : ByteArray := prog_4_method_2_code
def yX2_put : MethodName := ⟨RX2, "put", "(I)V"⟩
abbrev cX2_readInto : ByteArray := prog_4_method_3_code
def yX2_readInto : MethodName := ⟨RX2, "readInto", "(LLoanVans$Plan;I)Z"⟩
abbrev cX2_begin : ByteArray := prog_4_method_4_code
def yX2_begin : MethodName := ⟨RX2, "begin", "(LLoanVans$Plan;I)V"⟩
abbrev cX2_endLine : ByteArray := prog_4_method_5_code
def yX2_endLine : MethodName := ⟨RX2, "endLine", "()V"⟩
abbrev cX2_readBranch : ByteArray := prog_4_method_6_code
def yX2_readBranch : MethodName := ⟨RX2, "readBranch", "()V"⟩
abbrev cX2_readTitle : ByteArray := prog_4_method_7_code
def yX2_readTitle : MethodName := ⟨RX2, "readTitle", "()V"⟩
abbrev cX2_readItem : ByteArray := prog_4_method_8_code
def yX2_readItem : MethodName := ⟨RX2, "readItem", "()V"⟩
abbrev cX2_readHold : ByteArray := prog_4_method_9_code
def yX2_readHold : MethodName := ⟨RX2, "readHold", "()V"⟩
abbrev cX2_readVan : ByteArray := prog_4_method_10_code
def yX2_readVan : MethodName := ⟨RX2, "readVan", "()V"⟩
abbrev cX2_readStop : ByteArray := prog_4_method_11_code
def yX2_readStop : MethodName := ⟨RX2, "readStop", "(I)V"⟩
abbrev cX2_readGrace : ByteArray := prog_4_method_12_code
def yX2_readGrace : MethodName := ⟨RX2, "readGrace", "()V"⟩
abbrev cX2_readRenews : ByteArray := prog_4_method_13_code
def yX2_readRenews : MethodName := ⟨RX2, "readRenews", "()V"⟩
abbrev cX2_beginsRow : ByteArray := prog_4_method_14_code
def yX2_beginsRow : MethodName := ⟨RX2, "beginsRow", "(II)Z"⟩
abbrev cX2_takeNewName : ByteArray := prog_4_method_15_code
def yX2_takeNewName : MethodName := ⟨RX2, "takeNewName", "([II)I"⟩
abbrev cX2_takeToldName : ByteArray := prog_4_method_16_code
def yX2_takeToldName : MethodName := ⟨RX2, "takeToldName", "([II)I"⟩
abbrev cX2_takeNumber : ByteArray := prog_4_method_17_code
def yX2_takeNumber : MethodName := ⟨RX2, "takeNumber", "(II)I"⟩
abbrev cX2_numberOfName : ByteArray := prog_4_method_18_code
def yX2_numberOfName : MethodName := ⟨RX2, "numberOfName", "([II)I"⟩
abbrev cX2_fail : ByteArray := prog_4_method_19_code
def yX2_fail : MethodName := ⟨RX2, "fail", "(I)V"⟩
abbrev cX2_advance : ByteArray := prog_4_method_20_code
def yX2_advance : MethodName := ⟨RX2, "advance", "()V"⟩
abbrev cX2_scanWord : ByteArray := prog_4_method_21_code
def yX2_scanWord : MethodName := ⟨RX2, "scanWord", "()V"⟩
abbrev cX2_scanNumber : ByteArray := prog_4_method_22_code
def yX2_scanNumber : MethodName := ⟨RX2, "scanNumber", "()V"⟩
abbrev cX2_tokenOfWord : ByteArray := prog_4_method_23_code
def yX2_tokenOfWord : MethodName := ⟨RX2, "tokenOfWord", "()I"⟩
abbrev cX2_codeOf : ByteArray := prog_4_method_24_code
def yX2_codeOf : MethodName := ⟨RX2, "codeOf", "(Ljava/lang/String;)I"⟩
abbrev cX2_isBlank : ByteArray := prog_4_method_25_code
def yX2_isBlank : MethodName := ⟨RX2, "isBlank", "(I)Z"⟩
abbrev cX2_isLetter : ByteArray := prog_4_method_26_code
def yX2_isLetter : MethodName := ⟨RX2, "isLetter", "(I)Z"⟩
abbrev cX2_isDigit : ByteArray := prog_4_method_27_code
def yX2_isDigit : MethodName := ⟨RX2, "isDigit", "(I)Z"⟩
def RX3 : String := "LoanVans$State"
def TX3 : u_T := fun k => match k with
  | 0 => ("LoanVans$State", "day", "I", false)
  | 1 => ("LoanVans$State", "items", "I", false)
  | 2 => ("LoanVans$State", "holds", "I", false)
  | 3 => ("LoanVans$State", "loanCount", "I", false)
  | 4 => ("LoanVans$State", "place", "[I", true)
  | 5 => ("LoanVans$State", "spot", "[I", true)
  | 6 => ("LoanVans$State", "itemHold", "[I", true)
  | 7 => ("LoanVans$State", "due", "[I", true)
  | 8 => ("LoanVans$State", "renewed", "[I", true)
  | 9 => ("LoanVans$State", "legTo", "[I", true)
  | 10 => ("LoanVans$State", "legDay", "[I", true)
  | 11 => ("LoanVans$State", "holdBranch", "[I", true)
  | 12 => ("LoanVans$State", "holdTitle", "[I", true)
  | 13 => ("LoanVans$State", "stage", "[I", true)
  | 14 => ("LoanVans$State", "holdItem", "[I", true)
  | 15 => ("LoanVans$State", "dayTold", "[I", true)
  | 16 => ("LoanVans$State", "dayLent", "[I", true)
  | 17 => ("LoanVans$State", "loanHold", "[I", true)
  | _ => ("LoanVans$State", "boarded", "[I", true)
def tyX3 : Nat → FieldType := fun k => match k with
  | 0 => .int
  | 1 => .int
  | 2 => .int
  | 3 => .int
  | 4 => .array .int
  | 5 => .array .int
  | 6 => .array .int
  | 7 => .array .int
  | 8 => .array .int
  | 9 => .array .int
  | 10 => .array .int
  | 11 => .array .int
  | 12 => .array .int
  | 13 => .array .int
  | 14 => .array .int
  | 15 => .array .int
  | 16 => .array .int
  | 17 => .array .int
  | _ => .array .int
abbrev wsX30 : List Cond := u_ws RX3 TX3 19
theorem nmX3 : ∀ a, a < 19 → ∀ b, b < 19 → a ≠ b → (TX3 a).2.1 ≠ (TX3 b).2.1 := by decide +kernel
theorem tyX3_ok : ∀ k, k < 19 → parseFieldDescriptor (TX3 k).2.2.1 = some (tyX3 k) := by decide +kernel
abbrev cX3_init : ByteArray := prog_5_method_1_code
def yX3_init : MethodName := ⟨RX3, "<init>", "()V"⟩
abbrev cX3_begin : ByteArray := prog_5_method_2_code
def yX3_begin : MethodName := ⟨RX3, "begin", "(LLoanVans$Plan;)V"⟩
abbrev cX3_copyFrom : ByteArray := prog_5_method_3_code
def yX3_copyFrom : MethodName := ⟨RX3, "copyFrom", "(LLoanVans$State;)V"⟩
abbrev cX3_putAt : ByteArray := prog_5_method_4_code
def yX3_putAt : MethodName := ⟨RX3, "putAt", "(II)V"⟩
abbrev cX3_addHold : ByteArray := prog_5_method_5_code
def yX3_addHold : MethodName := ⟨RX3, "addHold", "(II)I"⟩
abbrev cX3_cancelHold : ByteArray := prog_5_method_6_code
def yX3_cancelHold : MethodName := ⟨RX3, "cancelHold", "(I)V"⟩
abbrev cX3_giveItem : ByteArray := prog_5_method_7_code
def yX3_giveItem : MethodName := ⟨RX3, "giveItem", "(II)V"⟩
abbrev cX3_lend : ByteArray := prog_5_method_8_code
def yX3_lend : MethodName := ⟨RX3, "lend", "(III)V"⟩
abbrev cX3_takeBack : ByteArray := prog_5_method_9_code
def yX3_takeBack : MethodName := ⟨RX3, "takeBack", "(I)V"⟩
abbrev cX3_board : ByteArray := prog_5_method_10_code
def yX3_board : MethodName := ⟨RX3, "board", "(IIII)V"⟩
abbrev cX3_isThere : ByteArray := prog_5_method_11_code
def yX3_isThere : MethodName := ⟨RX3, "isThere", "(III)Z"⟩
abbrev cX3_isFree : ByteArray := prog_5_method_12_code
def yX3_isFree : MethodName := ⟨RX3, "isFree", "(I)Z"⟩
abbrev cX3_isWaiting : ByteArray := prog_5_method_13_code
def yX3_isWaiting : MethodName := ⟨RX3, "isWaiting", "(I)Z"⟩
abbrev cX3_isOpenOf : ByteArray := prog_5_method_14_code
def yX3_isOpenOf : MethodName := ⟨RX3, "isOpenOf", "(II)Z"⟩
abbrev cX3_countItems : ByteArray := prog_5_method_15_code
def yX3_countItems : MethodName := ⟨RX3, "countItems", "(II)I"⟩
abbrev cX3_countOpenAt : ByteArray := prog_5_method_16_code
def yX3_countOpenAt : MethodName := ⟨RX3, "countOpenAt", "(I)I"⟩
abbrev cX3_countOpenOf : ByteArray := prog_5_method_17_code
def yX3_countOpenOf : MethodName := ⟨RX3, "countOpenOf", "(I)I"⟩
abbrev cX3_countStage : ByteArray := prog_5_method_18_code
def yX3_countStage : MethodName := ⟨RX3, "countStage", "(I)I"⟩
abbrev cX3_countLoansOf : ByteArray := prog_5_method_19_code
def yX3_countLoansOf : MethodName := ⟨RX3, "countLoansOf", "(I)I"⟩
abbrev cX3_daysWaited : ByteArray := prog_5_method_20_code
def yX3_daysWaited : MethodName := ⟨RX3, "daysWaited", "(I)I"⟩
abbrev cX3_branchBit : ByteArray := prog_5_method_21_code
def yX3_branchBit : MethodName := ⟨RX3, "branchBit", "(I)I"⟩
def RX4 : String := "LoanVans$Ways"
def TX4 : u_T := fun k => match k with
  | 0 => ("LoanVans$Ways", "plan", "LLoanVans$Plan;", true)
  | 1 => ("LoanVans$Ways", "arrivals", "[I", true)
  | 2 => ("LoanVans$Ways", "rowDay", "[I", true)
  | 3 => ("LoanVans$Ways", "lastBoarded", "[I", true)
  | 4 => ("LoanVans$Ways", "legVan", "I", false)
  | 5 => ("LoanVans$Ways", "legBoard", "I", false)
  | 6 => ("LoanVans$Ways", "legTo", "I", false)
  | _ => ("LoanVans$Ways", "legDay", "I", false)
def tyX4 : Nat → FieldType := fun k => match k with
  | 0 => .object "LoanVans$Plan"
  | 1 => .array .int
  | 2 => .array .int
  | 3 => .array .int
  | 4 => .int
  | 5 => .int
  | 6 => .int
  | _ => .int
abbrev wsX40 : List Cond := u_ws RX4 TX4 8
theorem nmX4 : ∀ a, a < 8 → ∀ b, b < 8 → a ≠ b → (TX4 a).2.1 ≠ (TX4 b).2.1 := by decide +kernel
theorem tyX4_ok : ∀ k, k < 8 → parseFieldDescriptor (TX4 k).2.2.1 = some (tyX4 k) := by decide +kernel
abbrev cX4_init : ByteArray := prog_6_method_1_code
def yX4_init : MethodName := ⟨RX4, "<init>", "(LLoanVans$Plan;)V"⟩
abbrev cX4_forgetAll : ByteArray := prog_6_method_2_code
def yX4_forgetAll : MethodName := ⟨RX4, "forgetAll", "()V"⟩
abbrev cX4_arrivalAt : ByteArray := prog_6_method_3_code
def yX4_arrivalAt : MethodName := ⟨RX4, "arrivalAt", "(III)I"⟩
abbrev cX4_beginRow : ByteArray := prog_6_method_4_code
def yX4_beginRow : MethodName := ⟨RX4, "beginRow", "(III)V"⟩
abbrev cX4_findLeg : ByteArray := prog_6_method_5_code
def yX4_findLeg : MethodName := ⟨RX4, "findLeg", "(III)Z"⟩
abbrev cX4_vanToBoard : ByteArray := prog_6_method_6_code
def yX4_vanToBoard : MethodName := ⟨RX4, "vanToBoard", "(IIII)I"⟩
abbrev cX4_legPart : ByteArray := prog_6_method_7_code
def yX4_legPart : MethodName := ⟨RX4, "legPart", "(I)I"⟩
abbrev cX4_goLegs : ByteArray := prog_6_method_8_code
def yX4_goLegs : MethodName := ⟨RX4, "goLegs", "(IIII)I"⟩
def RX5 : String := "LoanVans$World"
def TX5 : u_T := fun k => match k with
  | 0 => ("LoanVans$World", "plan", "LLoanVans$Plan;", true)
  | 1 => ("LoanVans$World", "state", "LLoanVans$State;", true)
  | 2 => ("LoanVans$World", "ways", "LLoanVans$Ways;", true)
  | 3 => ("LoanVans$World", "line", "[I", true)
  | _ => ("LoanVans$World", "lineLength", "I", false)
def tyX5 : Nat → FieldType := fun k => match k with
  | 0 => .object "LoanVans$Plan"
  | 1 => .object "LoanVans$State"
  | 2 => .object "LoanVans$Ways"
  | 3 => .array .int
  | _ => .int
abbrev wsX50 : List Cond := u_ws RX5 TX5 5
theorem nmX5 : ∀ a, a < 5 → ∀ b, b < 5 → a ≠ b → (TX5 a).2.1 ≠ (TX5 b).2.1 := by decide +kernel
theorem tyX5_ok : ∀ k, k < 5 → parseFieldDescriptor (TX5 k).2.2.1 = some (tyX5 k) := by decide +kernel
abbrev cX5_init : ByteArray := prog_7_method_1_code
def yX5_init : MethodName := ⟨RX5, "<init>", "()V"⟩
abbrev cX5_begin : ByteArray := prog_7_method_2_code
def yX5_begin : MethodName := ⟨RX5, "begin", "()V"⟩
abbrev cX5_copyFrom : ByteArray := prog_7_method_3_code
def yX5_copyFrom : MethodName := ⟨RX5, "copyFrom", "(LLoanVans$World;)V"⟩
abbrev cX5_goDays : ByteArray := prog_7_method_4_code
def yX5_goDays : MethodName := ⟨RX5, "goDays", "(I)V"⟩
abbrev cX5_goDay : ByteArray := prog_7_method_5_code
def yX5_goDay : MethodName := ⟨RX5, "goDay", "()V"⟩
abbrev cX5_takeBackItems : ByteArray := prog_7_method_6_code
def yX5_takeBackItems : MethodName := ⟨RX5, "takeBackItems", "()V"⟩
abbrev cX5_giveItems : ByteArray := prog_7_method_7_code
def yX5_giveItems : MethodName := ⟨RX5, "giveItems", "()V"⟩
abbrev cX5_nearestFree : ByteArray := prog_7_method_8_code
def yX5_nearestFree : MethodName := ⟨RX5, "nearestFree", "(II)I"⟩
abbrev cX5_lendItems : ByteArray := prog_7_method_9_code
def yX5_lendItems : MethodName := ⟨RX5, "lendItems", "()V"⟩
abbrev cX5_leaveVan : ByteArray := prog_7_method_10_code
def yX5_leaveVan : MethodName := ⟨RX5, "leaveVan", "(I)V"⟩
abbrev cX5_boardVan : ByteArray := prog_7_method_11_code
def yX5_boardVan : MethodName := ⟨RX5, "boardVan", "(I)V"⟩
abbrev cX5_lineUp : ByteArray := prog_7_method_12_code
def yX5_lineUp : MethodName := ⟨RX5, "lineUp", "(I)V"⟩
abbrev cX5_stepIntoLine : ByteArray := prog_7_method_13_code
def yX5_stepIntoLine : MethodName := ⟨RX5, "stepIntoLine", "(II)V"⟩
abbrev cX5_goalOf : ByteArray := prog_7_method_14_code
def yX5_goalOf : MethodName := ⟨RX5, "goalOf", "(I)I"⟩
abbrev cX5_lentWithin : ByteArray := prog_7_method_15_code
def yX5_lentWithin : MethodName := ⟨RX5, "lentWithin", "(I)I"⟩
abbrev cX5_countFree : ByteArray := prog_7_method_16_code
def yX5_countFree : MethodName := ⟨RX5, "countFree", "(I)I"⟩
abbrev cX5_countAstray : ByteArray := prog_7_method_17_code
def yX5_countAstray : MethodName := ⟨RX5, "countAstray", "()I"⟩
abbrev cX5_countLoans : ByteArray := prog_7_method_18_code
def yX5_countLoans : MethodName := ⟨RX5, "countLoans", "(II)I"⟩
abbrev cX5_balance : ByteArray := prog_7_method_19_code
def yX5_balance : MethodName := ⟨RX5, "balance", "(I)I"⟩
abbrev cX5_branchOfLoan : ByteArray := prog_7_method_20_code
def yX5_branchOfLoan : MethodName := ⟨RX5, "branchOfLoan", "(I)I"⟩
abbrev cX5_homeOfLoan : ByteArray := prog_7_method_21_code
def yX5_homeOfLoan : MethodName := ⟨RX5, "homeOfLoan", "(I)I"⟩
def RX6 : String := "LoanVans"
def TX6 : u_T := fun k => match k with
  | 0 => ("LoanVans", "reader", "LLoanVans$Reader;", true)
  | 1 => ("LoanVans", "world", "LLoanVans$World;", true)
  | 2 => ("LoanVans", "foretold", "LLoanVans$World;", true)
  | 3 => ("LoanVans", "past", "LLoanVans$Past;", true)
  | 4 => ("LoanVans", "plan", "LLoanVans$Plan;", true)
  | 5 => ("LoanVans", "state", "LLoanVans$State;", true)
  | _ => ("LoanVans", "ways", "LLoanVans$Ways;", true)
def tyX6 : Nat → FieldType := fun k => match k with
  | 0 => .object "LoanVans$Reader"
  | 1 => .object "LoanVans$World"
  | 2 => .object "LoanVans$World"
  | 3 => .object "LoanVans$Past"
  | 4 => .object "LoanVans$Plan"
  | 5 => .object "LoanVans$State"
  | _ => .object "LoanVans$Ways"
abbrev wsX60 : List Cond := u_ws RX6 TX6 7
theorem nmX6 : ∀ a, a < 7 → ∀ b, b < 7 → a ≠ b → (TX6 a).2.1 ≠ (TX6 b).2.1 := by decide +kernel
theorem tyX6_ok : ∀ k, k < 7 → parseFieldDescriptor (TX6 k).2.2.1 = some (tyX6 k) := by decide +kernel
abbrev cX6_init : ByteArray := prog_1_method_1_code
def yX6_init : MethodName := ⟨RX6, "<init>", "()V"⟩
abbrev cX6_feed : ByteArray := prog_1_method_2_code
def yX6_feed : MethodName := ⟨RX6, "feed", "(IIIII)I"⟩
abbrev cX6_text : ByteArray := prog_1_method_3_code
def yX6_text : MethodName := ⟨RX6, "text", "(I)I"⟩
abbrev cX6_fault : ByteArray := prog_1_method_4_code
def yX6_fault : MethodName := ⟨RX6, "fault", "(I)I"⟩
abbrev cX6_branch : ByteArray := prog_1_method_5_code
def yX6_branch : MethodName := ⟨RX6, "branch", "(II)I"⟩
abbrev cX6_title : ByteArray := prog_1_method_6_code
def yX6_title : MethodName := ⟨RX6, "title", "(II)I"⟩
abbrev cX6_item : ByteArray := prog_1_method_7_code
def yX6_item : MethodName := ⟨RX6, "item", "(II)I"⟩
abbrev cX6_holdOf : ByteArray := prog_1_method_8_code
def yX6_holdOf : MethodName := ⟨RX6, "holdOf", "(II)I"⟩
abbrev cX6_van : ByteArray := prog_1_method_9_code
def yX6_van : MethodName := ⟨RX6, "van", "(II)I"⟩
abbrev cX6_stop : ByteArray := prog_1_method_10_code
def yX6_stop : MethodName := ⟨RX6, "stop", "(II)I"⟩
abbrev cX6_hold : ByteArray := prog_1_method_11_code
def yX6_hold : MethodName := ⟨RX6, "hold", "(II)I"⟩
abbrev cX6_cancel : ByteArray := prog_1_method_12_code
def yX6_cancel : MethodName := ⟨RX6, "cancel", "(I)Z"⟩
abbrev cX6_recall : ByteArray := prog_1_method_13_code
def yX6_recall : MethodName := ⟨RX6, "recall", "(I)I"⟩
abbrev cX6_renew : ByteArray := prog_1_method_14_code
def yX6_renew : MethodName := ⟨RX6, "renew", "(I)I"⟩
abbrev cX6_days : ByteArray := prog_1_method_15_code
def yX6_days : MethodName := ⟨RX6, "days", "(I)I"⟩
abbrev cX6_undo : ByteArray := prog_1_method_16_code
def yX6_undo : MethodName := ⟨RX6, "undo", "()I"⟩
abbrev cX6_owed : ByteArray := prog_1_method_17_code
def yX6_owed : MethodName := ⟨RX6, "owed", "(II)I"⟩
abbrev cX6_loans : ByteArray := prog_1_method_18_code
def yX6_loans : MethodName := ⟨RX6, "loans", "(II)I"⟩
abbrev cX6_lender : ByteArray := prog_1_method_19_code
def yX6_lender : MethodName := ⟨RX6, "lender", "(I)I"⟩
abbrev cX6_ranked : ByteArray := prog_1_method_20_code
def yX6_ranked : MethodName := ⟨RX6, "ranked", "(I)I"⟩
abbrev cX6_log : ByteArray := prog_1_method_21_code
def yX6_log : MethodName := ⟨RX6, "log", "(II)I"⟩
abbrev cX6_queue : ByteArray := prog_1_method_22_code
def yX6_queue : MethodName := ⟨RX6, "queue", "(II)I"⟩
abbrev cX6_inVan : ByteArray := prog_1_method_23_code
def yX6_inVan : MethodName := ⟨RX6, "inVan", "(II)I"⟩
abbrev cX6_waits : ByteArray := prog_1_method_24_code
def yX6_waits : MethodName := ⟨RX6, "waits", "(II)I"⟩
abbrev cX6_longest : ByteArray := prog_1_method_25_code
def yX6_longest : MethodName := ⟨RX6, "longest", "(I)I"⟩
abbrev cX6_waited : ByteArray := prog_1_method_26_code
def yX6_waited : MethodName := ⟨RX6, "waited", "(I)I"⟩
abbrev cX6_meanWait : ByteArray := prog_1_method_27_code
def yX6_meanWait : MethodName := ⟨RX6, "meanWait", "()I"⟩
abbrev cX6_nextDue : ByteArray := prog_1_method_28_code
def yX6_nextDue : MethodName := ⟨RX6, "nextDue", "(I)I"⟩
abbrev cX6_given : ByteArray := prog_1_method_29_code
def yX6_given : MethodName := ⟨RX6, "given", "(II)I"⟩
abbrev cX6_arrival : ByteArray := prog_1_method_30_code
def yX6_arrival : MethodName := ⟨RX6, "arrival", "(III)I"⟩
abbrev cX6_leg : ByteArray := prog_1_method_31_code
def yX6_leg : MethodName := ⟨RX6, "leg", "(IIII)I"⟩
abbrev cX6_legs : ByteArray := prog_1_method_32_code
def yX6_legs : MethodName := ⟨RX6, "legs", "(III)I"⟩
abbrev cX6_path : ByteArray := prog_1_method_33_code
def yX6_path : MethodName := ⟨RX6, "path", "(IIIII)I"⟩
abbrev cX6_reach : ByteArray := prog_1_method_34_code
def yX6_reach : MethodName := ⟨RX6, "reach", "(III)I"⟩
abbrev cX6_farthest : ByteArray := prog_1_method_35_code
def yX6_farthest : MethodName := ⟨RX6, "farthest", "(II)I"⟩
abbrev cX6_center : ByteArray := prog_1_method_36_code
def yX6_center : MethodName := ⟨RX6, "center", "(I)I"⟩
abbrev cX6_thereAndBack : ByteArray := prog_1_method_37_code
def yX6_thereAndBack : MethodName := ⟨RX6, "thereAndBack", "(III)I"⟩
abbrev cX6_bestDay : ByteArray := prog_1_method_38_code
def yX6_bestDay : MethodName := ⟨RX6, "bestDay", "(III)I"⟩
abbrev cX6_meet : ByteArray := prog_1_method_39_code
def yX6_meet : MethodName := ⟨RX6, "meet", "(II)I"⟩
abbrev cX6_every : ByteArray := prog_1_method_40_code
def yX6_every : MethodName := ⟨RX6, "every", "(II)I"⟩
abbrev cX6_busiest : ByteArray := prog_1_method_41_code
def yX6_busiest : MethodName := ⟨RX6, "busiest", "(I)I"⟩
abbrev cX6_lentOn : ByteArray := prog_1_method_42_code
def yX6_lentOn : MethodName := ⟨RX6, "lentOn", "(I)I"⟩
abbrev cX6_ifHold : ByteArray := prog_1_method_43_code
def yX6_ifHold : MethodName := ⟨RX6, "ifHold", "(II)I"⟩
abbrev cX6_ifCancelled : ByteArray := prog_1_method_44_code
def yX6_ifCancelled : MethodName := ⟨RX6, "ifCancelled", "(II)I"⟩
abbrev cX6_ifNoVan : ByteArray := prog_1_method_45_code
def yX6_ifNoVan : MethodName := ⟨RX6, "ifNoVan", "(II)I"⟩
abbrev cX6_ifStop : ByteArray := prog_1_method_46_code
def yX6_ifStop : MethodName := ⟨RX6, "ifStop", "(IIII)I"⟩
abbrev cX6_ifClosed : ByteArray := prog_1_method_47_code
def yX6_ifClosed : MethodName := ⟨RX6, "ifClosed", "(III)I"⟩
abbrev cX6_ifPeriod : ByteArray := prog_1_method_48_code
def yX6_ifPeriod : MethodName := ⟨RX6, "ifPeriod", "(III)I"⟩
abbrev cX6_ifRoom : ByteArray := prog_1_method_49_code
def yX6_ifRoom : MethodName := ⟨RX6, "ifRoom", "(III)I"⟩
abbrev cX6_served : ByteArray := prog_1_method_50_code
def yX6_served : MethodName := ⟨RX6, "served", "(I)I"⟩
abbrev cX6_where : ByteArray := prog_1_method_51_code
def yX6_where : MethodName := ⟨RX6, "where", "(II)I"⟩
abbrev cX6_astray : ByteArray := prog_1_method_52_code
def yX6_astray : MethodName := ⟨RX6, "astray", "(I)I"⟩
abbrev cX6_visits : ByteArray := prog_1_method_53_code
def yX6_visits : MethodName := ⟨RX6, "visits", "(II)I"⟩
abbrev cX6_count : ByteArray := prog_1_method_54_code
def yX6_count : MethodName := ⟨RX6, "count", "(I)I"⟩
abbrev cX6_isWithin : ByteArray := prog_1_method_55_code
def yX6_isWithin : MethodName := ⟨RX6, "isWithin", "(III)Z"⟩
abbrev cX6_isDay : ByteArray := prog_1_method_56_code
def yX6_isDay : MethodName := ⟨RX6, "isDay", "(I)Z"⟩
abbrev cX6_isForetellable : ByteArray := prog_1_method_57_code
def yX6_isForetellable : MethodName := ⟨RX6, "isForetellable", "(I)Z"⟩
abbrev cX6_orAbsent : ByteArray := prog_1_method_58_code
def yX6_orAbsent : MethodName := ⟨RX6, "orAbsent", "(I)I"⟩
abbrev cX6_isBranch : ByteArray := prog_1_method_59_code
def yX6_isBranch : MethodName := ⟨RX6, "isBranch", "(I)Z"⟩
abbrev cX6_isTitle : ByteArray := prog_1_method_60_code
def yX6_isTitle : MethodName := ⟨RX6, "isTitle", "(I)Z"⟩
abbrev cX6_isItem : ByteArray := prog_1_method_61_code
def yX6_isItem : MethodName := ⟨RX6, "isItem", "(I)Z"⟩
abbrev cX6_isVan : ByteArray := prog_1_method_62_code
def yX6_isVan : MethodName := ⟨RX6, "isVan", "(I)Z"⟩
abbrev cX6_isStop : ByteArray := prog_1_method_63_code
def yX6_isStop : MethodName := ⟨RX6, "isStop", "(II)Z"⟩
abbrev cX6_isHold : ByteArray := prog_1_method_64_code
def yX6_isHold : MethodName := ⟨RX6, "isHold", "(I)Z"⟩
abbrev cX6_branchRanked : ByteArray := prog_1_method_65_code
def yX6_branchRanked : MethodName := ⟨RX6, "branchRanked", "(I)I"⟩
abbrev cX6_countAhead : ByteArray := prog_1_method_66_code
def yX6_countAhead : MethodName := ⟨RX6, "countAhead", "(I)I"⟩
abbrev cX6_daysToAll : ByteArray := prog_1_method_67_code
def yX6_daysToAll : MethodName := ⟨RX6, "daysToAll", "(I)I"⟩
def RX7 : String := "LoanVansModel"
def TX7 : u_T := fun k => match k with
  | 0 => ("LoanVansModel", "thrown", "I", false)
  | 1 => ("LoanVansModel", "lines", "I", false)
  | 2 => ("LoanVansModel", "shut", "[I", true)
  | 3 => ("LoanVansModel", "branches", "I", false)
  | 4 => ("LoanVansModel", "period", "[I", true)
  | 5 => ("LoanVansModel", "titles", "I", false)
  | 6 => ("LoanVansModel", "titleOf", "[I", true)
  | 7 => ("LoanVansModel", "homeOf", "[I", true)
  | 8 => ("LoanVansModel", "items", "I", false)
  | 9 => ("LoanVansModel", "room", "[I", true)
  | 10 => ("LoanVansModel", "stopMany", "[I", true)
  | 11 => ("LoanVansModel", "stops", "[I", true)
  | 12 => ("LoanVansModel", "vans", "I", false)
  | 13 => ("LoanVansModel", "grace", "I", false)
  | 14 => ("LoanVansModel", "renews", "I", false)
  | 15 => ("LoanVansModel", "now", "[I", true)
  | 16 => ("LoanVansModel", "kept", "[I", true)
  | 17 => ("LoanVansModel", "past", "[I", true)
  | 18 => ("LoanVansModel", "pasts", "I", false)
  | 19 => ("LoanVansModel", "missing", "I", false)
  | 20 => ("LoanVansModel", "tape", "[B", true)
  | 21 => ("LoanVansModel", "taped", "I", false)
  | 22 => ("LoanVansModel", "size", "I", false)
  | 23 => ("LoanVansModel", "next", "I", false)
  | 24 => ("LoanVansModel", "from", "I", false)
  | 25 => ("LoanVansModel", "token", "I", false)
  | 26 => ("LoanVansModel", "value", "I", false)
  | 27 => ("LoanVansModel", "fault", "I", false)
  | 28 => ("LoanVansModel", "faultPlace", "I", false)
  | 29 => ("LoanVansModel", "bad", "Z", false)
  | 30 => ("LoanVansModel", "newBranch", "[I", true)
  | 31 => ("LoanVansModel", "newShut", "[I", true)
  | 32 => ("LoanVansModel", "newBranches", "I", false)
  | 33 => ("LoanVansModel", "newTitle", "[I", true)
  | 34 => ("LoanVansModel", "newPeriod", "[I", true)
  | 35 => ("LoanVansModel", "newTitles", "I", false)
  | 36 => ("LoanVansModel", "newOf", "[I", true)
  | 37 => ("LoanVansModel", "newHome", "[I", true)
  | 38 => ("LoanVansModel", "newItems", "I", false)
  | 39 => ("LoanVansModel", "newRoom", "[I", true)
  | 40 => ("LoanVansModel", "newMany", "[I", true)
  | 41 => ("LoanVansModel", "newStops", "[I", true)
  | 42 => ("LoanVansModel", "newVans", "I", false)
  | 43 => ("LoanVansModel", "newHoldBranch", "[I", true)
  | 44 => ("LoanVansModel", "newHoldTitle", "[I", true)
  | 45 => ("LoanVansModel", "newHolds", "I", false)
  | 46 => ("LoanVansModel", "newGrace", "I", false)
  | 47 => ("LoanVansModel", "newRenews", "I", false)
  | 48 => ("LoanVansModel", "hasGrace", "Z", false)
  | 49 => ("LoanVansModel", "hasRenews", "Z", false)
  | 50 => ("LoanVansModel", "newLines", "I", false)
  | 51 => ("LoanVansModel", "early", "[I", true)
  | 52 => ("LoanVansModel", "leads", "[Z", true)
  | 53 => ("LoanVansModel", "legVan", "I", false)
  | 54 => ("LoanVansModel", "legDay", "I", false)
  | 55 => ("LoanVansModel", "legTo", "I", false)
  | _ => ("LoanVansModel", "legEnds", "I", false)
def tyX7 : Nat → FieldType := fun k => match k with
  | 0 => .int
  | 1 => .int
  | 2 => .array .int
  | 3 => .int
  | 4 => .array .int
  | 5 => .int
  | 6 => .array .int
  | 7 => .array .int
  | 8 => .int
  | 9 => .array .int
  | 10 => .array .int
  | 11 => .array .int
  | 12 => .int
  | 13 => .int
  | 14 => .int
  | 15 => .array .int
  | 16 => .array .int
  | 17 => .array .int
  | 18 => .int
  | 19 => .int
  | 20 => .array .byte
  | 21 => .int
  | 22 => .int
  | 23 => .int
  | 24 => .int
  | 25 => .int
  | 26 => .int
  | 27 => .int
  | 28 => .int
  | 29 => .boolean
  | 30 => .array .int
  | 31 => .array .int
  | 32 => .int
  | 33 => .array .int
  | 34 => .array .int
  | 35 => .int
  | 36 => .array .int
  | 37 => .array .int
  | 38 => .int
  | 39 => .array .int
  | 40 => .array .int
  | 41 => .array .int
  | 42 => .int
  | 43 => .array .int
  | 44 => .array .int
  | 45 => .int
  | 46 => .int
  | 47 => .int
  | 48 => .boolean
  | 49 => .boolean
  | 50 => .int
  | 51 => .array .int
  | 52 => .array .boolean
  | 53 => .int
  | 54 => .int
  | 55 => .int
  | _ => .int
abbrev wsX70 : List Cond := u_ws RX7 TX7 57
theorem nmX7 : ∀ a, a < 57 → ∀ b, b < 57 → a ≠ b → (TX7 a).2.1 ≠ (TX7 b).2.1 := by decide +kernel
theorem tyX7_ok : ∀ k, k < 57 → parseFieldDescriptor (TX7 k).2.2.1 = some (tyX7 k) := by decide +kernel
abbrev cX7_init : ByteArray := prog_9_method_1_code
def yX7_init : MethodName := ⟨RX7, "<init>", "()V"⟩
abbrev cX7_thrown : ByteArray := prog_9_method_2_code
def yX7_thrown : MethodName := ⟨RX7, "thrown", "()I"⟩
abbrev cX7_isIn : ByteArray := prog_9_method_3_code
def yX7_isIn : MethodName := ⟨RX7, "isIn", "(III)Z"⟩
abbrev cX7_ofHold : ByteArray := prog_9_method_4_code
def yX7_ofHold : MethodName := ⟨RX7, "ofHold", "(II)I"⟩
abbrev cX7_setHold : ByteArray := prog_9_method_5_code
def yX7_setHold : MethodName := ⟨RX7, "setHold", "(III)V"⟩
abbrev cX7_ofItem : ByteArray := prog_9_method_6_code
def yX7_ofItem : MethodName := ⟨RX7, "ofItem", "(II)I"⟩
abbrev cX7_setItem : ByteArray := prog_9_method_7_code
def yX7_setItem : MethodName := ⟨RX7, "setItem", "(III)V"⟩
abbrev cX7_puts : ByteArray := prog_9_method_8_code
def yX7_puts : MethodName := ⟨RX7, "puts", "(III)V"⟩
abbrev cX7_addsHold : ByteArray := prog_9_method_9_code
def yX7_addsHold : MethodName := ⟨RX7, "addsHold", "(II)V"⟩
abbrev cX7_four : ByteArray := prog_9_method_10_code
def yX7_four : MethodName := ⟨RX7, "four", "(I)V"⟩
abbrev cX7_feed : ByteArray := prog_9_method_11_code
def yX7_feed : MethodName := ⟨RX7, "feed", "(IIIII)I"⟩
abbrev cX7_see : ByteArray := prog_9_method_12_code
def yX7_see : MethodName := ⟨RX7, "see", "()I"⟩
abbrev cX7_advance : ByteArray := prog_9_method_13_code
def yX7_advance : MethodName := ⟨RX7, "advance", "()V"⟩
abbrev cX7_must : ByteArray := prog_9_method_14_code
def yX7_must : MethodName := ⟨RX7, "must", "(ZI)V"⟩
abbrev cX7_isWord : ByteArray := prog_9_method_15_code
def yX7_isWord : MethodName := ⟨RX7, "isWord", "(I)Z"⟩
abbrev cX7_isName : ByteArray := prog_9_method_16_code
def yX7_isName : MethodName := ⟨RX7, "isName", "()Z"⟩
abbrev cX7_numberHere : ByteArray := prog_9_method_17_code
def yX7_numberHere : MethodName := ⟨RX7, "numberHere", "(II)I"⟩
abbrev cX7_at : ByteArray := prog_9_method_18_code
def yX7_at : MethodName := ⟨RX7, "at", "([III)I"⟩
abbrev cX7_opens : ByteArray := prog_9_method_19_code
def yX7_opens : MethodName := ⟨RX7, "opens", "(ZI)V"⟩
abbrev cX7_freshHere : ByteArray := prog_9_method_20_code
def yX7_freshHere : MethodName := ⟨RX7, "freshHere", "([II)I"⟩
abbrev cX7_toldHere : ByteArray := prog_9_method_21_code
def yX7_toldHere : MethodName := ⟨RX7, "toldHere", "([II)I"⟩
abbrev cX7_branchHere : ByteArray := prog_9_method_22_code
def yX7_branchHere : MethodName := ⟨RX7, "branchHere", "()I"⟩
abbrev cX7_titleHere : ByteArray := prog_9_method_23_code
def yX7_titleHere : MethodName := ⟨RX7, "titleHere", "()I"⟩
abbrev cX7_readsBranch : ByteArray := prog_9_method_24_code
def yX7_readsBranch : MethodName := ⟨RX7, "readsBranch", "()V"⟩
abbrev cX7_readsTitle : ByteArray := prog_9_method_25_code
def yX7_readsTitle : MethodName := ⟨RX7, "readsTitle", "()V"⟩
abbrev cX7_readsItem : ByteArray := prog_9_method_26_code
def yX7_readsItem : MethodName := ⟨RX7, "readsItem", "()V"⟩
abbrev cX7_readsVan : ByteArray := prog_9_method_27_code
def yX7_readsVan : MethodName := ⟨RX7, "readsVan", "()V"⟩
abbrev cX7_readsHold : ByteArray := prog_9_method_28_code
def yX7_readsHold : MethodName := ⟨RX7, "readsHold", "()V"⟩
abbrev cX7_readsLine : ByteArray := prog_9_method_29_code
def yX7_readsLine : MethodName := ⟨RX7, "readsLine", "()V"⟩
abbrev cX7_begins : ByteArray := prog_9_method_30_code
def yX7_begins : MethodName := ⟨RX7, "begins", "()V"⟩
abbrev cX7_text : ByteArray := prog_9_method_31_code
def yX7_text : MethodName := ⟨RX7, "text", "(I)I"⟩
abbrev cX7_copies : ByteArray := prog_9_method_32_code
def yX7_copies : MethodName := ⟨RX7, "copies", "([I[II)V"⟩
abbrev cX7_becomes : ByteArray := prog_9_method_33_code
def yX7_becomes : MethodName := ⟨RX7, "becomes", "()V"⟩
abbrev cX7_freesItem : ByteArray := prog_9_method_34_code
def yX7_freesItem : MethodName := ⟨RX7, "freesItem", "(I)V"⟩
abbrev cX7_fault : ByteArray := prog_9_method_35_code
def yX7_fault : MethodName := ⟨RX7, "fault", "(I)I"⟩
abbrev cX7_isBranch : ByteArray := prog_9_method_36_code
def yX7_isBranch : MethodName := ⟨RX7, "isBranch", "(I)Z"⟩
abbrev cX7_isTitle : ByteArray := prog_9_method_37_code
def yX7_isTitle : MethodName := ⟨RX7, "isTitle", "(I)Z"⟩
abbrev cX7_isItem : ByteArray := prog_9_method_38_code
def yX7_isItem : MethodName := ⟨RX7, "isItem", "(I)Z"⟩
abbrev cX7_isHold : ByteArray := prog_9_method_39_code
def yX7_isHold : MethodName := ⟨RX7, "isHold", "(I)Z"⟩
abbrev cX7_isVan : ByteArray := prog_9_method_40_code
def yX7_isVan : MethodName := ⟨RX7, "isVan", "(I)Z"⟩
abbrev cX7_isShut : ByteArray := prog_9_method_41_code
def yX7_isShut : MethodName := ⟨RX7, "isShut", "(II)Z"⟩
abbrev cX7_openFrom : ByteArray := prog_9_method_42_code
def yX7_openFrom : MethodName := ⟨RX7, "openFrom", "(II)I"⟩
abbrev cX7_stopOf : ByteArray := prog_9_method_43_code
def yX7_stopOf : MethodName := ⟨RX7, "stopOf", "(II)I"⟩
abbrev cX7_isFree : ByteArray := prog_9_method_44_code
def yX7_isFree : MethodName := ⟨RX7, "isFree", "(I)Z"⟩
abbrev cX7_laysEarly : ByteArray := prog_9_method_45_code
def yX7_laysEarly : MethodName := ⟨RX7, "laysEarly", "(II)V"⟩
abbrev cX7_arrivalOf : ByteArray := prog_9_method_46_code
def yX7_arrivalOf : MethodName := ⟨RX7, "arrivalOf", "(III)I"⟩
abbrev cX7_laysLeads : ByteArray := prog_9_method_47_code
def yX7_laysLeads : MethodName := ⟨RX7, "laysLeads", "(III)V"⟩
abbrev cX7_laysLeg : ByteArray := prog_9_method_48_code
def yX7_laysLeg : MethodName := ⟨RX7, "laysLeg", "(III)Z"⟩
abbrev cX7_isWay : ByteArray := prog_9_method_49_code
def yX7_isWay : MethodName := ⟨RX7, "isWay", "(III)Z"⟩
abbrev cX7_arrival : ByteArray := prog_9_method_50_code
def yX7_arrival : MethodName := ⟨RX7, "arrival", "(III)I"⟩
abbrev cX7_leg : ByteArray := prog_9_method_51_code
def yX7_leg : MethodName := ⟨RX7, "leg", "(IIII)I"⟩
abbrev cX7_legs : ByteArray := prog_9_method_52_code
def yX7_legs : MethodName := ⟨RX7, "legs", "(III)I"⟩
abbrev cX7_path : ByteArray := prog_9_method_53_code
def yX7_path : MethodName := ⟨RX7, "path", "(IIIII)I"⟩
abbrev cX7_thereAndBack : ByteArray := prog_9_method_54_code
def yX7_thereAndBack : MethodName := ⟨RX7, "thereAndBack", "(III)I"⟩
abbrev cX7_bestDay : ByteArray := prog_9_method_55_code
def yX7_bestDay : MethodName := ⟨RX7, "bestDay", "(III)I"⟩
abbrev cX7_reach : ByteArray := prog_9_method_56_code
def yX7_reach : MethodName := ⟨RX7, "reach", "(III)I"⟩
abbrev cX7_center : ByteArray := prog_9_method_57_code
def yX7_center : MethodName := ⟨RX7, "center", "(I)I"⟩
abbrev cX7_comesBack : ByteArray := prog_9_method_58_code
def yX7_comesBack : MethodName := ⟨RX7, "comesBack", "(I)V"⟩
abbrev cX7_givenTo : ByteArray := prog_9_method_59_code
def yX7_givenTo : MethodName := ⟨RX7, "givenTo", "(II)I"⟩
abbrev cX7_gives : ByteArray := prog_9_method_60_code
def yX7_gives : MethodName := ⟨RX7, "gives", "(I)V"⟩
abbrev cX7_lends : ByteArray := prog_9_method_61_code
def yX7_lends : MethodName := ⟨RX7, "lends", "(I)V"⟩
abbrev cX7_inside : ByteArray := prog_9_method_62_code
def yX7_inside : MethodName := ⟨RX7, "inside", "(I)I"⟩
abbrev cX7_goal : ByteArray := prog_9_method_63_code
def yX7_goal : MethodName := ⟨RX7, "goal", "(I)I"⟩
abbrev cX7_boards : ByteArray := prog_9_method_64_code
def yX7_boards : MethodName := ⟨RX7, "boards", "(II)V"⟩
abbrev cX7_isAt : ByteArray := prog_9_method_65_code
def yX7_isAt : MethodName := ⟨RX7, "isAt", "(II)Z"⟩
abbrev cX7_drives : ByteArray := prog_9_method_66_code
def yX7_drives : MethodName := ⟨RX7, "drives", "(I)V"⟩
abbrev cX7_passes : ByteArray := prog_9_method_67_code
def yX7_passes : MethodName := ⟨RX7, "passes", "()V"⟩
abbrev cX7_openOf : ByteArray := prog_9_method_68_code
def yX7_openOf : MethodName := ⟨RX7, "openOf", "(II)I"⟩
abbrev cX7_branch : ByteArray := prog_9_method_69_code
def yX7_branch : MethodName := ⟨RX7, "branch", "(II)I"⟩
abbrev cX7_title : ByteArray := prog_9_method_70_code
def yX7_title : MethodName := ⟨RX7, "title", "(II)I"⟩
abbrev cX7_item : ByteArray := prog_9_method_71_code
def yX7_item : MethodName := ⟨RX7, "item", "(II)I"⟩
abbrev cX7_holdOf : ByteArray := prog_9_method_72_code
def yX7_holdOf : MethodName := ⟨RX7, "holdOf", "(II)I"⟩
abbrev cX7_van : ByteArray := prog_9_method_73_code
def yX7_van : MethodName := ⟨RX7, "van", "(II)I"⟩
abbrev cX7_stop : ByteArray := prog_9_method_74_code
def yX7_stop : MethodName := ⟨RX7, "stop", "(II)I"⟩
abbrev cX7_keeps : ByteArray := prog_9_method_75_code
def yX7_keeps : MethodName := ⟨RX7, "keeps", "()V"⟩
abbrev cX7_hold : ByteArray := prog_9_method_76_code
def yX7_hold : MethodName := ⟨RX7, "hold", "(II)I"⟩
abbrev cX7_mayCancel : ByteArray := prog_9_method_77_code
def yX7_mayCancel : MethodName := ⟨RX7, "mayCancel", "(I)Z"⟩
abbrev cX7_cancels : ByteArray := prog_9_method_78_code
def yX7_cancels : MethodName := ⟨RX7, "cancels", "(I)V"⟩
abbrev cX7_cancel : ByteArray := prog_9_method_79_code
def yX7_cancel : MethodName := ⟨RX7, "cancel", "(I)Z"⟩
abbrev cX7_recall : ByteArray := prog_9_method_80_code
def yX7_recall : MethodName := ⟨RX7, "recall", "(I)I"⟩
abbrev cX7_renew : ByteArray := prog_9_method_81_code
def yX7_renew : MethodName := ⟨RX7, "renew", "(I)I"⟩
abbrev cX7_days : ByteArray := prog_9_method_82_code
def yX7_days : MethodName := ⟨RX7, "days", "(I)I"⟩
abbrev cX7_undo : ByteArray := prog_9_method_83_code
def yX7_undo : MethodName := ⟨RX7, "undo", "()I"⟩
abbrev cX7_balance : ByteArray := prog_9_method_84_code
def yX7_balance : MethodName := ⟨RX7, "balance", "(II)I"⟩
abbrev cX7_owed : ByteArray := prog_9_method_85_code
def yX7_owed : MethodName := ⟨RX7, "owed", "(II)I"⟩
abbrev cX7_loans : ByteArray := prog_9_method_86_code
def yX7_loans : MethodName := ⟨RX7, "loans", "(II)I"⟩
abbrev cX7_queue : ByteArray := prog_9_method_87_code
def yX7_queue : MethodName := ⟨RX7, "queue", "(II)I"⟩
abbrev cX7_inVan : ByteArray := prog_9_method_88_code
def yX7_inVan : MethodName := ⟨RX7, "inVan", "(II)I"⟩
abbrev cX7_waits : ByteArray := prog_9_method_89_code
def yX7_waits : MethodName := ⟨RX7, "waits", "(II)I"⟩
abbrev cX7_given : ByteArray := prog_9_method_90_code
def yX7_given : MethodName := ⟨RX7, "given", "(II)I"⟩
abbrev cX7_tries : ByteArray := prog_9_method_91_code
def yX7_tries : MethodName := ⟨RX7, "tries", "()V"⟩
abbrev cX7_returns : ByteArray := prog_9_method_92_code
def yX7_returns : MethodName := ⟨RX7, "returns", "()V"⟩
abbrev cX7_lentAhead : ByteArray := prog_9_method_93_code
def yX7_lentAhead : MethodName := ⟨RX7, "lentAhead", "(I)I"⟩
abbrev cX7_lentOn : ByteArray := prog_9_method_94_code
def yX7_lentOn : MethodName := ⟨RX7, "lentOn", "(I)I"⟩
abbrev cX7_ifHold : ByteArray := prog_9_method_95_code
def yX7_ifHold : MethodName := ⟨RX7, "ifHold", "(II)I"⟩
abbrev cX7_ifCancelled : ByteArray := prog_9_method_96_code
def yX7_ifCancelled : MethodName := ⟨RX7, "ifCancelled", "(II)I"⟩
abbrev cX7_ifNoVan : ByteArray := prog_9_method_97_code
def yX7_ifNoVan : MethodName := ⟨RX7, "ifNoVan", "(II)I"⟩
abbrev cX7_ifStop : ByteArray := prog_9_method_98_code
def yX7_ifStop : MethodName := ⟨RX7, "ifStop", "(IIII)I"⟩
abbrev cX7_ifRoom : ByteArray := prog_9_method_99_code
def yX7_ifRoom : MethodName := ⟨RX7, "ifRoom", "(III)I"⟩
abbrev cX7_ifClosed : ByteArray := prog_9_method_100_code
def yX7_ifClosed : MethodName := ⟨RX7, "ifClosed", "(III)I"⟩
abbrev cX7_ifPeriod : ByteArray := prog_9_method_101_code
def yX7_ifPeriod : MethodName := ⟨RX7, "ifPeriod", "(III)I"⟩
abbrev cX7_visits : ByteArray := prog_9_method_102_code
def yX7_visits : MethodName := ⟨RX7, "visits", "(II)I"⟩
abbrev cX7_astray : ByteArray := prog_9_method_103_code
def yX7_astray : MethodName := ⟨RX7, "astray", "(I)I"⟩
abbrev cX7_wasLent : ByteArray := prog_9_method_104_code
def yX7_wasLent : MethodName := ⟨RX7, "wasLent", "(I)Z"⟩
abbrev cX7_waited : ByteArray := prog_9_method_105_code
def yX7_waited : MethodName := ⟨RX7, "waited", "(I)I"⟩
abbrev cX7_meanWait : ByteArray := prog_9_method_106_code
def yX7_meanWait : MethodName := ⟨RX7, "meanWait", "()I"⟩
abbrev cX7_isSooner : ByteArray := prog_9_method_107_code
def yX7_isSooner : MethodName := ⟨RX7, "isSooner", "(II)Z"⟩
abbrev cX7_log : ByteArray := prog_9_method_108_code
def yX7_log : MethodName := ⟨RX7, "log", "(II)I"⟩
abbrev cX7_allOwed : ByteArray := prog_9_method_109_code
def yX7_allOwed : MethodName := ⟨RX7, "allOwed", "(I)I"⟩
abbrev cX7_ranked : ByteArray := prog_9_method_110_code
def yX7_ranked : MethodName := ⟨RX7, "ranked", "(I)I"⟩
abbrev cX7_busiest : ByteArray := prog_9_method_111_code
def yX7_busiest : MethodName := ⟨RX7, "busiest", "(I)I"⟩
abbrev cX7_where : ByteArray := prog_9_method_112_code
def yX7_where : MethodName := ⟨RX7, "where", "(II)I"⟩
abbrev cX7_served : ByteArray := prog_9_method_113_code
def yX7_served : MethodName := ⟨RX7, "served", "(I)I"⟩
abbrev cX7_servedIn : ByteArray := prog_9_method_114_code
def yX7_servedIn : MethodName := ⟨RX7, "servedIn", "(I)I"⟩
abbrev cX7_meet : ByteArray := prog_9_method_115_code
def yX7_meet : MethodName := ⟨RX7, "meet", "(II)I"⟩
abbrev cX7_every : ByteArray := prog_9_method_116_code
def yX7_every : MethodName := ⟨RX7, "every", "(II)I"⟩
abbrev cX7_farthest : ByteArray := prog_9_method_117_code
def yX7_farthest : MethodName := ⟨RX7, "farthest", "(II)I"⟩
abbrev cX7_longest : ByteArray := prog_9_method_118_code
def yX7_longest : MethodName := ⟨RX7, "longest", "(I)I"⟩
abbrev cX7_lender : ByteArray := prog_9_method_119_code
def yX7_lender : MethodName := ⟨RX7, "lender", "(I)I"⟩
abbrev cX7_nextDue : ByteArray := prog_9_method_120_code
def yX7_nextDue : MethodName := ⟨RX7, "nextDue", "(I)I"⟩
abbrev cX7_inState : ByteArray := prog_9_method_121_code
def yX7_inState : MethodName := ⟨RX7, "inState", "(I)I"⟩
abbrev cX7_count : ByteArray := prog_9_method_122_code
def yX7_count : MethodName := ⟨RX7, "count", "(I)I"⟩
def RJx145de : String := "java/io/Serializable"
def TJx145de : u_T := fun k => match k with
  | _ => ("", "", "", false)
def tyJx145de : Nat → FieldType := fun k => match k with
  | _ => .int
abbrev wsJx145de0 : List Cond := u_ws RJx145de TJx145de 0
theorem nmJx145de : ∀ a, a < 0 → ∀ b, b < 0 → a ≠ b → (TJx145de a).2.1 ≠ (TJx145de b).2.1 := by decide +kernel
theorem tyJx145de_ok : ∀ k, k < 0 → parseFieldDescriptor (TJx145de k).2.2.1 = some (tyJx145de k) := by decide +kernel
def RJx9f9b0 : String := "java/lang/CharSequence"
def TJx9f9b0 : u_T := fun k => match k with
  | _ => ("", "", "", false)
def tyJx9f9b0 : Nat → FieldType := fun k => match k with
  | _ => .int
abbrev wsJx9f9b00 : List Cond := u_ws RJx9f9b0 TJx9f9b0 0
theorem nmJx9f9b0 : ∀ a, a < 0 → ∀ b, b < 0 → a ≠ b → (TJx9f9b0 a).2.1 ≠ (TJx9f9b0 b).2.1 := by decide +kernel
theorem tyJx9f9b0_ok : ∀ k, k < 0 → parseFieldDescriptor (TJx9f9b0 k).2.2.1 = some (tyJx9f9b0 k) := by decide +kernel
def RJxb160c : String := "java/lang/Comparable"
def TJxb160c : u_T := fun k => match k with
  | _ => ("", "", "", false)
def tyJxb160c : Nat → FieldType := fun k => match k with
  | _ => .int
abbrev wsJxb160c0 : List Cond := u_ws RJxb160c TJxb160c 0
theorem nmJxb160c : ∀ a, a < 0 → ∀ b, b < 0 → a ≠ b → (TJxb160c a).2.1 ≠ (TJxb160c b).2.1 := by decide +kernel
theorem tyJxb160c_ok : ∀ k, k < 0 → parseFieldDescriptor (TJxb160c k).2.2.1 = some (tyJxb160c k) := by decide +kernel
def RJ9 : String := "java/lang/Math"
def TJ9 : u_T := fun k => match k with
  | _ => ("", "", "", false)
def tyJ9 : Nat → FieldType := fun k => match k with
  | _ => .int
abbrev wsJ90 : List Cond := u_ws RJ9 TJ9 0
theorem nmJ9 : ∀ a, a < 0 → ∀ b, b < 0 → a ≠ b → (TJ9 a).2.1 ≠ (TJ9 b).2.1 := by decide +kernel
theorem tyJ9_ok : ∀ k, k < 0 → parseFieldDescriptor (TJ9 k).2.2.1 = some (tyJ9 k) := by decide +kernel
abbrev cJ9_floorDiv_7cf53 : ByteArray := prog_15_method_47_code
def yJ9_floorDiv_7cf53 : MethodName := ⟨RJ9, "floorDiv", "(II)I"⟩
abbrev cJ9_max_7cf53 : ByteArray := prog_15_method_65_code
def yJ9_max_7cf53 : MethodName := ⟨RJ9, "max", "(II)I"⟩
abbrev cJ9_min_7cf53 : ByteArray := prog_15_method_69_code
def yJ9_min_7cf53 : MethodName := ⟨RJ9, "min", "(II)I"⟩
def RJ0 : String := "java/lang/String"
def TJ0 : u_T := fun k => match k with
  | _ => ("", "", "", false)
def tyJ0 : Nat → FieldType := fun k => match k with
  | _ => .int
abbrev wsJ00 : List Cond := u_ws RJ0 TJ0 0
theorem nmJ0 : ∀ a, a < 0 → ∀ b, b < 0 → a ≠ b → (TJ0 a).2.1 ≠ (TJ0 b).2.1 := by decide +kernel
theorem tyJ0_ok : ∀ k, k < 0 → parseFieldDescriptor (TJ0 k).2.2.1 = some (tyJ0 k) := by decide +kernel
abbrev cJ0_length_8abf5 : ByteArray := prog_17_method_54_code
def yJ0_length_8abf5 : MethodName := ⟨RJ0, "length", "()I"⟩
abbrev cJ0_charAt_5068e : ByteArray := prog_17_method_56_code
def yJ0_charAt_5068e : MethodName := ⟨RJ0, "charAt", "(I)C"⟩
abbrev cJ0_coder_7d493 : ByteArray := prog_17_method_152_code
def yJ0_coder_7d493 : MethodName := ⟨RJ0, "coder", "()B"⟩
abbrev cJ0_isLatin1_aae02 : ByteArray := prog_17_method_154_code
def yJ0_isLatin1_aae02 : MethodName := ⟨RJ0, "isLatin1", "()Z"⟩
abbrev cJ0_checkIndex_df160 : ByteArray := prog_17_method_155_code
def yJ0_checkIndex_df160 : MethodName := ⟨RJ0, "checkIndex", "(II)V"⟩
def RJ1 : String := "java/lang/StringLatin1"
def TJ1 : u_T := fun k => match k with
  | _ => ("", "", "", false)
def tyJ1 : Nat → FieldType := fun k => match k with
  | _ => .int
abbrev wsJ10 : List Cond := u_ws RJ1 TJ1 0
theorem nmJ1 : ∀ a, a < 0 → ∀ b, b < 0 → a ≠ b → (TJ1 a).2.1 ≠ (TJ1 b).2.1 := by decide +kernel
theorem tyJ1_ok : ∀ k, k < 0 → parseFieldDescriptor (TJ1 k).2.2.1 = some (tyJ1 k) := by decide +kernel
abbrev cJ1_charAt_3b067 : ByteArray := prog_18_method_2_code
def yJ1_charAt_3b067 : MethodName := ⟨RJ1, "charAt", "([BI)C"⟩
def RJ2 : String := "java/lang/StringUTF16"
def TJ2 : u_T := fun k => match k with
  | _ => ("", "", "", false)
def tyJ2 : Nat → FieldType := fun k => match k with
  | _ => .int
abbrev wsJ20 : List Cond := u_ws RJ2 TJ2 0
theorem nmJ2 : ∀ a, a < 0 → ∀ b, b < 0 → a ≠ b → (TJ2 a).2.1 ≠ (TJ2 b).2.1 := by decide +kernel
theorem tyJ2_ok : ∀ k, k < 0 → parseFieldDescriptor (TJ2 k).2.2.1 = some (tyJ2 k) := by decide +kernel
abbrev cJ2_getChar_3b067 : ByteArray := prog_19_method_5_code
def yJ2_getChar_3b067 : MethodName := ⟨RJ2, "getChar", "([BI)C"⟩
abbrev cJ2_length_9d52b : ByteArray := prog_19_method_6_code
def yJ2_length_9d52b : MethodName := ⟨RJ2, "length", "([B)I"⟩
abbrev cJ2_charAt_3b067 : ByteArray := prog_19_method_83_code
def yJ2_charAt_3b067 : MethodName := ⟨RJ2, "charAt", "([BI)C"⟩
abbrev cJ2_checkIndex_2214a : ByteArray := prog_19_method_91_code
def yJ2_checkIndex_2214a : MethodName := ⟨RJ2, "checkIndex", "(I[B)V"⟩
def RJ10 : String := "java/lang/System"
def TJ10 : u_T := fun k => match k with
  | _ => ("", "", "", false)
def tyJ10 : Nat → FieldType := fun k => match k with
  | _ => .int
abbrev wsJ100 : List Cond := u_ws RJ10 TJ10 0
theorem nmJ10 : ∀ a, a < 0 → ∀ b, b < 0 → a ≠ b → (TJ10 a).2.1 ≠ (TJ10 b).2.1 := by decide +kernel
theorem tyJ10_ok : ∀ k, k < 0 → parseFieldDescriptor (TJ10 k).2.2.1 = some (tyJ10 k) := by decide +kernel
def RJxfd54e : String := "java/lang/constant/Constable"
def TJxfd54e : u_T := fun k => match k with
  | _ => ("", "", "", false)
def tyJxfd54e : Nat → FieldType := fun k => match k with
  | _ => .int
abbrev wsJxfd54e0 : List Cond := u_ws RJxfd54e TJxfd54e 0
theorem nmJxfd54e : ∀ a, a < 0 → ∀ b, b < 0 → a ≠ b → (TJxfd54e a).2.1 ≠ (TJxfd54e b).2.1 := by decide +kernel
theorem tyJxfd54e_ok : ∀ k, k < 0 → parseFieldDescriptor (TJxfd54e k).2.2.1 = some (tyJxfd54e k) := by decide +kernel
def RJx3cf43 : String := "java/lang/constant/ConstantDesc"
def TJx3cf43 : u_T := fun k => match k with
  | _ => ("", "", "", false)
def tyJx3cf43 : Nat → FieldType := fun k => match k with
  | _ => .int
abbrev wsJx3cf430 : List Cond := u_ws RJx3cf43 TJx3cf43 0
theorem nmJx3cf43 : ∀ a, a < 0 → ∀ b, b < 0 → a ≠ b → (TJx3cf43 a).2.1 ≠ (TJx3cf43 b).2.1 := by decide +kernel
theorem tyJx3cf43_ok : ∀ k, k < 0 → parseFieldDescriptor (TJx3cf43 k).2.2.1 = some (tyJx3cf43 k) := by decide +kernel
def RJ3 : String := "jdk/internal/util/Preconditions"
def TJ3 : u_T := fun k => match k with
  | _ => ("", "", "", false)
def tyJ3 : Nat → FieldType := fun k => match k with
  | _ => .int
abbrev wsJ30 : List Cond := u_ws RJ3 TJ3 0
theorem nmJ3 : ∀ a, a < 0 → ∀ b, b < 0 → a ≠ b → (TJ3 a).2.1 ≠ (TJ3 b).2.1 := by decide +kernel
theorem tyJ3_ok : ∀ k, k < 0 → parseFieldDescriptor (TJ3 k).2.2.1 = some (tyJ3 k) := by decide +kernel
abbrev cJ3_checkIndex_8e157 : ByteArray := prog_25_method_11_code
def yJ3_checkIndex_8e157 : MethodName := ⟨RJ3, "checkIndex", "(IILjava/util/function/BiFunction;)I"⟩
def RL : String := "LoanVansLaw"
abbrev cL_branch : ByteArray := method_3_code
def yL_branch : MethodName := ⟨RL, "branch", "(LLoanVans;II[J)I"⟩
abbrev cL_title : ByteArray := method_4_code
def yL_title : MethodName := ⟨RL, "title", "(LLoanVans;II[J)I"⟩
abbrev cL_item : ByteArray := method_5_code
def yL_item : MethodName := ⟨RL, "item", "(LLoanVans;II[J)I"⟩
abbrev cL_holdOf : ByteArray := method_6_code
def yL_holdOf : MethodName := ⟨RL, "holdOf", "(LLoanVans;II[J)I"⟩
abbrev cL_law : ByteArray := code
def yL_law : MethodName := ⟨RL, "law", "([I)Z"⟩
abbrev vwCl : List vw_C := [(RX0, TX0, 3), (RX1, TX1, 17), (RX2, TX2, 15), (RX3, TX3, 19), (RX4, TX4, 8), (RX5, TX5, 5), (RX6, TX6, 7), (RX7, TX7, 57)]
end
section
/-! ===== the tables of this claim: methods, fields, links ===== -/
def tbC : Nat → List Cond := fun c => match c with
  | 0 => k2_sels lw_privs
  | 1 => tables_1_1
  | 2 => tables_1_2
  | 3 => tables_1_3
  | 4 => tables_1_4
  | 5 => tables_1_5
  | 6 => tables_1_6
  | 7 => tables_1_7
  | _ => tables_1_8
theorem tbC_mem (c : Nat) {w : Cond} (h : w ∈ tbC c) : w ∈ lw_tbl := by
  unfold lw_tbl tables_1
  match c, h with
  | 0, h => simp only [List.mem_append]; simp only [tbC] at h; simp [h]
  | 1, h => simp only [List.mem_append]; simp only [tbC] at h; simp [h]
  | 2, h => simp only [List.mem_append]; simp only [tbC] at h; simp [h]
  | 3, h => simp only [List.mem_append]; simp only [tbC] at h; simp [h]
  | 4, h => simp only [List.mem_append]; simp only [tbC] at h; simp [h]
  | 5, h => simp only [List.mem_append]; simp only [tbC] at h; simp [h]
  | 6, h => simp only [List.mem_append]; simp only [tbC] at h; simp [h]
  | 7, h => simp only [List.mem_append]; simp only [tbC] at h; simp [h]
  | k + 8, h => simp only [List.mem_append]; simp only [tbC] at h; simp [h]
def rN : Nat → String := fun k => match k with
  | 0 => RX0
  | 1 => RX1
  | 2 => RX2
  | 3 => RX3
  | 4 => RX4
  | 5 => RX5
  | 6 => RX6
  | 7 => RX7
  | 8 => RJ9
  | _ => RL
def fT : Nat → u_T := fun k => match k with
  | 0 => TX0
  | 1 => TX1
  | 2 => TX2
  | 3 => TX3
  | 4 => TX4
  | 5 => TX5
  | 6 => TX6
  | _ => TX7
def fN : Nat → Nat := fun k => match k with
  | 0 => 3
  | 1 => 17
  | 2 => 15
  | 3 => 19
  | 4 => 8
  | 5 => 5
  | 6 => 7
  | 7 => 57
  | _ => 0
def fY : Nat → Nat → FieldType := fun k => match k with
  | 0 => tyX0
  | 1 => tyX1
  | 2 => tyX2
  | 3 => tyX3
  | 4 => tyX4
  | 5 => tyX5
  | 6 => tyX6
  | _ => tyX7
/-- a field of references -/
def fRef (ci k : Nat) : Bool := match fY ci k with | .int => false | .boolean => false | _ => true
abbrev mRow : Type := MethodName × ByteArray × Nat × Option FieldType × Nat × Nat × Nat × Bool
def mTab : List mRow := [
  (yX0_init, cX0_init, 1, none, 0, 0, 1, false),
  (yX0_clear, cX0_clear, 1, none, 0, 0, 0, false),
  (yX0_keep, cX0_keep, 3, none, 0, 1, 2, false),
  (yX0_restore, cX0_restore, 4, none, 0, 1, 2, false),
  (yX1_init, cX1_init, 1, none, 1, 0, 1, false),
  (yX1_empty, cX1_empty, 1, none, 1, 0, 0, false),
  (yX1_copyFrom, cX1_copyFrom, 3, none, 1, 1, 1, false),
  (yX1_branchOn, cX1_branchOn, 4, (some .int), 1, 2, 0, false),
  (yX1_isShut, cX1_isShut, 3, (some .boolean), 1, 2, 0, false),
  (yX1_openFrom, cX1_openFrom, 3, (some .int), 1, 2, 1, false),
  (yX1_countAtHome, cX1_countAtHome, 4, (some .int), 1, 1, 0, false),
  (yX1_countOfTitle, cX1_countOfTitle, 4, (some .int), 1, 1, 0, false),
  (yX2_init, cX2_init, 1, none, 2, 0, 6, false),
  (yX2_put, cX2_put, 3, none, 2, 1, 0, false),
  (yX2_readInto, cX2_readInto, 4, (some .boolean), 2, 2, 5, false),
  (yX2_begin, cX2_begin, 3, none, 2, 2, 3, false),
  (yX2_endLine, cX2_endLine, 1, none, 2, 0, 3, false),
  (yX2_readBranch, cX2_readBranch, 3, none, 2, 0, 4, false),
  (yX2_readTitle, cX2_readTitle, 1, none, 2, 0, 4, false),
  (yX2_readItem, cX2_readItem, 1, none, 2, 0, 4, false),
  (yX2_readHold, cX2_readHold, 1, none, 2, 0, 4, false),
  (yX2_readVan, cX2_readVan, 3, none, 2, 0, 4, false),
  (yX2_readStop, cX2_readStop, 4, none, 2, 1, 3, false),
  (yX2_readGrace, cX2_readGrace, 1, none, 2, 0, 4, false),
  (yX2_readRenews, cX2_readRenews, 1, none, 2, 0, 4, false),
  (yX2_beginsRow, cX2_beginsRow, 3, (some .boolean), 2, 2, 3, false),
  (yX2_takeNewName, cX2_takeNewName, 4, (some .int), 2, 2, 3, false),
  (yX2_takeToldName, cX2_takeToldName, 4, (some .int), 2, 2, 3, false),
  (yX2_takeNumber, cX2_takeNumber, 4, (some .int), 2, 2, 3, false),
  (yX2_numberOfName, cX2_numberOfName, 4, (some .int), 2, 2, 0, false),
  (yX2_fail, cX2_fail, 2, none, 2, 1, 0, false),
  (yX2_advance, cX2_advance, 1, none, 2, 0, 2, false),
  (yX2_scanWord, cX2_scanWord, 1, none, 2, 0, 1, false),
  (yX2_scanNumber, cX2_scanNumber, 1, none, 2, 0, 1, false),
  (yX2_tokenOfWord, cX2_tokenOfWord, 2, (some .int), 2, 0, 0, false),
  (yX2_codeOf, cX2_codeOf, 3, (some .int), 2, 1, 5, true),
  (yX2_isBlank, cX2_isBlank, 1, (some .boolean), 2, 1, 0, true),
  (yX2_isLetter, cX2_isLetter, 1, (some .boolean), 2, 1, 0, true),
  (yX2_isDigit, cX2_isDigit, 1, (some .boolean), 2, 1, 0, true),
  (yX3_init, cX3_init, 1, none, 3, 0, 1, false),
  (yX3_begin, cX3_begin, 3, none, 3, 1, 1, false),
  (yX3_copyFrom, cX3_copyFrom, 2, none, 3, 1, 1, false),
  (yX3_putAt, cX3_putAt, 3, none, 3, 2, 0, false),
  (yX3_addHold, cX3_addHold, 4, (some .int), 3, 2, 0, false),
  (yX3_cancelHold, cX3_cancelHold, 3, none, 3, 1, 0, false),
  (yX3_giveItem, cX3_giveItem, 3, none, 3, 2, 0, false),
  (yX3_lend, cX3_lend, 4, none, 3, 3, 0, false),
  (yX3_takeBack, cX3_takeBack, 3, none, 3, 1, 1, false),
  (yX3_board, cX3_board, 5, none, 3, 4, 0, false),
  (yX3_isThere, cX3_isThere, 4, (some .boolean), 3, 3, 0, false),
  (yX3_isFree, cX3_isFree, 2, (some .boolean), 3, 1, 0, false),
  (yX3_isWaiting, cX3_isWaiting, 2, (some .boolean), 3, 1, 0, false),
  (yX3_isOpenOf, cX3_isOpenOf, 3, (some .boolean), 3, 2, 0, false),
  (yX3_countItems, cX3_countItems, 5, (some .int), 3, 2, 1, false),
  (yX3_countOpenAt, cX3_countOpenAt, 4, (some .int), 3, 1, 0, false),
  (yX3_countOpenOf, cX3_countOpenOf, 4, (some .int), 3, 1, 1, false),
  (yX3_countStage, cX3_countStage, 4, (some .int), 3, 1, 0, false),
  (yX3_countLoansOf, cX3_countLoansOf, 4, (some .int), 3, 1, 0, false),
  (yX3_daysWaited, cX3_daysWaited, 3, (some .int), 3, 1, 0, false),
  (yX3_branchBit, cX3_branchBit, 2, (some .int), 3, 1, 0, false),
  (yX4_init, cX4_init, 2, none, 4, 1, 1, false),
  (yX4_forgetAll, cX4_forgetAll, 2, none, 4, 0, 0, false),
  (yX4_arrivalAt, cX4_arrivalAt, 11, (some .int), 4, 3, 1, false),
  (yX4_beginRow, cX4_beginRow, 5, none, 4, 3, 0, false),
  (yX4_findLeg, cX4_findLeg, 7, (some .boolean), 4, 3, 3, false),
  (yX4_vanToBoard, cX4_vanToBoard, 7, (some .int), 4, 4, 2, false),
  (yX4_legPart, cX4_legPart, 2, (some .int), 4, 1, 0, false),
  (yX4_goLegs, cX4_goLegs, 9, (some .int), 4, 4, 4, false),
  (yX5_init, cX5_init, 1, none, 5, 0, 2, false),
  (yX5_begin, cX5_begin, 1, none, 5, 0, 2, false),
  (yX5_copyFrom, cX5_copyFrom, 2, none, 5, 1, 2, false),
  (yX5_goDays, cX5_goDays, 3, none, 5, 1, 5, false),
  (yX5_goDay, cX5_goDay, 2, none, 5, 0, 4, false),
  (yX5_takeBackItems, cX5_takeBackItems, 2, none, 5, 0, 2, false),
  (yX5_giveItems, cX5_giveItems, 3, none, 5, 0, 3, false),
  (yX5_nearestFree, cX5_nearestFree, 7, (some .int), 5, 2, 2, false),
  (yX5_lendItems, cX5_lendItems, 5, none, 5, 0, 2, false),
  (yX5_leaveVan, cX5_leaveVan, 3, none, 5, 1, 1, false),
  (yX5_boardVan, cX5_boardVan, 8, none, 5, 1, 3, false),
  (yX5_lineUp, cX5_lineUp, 3, none, 5, 1, 2, false),
  (yX5_stepIntoLine, cX5_stepIntoLine, 3, none, 5, 2, 1, false),
  (yX5_goalOf, cX5_goalOf, 3, (some .int), 5, 1, 0, false),
  (yX5_lentWithin, cX5_lentWithin, 3, (some .int), 5, 1, 5, false),
  (yX5_countFree, cX5_countFree, 4, (some .int), 5, 1, 1, false),
  (yX5_countAstray, cX5_countAstray, 3, (some .int), 5, 0, 1, false),
  (yX5_countLoans, cX5_countLoans, 5, (some .int), 5, 2, 1, false),
  (yX5_balance, cX5_balance, 4, (some .int), 5, 1, 1, false),
  (yX5_branchOfLoan, cX5_branchOfLoan, 2, (some .int), 5, 1, 0, false),
  (yX5_homeOfLoan, cX5_homeOfLoan, 3, (some .int), 5, 1, 0, false),
  (yX6_init, cX6_init, 1, none, 6, 0, 7, false),
  (yX6_feed, cX6_feed, 6, (some .int), 6, 5, 1, false),
  (yX6_text, cX6_text, 3, (some .int), 6, 1, 6, false),
  (yX6_fault, cX6_fault, 2, (some .int), 6, 1, 0, false),
  (yX6_branch, cX6_branch, 3, (some .int), 6, 2, 7, false),
  (yX6_title, cX6_title, 3, (some .int), 6, 2, 7, false),
  (yX6_item, cX6_item, 3, (some .int), 6, 2, 7, false),
  (yX6_holdOf, cX6_holdOf, 3, (some .int), 6, 2, 7, false),
  (yX6_van, cX6_van, 3, (some .int), 6, 2, 2, false),
  (yX6_stop, cX6_stop, 3, (some .int), 6, 2, 2, false),
  (yX6_hold, cX6_hold, 3, (some .int), 6, 2, 3, false),
  (yX6_cancel, cX6_cancel, 2, (some .boolean), 6, 1, 3, false),
  (yX6_recall, cX6_recall, 3, (some .int), 6, 1, 3, false),
  (yX6_renew, cX6_renew, 3, (some .int), 6, 1, 3, false),
  (yX6_days, cX6_days, 2, (some .int), 6, 1, 6, false),
  (yX6_undo, cX6_undo, 1, (some .int), 6, 0, 3, false),
  (yX6_owed, cX6_owed, 3, (some .int), 6, 2, 2, false),
  (yX6_loans, cX6_loans, 3, (some .int), 6, 2, 2, false),
  (yX6_lender, cX6_lender, 3, (some .int), 6, 1, 4, false),
  (yX6_ranked, cX6_ranked, 2, (some .int), 6, 1, 4, false),
  (yX6_log, cX6_log, 4, (some .int), 6, 2, 1, false),
  (yX6_queue, cX6_queue, 5, (some .int), 6, 2, 1, false),
  (yX6_inVan, cX6_inVan, 5, (some .int), 6, 2, 1, false),
  (yX6_waits, cX6_waits, 3, (some .int), 6, 2, 3, false),
  (yX6_longest, cX6_longest, 3, (some .int), 6, 1, 1, false),
  (yX6_waited, cX6_waited, 2, (some .int), 6, 1, 1, false),
  (yX6_meanWait, cX6_meanWait, 3, (some .int), 6, 0, 1, false),
  (yX6_nextDue, cX6_nextDue, 4, (some .int), 6, 1, 1, false),
  (yX6_given, cX6_given, 4, (some .int), 6, 2, 3, false),
  (yX6_arrival, cX6_arrival, 4, (some .int), 6, 3, 2, false),
  (yX6_leg, cX6_leg, 5, (some .int), 6, 4, 4, false),
  (yX6_legs, cX6_legs, 4, (some .int), 6, 3, 5, false),
  (yX6_path, cX6_path, 6, (some .int), 6, 5, 5, false),
  (yX6_reach, cX6_reach, 6, (some .int), 6, 3, 2, false),
  (yX6_farthest, cX6_farthest, 6, (some .int), 6, 2, 2, false),
  (yX6_center, cX6_center, 6, (some .int), 6, 1, 3, false),
  (yX6_thereAndBack, cX6_thereAndBack, 6, (some .int), 6, 3, 2, false),
  (yX6_bestDay, cX6_bestDay, 9, (some .int), 6, 3, 2, false),
  (yX6_meet, cX6_meet, 5, (some .int), 6, 2, 1, false),
  (yX6_every, cX6_every, 6, (some .int), 6, 2, 1, false),
  (yX6_busiest, cX6_busiest, 4, (some .int), 6, 1, 1, false),
  (yX6_lentOn, cX6_lentOn, 2, (some .int), 6, 1, 6, false),
  (yX6_ifHold, cX6_ifHold, 3, (some .int), 6, 2, 6, false),
  (yX6_ifCancelled, cX6_ifCancelled, 3, (some .int), 6, 2, 6, false),
  (yX6_ifNoVan, cX6_ifNoVan, 3, (some .int), 6, 2, 6, false),
  (yX6_ifStop, cX6_ifStop, 5, (some .int), 6, 4, 6, false),
  (yX6_ifClosed, cX6_ifClosed, 4, (some .int), 6, 3, 6, false),
  (yX6_ifPeriod, cX6_ifPeriod, 4, (some .int), 6, 3, 6, false),
  (yX6_ifRoom, cX6_ifRoom, 4, (some .int), 6, 3, 6, false),
  (yX6_served, cX6_served, 2, (some .int), 6, 1, 6, false),
  (yX6_where, cX6_where, 3, (some .int), 6, 2, 6, false),
  (yX6_astray, cX6_astray, 2, (some .int), 6, 1, 6, false),
  (yX6_visits, cX6_visits, 5, (some .int), 6, 2, 6, false),
  (yX6_count, cX6_count, 2, (some .int), 6, 1, 1, false),
  (yX6_isWithin, cX6_isWithin, 3, (some .boolean), 6, 3, 0, true),
  (yX6_isDay, cX6_isDay, 1, (some .boolean), 6, 1, 1, true),
  (yX6_isForetellable, cX6_isForetellable, 1, (some .boolean), 6, 1, 1, true),
  (yX6_orAbsent, cX6_orAbsent, 1, (some .int), 6, 1, 0, true),
  (yX6_isBranch, cX6_isBranch, 2, (some .boolean), 6, 1, 0, false),
  (yX6_isTitle, cX6_isTitle, 2, (some .boolean), 6, 1, 0, false),
  (yX6_isItem, cX6_isItem, 2, (some .boolean), 6, 1, 0, false),
  (yX6_isVan, cX6_isVan, 2, (some .boolean), 6, 1, 0, false),
  (yX6_isStop, cX6_isStop, 3, (some .boolean), 6, 2, 1, false),
  (yX6_isHold, cX6_isHold, 2, (some .boolean), 6, 1, 0, false),
  (yX6_branchRanked, cX6_branchRanked, 3, (some .int), 6, 1, 3, false),
  (yX6_countAhead, cX6_countAhead, 6, (some .int), 6, 1, 2, false),
  (yX6_daysToAll, cX6_daysToAll, 5, (some .int), 6, 1, 2, false),
  (yX7_init, cX7_init, 1, none, 7, 0, 1, false),
  (yX7_thrown, cX7_thrown, 1, (some .int), 7, 0, 0, false),
  (yX7_isIn, cX7_isIn, 3, (some .boolean), 7, 3, 0, true),
  (yX7_ofHold, cX7_ofHold, 3, (some .int), 7, 2, 0, false),
  (yX7_setHold, cX7_setHold, 4, none, 7, 3, 0, false),
  (yX7_ofItem, cX7_ofItem, 3, (some .int), 7, 2, 0, false),
  (yX7_setItem, cX7_setItem, 4, none, 7, 3, 0, false),
  (yX7_puts, cX7_puts, 4, none, 7, 3, 1, false),
  (yX7_addsHold, cX7_addsHold, 4, none, 7, 2, 1, false),
  (yX7_four, cX7_four, 3, none, 7, 1, 0, false),
  (yX7_feed, cX7_feed, 6, (some .int), 7, 5, 1, false),
  (yX7_see, cX7_see, 1, (some .int), 7, 0, 0, false),
  (yX7_advance, cX7_advance, 2, none, 7, 0, 1, false),
  (yX7_must, cX7_must, 3, none, 7, 2, 0, false),
  (yX7_isWord, cX7_isWord, 2, (some .boolean), 7, 1, 0, false),
  (yX7_isName, cX7_isName, 2, (some .boolean), 7, 0, 0, false),
  (yX7_numberHere, cX7_numberHere, 4, (some .int), 7, 2, 2, false),
  (yX7_at, cX7_at, 4, (some .int), 7, 3, 0, true),
  (yX7_opens, cX7_opens, 3, none, 7, 2, 2, false),
  (yX7_freshHere, cX7_freshHere, 4, (some .int), 7, 2, 2, false),
  (yX7_toldHere, cX7_toldHere, 4, (some .int), 7, 2, 2, false),
  (yX7_branchHere, cX7_branchHere, 1, (some .int), 7, 0, 3, false),
  (yX7_titleHere, cX7_titleHere, 1, (some .int), 7, 0, 3, false),
  (yX7_readsBranch, cX7_readsBranch, 3, none, 7, 0, 3, false),
  (yX7_readsTitle, cX7_readsTitle, 3, none, 7, 0, 3, false),
  (yX7_readsItem, cX7_readsItem, 3, none, 7, 0, 4, false),
  (yX7_readsVan, cX7_readsVan, 4, none, 7, 0, 4, false),
  (yX7_readsHold, cX7_readsHold, 3, none, 7, 0, 4, false),
  (yX7_readsLine, cX7_readsLine, 1, none, 7, 0, 5, false),
  (yX7_begins, cX7_begins, 1, none, 7, 0, 0, false),
  (yX7_text, cX7_text, 2, (some .int), 7, 1, 6, false),
  (yX7_copies, cX7_copies, 4, none, 7, 3, 0, true),
  (yX7_becomes, cX7_becomes, 2, none, 7, 0, 2, false),
  (yX7_freesItem, cX7_freesItem, 2, none, 7, 1, 1, false),
  (yX7_fault, cX7_fault, 2, (some .int), 7, 1, 0, false),
  (yX7_isBranch, cX7_isBranch, 2, (some .boolean), 7, 1, 1, false),
  (yX7_isTitle, cX7_isTitle, 2, (some .boolean), 7, 1, 1, false),
  (yX7_isItem, cX7_isItem, 2, (some .boolean), 7, 1, 1, false),
  (yX7_isHold, cX7_isHold, 2, (some .boolean), 7, 1, 1, false),
  (yX7_isVan, cX7_isVan, 2, (some .boolean), 7, 1, 1, false),
  (yX7_isShut, cX7_isShut, 3, (some .boolean), 7, 2, 0, false),
  (yX7_openFrom, cX7_openFrom, 3, (some .int), 7, 2, 1, false),
  (yX7_stopOf, cX7_stopOf, 3, (some .int), 7, 2, 0, false),
  (yX7_isFree, cX7_isFree, 2, (some .boolean), 7, 1, 1, false),
  (yX7_laysEarly, cX7_laysEarly, 8, none, 7, 2, 1, false),
  (yX7_arrivalOf, cX7_arrivalOf, 4, (some .int), 7, 3, 2, false),
  (yX7_laysLeads, cX7_laysLeads, 9, none, 7, 3, 1, false),
  (yX7_laysLeg, cX7_laysLeg, 8, (some .boolean), 7, 3, 3, false),
  (yX7_isWay, cX7_isWay, 4, (some .boolean), 7, 3, 2, false),
  (yX7_arrival, cX7_arrival, 4, (some .int), 7, 3, 3, false),
  (yX7_leg, cX7_leg, 5, (some .int), 7, 4, 4, false),
  (yX7_legs, cX7_legs, 7, (some .int), 7, 3, 4, false),
  (yX7_path, cX7_path, 9, (some .int), 7, 5, 4, false),
  (yX7_thereAndBack, cX7_thereAndBack, 6, (some .int), 7, 3, 3, false),
  (yX7_bestDay, cX7_bestDay, 8, (some .int), 7, 3, 3, false),
  (yX7_reach, cX7_reach, 6, (some .int), 7, 3, 2, false),
  (yX7_center, cX7_center, 7, (some .int), 7, 1, 2, false),
  (yX7_comesBack, cX7_comesBack, 3, none, 7, 1, 2, false),
  (yX7_givenTo, cX7_givenTo, 7, (some .int), 7, 2, 3, false),
  (yX7_gives, cX7_gives, 3, none, 7, 1, 4, false),
  (yX7_lends, cX7_lends, 5, none, 7, 1, 2, false),
  (yX7_inside, cX7_inside, 4, (some .int), 7, 1, 1, false),
  (yX7_goal, cX7_goal, 4, (some .int), 7, 1, 1, false),
  (yX7_boards, cX7_boards, 4, none, 7, 2, 4, false),
  (yX7_isAt, cX7_isAt, 3, (some .boolean), 7, 2, 1, false),
  (yX7_drives, cX7_drives, 4, none, 7, 1, 5, false),
  (yX7_passes, cX7_passes, 2, none, 7, 0, 6, false),
  (yX7_openOf, cX7_openOf, 5, (some .int), 7, 2, 1, false),
  (yX7_branch, cX7_branch, 5, (some .int), 7, 2, 2, false),
  (yX7_title, cX7_title, 5, (some .int), 7, 2, 2, false),
  (yX7_item, cX7_item, 3, (some .int), 7, 2, 2, false),
  (yX7_holdOf, cX7_holdOf, 3, (some .int), 7, 2, 2, false),
  (yX7_van, cX7_van, 3, (some .int), 7, 2, 2, false),
  (yX7_stop, cX7_stop, 3, (some .int), 7, 2, 2, false),
  (yX7_keeps, cX7_keeps, 2, none, 7, 0, 0, false),
  (yX7_hold, cX7_hold, 3, (some .int), 7, 2, 2, false),
  (yX7_mayCancel, cX7_mayCancel, 2, (some .boolean), 7, 1, 1, false),
  (yX7_cancels, cX7_cancels, 2, none, 7, 1, 1, false),
  (yX7_cancel, cX7_cancel, 2, (some .boolean), 7, 1, 2, false),
  (yX7_recall, cX7_recall, 3, (some .int), 7, 1, 2, false),
  (yX7_renew, cX7_renew, 2, (some .int), 7, 1, 2, false),
  (yX7_days, cX7_days, 3, (some .int), 7, 1, 7, false),
  (yX7_undo, cX7_undo, 2, (some .int), 7, 0, 0, false),
  (yX7_balance, cX7_balance, 3, (some .int), 7, 2, 0, false),
  (yX7_owed, cX7_owed, 3, (some .int), 7, 2, 2, false),
  (yX7_loans, cX7_loans, 3, (some .int), 7, 2, 2, false),
  (yX7_queue, cX7_queue, 5, (some .int), 7, 2, 2, false),
  (yX7_inVan, cX7_inVan, 5, (some .int), 7, 2, 2, false),
  (yX7_waits, cX7_waits, 5, (some .int), 7, 2, 2, false),
  (yX7_given, cX7_given, 3, (some .int), 7, 2, 4, false),
  (yX7_tries, cX7_tries, 1, none, 7, 0, 1, false),
  (yX7_returns, cX7_returns, 1, none, 7, 0, 1, false),
  (yX7_lentAhead, cX7_lentAhead, 3, (some .int), 7, 1, 7, false),
  (yX7_lentOn, cX7_lentOn, 3, (some .int), 7, 1, 8, false),
  (yX7_ifHold, cX7_ifHold, 4, (some .int), 7, 2, 8, false),
  (yX7_ifCancelled, cX7_ifCancelled, 4, (some .int), 7, 2, 8, false),
  (yX7_ifNoVan, cX7_ifNoVan, 4, (some .int), 7, 2, 8, false),
  (yX7_ifStop, cX7_ifStop, 7, (some .int), 7, 4, 8, false),
  (yX7_ifRoom, cX7_ifRoom, 6, (some .int), 7, 3, 8, false),
  (yX7_ifClosed, cX7_ifClosed, 6, (some .int), 7, 3, 8, false),
  (yX7_ifPeriod, cX7_ifPeriod, 6, (some .int), 7, 3, 8, false),
  (yX7_visits, cX7_visits, 5, (some .int), 7, 2, 7, false),
  (yX7_astray, cX7_astray, 4, (some .int), 7, 1, 7, false),
  (yX7_wasLent, cX7_wasLent, 2, (some .boolean), 7, 1, 1, false),
  (yX7_waited, cX7_waited, 2, (some .int), 7, 1, 2, false),
  (yX7_meanWait, cX7_meanWait, 4, (some .int), 7, 0, 2, false),
  (yX7_isSooner, cX7_isSooner, 5, (some .boolean), 7, 2, 1, false),
  (yX7_log, cX7_log, 6, (some .int), 7, 2, 2, false),
  (yX7_allOwed, cX7_allOwed, 4, (some .int), 7, 1, 1, false),
  (yX7_ranked, cX7_ranked, 5, (some .int), 7, 1, 2, false),
  (yX7_busiest, cX7_busiest, 4, (some .int), 7, 1, 1, false),
  (yX7_where, cX7_where, 4, (some .int), 7, 2, 7, false),
  (yX7_served, cX7_served, 2, (some .int), 7, 1, 8, false),
  (yX7_servedIn, cX7_servedIn, 4, (some .int), 7, 1, 7, false),
  (yX7_meet, cX7_meet, 4, (some .int), 7, 2, 2, false),
  (yX7_every, cX7_every, 6, (some .int), 7, 2, 2, false),
  (yX7_farthest, cX7_farthest, 5, (some .int), 7, 2, 2, false),
  (yX7_longest, cX7_longest, 4, (some .int), 7, 1, 1, false),
  (yX7_lender, cX7_lender, 6, (some .int), 7, 1, 2, false),
  (yX7_nextDue, cX7_nextDue, 4, (some .int), 7, 1, 1, false),
  (yX7_inState, cX7_inState, 4, (some .int), 7, 1, 1, false),
  (yX7_count, cX7_count, 2, (some .int), 7, 1, 2, false),
  (yJ9_floorDiv_7cf53, cJ9_floorDiv_7cf53, 3, (some .int), 8, 2, 0, true),
  (yJ9_max_7cf53, cJ9_max_7cf53, 2, (some .int), 8, 2, 0, true),
  (yJ9_min_7cf53, cJ9_min_7cf53, 2, (some .int), 8, 2, 0, true),
  (yL_branch, cL_branch, 5, (some .int), 9, 4, 8, true),
  (yL_title, cL_title, 5, (some .int), 9, 4, 8, true),
  (yL_item, cL_item, 5, (some .int), 9, 4, 8, true),
  (yL_holdOf, cL_holdOf, 5, (some .int), 9, 4, 8, true),
  (yL_law, cL_law, 7, (some .boolean), 9, 1, 9, true)]
def mD : mRow := (yL_law, cL_law, 0, none, 99, 0, 0, false)
def mG (i : Nat) : mRow := mTab.getD i mD
def mY (i : Nat) : MethodName := (mG i).1
def mB (i : Nat) : ByteArray := (mG i).2.1
def mX (i : Nat) : Nat := (mG i).2.2.1
def mR (i : Nat) : Option FieldType := (mG i).2.2.2.1
def mC (i : Nat) : Nat := (mG i).2.2.2.2.1
def mN (i : Nat) : Nat := (mG i).2.2.2.2.2.1
def mV (i : Nat) : Nat := (mG i).2.2.2.2.2.2.1
def mS (i : Nat) : Bool := (mG i).2.2.2.2.2.2.2
/-- of a method: its code word, instanceMethod or static, selects (or 0), initialized, by their places in lw_tbl -/
def mPos : List ((Nat × Nat) × (Nat × Nat) × (Nat × Nat)) := [
((2, 175), (0, 0), (1, 11)), ((3, 108), (0, 29), (1, 11)), ((3, 156), (0, 37), (1, 11)), ((4, 69), (0, 66), (1, 11)), ((1, 153), (0, 0), (1, 8)), ((1, 160), (0, 0), (1, 8)), ((3, 84), (0, 24), (1, 8)), ((3, 124), (0, 31), (1, 8)), ((3, 196), (0, 44), (1, 8)), ((3, 192), (0, 43), (1, 8)), ((5, 151), (0, 84), (1, 8)), ((5, 183), (0, 86), (1, 8)), ((1, 31), (0, 0), (1, 2)), ((2, 219), (0, 2), (1, 2)), ((2, 227), (0, 3), (1, 2)), ((2, 231), (0, 4), (1, 2)), ((3, 80), (0, 23), (1, 2)), ((3, 24), (0, 9), (1, 2)), ((3, 48), (0, 15), (1, 2)), ((3, 52), (0, 16), (1, 2)), ((3, 68), (0, 20), (1, 2)), ((3, 60), (0, 18), (1, 2)), ((3, 64), (0, 19), (1, 2)), ((3, 72), (0, 21), (1, 2)), ((3, 76), (0, 22), (1, 2)), ((3, 28), (0, 10), (1, 2)), ((3, 36), (0, 12), (1, 2)), ((3, 56), (0, 17), (1, 2)), ((3, 44), (0, 14), (1, 2)), ((3, 40), (0, 13), (1, 2)), ((3, 32), (0, 11), (1, 2)), ((2, 239), (0, 5), (1, 2)), ((3, 9), (0, 6), (1, 2)), ((3, 20), (0, 8), (1, 2)), ((3, 13), (0, 7), (1, 2)), ((1, 36), (0, 0), (1, 2)), ((3, 2), (0, 0), (1, 2)), ((3, 5), (0, 0), (1, 2)), ((3, 16), (0, 0), (1, 2)), ((2, 21), (0, 0), (1, 9)), ((3, 95), (0, 26), (1, 9)), ((3, 161), (0, 38), (1, 9)), ((3, 99), (0, 27), (1, 9)), ((3, 103), (0, 28), (1, 9)), ((3, 180), (0, 41), (1, 9)), ((4, 18), (0, 56), (1, 9)), ((4, 29), (0, 58), (1, 9)), ((3, 231), (0, 50), (1, 9)), ((4, 61), (0, 65), (1, 9)), ((3, 132), (0, 33), (1, 9)), ((4, 4), (0, 53), (1, 9)), ((3, 176), (0, 40), (1, 9)), ((3, 208), (0, 46), (1, 9)), ((3, 128), (0, 32), (1, 9)), ((5, 155), (0, 85), (1, 9)), ((3, 204), (0, 45), (1, 9)), ((5, 72), (0, 82), (1, 9)), ((5, 199), (0, 88), (1, 9)), ((4, 137), (0, 73), (1, 9)), ((5, 64), (0, 81), (1, 9)), ((2, 119), (0, 0), (1, 10)), ((2, 124), (0, 1), (1, 10)), ((4, 8), (0, 54), (1, 10)), ((4, 12), (0, 55), (1, 10)), ((4, 177), (0, 74), (1, 10)), ((4, 56), (0, 64), (1, 10)), ((4, 182), (0, 75), (1, 10)), ((4, 190), (0, 76), (1, 10)), ((1, 147), (0, 0), (1, 7)), ((3, 91), (0, 25), (1, 7)), ((5, 2), (0, 78), (1, 7)), ((3, 219), (0, 47), (1, 7)), ((3, 223), (0, 48), (1, 7)), ((3, 227), (0, 49), (1, 7)), ((3, 235), (0, 51), (1, 7)), ((3, 239), (0, 52), (1, 7)), ((4, 22), (0, 57), (1, 7)), ((4, 33), (0, 59), (1, 7)), ((4, 38), (0, 60), (1, 7)), ((4, 44), (0, 61), (1, 7)), ((4, 48), (0, 62), (1, 7)), ((4, 52), (0, 63), (1, 7)), ((5, 8), (0, 79), (1, 7)), ((5, 187), (0, 87), (1, 7)), ((5, 56), (0, 80), (1, 7)), ((4, 78), (0, 67), (1, 7)), ((4, 106), (0, 72), (1, 7)), ((4, 86), (0, 69), (1, 7)), ((4, 82), (0, 68), (1, 7)), ((1, 23), (0, 0), (1, 1)), ((2, 214), (2, 215), (1, 1)), ((2, 222), (2, 223), (1, 1)), ((3, 111), (3, 112), (1, 1)), ((5, 80), (5, 81), (1, 1)), ((5, 177), (5, 178), (1, 1)), ((5, 193), (5, 194), (1, 1)), ((5, 205), (5, 206), (1, 1)), ((3, 115), (3, 116), (1, 1)), ((3, 135), (3, 136), (1, 1)), ((3, 143), (3, 144), (1, 1)), ((3, 167), (3, 168), (1, 1)), ((3, 183), (3, 184), (1, 1)), ((3, 199), (3, 200), (1, 1)), ((3, 211), (3, 212), (1, 1)), ((4, 64), (4, 65), (1, 1)), ((4, 72), (4, 73), (1, 1)), ((4, 89), (4, 90), (1, 1)), ((4, 93), (4, 94), (1, 1)), ((4, 109), (4, 110), (1, 1)), ((4, 113), (4, 114), (1, 1)), ((4, 117), (4, 118), (1, 1)), ((4, 122), (4, 123), (1, 1)), ((4, 127), (4, 128), (1, 1)), ((4, 132), (4, 133), (1, 1)), ((4, 140), (4, 141), (1, 1)), ((4, 144), (4, 145), (1, 1)), ((4, 151), (4, 152), (1, 1)), ((4, 155), (4, 156), (1, 1)), ((4, 160), (4, 161), (1, 1)), ((4, 172), (4, 173), (1, 1)), ((4, 185), (4, 186), (1, 1)), ((4, 194), (4, 195), (1, 1)), ((4, 198), (4, 199), (1, 1)), ((4, 202), (4, 203), (1, 1)), ((4, 206), (4, 207), (1, 1)), ((4, 214), (4, 215), (1, 1)), ((4, 218), (4, 219), (1, 1)), ((4, 222), (4, 223), (1, 1)), ((4, 226), (4, 227), (1, 1)), ((4, 233), (4, 234), (1, 1)), ((4, 237), (4, 238), (1, 1)), ((5, 12), (5, 13), (1, 1)), ((5, 16), (5, 17), (1, 1)), ((5, 20), (5, 21), (1, 1)), ((5, 24), (5, 25), (1, 1)), ((5, 28), (5, 29), (1, 1)), ((5, 32), (5, 33), (1, 1)), ((5, 36), (5, 37), (1, 1)), ((5, 43), (5, 44), (1, 1)), ((5, 47), (5, 48), (1, 1)), ((5, 51), (5, 52), (1, 1)), ((5, 59), (5, 60), (1, 1)), ((5, 67), (5, 68), (1, 1)), ((3, 215), (0, 0), (1, 1)), ((4, 164), (0, 0), (1, 1)), ((5, 40), (0, 0), (1, 1)), ((4, 168), (0, 0), (1, 1)), ((3, 148), (0, 35), (1, 1)), ((3, 152), (0, 36), (1, 1)), ((3, 188), (0, 42), (1, 1)), ((3, 120), (0, 30), (1, 1)), ((3, 140), (0, 34), (1, 1)), ((3, 172), (0, 39), (1, 1)), ((4, 98), (0, 70), (1, 1)), ((4, 102), (0, 71), (1, 1)), ((4, 211), (0, 77), (1, 1)), ((5, 212), (0, 0), (1, 12)), ((6, 149), (6, 150), (1, 12)), ((6, 165), (0, 0), (1, 12)), ((7, 110), (0, 122), (1, 12)), ((7, 34), (0, 113), (1, 12)), ((7, 118), (0, 124), (1, 12)), ((7, 22), (0, 110), (1, 12)), ((7, 18), (0, 109), (1, 12)), ((7, 30), (0, 112), (1, 12)), ((6, 158), (0, 89), (1, 12)), ((6, 153), (6, 154), (1, 12)), ((6, 177), (0, 92), (1, 12)), ((6, 173), (0, 91), (1, 12)), ((6, 198), (0, 97), (1, 12)), ((6, 186), (0, 94), (1, 12)), ((6, 206), (0, 99), (1, 12)), ((6, 219), (0, 100), (1, 12)), ((6, 215), (0, 0), (1, 12)), ((6, 194), (0, 96), (1, 12)), ((6, 202), (0, 98), (1, 12)), ((6, 235), (0, 104), (1, 12)), ((6, 239), (0, 105), (1, 12)), ((6, 231), (0, 103), (1, 12)), ((6, 190), (0, 95), (1, 12)), ((6, 223), (0, 101), (1, 12)), ((6, 227), (0, 102), (1, 12)), ((7, 3), (0, 106), (1, 12)), ((7, 7), (0, 107), (1, 12)), ((6, 181), (0, 93), (1, 12)), ((6, 169), (0, 90), (1, 12)), ((6, 161), (6, 162), (1, 12)), ((7, 14), (0, 0), (1, 12)), ((7, 11), (0, 108), (1, 12)), ((7, 26), (0, 111), (1, 12)), ((7, 37), (7, 38), (1, 12)), ((7, 50), (0, 115), (1, 12)), ((7, 126), (0, 125), (1, 12)), ((7, 138), (0, 127), (1, 12)), ((7, 146), (0, 128), (1, 12)), ((7, 154), (0, 129), (1, 12)), ((7, 194), (0, 135), (1, 12)), ((7, 190), (0, 134), (1, 12)), ((7, 62), (0, 118), (1, 12)), ((7, 130), (0, 126), (1, 12)), ((7, 58), (0, 117), (1, 12)), ((7, 54), (0, 116), (1, 12)), ((7, 74), (0, 120), (1, 12)), ((7, 70), (0, 119), (1, 12)), ((7, 46), (0, 114), (1, 12)), ((7, 41), (7, 42), (1, 12)), ((7, 65), (7, 66), (1, 12)), ((7, 77), (7, 78), (1, 12)), ((7, 81), (7, 82), (1, 12)), ((7, 85), (7, 86), (1, 12)), ((7, 89), (7, 90), (1, 12)), ((7, 93), (7, 94), (1, 12)), ((7, 97), (7, 98), (1, 12)), ((7, 210), (0, 137), (1, 12)), ((7, 218), (0, 139), (1, 12)), ((7, 214), (0, 138), (1, 12)), ((7, 222), (0, 140), (1, 12)), ((7, 158), (0, 130), (1, 12)), ((7, 234), (0, 143), (1, 12)), ((7, 230), (0, 142), (1, 12)), ((7, 114), (0, 123), (1, 12)), ((7, 226), (0, 141), (1, 12)), ((7, 206), (0, 136), (1, 12)), ((7, 106), (0, 121), (1, 12)), ((7, 101), (7, 102), (1, 12)), ((7, 121), (7, 122), (1, 12)), ((7, 133), (7, 134), (1, 12)), ((7, 141), (7, 142), (1, 12)), ((7, 149), (7, 150), (1, 12)), ((7, 161), (7, 162), (1, 12)), ((7, 170), (0, 131), (1, 12)), ((7, 165), (7, 166), (1, 12)), ((7, 178), (0, 132), (1, 12)), ((7, 182), (0, 133), (1, 12)), ((7, 173), (7, 174), (1, 12)), ((7, 185), (7, 186), (1, 12)), ((7, 197), (7, 198), (1, 12)), ((7, 201), (7, 202), (1, 12)), ((7, 237), (7, 238), (1, 12)), ((8, 6), (0, 144), (1, 12)), ((8, 1), (8, 2), (1, 12)), ((8, 10), (8, 11), (1, 12)), ((8, 14), (8, 15), (1, 12)), ((8, 18), (8, 19), (1, 12)), ((8, 22), (8, 23), (1, 12)), ((8, 26), (8, 27), (1, 12)), ((8, 35), (0, 145), (1, 12)), ((8, 43), (0, 147), (1, 12)), ((8, 39), (0, 146), (1, 12)), ((8, 30), (8, 31), (1, 12)), ((8, 46), (8, 47), (1, 12)), ((8, 50), (8, 51), (1, 12)), ((8, 54), (8, 55), (1, 12)), ((8, 58), (8, 59), (1, 12)), ((8, 62), (8, 63), (1, 12)), ((8, 74), (8, 75), (1, 12)), ((8, 78), (8, 79), (1, 12)), ((8, 82), (8, 83), (1, 12)), ((8, 86), (8, 87), (1, 12)), ((8, 71), (0, 149), (1, 12)), ((8, 90), (8, 91), (1, 12)), ((8, 94), (8, 95), (1, 12)), ((8, 103), (0, 150), (1, 12)), ((8, 98), (8, 99), (1, 12)), ((8, 111), (0, 151), (1, 12)), ((8, 106), (8, 107), (1, 12)), ((8, 114), (8, 115), (1, 12)), ((8, 118), (8, 119), (1, 12)), ((8, 122), (8, 123), (1, 12)), ((8, 67), (0, 148), (1, 12)), ((8, 126), (8, 127), (1, 12)), ((8, 130), (8, 131), (1, 12)), ((8, 134), (8, 135), (1, 12)), ((8, 138), (8, 139), (1, 12)), ((8, 142), (8, 143), (1, 12)), ((8, 146), (8, 147), (1, 12)), ((8, 155), (0, 152), (1, 12)), ((8, 150), (8, 151), (1, 12)), ((4, 148), (0, 0), (1, 13)), ((4, 230), (0, 0), (1, 13)), ((2, 235), (0, 0), (1, 13))]
def mChk (j : Nat) (P : (Nat × Nat) × (Nat × Nat) × (Nat × Nat)) : Bool := decide ((tbC P.1.1)[P.1.2]? = some (if mS j then Cond.static (mY j) else Cond.instanceMethod (mY j))) && (mS j || decide ((mY j).name = "<init>") || decide ((tbC P.2.1.1)[P.2.1.2]? = some (Cond.selects (mY j).cls (mY j) (mY j)))) && decide ((tbC P.2.2.1)[P.2.2.2]? = some (Cond.initialized (mY j).cls)) && decide ((mY j).cls = rN (mC j)) && decide ((mY j).cls ≠ "java/lang/invoke/MethodHandle") && decide ((mY j).cls ≠ "java/lang/invoke/VarHandle") && decide ((parseMethodDescriptor (mY j).desc).map (fun d => d.parameters.length) = some (mN j)) && plainFor (mY j) && decide (mX j ≤ 11) && decide (mN j + (if mS j then 0 else 1) ≤ mX j)
theorem mchk_0 : ((mPos.drop 0).take 47).zipIdx.all (fun q => mChk (q.2 + 0) q.1) = true := by decide +kernel
theorem mchk_47 : ((mPos.drop 47).take 47).zipIdx.all (fun q => mChk (q.2 + 47) q.1) = true := by decide +kernel
theorem mchk_94 : ((mPos.drop 94).take 47).zipIdx.all (fun q => mChk (q.2 + 94) q.1) = true := by decide +kernel
theorem mchk_141 : ((mPos.drop 141).take 47).zipIdx.all (fun q => mChk (q.2 + 141) q.1) = true := by decide +kernel
theorem mchk_188 : ((mPos.drop 188).take 47).zipIdx.all (fun q => mChk (q.2 + 188) q.1) = true := by decide +kernel
theorem mchk_235 : ((mPos.drop 235).take 47).zipIdx.all (fun q => mChk (q.2 + 235) q.1) = true := by decide +kernel
theorem cw_0 : Cond.code yX0_init cX0_init 1 none ∈ lw_tbl := tbC_mem 2 (List.mem_of_getElem? (i := 176) rfl)
theorem cw_1 : Cond.code yX0_clear cX0_clear 1 none ∈ lw_tbl := tbC_mem 3 (List.mem_of_getElem? (i := 109) rfl)
theorem cw_2 : Cond.code yX0_keep cX0_keep 3 none ∈ lw_tbl := tbC_mem 3 (List.mem_of_getElem? (i := 157) rfl)
theorem cw_3 : Cond.code yX0_restore cX0_restore 4 none ∈ lw_tbl := tbC_mem 4 (List.mem_of_getElem? (i := 70) rfl)
theorem cw_4 : Cond.code yX1_init cX1_init 1 none ∈ lw_tbl := tbC_mem 1 (List.mem_of_getElem? (i := 154) rfl)
theorem cw_5 : Cond.code yX1_empty cX1_empty 1 none ∈ lw_tbl := tbC_mem 1 (List.mem_of_getElem? (i := 161) rfl)
theorem cw_6 : Cond.code yX1_copyFrom cX1_copyFrom 3 none ∈ lw_tbl := tbC_mem 3 (List.mem_of_getElem? (i := 85) rfl)
theorem cw_7 : Cond.code yX1_branchOn cX1_branchOn 4 (some .int) ∈ lw_tbl := tbC_mem 3 (List.mem_of_getElem? (i := 125) rfl)
theorem cw_8 : Cond.code yX1_isShut cX1_isShut 3 (some .boolean) ∈ lw_tbl := tbC_mem 3 (List.mem_of_getElem? (i := 197) rfl)
theorem cw_9 : Cond.code yX1_openFrom cX1_openFrom 3 (some .int) ∈ lw_tbl := tbC_mem 3 (List.mem_of_getElem? (i := 193) rfl)
theorem cw_10 : Cond.code yX1_countAtHome cX1_countAtHome 4 (some .int) ∈ lw_tbl := tbC_mem 5 (List.mem_of_getElem? (i := 152) rfl)
theorem cw_11 : Cond.code yX1_countOfTitle cX1_countOfTitle 4 (some .int) ∈ lw_tbl := tbC_mem 5 (List.mem_of_getElem? (i := 184) rfl)
theorem cw_12 : Cond.code yX2_init cX2_init 1 none ∈ lw_tbl := tbC_mem 1 (List.mem_of_getElem? (i := 32) rfl)
theorem cw_13 : Cond.code yX2_put cX2_put 3 none ∈ lw_tbl := tbC_mem 2 (List.mem_of_getElem? (i := 220) rfl)
theorem cw_14 : Cond.code yX2_readInto cX2_readInto 4 (some .boolean) ∈ lw_tbl := tbC_mem 2 (List.mem_of_getElem? (i := 228) rfl)
theorem cw_15 : Cond.code yX2_begin cX2_begin 3 none ∈ lw_tbl := tbC_mem 2 (List.mem_of_getElem? (i := 232) rfl)
theorem cw_16 : Cond.code yX2_endLine cX2_endLine 1 none ∈ lw_tbl := tbC_mem 3 (List.mem_of_getElem? (i := 81) rfl)
theorem cw_17 : Cond.code yX2_readBranch cX2_readBranch 3 none ∈ lw_tbl := tbC_mem 3 (List.mem_of_getElem? (i := 25) rfl)
theorem cw_18 : Cond.code yX2_readTitle cX2_readTitle 1 none ∈ lw_tbl := tbC_mem 3 (List.mem_of_getElem? (i := 49) rfl)
theorem cw_19 : Cond.code yX2_readItem cX2_readItem 1 none ∈ lw_tbl := tbC_mem 3 (List.mem_of_getElem? (i := 53) rfl)
theorem cw_20 : Cond.code yX2_readHold cX2_readHold 1 none ∈ lw_tbl := tbC_mem 3 (List.mem_of_getElem? (i := 69) rfl)
theorem cw_21 : Cond.code yX2_readVan cX2_readVan 3 none ∈ lw_tbl := tbC_mem 3 (List.mem_of_getElem? (i := 61) rfl)
theorem cw_22 : Cond.code yX2_readStop cX2_readStop 4 none ∈ lw_tbl := tbC_mem 3 (List.mem_of_getElem? (i := 65) rfl)
theorem cw_23 : Cond.code yX2_readGrace cX2_readGrace 1 none ∈ lw_tbl := tbC_mem 3 (List.mem_of_getElem? (i := 73) rfl)
theorem cw_24 : Cond.code yX2_readRenews cX2_readRenews 1 none ∈ lw_tbl := tbC_mem 3 (List.mem_of_getElem? (i := 77) rfl)
theorem cw_25 : Cond.code yX2_beginsRow cX2_beginsRow 3 (some .boolean) ∈ lw_tbl := tbC_mem 3 (List.mem_of_getElem? (i := 29) rfl)
theorem cw_26 : Cond.code yX2_takeNewName cX2_takeNewName 4 (some .int) ∈ lw_tbl := tbC_mem 3 (List.mem_of_getElem? (i := 37) rfl)
theorem cw_27 : Cond.code yX2_takeToldName cX2_takeToldName 4 (some .int) ∈ lw_tbl := tbC_mem 3 (List.mem_of_getElem? (i := 57) rfl)
theorem cw_28 : Cond.code yX2_takeNumber cX2_takeNumber 4 (some .int) ∈ lw_tbl := tbC_mem 3 (List.mem_of_getElem? (i := 45) rfl)
theorem cw_29 : Cond.code yX2_numberOfName cX2_numberOfName 4 (some .int) ∈ lw_tbl := tbC_mem 3 (List.mem_of_getElem? (i := 41) rfl)
theorem cw_30 : Cond.code yX2_fail cX2_fail 2 none ∈ lw_tbl := tbC_mem 3 (List.mem_of_getElem? (i := 33) rfl)
theorem cw_31 : Cond.code yX2_advance cX2_advance 1 none ∈ lw_tbl := tbC_mem 3 (List.mem_of_getElem? (i := 0) rfl)
theorem cw_32 : Cond.code yX2_scanWord cX2_scanWord 1 none ∈ lw_tbl := tbC_mem 3 (List.mem_of_getElem? (i := 10) rfl)
theorem cw_33 : Cond.code yX2_scanNumber cX2_scanNumber 1 none ∈ lw_tbl := tbC_mem 3 (List.mem_of_getElem? (i := 21) rfl)
theorem cw_34 : Cond.code yX2_tokenOfWord cX2_tokenOfWord 2 (some .int) ∈ lw_tbl := tbC_mem 3 (List.mem_of_getElem? (i := 14) rfl)
theorem cw_35 : Cond.code yX2_codeOf cX2_codeOf 3 (some .int) ∈ lw_tbl := tbC_mem 1 (List.mem_of_getElem? (i := 37) rfl)
theorem cw_36 : Cond.code yX2_isBlank cX2_isBlank 1 (some .boolean) ∈ lw_tbl := tbC_mem 3 (List.mem_of_getElem? (i := 3) rfl)
theorem cw_37 : Cond.code yX2_isLetter cX2_isLetter 1 (some .boolean) ∈ lw_tbl := tbC_mem 3 (List.mem_of_getElem? (i := 6) rfl)
theorem cw_38 : Cond.code yX2_isDigit cX2_isDigit 1 (some .boolean) ∈ lw_tbl := tbC_mem 3 (List.mem_of_getElem? (i := 17) rfl)
theorem cw_39 : Cond.code yX3_init cX3_init 1 none ∈ lw_tbl := tbC_mem 2 (List.mem_of_getElem? (i := 22) rfl)
theorem cw_40 : Cond.code yX3_begin cX3_begin 3 none ∈ lw_tbl := tbC_mem 3 (List.mem_of_getElem? (i := 96) rfl)
theorem cw_41 : Cond.code yX3_copyFrom cX3_copyFrom 2 none ∈ lw_tbl := tbC_mem 3 (List.mem_of_getElem? (i := 162) rfl)
theorem cw_42 : Cond.code yX3_putAt cX3_putAt 3 none ∈ lw_tbl := tbC_mem 3 (List.mem_of_getElem? (i := 100) rfl)
theorem cw_43 : Cond.code yX3_addHold cX3_addHold 4 (some .int) ∈ lw_tbl := tbC_mem 3 (List.mem_of_getElem? (i := 104) rfl)
theorem cw_44 : Cond.code yX3_cancelHold cX3_cancelHold 3 none ∈ lw_tbl := tbC_mem 3 (List.mem_of_getElem? (i := 181) rfl)
theorem cw_45 : Cond.code yX3_giveItem cX3_giveItem 3 none ∈ lw_tbl := tbC_mem 4 (List.mem_of_getElem? (i := 19) rfl)
theorem cw_46 : Cond.code yX3_lend cX3_lend 4 none ∈ lw_tbl := tbC_mem 4 (List.mem_of_getElem? (i := 30) rfl)
theorem cw_47 : Cond.code yX3_takeBack cX3_takeBack 3 none ∈ lw_tbl := tbC_mem 3 (List.mem_of_getElem? (i := 232) rfl)
theorem cw_48 : Cond.code yX3_board cX3_board 5 none ∈ lw_tbl := tbC_mem 4 (List.mem_of_getElem? (i := 62) rfl)
theorem cw_49 : Cond.code yX3_isThere cX3_isThere 4 (some .boolean) ∈ lw_tbl := tbC_mem 3 (List.mem_of_getElem? (i := 133) rfl)
theorem cw_50 : Cond.code yX3_isFree cX3_isFree 2 (some .boolean) ∈ lw_tbl := tbC_mem 4 (List.mem_of_getElem? (i := 5) rfl)
theorem cw_51 : Cond.code yX3_isWaiting cX3_isWaiting 2 (some .boolean) ∈ lw_tbl := tbC_mem 3 (List.mem_of_getElem? (i := 177) rfl)
theorem cw_52 : Cond.code yX3_isOpenOf cX3_isOpenOf 3 (some .boolean) ∈ lw_tbl := tbC_mem 3 (List.mem_of_getElem? (i := 209) rfl)
theorem cw_53 : Cond.code yX3_countItems cX3_countItems 5 (some .int) ∈ lw_tbl := tbC_mem 3 (List.mem_of_getElem? (i := 129) rfl)
theorem cw_54 : Cond.code yX3_countOpenAt cX3_countOpenAt 4 (some .int) ∈ lw_tbl := tbC_mem 5 (List.mem_of_getElem? (i := 156) rfl)
theorem cw_55 : Cond.code yX3_countOpenOf cX3_countOpenOf 4 (some .int) ∈ lw_tbl := tbC_mem 3 (List.mem_of_getElem? (i := 205) rfl)
theorem cw_56 : Cond.code yX3_countStage cX3_countStage 4 (some .int) ∈ lw_tbl := tbC_mem 5 (List.mem_of_getElem? (i := 73) rfl)
theorem cw_57 : Cond.code yX3_countLoansOf cX3_countLoansOf 4 (some .int) ∈ lw_tbl := tbC_mem 5 (List.mem_of_getElem? (i := 200) rfl)
theorem cw_58 : Cond.code yX3_daysWaited cX3_daysWaited 3 (some .int) ∈ lw_tbl := tbC_mem 4 (List.mem_of_getElem? (i := 138) rfl)
theorem cw_59 : Cond.code yX3_branchBit cX3_branchBit 2 (some .int) ∈ lw_tbl := tbC_mem 5 (List.mem_of_getElem? (i := 65) rfl)
theorem cw_60 : Cond.code yX4_init cX4_init 2 none ∈ lw_tbl := tbC_mem 2 (List.mem_of_getElem? (i := 120) rfl)
theorem cw_61 : Cond.code yX4_forgetAll cX4_forgetAll 2 none ∈ lw_tbl := tbC_mem 2 (List.mem_of_getElem? (i := 125) rfl)
theorem cw_62 : Cond.code yX4_arrivalAt cX4_arrivalAt 11 (some .int) ∈ lw_tbl := tbC_mem 4 (List.mem_of_getElem? (i := 9) rfl)
theorem cw_63 : Cond.code yX4_beginRow cX4_beginRow 5 none ∈ lw_tbl := tbC_mem 4 (List.mem_of_getElem? (i := 13) rfl)
theorem cw_64 : Cond.code yX4_findLeg cX4_findLeg 7 (some .boolean) ∈ lw_tbl := tbC_mem 4 (List.mem_of_getElem? (i := 178) rfl)
theorem cw_65 : Cond.code yX4_vanToBoard cX4_vanToBoard 7 (some .int) ∈ lw_tbl := tbC_mem 4 (List.mem_of_getElem? (i := 57) rfl)
theorem cw_66 : Cond.code yX4_legPart cX4_legPart 2 (some .int) ∈ lw_tbl := tbC_mem 4 (List.mem_of_getElem? (i := 183) rfl)
theorem cw_67 : Cond.code yX4_goLegs cX4_goLegs 9 (some .int) ∈ lw_tbl := tbC_mem 4 (List.mem_of_getElem? (i := 191) rfl)
theorem cw_68 : Cond.code yX5_init cX5_init 1 none ∈ lw_tbl := tbC_mem 1 (List.mem_of_getElem? (i := 148) rfl)
theorem cw_69 : Cond.code yX5_begin cX5_begin 1 none ∈ lw_tbl := tbC_mem 3 (List.mem_of_getElem? (i := 92) rfl)
theorem cw_70 : Cond.code yX5_copyFrom cX5_copyFrom 2 none ∈ lw_tbl := tbC_mem 5 (List.mem_of_getElem? (i := 3) rfl)
theorem cw_71 : Cond.code yX5_goDays cX5_goDays 3 none ∈ lw_tbl := tbC_mem 3 (List.mem_of_getElem? (i := 220) rfl)
theorem cw_72 : Cond.code yX5_goDay cX5_goDay 2 none ∈ lw_tbl := tbC_mem 3 (List.mem_of_getElem? (i := 224) rfl)
theorem cw_73 : Cond.code yX5_takeBackItems cX5_takeBackItems 2 none ∈ lw_tbl := tbC_mem 3 (List.mem_of_getElem? (i := 228) rfl)
theorem cw_74 : Cond.code yX5_giveItems cX5_giveItems 3 none ∈ lw_tbl := tbC_mem 3 (List.mem_of_getElem? (i := 236) rfl)
theorem cw_75 : Cond.code yX5_nearestFree cX5_nearestFree 7 (some .int) ∈ lw_tbl := tbC_mem 4 (List.mem_of_getElem? (i := 0) rfl)
theorem cw_76 : Cond.code yX5_lendItems cX5_lendItems 5 none ∈ lw_tbl := tbC_mem 4 (List.mem_of_getElem? (i := 23) rfl)
theorem cw_77 : Cond.code yX5_leaveVan cX5_leaveVan 3 none ∈ lw_tbl := tbC_mem 4 (List.mem_of_getElem? (i := 34) rfl)
theorem cw_78 : Cond.code yX5_boardVan cX5_boardVan 8 none ∈ lw_tbl := tbC_mem 4 (List.mem_of_getElem? (i := 39) rfl)
theorem cw_79 : Cond.code yX5_lineUp cX5_lineUp 3 none ∈ lw_tbl := tbC_mem 4 (List.mem_of_getElem? (i := 45) rfl)
theorem cw_80 : Cond.code yX5_stepIntoLine cX5_stepIntoLine 3 none ∈ lw_tbl := tbC_mem 4 (List.mem_of_getElem? (i := 49) rfl)
theorem cw_81 : Cond.code yX5_goalOf cX5_goalOf 3 (some .int) ∈ lw_tbl := tbC_mem 4 (List.mem_of_getElem? (i := 53) rfl)
theorem cw_82 : Cond.code yX5_lentWithin cX5_lentWithin 3 (some .int) ∈ lw_tbl := tbC_mem 5 (List.mem_of_getElem? (i := 9) rfl)
theorem cw_83 : Cond.code yX5_countFree cX5_countFree 4 (some .int) ∈ lw_tbl := tbC_mem 5 (List.mem_of_getElem? (i := 188) rfl)
theorem cw_84 : Cond.code yX5_countAstray cX5_countAstray 3 (some .int) ∈ lw_tbl := tbC_mem 5 (List.mem_of_getElem? (i := 57) rfl)
theorem cw_85 : Cond.code yX5_countLoans cX5_countLoans 5 (some .int) ∈ lw_tbl := tbC_mem 4 (List.mem_of_getElem? (i := 79) rfl)
theorem cw_86 : Cond.code yX5_balance cX5_balance 4 (some .int) ∈ lw_tbl := tbC_mem 4 (List.mem_of_getElem? (i := 107) rfl)
theorem cw_87 : Cond.code yX5_branchOfLoan cX5_branchOfLoan 2 (some .int) ∈ lw_tbl := tbC_mem 4 (List.mem_of_getElem? (i := 87) rfl)
theorem cw_88 : Cond.code yX5_homeOfLoan cX5_homeOfLoan 3 (some .int) ∈ lw_tbl := tbC_mem 4 (List.mem_of_getElem? (i := 83) rfl)
theorem cw_89 : Cond.code yX6_init cX6_init 1 none ∈ lw_tbl := tbC_mem 1 (List.mem_of_getElem? (i := 24) rfl)
theorem cw_90 : Cond.code yX6_feed cX6_feed 6 (some .int) ∈ lw_tbl := tbC_mem 2 (List.mem_of_getElem? (i := 216) rfl)
theorem cw_91 : Cond.code yX6_text cX6_text 3 (some .int) ∈ lw_tbl := tbC_mem 2 (List.mem_of_getElem? (i := 224) rfl)
theorem cw_92 : Cond.code yX6_fault cX6_fault 2 (some .int) ∈ lw_tbl := tbC_mem 3 (List.mem_of_getElem? (i := 113) rfl)
theorem cw_93 : Cond.code yX6_branch cX6_branch 3 (some .int) ∈ lw_tbl := tbC_mem 5 (List.mem_of_getElem? (i := 82) rfl)
theorem cw_94 : Cond.code yX6_title cX6_title 3 (some .int) ∈ lw_tbl := tbC_mem 5 (List.mem_of_getElem? (i := 179) rfl)
theorem cw_95 : Cond.code yX6_item cX6_item 3 (some .int) ∈ lw_tbl := tbC_mem 5 (List.mem_of_getElem? (i := 195) rfl)
theorem cw_96 : Cond.code yX6_holdOf cX6_holdOf 3 (some .int) ∈ lw_tbl := tbC_mem 5 (List.mem_of_getElem? (i := 207) rfl)
theorem cw_97 : Cond.code yX6_van cX6_van 3 (some .int) ∈ lw_tbl := tbC_mem 3 (List.mem_of_getElem? (i := 117) rfl)
theorem cw_98 : Cond.code yX6_stop cX6_stop 3 (some .int) ∈ lw_tbl := tbC_mem 3 (List.mem_of_getElem? (i := 137) rfl)
theorem cw_99 : Cond.code yX6_hold cX6_hold 3 (some .int) ∈ lw_tbl := tbC_mem 3 (List.mem_of_getElem? (i := 145) rfl)
theorem cw_100 : Cond.code yX6_cancel cX6_cancel 2 (some .boolean) ∈ lw_tbl := tbC_mem 3 (List.mem_of_getElem? (i := 169) rfl)
theorem cw_101 : Cond.code yX6_recall cX6_recall 3 (some .int) ∈ lw_tbl := tbC_mem 3 (List.mem_of_getElem? (i := 185) rfl)
theorem cw_102 : Cond.code yX6_renew cX6_renew 3 (some .int) ∈ lw_tbl := tbC_mem 3 (List.mem_of_getElem? (i := 201) rfl)
theorem cw_103 : Cond.code yX6_days cX6_days 2 (some .int) ∈ lw_tbl := tbC_mem 3 (List.mem_of_getElem? (i := 213) rfl)
theorem cw_104 : Cond.code yX6_undo cX6_undo 1 (some .int) ∈ lw_tbl := tbC_mem 4 (List.mem_of_getElem? (i := 66) rfl)
theorem cw_105 : Cond.code yX6_owed cX6_owed 3 (some .int) ∈ lw_tbl := tbC_mem 4 (List.mem_of_getElem? (i := 74) rfl)
theorem cw_106 : Cond.code yX6_loans cX6_loans 3 (some .int) ∈ lw_tbl := tbC_mem 4 (List.mem_of_getElem? (i := 91) rfl)
theorem cw_107 : Cond.code yX6_lender cX6_lender 3 (some .int) ∈ lw_tbl := tbC_mem 4 (List.mem_of_getElem? (i := 95) rfl)
theorem cw_108 : Cond.code yX6_ranked cX6_ranked 2 (some .int) ∈ lw_tbl := tbC_mem 4 (List.mem_of_getElem? (i := 111) rfl)
theorem cw_109 : Cond.code yX6_log cX6_log 4 (some .int) ∈ lw_tbl := tbC_mem 4 (List.mem_of_getElem? (i := 115) rfl)
theorem cw_110 : Cond.code yX6_queue cX6_queue 5 (some .int) ∈ lw_tbl := tbC_mem 4 (List.mem_of_getElem? (i := 119) rfl)
theorem cw_111 : Cond.code yX6_inVan cX6_inVan 5 (some .int) ∈ lw_tbl := tbC_mem 4 (List.mem_of_getElem? (i := 124) rfl)
theorem cw_112 : Cond.code yX6_waits cX6_waits 3 (some .int) ∈ lw_tbl := tbC_mem 4 (List.mem_of_getElem? (i := 129) rfl)
theorem cw_113 : Cond.code yX6_longest cX6_longest 3 (some .int) ∈ lw_tbl := tbC_mem 4 (List.mem_of_getElem? (i := 134) rfl)
theorem cw_114 : Cond.code yX6_waited cX6_waited 2 (some .int) ∈ lw_tbl := tbC_mem 4 (List.mem_of_getElem? (i := 142) rfl)
theorem cw_115 : Cond.code yX6_meanWait cX6_meanWait 3 (some .int) ∈ lw_tbl := tbC_mem 4 (List.mem_of_getElem? (i := 146) rfl)
theorem cw_116 : Cond.code yX6_nextDue cX6_nextDue 4 (some .int) ∈ lw_tbl := tbC_mem 4 (List.mem_of_getElem? (i := 153) rfl)
theorem cw_117 : Cond.code yX6_given cX6_given 4 (some .int) ∈ lw_tbl := tbC_mem 4 (List.mem_of_getElem? (i := 157) rfl)
theorem cw_118 : Cond.code yX6_arrival cX6_arrival 4 (some .int) ∈ lw_tbl := tbC_mem 4 (List.mem_of_getElem? (i := 162) rfl)
theorem cw_119 : Cond.code yX6_leg cX6_leg 5 (some .int) ∈ lw_tbl := tbC_mem 4 (List.mem_of_getElem? (i := 174) rfl)
theorem cw_120 : Cond.code yX6_legs cX6_legs 4 (some .int) ∈ lw_tbl := tbC_mem 4 (List.mem_of_getElem? (i := 187) rfl)
theorem cw_121 : Cond.code yX6_path cX6_path 6 (some .int) ∈ lw_tbl := tbC_mem 4 (List.mem_of_getElem? (i := 196) rfl)
theorem cw_122 : Cond.code yX6_reach cX6_reach 6 (some .int) ∈ lw_tbl := tbC_mem 4 (List.mem_of_getElem? (i := 200) rfl)
theorem cw_123 : Cond.code yX6_farthest cX6_farthest 6 (some .int) ∈ lw_tbl := tbC_mem 4 (List.mem_of_getElem? (i := 204) rfl)
theorem cw_124 : Cond.code yX6_center cX6_center 6 (some .int) ∈ lw_tbl := tbC_mem 4 (List.mem_of_getElem? (i := 208) rfl)
theorem cw_125 : Cond.code yX6_thereAndBack cX6_thereAndBack 6 (some .int) ∈ lw_tbl := tbC_mem 4 (List.mem_of_getElem? (i := 216) rfl)
theorem cw_126 : Cond.code yX6_bestDay cX6_bestDay 9 (some .int) ∈ lw_tbl := tbC_mem 4 (List.mem_of_getElem? (i := 220) rfl)
theorem cw_127 : Cond.code yX6_meet cX6_meet 5 (some .int) ∈ lw_tbl := tbC_mem 4 (List.mem_of_getElem? (i := 224) rfl)
theorem cw_128 : Cond.code yX6_every cX6_every 6 (some .int) ∈ lw_tbl := tbC_mem 4 (List.mem_of_getElem? (i := 228) rfl)
theorem cw_129 : Cond.code yX6_busiest cX6_busiest 4 (some .int) ∈ lw_tbl := tbC_mem 4 (List.mem_of_getElem? (i := 235) rfl)
theorem cw_130 : Cond.code yX6_lentOn cX6_lentOn 2 (some .int) ∈ lw_tbl := tbC_mem 4 (List.mem_of_getElem? (i := 239) rfl)
theorem cw_131 : Cond.code yX6_ifHold cX6_ifHold 3 (some .int) ∈ lw_tbl := tbC_mem 5 (List.mem_of_getElem? (i := 14) rfl)
theorem cw_132 : Cond.code yX6_ifCancelled cX6_ifCancelled 3 (some .int) ∈ lw_tbl := tbC_mem 5 (List.mem_of_getElem? (i := 18) rfl)
theorem cw_133 : Cond.code yX6_ifNoVan cX6_ifNoVan 3 (some .int) ∈ lw_tbl := tbC_mem 5 (List.mem_of_getElem? (i := 22) rfl)
theorem cw_134 : Cond.code yX6_ifStop cX6_ifStop 5 (some .int) ∈ lw_tbl := tbC_mem 5 (List.mem_of_getElem? (i := 26) rfl)
theorem cw_135 : Cond.code yX6_ifClosed cX6_ifClosed 4 (some .int) ∈ lw_tbl := tbC_mem 5 (List.mem_of_getElem? (i := 30) rfl)
theorem cw_136 : Cond.code yX6_ifPeriod cX6_ifPeriod 4 (some .int) ∈ lw_tbl := tbC_mem 5 (List.mem_of_getElem? (i := 34) rfl)
theorem cw_137 : Cond.code yX6_ifRoom cX6_ifRoom 4 (some .int) ∈ lw_tbl := tbC_mem 5 (List.mem_of_getElem? (i := 38) rfl)
theorem cw_138 : Cond.code yX6_served cX6_served 2 (some .int) ∈ lw_tbl := tbC_mem 5 (List.mem_of_getElem? (i := 45) rfl)
theorem cw_139 : Cond.code yX6_where cX6_where 3 (some .int) ∈ lw_tbl := tbC_mem 5 (List.mem_of_getElem? (i := 49) rfl)
theorem cw_140 : Cond.code yX6_astray cX6_astray 2 (some .int) ∈ lw_tbl := tbC_mem 5 (List.mem_of_getElem? (i := 53) rfl)
theorem cw_141 : Cond.code yX6_visits cX6_visits 5 (some .int) ∈ lw_tbl := tbC_mem 5 (List.mem_of_getElem? (i := 61) rfl)
theorem cw_142 : Cond.code yX6_count cX6_count 2 (some .int) ∈ lw_tbl := tbC_mem 5 (List.mem_of_getElem? (i := 69) rfl)
theorem cw_143 : Cond.code yX6_isWithin cX6_isWithin 3 (some .boolean) ∈ lw_tbl := tbC_mem 3 (List.mem_of_getElem? (i := 216) rfl)
theorem cw_144 : Cond.code yX6_isDay cX6_isDay 1 (some .boolean) ∈ lw_tbl := tbC_mem 4 (List.mem_of_getElem? (i := 165) rfl)
theorem cw_145 : Cond.code yX6_isForetellable cX6_isForetellable 1 (some .boolean) ∈ lw_tbl := tbC_mem 5 (List.mem_of_getElem? (i := 41) rfl)
theorem cw_146 : Cond.code yX6_orAbsent cX6_orAbsent 1 (some .int) ∈ lw_tbl := tbC_mem 4 (List.mem_of_getElem? (i := 169) rfl)
theorem cw_147 : Cond.code yX6_isBranch cX6_isBranch 2 (some .boolean) ∈ lw_tbl := tbC_mem 3 (List.mem_of_getElem? (i := 149) rfl)
theorem cw_148 : Cond.code yX6_isTitle cX6_isTitle 2 (some .boolean) ∈ lw_tbl := tbC_mem 3 (List.mem_of_getElem? (i := 153) rfl)
theorem cw_149 : Cond.code yX6_isItem cX6_isItem 2 (some .boolean) ∈ lw_tbl := tbC_mem 3 (List.mem_of_getElem? (i := 189) rfl)
theorem cw_150 : Cond.code yX6_isVan cX6_isVan 2 (some .boolean) ∈ lw_tbl := tbC_mem 3 (List.mem_of_getElem? (i := 121) rfl)
theorem cw_151 : Cond.code yX6_isStop cX6_isStop 3 (some .boolean) ∈ lw_tbl := tbC_mem 3 (List.mem_of_getElem? (i := 141) rfl)
theorem cw_152 : Cond.code yX6_isHold cX6_isHold 2 (some .boolean) ∈ lw_tbl := tbC_mem 3 (List.mem_of_getElem? (i := 173) rfl)
theorem cw_153 : Cond.code yX6_branchRanked cX6_branchRanked 3 (some .int) ∈ lw_tbl := tbC_mem 4 (List.mem_of_getElem? (i := 99) rfl)
theorem cw_154 : Cond.code yX6_countAhead cX6_countAhead 6 (some .int) ∈ lw_tbl := tbC_mem 4 (List.mem_of_getElem? (i := 103) rfl)
theorem cw_155 : Cond.code yX6_daysToAll cX6_daysToAll 5 (some .int) ∈ lw_tbl := tbC_mem 4 (List.mem_of_getElem? (i := 212) rfl)
theorem cw_156 : Cond.code yX7_init cX7_init 1 none ∈ lw_tbl := tbC_mem 5 (List.mem_of_getElem? (i := 213) rfl)
theorem cw_157 : Cond.code yX7_thrown cX7_thrown 1 (some .int) ∈ lw_tbl := tbC_mem 6 (List.mem_of_getElem? (i := 151) rfl)
theorem cw_158 : Cond.code yX7_isIn cX7_isIn 3 (some .boolean) ∈ lw_tbl := tbC_mem 6 (List.mem_of_getElem? (i := 166) rfl)
theorem cw_159 : Cond.code yX7_ofHold cX7_ofHold 3 (some .int) ∈ lw_tbl := tbC_mem 7 (List.mem_of_getElem? (i := 111) rfl)
theorem cw_160 : Cond.code yX7_setHold cX7_setHold 4 none ∈ lw_tbl := tbC_mem 7 (List.mem_of_getElem? (i := 35) rfl)
theorem cw_161 : Cond.code yX7_ofItem cX7_ofItem 3 (some .int) ∈ lw_tbl := tbC_mem 7 (List.mem_of_getElem? (i := 119) rfl)
theorem cw_162 : Cond.code yX7_setItem cX7_setItem 4 none ∈ lw_tbl := tbC_mem 7 (List.mem_of_getElem? (i := 23) rfl)
theorem cw_163 : Cond.code yX7_puts cX7_puts 4 none ∈ lw_tbl := tbC_mem 7 (List.mem_of_getElem? (i := 19) rfl)
theorem cw_164 : Cond.code yX7_addsHold cX7_addsHold 4 none ∈ lw_tbl := tbC_mem 7 (List.mem_of_getElem? (i := 31) rfl)
theorem cw_165 : Cond.code yX7_four cX7_four 3 none ∈ lw_tbl := tbC_mem 6 (List.mem_of_getElem? (i := 159) rfl)
theorem cw_166 : Cond.code yX7_feed cX7_feed 6 (some .int) ∈ lw_tbl := tbC_mem 6 (List.mem_of_getElem? (i := 155) rfl)
theorem cw_167 : Cond.code yX7_see cX7_see 1 (some .int) ∈ lw_tbl := tbC_mem 6 (List.mem_of_getElem? (i := 178) rfl)
theorem cw_168 : Cond.code yX7_advance cX7_advance 2 none ∈ lw_tbl := tbC_mem 6 (List.mem_of_getElem? (i := 174) rfl)
theorem cw_169 : Cond.code yX7_must cX7_must 3 none ∈ lw_tbl := tbC_mem 6 (List.mem_of_getElem? (i := 199) rfl)
theorem cw_170 : Cond.code yX7_isWord cX7_isWord 2 (some .boolean) ∈ lw_tbl := tbC_mem 6 (List.mem_of_getElem? (i := 187) rfl)
theorem cw_171 : Cond.code yX7_isName cX7_isName 2 (some .boolean) ∈ lw_tbl := tbC_mem 6 (List.mem_of_getElem? (i := 207) rfl)
theorem cw_172 : Cond.code yX7_numberHere cX7_numberHere 4 (some .int) ∈ lw_tbl := tbC_mem 6 (List.mem_of_getElem? (i := 220) rfl)
theorem cw_173 : Cond.code yX7_at cX7_at 4 (some .int) ∈ lw_tbl := tbC_mem 6 (List.mem_of_getElem? (i := 216) rfl)
theorem cw_174 : Cond.code yX7_opens cX7_opens 3 none ∈ lw_tbl := tbC_mem 6 (List.mem_of_getElem? (i := 195) rfl)
theorem cw_175 : Cond.code yX7_freshHere cX7_freshHere 4 (some .int) ∈ lw_tbl := tbC_mem 6 (List.mem_of_getElem? (i := 203) rfl)
theorem cw_176 : Cond.code yX7_toldHere cX7_toldHere 4 (some .int) ∈ lw_tbl := tbC_mem 6 (List.mem_of_getElem? (i := 236) rfl)
theorem cw_177 : Cond.code yX7_branchHere cX7_branchHere 1 (some .int) ∈ lw_tbl := tbC_mem 7 (List.mem_of_getElem? (i := 0) rfl)
theorem cw_178 : Cond.code yX7_titleHere cX7_titleHere 1 (some .int) ∈ lw_tbl := tbC_mem 6 (List.mem_of_getElem? (i := 232) rfl)
theorem cw_179 : Cond.code yX7_readsBranch cX7_readsBranch 3 none ∈ lw_tbl := tbC_mem 6 (List.mem_of_getElem? (i := 191) rfl)
theorem cw_180 : Cond.code yX7_readsTitle cX7_readsTitle 3 none ∈ lw_tbl := tbC_mem 6 (List.mem_of_getElem? (i := 224) rfl)
theorem cw_181 : Cond.code yX7_readsItem cX7_readsItem 3 none ∈ lw_tbl := tbC_mem 6 (List.mem_of_getElem? (i := 228) rfl)
theorem cw_182 : Cond.code yX7_readsVan cX7_readsVan 4 none ∈ lw_tbl := tbC_mem 7 (List.mem_of_getElem? (i := 4) rfl)
theorem cw_183 : Cond.code yX7_readsHold cX7_readsHold 3 none ∈ lw_tbl := tbC_mem 7 (List.mem_of_getElem? (i := 8) rfl)
theorem cw_184 : Cond.code yX7_readsLine cX7_readsLine 1 none ∈ lw_tbl := tbC_mem 6 (List.mem_of_getElem? (i := 182) rfl)
theorem cw_185 : Cond.code yX7_begins cX7_begins 1 none ∈ lw_tbl := tbC_mem 6 (List.mem_of_getElem? (i := 170) rfl)
theorem cw_186 : Cond.code yX7_text cX7_text 2 (some .int) ∈ lw_tbl := tbC_mem 6 (List.mem_of_getElem? (i := 163) rfl)
theorem cw_187 : Cond.code yX7_copies cX7_copies 4 none ∈ lw_tbl := tbC_mem 7 (List.mem_of_getElem? (i := 15) rfl)
theorem cw_188 : Cond.code yX7_becomes cX7_becomes 2 none ∈ lw_tbl := tbC_mem 7 (List.mem_of_getElem? (i := 12) rfl)
theorem cw_189 : Cond.code yX7_freesItem cX7_freesItem 2 none ∈ lw_tbl := tbC_mem 7 (List.mem_of_getElem? (i := 27) rfl)
theorem cw_190 : Cond.code yX7_fault cX7_fault 2 (some .int) ∈ lw_tbl := tbC_mem 7 (List.mem_of_getElem? (i := 39) rfl)
theorem cw_191 : Cond.code yX7_isBranch cX7_isBranch 2 (some .boolean) ∈ lw_tbl := tbC_mem 7 (List.mem_of_getElem? (i := 51) rfl)
theorem cw_192 : Cond.code yX7_isTitle cX7_isTitle 2 (some .boolean) ∈ lw_tbl := tbC_mem 7 (List.mem_of_getElem? (i := 127) rfl)
theorem cw_193 : Cond.code yX7_isItem cX7_isItem 2 (some .boolean) ∈ lw_tbl := tbC_mem 7 (List.mem_of_getElem? (i := 139) rfl)
theorem cw_194 : Cond.code yX7_isHold cX7_isHold 2 (some .boolean) ∈ lw_tbl := tbC_mem 7 (List.mem_of_getElem? (i := 147) rfl)
theorem cw_195 : Cond.code yX7_isVan cX7_isVan 2 (some .boolean) ∈ lw_tbl := tbC_mem 7 (List.mem_of_getElem? (i := 155) rfl)
theorem cw_196 : Cond.code yX7_isShut cX7_isShut 3 (some .boolean) ∈ lw_tbl := tbC_mem 7 (List.mem_of_getElem? (i := 195) rfl)
theorem cw_197 : Cond.code yX7_openFrom cX7_openFrom 3 (some .int) ∈ lw_tbl := tbC_mem 7 (List.mem_of_getElem? (i := 191) rfl)
theorem cw_198 : Cond.code yX7_stopOf cX7_stopOf 3 (some .int) ∈ lw_tbl := tbC_mem 7 (List.mem_of_getElem? (i := 63) rfl)
theorem cw_199 : Cond.code yX7_isFree cX7_isFree 2 (some .boolean) ∈ lw_tbl := tbC_mem 7 (List.mem_of_getElem? (i := 131) rfl)
theorem cw_200 : Cond.code yX7_laysEarly cX7_laysEarly 8 none ∈ lw_tbl := tbC_mem 7 (List.mem_of_getElem? (i := 59) rfl)
theorem cw_201 : Cond.code yX7_arrivalOf cX7_arrivalOf 4 (some .int) ∈ lw_tbl := tbC_mem 7 (List.mem_of_getElem? (i := 55) rfl)
theorem cw_202 : Cond.code yX7_laysLeads cX7_laysLeads 9 none ∈ lw_tbl := tbC_mem 7 (List.mem_of_getElem? (i := 75) rfl)
theorem cw_203 : Cond.code yX7_laysLeg cX7_laysLeg 8 (some .boolean) ∈ lw_tbl := tbC_mem 7 (List.mem_of_getElem? (i := 71) rfl)
theorem cw_204 : Cond.code yX7_isWay cX7_isWay 4 (some .boolean) ∈ lw_tbl := tbC_mem 7 (List.mem_of_getElem? (i := 47) rfl)
theorem cw_205 : Cond.code yX7_arrival cX7_arrival 4 (some .int) ∈ lw_tbl := tbC_mem 7 (List.mem_of_getElem? (i := 43) rfl)
theorem cw_206 : Cond.code yX7_leg cX7_leg 5 (some .int) ∈ lw_tbl := tbC_mem 7 (List.mem_of_getElem? (i := 67) rfl)
theorem cw_207 : Cond.code yX7_legs cX7_legs 7 (some .int) ∈ lw_tbl := tbC_mem 7 (List.mem_of_getElem? (i := 79) rfl)
theorem cw_208 : Cond.code yX7_path cX7_path 9 (some .int) ∈ lw_tbl := tbC_mem 7 (List.mem_of_getElem? (i := 83) rfl)
theorem cw_209 : Cond.code yX7_thereAndBack cX7_thereAndBack 6 (some .int) ∈ lw_tbl := tbC_mem 7 (List.mem_of_getElem? (i := 87) rfl)
theorem cw_210 : Cond.code yX7_bestDay cX7_bestDay 8 (some .int) ∈ lw_tbl := tbC_mem 7 (List.mem_of_getElem? (i := 91) rfl)
theorem cw_211 : Cond.code yX7_reach cX7_reach 6 (some .int) ∈ lw_tbl := tbC_mem 7 (List.mem_of_getElem? (i := 95) rfl)
theorem cw_212 : Cond.code yX7_center cX7_center 7 (some .int) ∈ lw_tbl := tbC_mem 7 (List.mem_of_getElem? (i := 99) rfl)
theorem cw_213 : Cond.code yX7_comesBack cX7_comesBack 3 none ∈ lw_tbl := tbC_mem 7 (List.mem_of_getElem? (i := 211) rfl)
theorem cw_214 : Cond.code yX7_givenTo cX7_givenTo 7 (some .int) ∈ lw_tbl := tbC_mem 7 (List.mem_of_getElem? (i := 219) rfl)
theorem cw_215 : Cond.code yX7_gives cX7_gives 3 none ∈ lw_tbl := tbC_mem 7 (List.mem_of_getElem? (i := 215) rfl)
theorem cw_216 : Cond.code yX7_lends cX7_lends 5 none ∈ lw_tbl := tbC_mem 7 (List.mem_of_getElem? (i := 223) rfl)
theorem cw_217 : Cond.code yX7_inside cX7_inside 4 (some .int) ∈ lw_tbl := tbC_mem 7 (List.mem_of_getElem? (i := 159) rfl)
theorem cw_218 : Cond.code yX7_goal cX7_goal 4 (some .int) ∈ lw_tbl := tbC_mem 7 (List.mem_of_getElem? (i := 235) rfl)
theorem cw_219 : Cond.code yX7_boards cX7_boards 4 none ∈ lw_tbl := tbC_mem 7 (List.mem_of_getElem? (i := 231) rfl)
theorem cw_220 : Cond.code yX7_isAt cX7_isAt 3 (some .boolean) ∈ lw_tbl := tbC_mem 7 (List.mem_of_getElem? (i := 115) rfl)
theorem cw_221 : Cond.code yX7_drives cX7_drives 4 none ∈ lw_tbl := tbC_mem 7 (List.mem_of_getElem? (i := 227) rfl)
theorem cw_222 : Cond.code yX7_passes cX7_passes 2 none ∈ lw_tbl := tbC_mem 7 (List.mem_of_getElem? (i := 207) rfl)
theorem cw_223 : Cond.code yX7_openOf cX7_openOf 5 (some .int) ∈ lw_tbl := tbC_mem 7 (List.mem_of_getElem? (i := 107) rfl)
theorem cw_224 : Cond.code yX7_branch cX7_branch 5 (some .int) ∈ lw_tbl := tbC_mem 7 (List.mem_of_getElem? (i := 103) rfl)
theorem cw_225 : Cond.code yX7_title cX7_title 5 (some .int) ∈ lw_tbl := tbC_mem 7 (List.mem_of_getElem? (i := 123) rfl)
theorem cw_226 : Cond.code yX7_item cX7_item 3 (some .int) ∈ lw_tbl := tbC_mem 7 (List.mem_of_getElem? (i := 135) rfl)
theorem cw_227 : Cond.code yX7_holdOf cX7_holdOf 3 (some .int) ∈ lw_tbl := tbC_mem 7 (List.mem_of_getElem? (i := 143) rfl)
theorem cw_228 : Cond.code yX7_van cX7_van 3 (some .int) ∈ lw_tbl := tbC_mem 7 (List.mem_of_getElem? (i := 151) rfl)
theorem cw_229 : Cond.code yX7_stop cX7_stop 3 (some .int) ∈ lw_tbl := tbC_mem 7 (List.mem_of_getElem? (i := 163) rfl)
theorem cw_230 : Cond.code yX7_keeps cX7_keeps 2 none ∈ lw_tbl := tbC_mem 7 (List.mem_of_getElem? (i := 171) rfl)
theorem cw_231 : Cond.code yX7_hold cX7_hold 3 (some .int) ∈ lw_tbl := tbC_mem 7 (List.mem_of_getElem? (i := 167) rfl)
theorem cw_232 : Cond.code yX7_mayCancel cX7_mayCancel 2 (some .boolean) ∈ lw_tbl := tbC_mem 7 (List.mem_of_getElem? (i := 179) rfl)
theorem cw_233 : Cond.code yX7_cancels cX7_cancels 2 none ∈ lw_tbl := tbC_mem 7 (List.mem_of_getElem? (i := 183) rfl)
theorem cw_234 : Cond.code yX7_cancel cX7_cancel 2 (some .boolean) ∈ lw_tbl := tbC_mem 7 (List.mem_of_getElem? (i := 175) rfl)
theorem cw_235 : Cond.code yX7_recall cX7_recall 3 (some .int) ∈ lw_tbl := tbC_mem 7 (List.mem_of_getElem? (i := 187) rfl)
theorem cw_236 : Cond.code yX7_renew cX7_renew 2 (some .int) ∈ lw_tbl := tbC_mem 7 (List.mem_of_getElem? (i := 199) rfl)
theorem cw_237 : Cond.code yX7_days cX7_days 3 (some .int) ∈ lw_tbl := tbC_mem 7 (List.mem_of_getElem? (i := 203) rfl)
theorem cw_238 : Cond.code yX7_undo cX7_undo 2 (some .int) ∈ lw_tbl := tbC_mem 7 (List.mem_of_getElem? (i := 239) rfl)
theorem cw_239 : Cond.code yX7_balance cX7_balance 3 (some .int) ∈ lw_tbl := tbC_mem 8 (List.mem_of_getElem? (i := 7) rfl)
theorem cw_240 : Cond.code yX7_owed cX7_owed 3 (some .int) ∈ lw_tbl := tbC_mem 8 (List.mem_of_getElem? (i := 3) rfl)
theorem cw_241 : Cond.code yX7_loans cX7_loans 3 (some .int) ∈ lw_tbl := tbC_mem 8 (List.mem_of_getElem? (i := 12) rfl)
theorem cw_242 : Cond.code yX7_queue cX7_queue 5 (some .int) ∈ lw_tbl := tbC_mem 8 (List.mem_of_getElem? (i := 16) rfl)
theorem cw_243 : Cond.code yX7_inVan cX7_inVan 5 (some .int) ∈ lw_tbl := tbC_mem 8 (List.mem_of_getElem? (i := 20) rfl)
theorem cw_244 : Cond.code yX7_waits cX7_waits 5 (some .int) ∈ lw_tbl := tbC_mem 8 (List.mem_of_getElem? (i := 24) rfl)
theorem cw_245 : Cond.code yX7_given cX7_given 3 (some .int) ∈ lw_tbl := tbC_mem 8 (List.mem_of_getElem? (i := 28) rfl)
theorem cw_246 : Cond.code yX7_tries cX7_tries 1 none ∈ lw_tbl := tbC_mem 8 (List.mem_of_getElem? (i := 36) rfl)
theorem cw_247 : Cond.code yX7_returns cX7_returns 1 none ∈ lw_tbl := tbC_mem 8 (List.mem_of_getElem? (i := 44) rfl)
theorem cw_248 : Cond.code yX7_lentAhead cX7_lentAhead 3 (some .int) ∈ lw_tbl := tbC_mem 8 (List.mem_of_getElem? (i := 40) rfl)
theorem cw_249 : Cond.code yX7_lentOn cX7_lentOn 3 (some .int) ∈ lw_tbl := tbC_mem 8 (List.mem_of_getElem? (i := 32) rfl)
theorem cw_250 : Cond.code yX7_ifHold cX7_ifHold 4 (some .int) ∈ lw_tbl := tbC_mem 8 (List.mem_of_getElem? (i := 48) rfl)
theorem cw_251 : Cond.code yX7_ifCancelled cX7_ifCancelled 4 (some .int) ∈ lw_tbl := tbC_mem 8 (List.mem_of_getElem? (i := 52) rfl)
theorem cw_252 : Cond.code yX7_ifNoVan cX7_ifNoVan 4 (some .int) ∈ lw_tbl := tbC_mem 8 (List.mem_of_getElem? (i := 56) rfl)
theorem cw_253 : Cond.code yX7_ifStop cX7_ifStop 7 (some .int) ∈ lw_tbl := tbC_mem 8 (List.mem_of_getElem? (i := 60) rfl)
theorem cw_254 : Cond.code yX7_ifRoom cX7_ifRoom 6 (some .int) ∈ lw_tbl := tbC_mem 8 (List.mem_of_getElem? (i := 64) rfl)
theorem cw_255 : Cond.code yX7_ifClosed cX7_ifClosed 6 (some .int) ∈ lw_tbl := tbC_mem 8 (List.mem_of_getElem? (i := 76) rfl)
theorem cw_256 : Cond.code yX7_ifPeriod cX7_ifPeriod 6 (some .int) ∈ lw_tbl := tbC_mem 8 (List.mem_of_getElem? (i := 80) rfl)
theorem cw_257 : Cond.code yX7_visits cX7_visits 5 (some .int) ∈ lw_tbl := tbC_mem 8 (List.mem_of_getElem? (i := 84) rfl)
theorem cw_258 : Cond.code yX7_astray cX7_astray 4 (some .int) ∈ lw_tbl := tbC_mem 8 (List.mem_of_getElem? (i := 88) rfl)
theorem cw_259 : Cond.code yX7_wasLent cX7_wasLent 2 (some .boolean) ∈ lw_tbl := tbC_mem 8 (List.mem_of_getElem? (i := 72) rfl)
theorem cw_260 : Cond.code yX7_waited cX7_waited 2 (some .int) ∈ lw_tbl := tbC_mem 8 (List.mem_of_getElem? (i := 92) rfl)
theorem cw_261 : Cond.code yX7_meanWait cX7_meanWait 4 (some .int) ∈ lw_tbl := tbC_mem 8 (List.mem_of_getElem? (i := 96) rfl)
theorem cw_262 : Cond.code yX7_isSooner cX7_isSooner 5 (some .boolean) ∈ lw_tbl := tbC_mem 8 (List.mem_of_getElem? (i := 104) rfl)
theorem cw_263 : Cond.code yX7_log cX7_log 6 (some .int) ∈ lw_tbl := tbC_mem 8 (List.mem_of_getElem? (i := 100) rfl)
theorem cw_264 : Cond.code yX7_allOwed cX7_allOwed 4 (some .int) ∈ lw_tbl := tbC_mem 8 (List.mem_of_getElem? (i := 112) rfl)
theorem cw_265 : Cond.code yX7_ranked cX7_ranked 5 (some .int) ∈ lw_tbl := tbC_mem 8 (List.mem_of_getElem? (i := 108) rfl)
theorem cw_266 : Cond.code yX7_busiest cX7_busiest 4 (some .int) ∈ lw_tbl := tbC_mem 8 (List.mem_of_getElem? (i := 116) rfl)
theorem cw_267 : Cond.code yX7_where cX7_where 4 (some .int) ∈ lw_tbl := tbC_mem 8 (List.mem_of_getElem? (i := 120) rfl)
theorem cw_268 : Cond.code yX7_served cX7_served 2 (some .int) ∈ lw_tbl := tbC_mem 8 (List.mem_of_getElem? (i := 124) rfl)
theorem cw_269 : Cond.code yX7_servedIn cX7_servedIn 4 (some .int) ∈ lw_tbl := tbC_mem 8 (List.mem_of_getElem? (i := 68) rfl)
theorem cw_270 : Cond.code yX7_meet cX7_meet 4 (some .int) ∈ lw_tbl := tbC_mem 8 (List.mem_of_getElem? (i := 128) rfl)
theorem cw_271 : Cond.code yX7_every cX7_every 6 (some .int) ∈ lw_tbl := tbC_mem 8 (List.mem_of_getElem? (i := 132) rfl)
theorem cw_272 : Cond.code yX7_farthest cX7_farthest 5 (some .int) ∈ lw_tbl := tbC_mem 8 (List.mem_of_getElem? (i := 136) rfl)
theorem cw_273 : Cond.code yX7_longest cX7_longest 4 (some .int) ∈ lw_tbl := tbC_mem 8 (List.mem_of_getElem? (i := 140) rfl)
theorem cw_274 : Cond.code yX7_lender cX7_lender 6 (some .int) ∈ lw_tbl := tbC_mem 8 (List.mem_of_getElem? (i := 144) rfl)
theorem cw_275 : Cond.code yX7_nextDue cX7_nextDue 4 (some .int) ∈ lw_tbl := tbC_mem 8 (List.mem_of_getElem? (i := 148) rfl)
theorem cw_276 : Cond.code yX7_inState cX7_inState 4 (some .int) ∈ lw_tbl := tbC_mem 8 (List.mem_of_getElem? (i := 156) rfl)
theorem cw_277 : Cond.code yX7_count cX7_count 2 (some .int) ∈ lw_tbl := tbC_mem 8 (List.mem_of_getElem? (i := 152) rfl)
theorem cw_278 : Cond.code yJ9_floorDiv_7cf53 cJ9_floorDiv_7cf53 3 (some .int) ∈ lw_tbl := tbC_mem 4 (List.mem_of_getElem? (i := 149) rfl)
theorem cw_279 : Cond.code yJ9_max_7cf53 cJ9_max_7cf53 2 (some .int) ∈ lw_tbl := tbC_mem 4 (List.mem_of_getElem? (i := 231) rfl)
theorem cw_280 : Cond.code yJ9_min_7cf53 cJ9_min_7cf53 2 (some .int) ∈ lw_tbl := tbC_mem 2 (List.mem_of_getElem? (i := 236) rfl)
theorem cwr_0 : ∀ r ∈ (mTab.drop 0).take 40, Cond.code r.1 r.2.1 r.2.2.1 r.2.2.2.1 ∈ lw_tbl := List.forall_mem_cons.mpr ⟨cw_0, List.forall_mem_cons.mpr ⟨cw_1, List.forall_mem_cons.mpr ⟨cw_2, List.forall_mem_cons.mpr ⟨cw_3, List.forall_mem_cons.mpr ⟨cw_4, List.forall_mem_cons.mpr ⟨cw_5, List.forall_mem_cons.mpr ⟨cw_6, List.forall_mem_cons.mpr ⟨cw_7, List.forall_mem_cons.mpr ⟨cw_8, List.forall_mem_cons.mpr ⟨cw_9, List.forall_mem_cons.mpr ⟨cw_10, List.forall_mem_cons.mpr ⟨cw_11, List.forall_mem_cons.mpr ⟨cw_12, List.forall_mem_cons.mpr ⟨cw_13, List.forall_mem_cons.mpr ⟨cw_14, List.forall_mem_cons.mpr ⟨cw_15, List.forall_mem_cons.mpr ⟨cw_16, List.forall_mem_cons.mpr ⟨cw_17, List.forall_mem_cons.mpr ⟨cw_18, List.forall_mem_cons.mpr ⟨cw_19, List.forall_mem_cons.mpr ⟨cw_20, List.forall_mem_cons.mpr ⟨cw_21, List.forall_mem_cons.mpr ⟨cw_22, List.forall_mem_cons.mpr ⟨cw_23, List.forall_mem_cons.mpr ⟨cw_24, List.forall_mem_cons.mpr ⟨cw_25, List.forall_mem_cons.mpr ⟨cw_26, List.forall_mem_cons.mpr ⟨cw_27, List.forall_mem_cons.mpr ⟨cw_28, List.forall_mem_cons.mpr ⟨cw_29, List.forall_mem_cons.mpr ⟨cw_30, List.forall_mem_cons.mpr ⟨cw_31, List.forall_mem_cons.mpr ⟨cw_32, List.forall_mem_cons.mpr ⟨cw_33, List.forall_mem_cons.mpr ⟨cw_34, List.forall_mem_cons.mpr ⟨cw_35, List.forall_mem_cons.mpr ⟨cw_36, List.forall_mem_cons.mpr ⟨cw_37, List.forall_mem_cons.mpr ⟨cw_38, List.forall_mem_cons.mpr ⟨cw_39, fun _ h => absurd h List.not_mem_nil⟩⟩⟩⟩⟩⟩⟩⟩⟩⟩⟩⟩⟩⟩⟩⟩⟩⟩⟩⟩⟩⟩⟩⟩⟩⟩⟩⟩⟩⟩⟩⟩⟩⟩⟩⟩⟩⟩⟩⟩
theorem cwr_40 : ∀ r ∈ (mTab.drop 40).take 40, Cond.code r.1 r.2.1 r.2.2.1 r.2.2.2.1 ∈ lw_tbl := List.forall_mem_cons.mpr ⟨cw_40, List.forall_mem_cons.mpr ⟨cw_41, List.forall_mem_cons.mpr ⟨cw_42, List.forall_mem_cons.mpr ⟨cw_43, List.forall_mem_cons.mpr ⟨cw_44, List.forall_mem_cons.mpr ⟨cw_45, List.forall_mem_cons.mpr ⟨cw_46, List.forall_mem_cons.mpr ⟨cw_47, List.forall_mem_cons.mpr ⟨cw_48, List.forall_mem_cons.mpr ⟨cw_49, List.forall_mem_cons.mpr ⟨cw_50, List.forall_mem_cons.mpr ⟨cw_51, List.forall_mem_cons.mpr ⟨cw_52, List.forall_mem_cons.mpr ⟨cw_53, List.forall_mem_cons.mpr ⟨cw_54, List.forall_mem_cons.mpr ⟨cw_55, List.forall_mem_cons.mpr ⟨cw_56, List.forall_mem_cons.mpr ⟨cw_57, List.forall_mem_cons.mpr ⟨cw_58, List.forall_mem_cons.mpr ⟨cw_59, List.forall_mem_cons.mpr ⟨cw_60, List.forall_mem_cons.mpr ⟨cw_61, List.forall_mem_cons.mpr ⟨cw_62, List.forall_mem_cons.mpr ⟨cw_63, List.forall_mem_cons.mpr ⟨cw_64, List.forall_mem_cons.mpr ⟨cw_65, List.forall_mem_cons.mpr ⟨cw_66, List.forall_mem_cons.mpr ⟨cw_67, List.forall_mem_cons.mpr ⟨cw_68, List.forall_mem_cons.mpr ⟨cw_69, List.forall_mem_cons.mpr ⟨cw_70, List.forall_mem_cons.mpr ⟨cw_71, List.forall_mem_cons.mpr ⟨cw_72, List.forall_mem_cons.mpr ⟨cw_73, List.forall_mem_cons.mpr ⟨cw_74, List.forall_mem_cons.mpr ⟨cw_75, List.forall_mem_cons.mpr ⟨cw_76, List.forall_mem_cons.mpr ⟨cw_77, List.forall_mem_cons.mpr ⟨cw_78, List.forall_mem_cons.mpr ⟨cw_79, fun _ h => absurd h List.not_mem_nil⟩⟩⟩⟩⟩⟩⟩⟩⟩⟩⟩⟩⟩⟩⟩⟩⟩⟩⟩⟩⟩⟩⟩⟩⟩⟩⟩⟩⟩⟩⟩⟩⟩⟩⟩⟩⟩⟩⟩⟩
theorem cwr_80 : ∀ r ∈ (mTab.drop 80).take 40, Cond.code r.1 r.2.1 r.2.2.1 r.2.2.2.1 ∈ lw_tbl := List.forall_mem_cons.mpr ⟨cw_80, List.forall_mem_cons.mpr ⟨cw_81, List.forall_mem_cons.mpr ⟨cw_82, List.forall_mem_cons.mpr ⟨cw_83, List.forall_mem_cons.mpr ⟨cw_84, List.forall_mem_cons.mpr ⟨cw_85, List.forall_mem_cons.mpr ⟨cw_86, List.forall_mem_cons.mpr ⟨cw_87, List.forall_mem_cons.mpr ⟨cw_88, List.forall_mem_cons.mpr ⟨cw_89, List.forall_mem_cons.mpr ⟨cw_90, List.forall_mem_cons.mpr ⟨cw_91, List.forall_mem_cons.mpr ⟨cw_92, List.forall_mem_cons.mpr ⟨cw_93, List.forall_mem_cons.mpr ⟨cw_94, List.forall_mem_cons.mpr ⟨cw_95, List.forall_mem_cons.mpr ⟨cw_96, List.forall_mem_cons.mpr ⟨cw_97, List.forall_mem_cons.mpr ⟨cw_98, List.forall_mem_cons.mpr ⟨cw_99, List.forall_mem_cons.mpr ⟨cw_100, List.forall_mem_cons.mpr ⟨cw_101, List.forall_mem_cons.mpr ⟨cw_102, List.forall_mem_cons.mpr ⟨cw_103, List.forall_mem_cons.mpr ⟨cw_104, List.forall_mem_cons.mpr ⟨cw_105, List.forall_mem_cons.mpr ⟨cw_106, List.forall_mem_cons.mpr ⟨cw_107, List.forall_mem_cons.mpr ⟨cw_108, List.forall_mem_cons.mpr ⟨cw_109, List.forall_mem_cons.mpr ⟨cw_110, List.forall_mem_cons.mpr ⟨cw_111, List.forall_mem_cons.mpr ⟨cw_112, List.forall_mem_cons.mpr ⟨cw_113, List.forall_mem_cons.mpr ⟨cw_114, List.forall_mem_cons.mpr ⟨cw_115, List.forall_mem_cons.mpr ⟨cw_116, List.forall_mem_cons.mpr ⟨cw_117, List.forall_mem_cons.mpr ⟨cw_118, List.forall_mem_cons.mpr ⟨cw_119, fun _ h => absurd h List.not_mem_nil⟩⟩⟩⟩⟩⟩⟩⟩⟩⟩⟩⟩⟩⟩⟩⟩⟩⟩⟩⟩⟩⟩⟩⟩⟩⟩⟩⟩⟩⟩⟩⟩⟩⟩⟩⟩⟩⟩⟩⟩
theorem cwr_120 : ∀ r ∈ (mTab.drop 120).take 40, Cond.code r.1 r.2.1 r.2.2.1 r.2.2.2.1 ∈ lw_tbl := List.forall_mem_cons.mpr ⟨cw_120, List.forall_mem_cons.mpr ⟨cw_121, List.forall_mem_cons.mpr ⟨cw_122, List.forall_mem_cons.mpr ⟨cw_123, List.forall_mem_cons.mpr ⟨cw_124, List.forall_mem_cons.mpr ⟨cw_125, List.forall_mem_cons.mpr ⟨cw_126, List.forall_mem_cons.mpr ⟨cw_127, List.forall_mem_cons.mpr ⟨cw_128, List.forall_mem_cons.mpr ⟨cw_129, List.forall_mem_cons.mpr ⟨cw_130, List.forall_mem_cons.mpr ⟨cw_131, List.forall_mem_cons.mpr ⟨cw_132, List.forall_mem_cons.mpr ⟨cw_133, List.forall_mem_cons.mpr ⟨cw_134, List.forall_mem_cons.mpr ⟨cw_135, List.forall_mem_cons.mpr ⟨cw_136, List.forall_mem_cons.mpr ⟨cw_137, List.forall_mem_cons.mpr ⟨cw_138, List.forall_mem_cons.mpr ⟨cw_139, List.forall_mem_cons.mpr ⟨cw_140, List.forall_mem_cons.mpr ⟨cw_141, List.forall_mem_cons.mpr ⟨cw_142, List.forall_mem_cons.mpr ⟨cw_143, List.forall_mem_cons.mpr ⟨cw_144, List.forall_mem_cons.mpr ⟨cw_145, List.forall_mem_cons.mpr ⟨cw_146, List.forall_mem_cons.mpr ⟨cw_147, List.forall_mem_cons.mpr ⟨cw_148, List.forall_mem_cons.mpr ⟨cw_149, List.forall_mem_cons.mpr ⟨cw_150, List.forall_mem_cons.mpr ⟨cw_151, List.forall_mem_cons.mpr ⟨cw_152, List.forall_mem_cons.mpr ⟨cw_153, List.forall_mem_cons.mpr ⟨cw_154, List.forall_mem_cons.mpr ⟨cw_155, List.forall_mem_cons.mpr ⟨cw_156, List.forall_mem_cons.mpr ⟨cw_157, List.forall_mem_cons.mpr ⟨cw_158, List.forall_mem_cons.mpr ⟨cw_159, fun _ h => absurd h List.not_mem_nil⟩⟩⟩⟩⟩⟩⟩⟩⟩⟩⟩⟩⟩⟩⟩⟩⟩⟩⟩⟩⟩⟩⟩⟩⟩⟩⟩⟩⟩⟩⟩⟩⟩⟩⟩⟩⟩⟩⟩⟩
theorem cwr_160 : ∀ r ∈ (mTab.drop 160).take 40, Cond.code r.1 r.2.1 r.2.2.1 r.2.2.2.1 ∈ lw_tbl := List.forall_mem_cons.mpr ⟨cw_160, List.forall_mem_cons.mpr ⟨cw_161, List.forall_mem_cons.mpr ⟨cw_162, List.forall_mem_cons.mpr ⟨cw_163, List.forall_mem_cons.mpr ⟨cw_164, List.forall_mem_cons.mpr ⟨cw_165, List.forall_mem_cons.mpr ⟨cw_166, List.forall_mem_cons.mpr ⟨cw_167, List.forall_mem_cons.mpr ⟨cw_168, List.forall_mem_cons.mpr ⟨cw_169, List.forall_mem_cons.mpr ⟨cw_170, List.forall_mem_cons.mpr ⟨cw_171, List.forall_mem_cons.mpr ⟨cw_172, List.forall_mem_cons.mpr ⟨cw_173, List.forall_mem_cons.mpr ⟨cw_174, List.forall_mem_cons.mpr ⟨cw_175, List.forall_mem_cons.mpr ⟨cw_176, List.forall_mem_cons.mpr ⟨cw_177, List.forall_mem_cons.mpr ⟨cw_178, List.forall_mem_cons.mpr ⟨cw_179, List.forall_mem_cons.mpr ⟨cw_180, List.forall_mem_cons.mpr ⟨cw_181, List.forall_mem_cons.mpr ⟨cw_182, List.forall_mem_cons.mpr ⟨cw_183, List.forall_mem_cons.mpr ⟨cw_184, List.forall_mem_cons.mpr ⟨cw_185, List.forall_mem_cons.mpr ⟨cw_186, List.forall_mem_cons.mpr ⟨cw_187, List.forall_mem_cons.mpr ⟨cw_188, List.forall_mem_cons.mpr ⟨cw_189, List.forall_mem_cons.mpr ⟨cw_190, List.forall_mem_cons.mpr ⟨cw_191, List.forall_mem_cons.mpr ⟨cw_192, List.forall_mem_cons.mpr ⟨cw_193, List.forall_mem_cons.mpr ⟨cw_194, List.forall_mem_cons.mpr ⟨cw_195, List.forall_mem_cons.mpr ⟨cw_196, List.forall_mem_cons.mpr ⟨cw_197, List.forall_mem_cons.mpr ⟨cw_198, List.forall_mem_cons.mpr ⟨cw_199, fun _ h => absurd h List.not_mem_nil⟩⟩⟩⟩⟩⟩⟩⟩⟩⟩⟩⟩⟩⟩⟩⟩⟩⟩⟩⟩⟩⟩⟩⟩⟩⟩⟩⟩⟩⟩⟩⟩⟩⟩⟩⟩⟩⟩⟩⟩
theorem cwr_200 : ∀ r ∈ (mTab.drop 200).take 40, Cond.code r.1 r.2.1 r.2.2.1 r.2.2.2.1 ∈ lw_tbl := List.forall_mem_cons.mpr ⟨cw_200, List.forall_mem_cons.mpr ⟨cw_201, List.forall_mem_cons.mpr ⟨cw_202, List.forall_mem_cons.mpr ⟨cw_203, List.forall_mem_cons.mpr ⟨cw_204, List.forall_mem_cons.mpr ⟨cw_205, List.forall_mem_cons.mpr ⟨cw_206, List.forall_mem_cons.mpr ⟨cw_207, List.forall_mem_cons.mpr ⟨cw_208, List.forall_mem_cons.mpr ⟨cw_209, List.forall_mem_cons.mpr ⟨cw_210, List.forall_mem_cons.mpr ⟨cw_211, List.forall_mem_cons.mpr ⟨cw_212, List.forall_mem_cons.mpr ⟨cw_213, List.forall_mem_cons.mpr ⟨cw_214, List.forall_mem_cons.mpr ⟨cw_215, List.forall_mem_cons.mpr ⟨cw_216, List.forall_mem_cons.mpr ⟨cw_217, List.forall_mem_cons.mpr ⟨cw_218, List.forall_mem_cons.mpr ⟨cw_219, List.forall_mem_cons.mpr ⟨cw_220, List.forall_mem_cons.mpr ⟨cw_221, List.forall_mem_cons.mpr ⟨cw_222, List.forall_mem_cons.mpr ⟨cw_223, List.forall_mem_cons.mpr ⟨cw_224, List.forall_mem_cons.mpr ⟨cw_225, List.forall_mem_cons.mpr ⟨cw_226, List.forall_mem_cons.mpr ⟨cw_227, List.forall_mem_cons.mpr ⟨cw_228, List.forall_mem_cons.mpr ⟨cw_229, List.forall_mem_cons.mpr ⟨cw_230, List.forall_mem_cons.mpr ⟨cw_231, List.forall_mem_cons.mpr ⟨cw_232, List.forall_mem_cons.mpr ⟨cw_233, List.forall_mem_cons.mpr ⟨cw_234, List.forall_mem_cons.mpr ⟨cw_235, List.forall_mem_cons.mpr ⟨cw_236, List.forall_mem_cons.mpr ⟨cw_237, List.forall_mem_cons.mpr ⟨cw_238, List.forall_mem_cons.mpr ⟨cw_239, fun _ h => absurd h List.not_mem_nil⟩⟩⟩⟩⟩⟩⟩⟩⟩⟩⟩⟩⟩⟩⟩⟩⟩⟩⟩⟩⟩⟩⟩⟩⟩⟩⟩⟩⟩⟩⟩⟩⟩⟩⟩⟩⟩⟩⟩⟩
theorem cwr_240 : ∀ r ∈ (mTab.drop 240).take 40, Cond.code r.1 r.2.1 r.2.2.1 r.2.2.2.1 ∈ lw_tbl := List.forall_mem_cons.mpr ⟨cw_240, List.forall_mem_cons.mpr ⟨cw_241, List.forall_mem_cons.mpr ⟨cw_242, List.forall_mem_cons.mpr ⟨cw_243, List.forall_mem_cons.mpr ⟨cw_244, List.forall_mem_cons.mpr ⟨cw_245, List.forall_mem_cons.mpr ⟨cw_246, List.forall_mem_cons.mpr ⟨cw_247, List.forall_mem_cons.mpr ⟨cw_248, List.forall_mem_cons.mpr ⟨cw_249, List.forall_mem_cons.mpr ⟨cw_250, List.forall_mem_cons.mpr ⟨cw_251, List.forall_mem_cons.mpr ⟨cw_252, List.forall_mem_cons.mpr ⟨cw_253, List.forall_mem_cons.mpr ⟨cw_254, List.forall_mem_cons.mpr ⟨cw_255, List.forall_mem_cons.mpr ⟨cw_256, List.forall_mem_cons.mpr ⟨cw_257, List.forall_mem_cons.mpr ⟨cw_258, List.forall_mem_cons.mpr ⟨cw_259, List.forall_mem_cons.mpr ⟨cw_260, List.forall_mem_cons.mpr ⟨cw_261, List.forall_mem_cons.mpr ⟨cw_262, List.forall_mem_cons.mpr ⟨cw_263, List.forall_mem_cons.mpr ⟨cw_264, List.forall_mem_cons.mpr ⟨cw_265, List.forall_mem_cons.mpr ⟨cw_266, List.forall_mem_cons.mpr ⟨cw_267, List.forall_mem_cons.mpr ⟨cw_268, List.forall_mem_cons.mpr ⟨cw_269, List.forall_mem_cons.mpr ⟨cw_270, List.forall_mem_cons.mpr ⟨cw_271, List.forall_mem_cons.mpr ⟨cw_272, List.forall_mem_cons.mpr ⟨cw_273, List.forall_mem_cons.mpr ⟨cw_274, List.forall_mem_cons.mpr ⟨cw_275, List.forall_mem_cons.mpr ⟨cw_276, List.forall_mem_cons.mpr ⟨cw_277, List.forall_mem_cons.mpr ⟨cw_278, List.forall_mem_cons.mpr ⟨cw_279, fun _ h => absurd h List.not_mem_nil⟩⟩⟩⟩⟩⟩⟩⟩⟩⟩⟩⟩⟩⟩⟩⟩⟩⟩⟩⟩⟩⟩⟩⟩⟩⟩⟩⟩⟩⟩⟩⟩⟩⟩⟩⟩⟩⟩⟩⟩
theorem cwr_280 : ∀ r ∈ (mTab.drop 280).take 1, Cond.code r.1 r.2.1 r.2.2.1 r.2.2.2.1 ∈ lw_tbl := List.forall_mem_cons.mpr ⟨cw_280, fun _ h => absurd h List.not_mem_nil⟩
/-- field links: entry, class, field, nest, place -/
def lF : Nat → List (Nat × Nat × Nat × Nat × Nat × Nat) := fun o => match o with
  | 0 => [(11, 0, 0, 0, (2, 180)), (17, 0, 2, 0, (2, 182)), (21, 0, 1, 0, (2, 181))]
  | 1 => [(9, 1, 8, 0, (1, 190)), (15, 1, 9, 0, (1, 193)), (18, 1, 10, 0, (1, 197)), (21, 1, 11, 0, (1, 201)), (24, 1, 12, 0, (1, 206)), (27, 1, 13, 0, (1, 210)), (32, 1, 14, 0, (1, 214)), (35, 1, 15, 0, (1, 217)), (38, 1, 16, 0, (1, 220)), (44, 1, 0, 0, (1, 162)), (48, 1, 1, 0, (1, 165)), (51, 1, 2, 0, (1, 169)), (54, 1, 3, 0, (1, 173)), (57, 1, 4, 0, (1, 176)), (60, 1, 5, 0, (1, 181)), (63, 1, 6, 0, (1, 184)), (66, 1, 7, 0, (1, 187))]
  | 2 => [(31, 2, 0, 0, (1, 93)), (35, 2, 1, 0, (1, 94)), (38, 2, 2, 0, (1, 95)), (41, 2, 3, 0, (1, 96)), (44, 2, 6, 0, (1, 101)), (48, 2, 4, 0, (1, 98)), (55, 2, 5, 0, (1, 99)), (58, 2, 11, 0, (1, 107)), (89, 2, 14, 0, (1, 110)), (98, 2, 7, 0, (1, 103)), (102, 2, 8, 0, (1, 104)), (105, 2, 9, 0, (1, 105)), (114, 2, 10, 0, (1, 106)), (120, 1, 0, 1, (1, 164)), (123, 1, 1, 1, (1, 167)), (137, 1, 8, 1, (1, 192)), (140, 1, 2, 1, (1, 170)), (143, 1, 9, 1, (1, 195)), (146, 1, 3, 1, (1, 174)), (149, 1, 10, 1, (1, 199)), (155, 1, 11, 1, (1, 204)), (158, 1, 5, 1, (1, 183)), (161, 1, 15, 1, (1, 219)), (164, 1, 16, 1, (1, 222)), (167, 1, 4, 1, (1, 179)), (170, 1, 12, 1, (1, 208)), (173, 1, 13, 1, (1, 213)), (182, 1, 14, 1, (1, 216)), (186, 1, 6, 1, (1, 185)), (188, 1, 7, 1, (1, 188)), (190, 2, 13, 0, (1, 109)), (193, 2, 12, 0, (1, 108))]
  | 3 => [(9, 3, 4, 0, (2, 35)), (15, 3, 5, 0, (2, 38)), (18, 3, 6, 0, (2, 41)), (21, 3, 7, 0, (2, 44)), (24, 3, 8, 0, (2, 47)), (27, 3, 9, 0, (2, 49)), (30, 3, 10, 0, (2, 52)), (33, 3, 11, 0, (2, 55)), (36, 3, 12, 0, (2, 58)), (39, 3, 13, 0, (2, 61)), (42, 3, 14, 0, (2, 64)), (45, 3, 15, 0, (2, 67)), (48, 3, 16, 0, (2, 69)), (51, 3, 17, 0, (2, 72)), (54, 3, 18, 0, (2, 75)), (57, 3, 0, 0, (2, 24)), (61, 3, 3, 0, (2, 32)), (64, 1, 3, 1, (1, 172)), (69, 3, 1, 0, (2, 27)), (70, 1, 11, 1, (1, 202)), (77, 3, 2, 0, (2, 29)), (80, 1, 5, 1, (1, 182)), (81, 1, 15, 1, (1, 218)), (82, 1, 16, 1, (1, 221))]
  | 4 => [(9, 4, 1, 0, (2, 127)), (15, 4, 2, 0, (2, 128)), (18, 4, 3, 0, (2, 129)), (21, 4, 0, 0, (2, 126)), (32, 1, 1, 1, (1, 166)), (38, 1, 4, 1, (1, 177)), (45, 1, 13, 1, (1, 211)), (57, 4, 4, 0, (2, 130)), (60, 4, 5, 0, (2, 131)), (63, 4, 6, 0, (2, 132)), (66, 4, 7, 0, (2, 133))]
  | 5 => [(12, 5, 0, 0, (2, 151)), (21, 5, 1, 0, (2, 153)), (30, 5, 2, 0, (2, 155)), (34, 5, 3, 0, (2, 157)), (62, 1, 4, 1, (1, 178)), (73, 3, 0, 1, (2, 25)), (76, 3, 1, 1, (2, 28)), (79, 3, 4, 1, (2, 36)), (82, 3, 7, 1, (2, 45)), (88, 3, 2, 1, (2, 30)), (91, 3, 13, 1, (2, 62)), (94, 3, 12, 1, (2, 59)), (97, 3, 11, 1, (2, 56)), (109, 1, 10, 1, (1, 200)), (116, 3, 5, 1, (2, 40)), (123, 3, 14, 1, (2, 66)), (134, 1, 9, 1, (1, 196)), (144, 3, 10, 1, (2, 54)), (147, 3, 9, 1, (2, 51)), (156, 1, 12, 1, (1, 209)), (165, 5, 4, 0, (2, 159)), (183, 1, 11, 1, (1, 205)), (186, 3, 6, 1, (2, 43)), (192, 3, 16, 1, (2, 71)), (195, 3, 3, 1, (2, 33)), (204, 3, 17, 1, (2, 73))]
  | 6 => [(10, 6, 0, 0, (2, 191)), (19, 6, 1, 0, (2, 192)), (23, 6, 2, 0, (2, 193)), (29, 6, 3, 0, (2, 194)), (33, 5, 0, 1, (2, 152)), (37, 6, 4, 0, (2, 195)), (38, 5, 1, 1, (2, 154)), (42, 6, 5, 0, (2, 196)), (43, 5, 2, 1, (2, 156)), (47, 6, 6, 0, (2, 197)), (48, 2, 4, 1, (1, 97)), (72, 1, 0, 1, (1, 163)), (75, 2, 5, 1, (1, 100)), (78, 2, 6, 1, (1, 102)), (92, 1, 8, 1, (1, 191)), (119, 1, 9, 1, (1, 194)), (136, 1, 10, 1, (1, 198)), (139, 1, 11, 1, (1, 203)), (142, 3, 4, 1, (2, 37)), (144, 3, 5, 1, (2, 39)), (147, 3, 6, 1, (2, 42)), (150, 3, 7, 1, (2, 46)), (153, 3, 8, 1, (2, 48)), (156, 3, 9, 1, (2, 50)), (159, 3, 10, 1, (2, 53)), (170, 3, 11, 1, (2, 57)), (173, 3, 12, 1, (2, 60)), (176, 3, 13, 1, (2, 63)), (179, 3, 14, 1, (2, 65)), (182, 3, 15, 1, (2, 68)), (185, 3, 16, 1, (2, 70)), (191, 1, 12, 1, (1, 207)), (194, 1, 13, 1, (1, 212)), (197, 3, 0, 1, (2, 26)), (203, 3, 18, 1, (2, 76)), (210, 1, 14, 1, (1, 215)), (214, 3, 2, 1, (2, 31)), (230, 1, 6, 1, (1, 186)), (236, 1, 7, 1, (1, 189)), (246, 0, 2, 1, (2, 183)), (256, 1, 1, 1, (1, 168)), (265, 3, 3, 1, (2, 34)), (268, 3, 17, 1, (2, 74)), (274, 1, 3, 1, (1, 175)), (283, 5, 4, 1, (2, 160)), (286, 5, 3, 1, (2, 158)), (329, 1, 4, 1, (1, 180)), (348, 1, 2, 1, (1, 171))]
  | 7 => [(7, 7, 2, 0, (5, 217)), (13, 7, 4, 0, (5, 219)), (16, 7, 6, 0, (5, 221)), (19, 7, 7, 0, (5, 222)), (22, 7, 9, 0, (5, 224)), (25, 7, 10, 0, (5, 225)), (28, 7, 11, 0, (5, 226)), (31, 7, 13, 0, (5, 228)), (35, 7, 14, 0, (5, 229)), (38, 7, 15, 0, (5, 230)), (41, 7, 16, 0, (5, 231)), (44, 7, 17, 0, (5, 232)), (47, 7, 19, 0, (5, 234)), (50, 7, 20, 0, (5, 235)), (54, 7, 28, 0, (6, 3)), (57, 7, 30, 0, (6, 5)), (60, 7, 31, 0, (6, 6)), (63, 7, 33, 0, (6, 8)), (66, 7, 34, 0, (6, 9)), (69, 7, 36, 0, (6, 11)), (72, 7, 37, 0, (6, 12)), (75, 7, 39, 0, (6, 14)), (78, 7, 40, 0, (6, 15)), (81, 7, 41, 0, (6, 16)), (84, 7, 43, 0, (6, 18)), (87, 7, 44, 0, (6, 19)), (90, 7, 51, 0, (6, 26)), (93, 7, 52, 0, (6, 27)), (97, 7, 0, 0, (5, 215)), (107, 7, 21, 0, (5, 236)), (114, 7, 23, 0, (5, 238)), (117, 7, 22, 0, (5, 237)), (124, 7, 24, 0, (5, 239)), (127, 7, 26, 0, (6, 1)), (130, 7, 25, 0, (6, 0)), (137, 7, 29, 0, (6, 4)), (141, 7, 27, 0, (6, 2)), (166, 7, 32, 0, (6, 7)), (173, 7, 35, 0, (6, 10)), (190, 7, 38, 0, (6, 13)), (199, 7, 42, 0, (6, 17)), (202, 7, 45, 0, (6, 20)), (220, 7, 48, 0, (6, 23)), (223, 7, 46, 0, (6, 21)), (226, 7, 49, 0, (6, 24)), (229, 7, 47, 0, (6, 22)), (232, 7, 50, 0, (6, 25)), (244, 7, 1, 0, (5, 216)), (247, 7, 3, 0, (5, 218)), (250, 7, 5, 0, (5, 220)), (253, 7, 8, 0, (5, 223)), (256, 7, 12, 0, (5, 227)), (273, 7, 18, 0, (5, 233)), (296, 7, 53, 0, (6, 28)), (299, 7, 54, 0, (6, 29)), (302, 7, 55, 0, (6, 30)), (305, 7, 56, 0, (6, 31))]
  | 8 => []
  | _ => []
/-- method links: entry, method, kind (0 virtual, 1 of a nest mate, 2 static, 3 init, 4 init of a nest mate), place -/
def lM : Nat → List (Nat × Nat × Nat × Nat × Nat) := fun o => match o with
  | 0 => [(24, 39, 4, (3, 158)), (25, 41, 1, (3, 159)), (29, 280, 2, (3, 164))]
  | 1 => [(41, 5, 0, (1, 158)), (75, 8, 0, (3, 194))]
  | 2 => [(11, 35, 2, (1, 35)), (51, 15, 0, (2, 229)), (61, 17, 0, (3, 22)), (64, 18, 0, (3, 46)), (67, 19, 0, (3, 50)), (70, 21, 0, (3, 58)), (73, 20, 0, (3, 66)), (76, 23, 0, (3, 70)), (79, 24, 0, (3, 74)), (82, 30, 0, (3, 30)), (86, 16, 0, (3, 78)), (93, 5, 1, (2, 233)), (108, 280, 2, (2, 234)), (117, 31, 0, (2, 237)), (126, 25, 0, (3, 26)), (130, 26, 0, (3, 34)), (134, 28, 0, (3, 42)), (152, 27, 0, (3, 54)), (176, 22, 0, (3, 62)), (179, 29, 0, (3, 38)), (196, 36, 2, (3, 1)), (200, 37, 2, (3, 4)), (203, 32, 0, (3, 7)), (206, 38, 2, (3, 15)), (209, 33, 0, (3, 18)), (212, 34, 0, (3, 11))]
  | 3 => [(73, 42, 0, (3, 97)), (83, 43, 0, (3, 101)), (93, 49, 0, (3, 130)), (97, 52, 0, (3, 206))]
  | 4 => [(25, 61, 0, (2, 122)), (28, 63, 0, (4, 10)), (41, 7, 1, (4, 15)), (49, 62, 0, (4, 58)), (53, 65, 0, (4, 179)), (69, 64, 0, (4, 192))]
  | 5 => [(11, 4, 4, (1, 152)), (20, 39, 4, (2, 20)), (27, 60, 4, (2, 118)), (38, 40, 1, (3, 93)), (41, 61, 1, (3, 105)), (44, 6, 1, (5, 4)), (47, 41, 1, (5, 5)), (50, 72, 0, (3, 221)), (53, 73, 0, (3, 225)), (56, 74, 0, (3, 233)), (59, 76, 0, (4, 20)), (66, 77, 0, (4, 31)), (70, 78, 0, (4, 36)), (85, 47, 1, (3, 229)), (100, 75, 0, (3, 237)), (104, 45, 1, (4, 16)), (112, 50, 1, (4, 2)), (119, 62, 1, (4, 6)), (126, 49, 1, (4, 24)), (130, 8, 1, (4, 25)), (137, 9, 1, (4, 26)), (140, 46, 1, (4, 27)), (150, 42, 1, (4, 35)), (153, 7, 1, (4, 40)), (159, 53, 1, (4, 41)), (162, 79, 0, (4, 42)), (168, 81, 0, (4, 50)), (172, 65, 1, (4, 54)), (176, 48, 1, (4, 59)), (180, 80, 0, (4, 46)), (189, 51, 1, (5, 10)), (198, 88, 0, (4, 80)), (201, 87, 0, (4, 84))]
  | 6 => [(9, 12, 4, (1, 30)), (18, 68, 4, (1, 146)), (28, 0, 4, (2, 174)), (52, 13, 1, (2, 217)), (56, 14, 1, (2, 225)), (60, 6, 1, (3, 82)), (66, 69, 1, (3, 89)), (69, 1, 1, (3, 106)), (81, 147, 0, (3, 146)), (96, 53, 1, (3, 126)), (102, 10, 1, (5, 149)), (106, 54, 1, (5, 153)), (114, 148, 0, (3, 150)), (122, 11, 1, (5, 181)), (125, 83, 1, (5, 185)), (128, 55, 1, (3, 202)), (131, 149, 0, (3, 186)), (162, 57, 1, (5, 197)), (165, 152, 0, (3, 170)), (188, 150, 0, (3, 118)), (200, 7, 1, (3, 122)), (206, 151, 0, (3, 138)), (217, 2, 1, (3, 154)), (221, 43, 1, (3, 165)), (224, 51, 1, (3, 174)), (227, 44, 1, (3, 178)), (233, 9, 1, (3, 190)), (239, 143, 2, (3, 214)), (243, 71, 1, (3, 217)), (247, 3, 1, (4, 67)), (253, 85, 1, (4, 76)), (259, 153, 0, (4, 96)), (262, 86, 1, (4, 104)), (271, 52, 1, (4, 120)), (277, 49, 1, (4, 125)), (280, 79, 1, (4, 130)), (289, 58, 1, (4, 135)), (292, 278, 2, (4, 147)), (297, 75, 1, (4, 158)), (300, 144, 2, (4, 163)), (303, 62, 1, (4, 166)), (309, 146, 2, (4, 167)), (312, 64, 1, (4, 175)), (315, 66, 1, (4, 180)), (318, 67, 1, (4, 188)), (323, 155, 0, (4, 209)), (326, 279, 2, (4, 229)), (332, 70, 1, (5, 0)), (335, 82, 1, (5, 6)), (338, 145, 2, (5, 39)), (341, 84, 1, (5, 54)), (345, 59, 1, (5, 62)), (351, 56, 1, (5, 70)), (354, 154, 0, (4, 100))]
  | 7 => [(100, 162, 0, (7, 20)), (104, 160, 0, (7, 32)), (110, 165, 0, (6, 156)), (120, 167, 0, (6, 175)), (133, 158, 2, (6, 164)), (151, 169, 0, (6, 196)), (155, 168, 0, (6, 171)), (158, 171, 0, (6, 204)), (162, 173, 2, (6, 214)), (169, 176, 0, (6, 233)), (176, 174, 0, (6, 192)), (179, 175, 0, (6, 200)), (182, 170, 0, (6, 184)), (186, 172, 0, (6, 217)), (193, 178, 0, (6, 229)), (196, 177, 0, (6, 237)), (205, 179, 0, (6, 188)), (208, 180, 0, (6, 221)), (211, 181, 0, (6, 225)), (214, 182, 0, (7, 1)), (217, 183, 0, (7, 5)), (235, 185, 0, (6, 167)), (238, 184, 0, (6, 179)), (241, 188, 0, (7, 9)), (259, 187, 2, (7, 13)), (263, 163, 0, (7, 16)), (266, 189, 0, (7, 24)), (269, 164, 0, (7, 28)), (276, 196, 0, (7, 192)), (280, 161, 0, (7, 116)), (283, 198, 0, (7, 60)), (286, 200, 0, (7, 56)), (289, 201, 0, (7, 52)), (293, 202, 0, (7, 72)), (308, 191, 0, (7, 48)), (311, 204, 0, (7, 44)), (314, 203, 0, (7, 68)), (317, 199, 0, (7, 128)), (320, 159, 0, (7, 108)), (323, 214, 0, (7, 216)), (326, 197, 0, (7, 188)), (329, 218, 0, (7, 232)), (333, 217, 0, (7, 156)), (336, 220, 0, (7, 112)), (339, 219, 0, (7, 228)), (342, 213, 0, (7, 208)), (345, 215, 0, (7, 212)), (348, 216, 0, (7, 220)), (351, 221, 0, (7, 224)), (354, 223, 0, (7, 104)), (357, 192, 0, (7, 124)), (360, 193, 0, (7, 136)), (363, 194, 0, (7, 144)), (366, 195, 0, (7, 152)), (369, 230, 0, (7, 168)), (372, 232, 0, (7, 176)), (375, 233, 0, (7, 180)), (378, 222, 0, (7, 204)), (381, 239, 0, (8, 4)), (385, 246, 0, (8, 33)), (388, 248, 0, (8, 37)), (391, 247, 0, (8, 41)), (394, 269, 0, (8, 65)), (397, 259, 0, (8, 69)), (400, 262, 0, (8, 101)), (403, 264, 0, (8, 109)), (406, 276, 0, (8, 153))]
  | 8 => []
  | _ => [(7, 93, 0, (5, 79)), (17, 94, 0, (5, 176)), (20, 95, 0, (5, 192)), (23, 96, 0, (5, 204)), (26, 89, 3, (1, 22)), (29, 156, 3, (5, 211)), (30, 90, 0, (2, 213)), (34, 166, 0, (6, 152)), (35, 91, 0, (2, 221)), (39, 186, 0, (6, 160)), (40, 92, 0, (3, 110)), (43, 190, 0, (7, 36)), (49, 224, 0, (7, 100)), (50, 157, 0, (6, 148)), (56, 225, 0, (7, 120)), (59, 226, 0, (7, 132)), (62, 227, 0, (7, 140)), (63, 97, 0, (3, 114)), (66, 228, 0, (7, 148)), (67, 98, 0, (3, 134)), (70, 229, 0, (7, 160)), (71, 99, 0, (3, 142)), (74, 231, 0, (7, 164)), (75, 100, 0, (3, 166)), (79, 234, 0, (7, 172)), (80, 101, 0, (3, 182)), (83, 235, 0, (7, 184)), (84, 102, 0, (3, 198)), (87, 236, 0, (7, 196)), (88, 103, 0, (3, 210)), (91, 237, 0, (7, 200)), (92, 104, 0, (4, 63)), (95, 238, 0, (7, 236)), (96, 105, 0, (4, 71)), (99, 240, 0, (8, 0)), (100, 106, 0, (4, 88)), (103, 241, 0, (8, 9)), (104, 110, 0, (4, 116)), (107, 242, 0, (8, 13)), (108, 111, 0, (4, 121)), (111, 243, 0, (8, 17)), (112, 112, 0, (4, 126)), (115, 244, 0, (8, 21)), (116, 118, 0, (4, 159)), (120, 205, 0, (7, 40)), (121, 119, 0, (4, 171)), (125, 206, 0, (7, 64)), (126, 120, 0, (4, 184)), (129, 207, 0, (7, 76)), (130, 117, 0, (4, 154)), (133, 245, 0, (8, 25)), (134, 130, 0, (4, 236)), (137, 249, 0, (8, 29)), (138, 131, 0, (5, 11)), (141, 250, 0, (8, 45)), (142, 132, 0, (5, 15)), (145, 251, 0, (8, 49)), (146, 133, 0, (5, 19)), (149, 252, 0, (8, 53)), (150, 139, 0, (5, 46)), (153, 267, 0, (8, 117)), (154, 138, 0, (5, 42)), (157, 268, 0, (8, 121)), (158, 127, 0, (4, 221)), (161, 270, 0, (8, 125)), (162, 128, 0, (4, 225)), (165, 271, 0, (8, 129)), (166, 123, 0, (4, 201)), (169, 272, 0, (8, 133)), (170, 113, 0, (4, 131)), (173, 273, 0, (8, 137)), (174, 107, 0, (4, 92)), (177, 274, 0, (8, 141)), (178, 116, 0, (4, 150)), (181, 275, 0, (8, 145)), (182, 121, 0, (4, 193)), (185, 208, 0, (7, 80)), (186, 122, 0, (4, 197)), (189, 211, 0, (7, 92)), (190, 124, 0, (4, 205)), (193, 212, 0, (7, 96)), (194, 134, 0, (5, 23)), (197, 253, 0, (8, 57)), (198, 137, 0, (5, 35)), (201, 254, 0, (8, 61)), (202, 140, 0, (5, 50)), (205, 258, 0, (8, 85)), (206, 114, 0, (4, 139)), (209, 260, 0, (8, 89)), (210, 115, 0, (4, 143)), (213, 261, 0, (8, 93)), (214, 129, 0, (4, 232)), (217, 266, 0, (8, 113)), (218, 135, 0, (5, 27)), (221, 255, 0, (8, 73)), (222, 136, 0, (5, 31)), (225, 256, 0, (8, 77)), (226, 141, 0, (5, 58)), (229, 257, 0, (8, 81)), (230, 125, 0, (4, 213)), (233, 209, 0, (7, 84)), (234, 126, 0, (4, 217)), (237, 210, 0, (7, 88)), (238, 109, 0, (4, 112)), (241, 263, 0, (8, 97)), (242, 108, 0, (4, 108)), (245, 265, 0, (8, 105)), (246, 142, 0, (5, 66)), (249, 277, 0, (8, 149))]
/-- class links: entry, name, place -/
def lC : Nat → List (Nat × String × Nat × Nat) := fun o => match o with
  | 0 => [(9, "LoanVans$State", (2, 178))]
  | 1 => [(30, "[[I", (1, 156))]
  | 2 => []
  | 3 => []
  | 4 => []
  | 5 => [(9, "LoanVans$Plan", (1, 150)), (18, "LoanVans$State", (2, 18)), (25, "LoanVans$Ways", (2, 116))]
  | 6 => [(7, "LoanVans$Reader", (1, 28)), (16, "LoanVans$World", (1, 144)), (26, "LoanVans$Past", (2, 172)), (85, "java/lang/IndexOutOfBoundsException", (5, 83)), (109, "java/util/NoSuchElementException", (5, 157))]
  | 7 => []
  | 8 => []
  | _ => [(8, "LoanVans", (1, 20)), (13, "java/lang/IndexOutOfBoundsException", (5, 77)), (15, "java/util/NoSuchElementException", (5, 78)), (27, "LoanVansModel", (5, 209))]
/-- constants: entry, value, place -/
def lK : Nat → List (Nat × Int32 × Nat × Nat) := fun o => match o with
  | 0 => []
  | 1 => []
  | 2 => []
  | 3 => []
  | 4 => [(48, 1000000000, (4, 14))]
  | 5 => [(108, 1000000000, (4, 1))]
  | 6 => [(252, (-2147483648), (4, 75)), (322, 1000000000, (4, 170))]
  | 7 => [(144, 86030440, (6, 183)), (145, 113757348, (6, 208)), (146, 21287301, (6, 209)), (147, 315565, (6, 210)), (148, 277892, (6, 211)), (149, 7930981, (6, 212)), (150, 609687283, (6, 213)), (384, (-2147483648), (8, 8))]
  | 8 => []
  | _ => []
/-- Object.<init>: entry, place -/
def lO : Nat → List (Nat × Nat × Nat) := fun o => match o with
  | 0 => [(3, (2, 177))]
  | 1 => [(3, (1, 155))]
  | 2 => [(3, (1, 33))]
  | 3 => [(3, (2, 23))]
  | 4 => [(3, (2, 121))]
  | 5 => [(3, (1, 149))]
  | 6 => [(1, (1, 25))]
  | 7 => [(1, (5, 214))]
  | 8 => []
  | _ => []
/-- System.arraycopy: entry, place -/
def lS : Nat → List (Nat × Nat × Nat) := fun o => match o with
  | 0 => []
  | 1 => [(69, (3, 86))]
  | 2 => []
  | 3 => [(87, (3, 163))]
  | 4 => []
  | 5 => []
  | 6 => []
  | 7 => []
  | 8 => []
  | _ => []
theorem lF_ok : (List.range 10).all (fun o => (lF o).all (fun r => decide ((tbC r.2.2.2.2.1)[r.2.2.2.2.2]? = some (if r.2.2.2.1 = 0 then Cond.fieldLink (rN o) r.1 (fT r.2.1 r.2.2.1).1 (fT r.2.1 r.2.2.1).2.1 (fT r.2.1 r.2.2.1).2.2.1 else Cond.fieldLinkNest (rN o) r.1 (fT r.2.1 r.2.2.1).1 (fT r.2.1 r.2.2.1).2.1 (fT r.2.1 r.2.2.1).2.2.1 "LoanVans")) && decide (r.2.1 < 8) && decide (r.2.2.1 < fN r.2.1))) = true := by decide +kernel
theorem lM_ok : (List.range 10).all (fun o => (lM o).all (fun r => decide ((tbC r.2.2.2.1)[r.2.2.2.2]? = some (if r.2.2.1 = 1 ∨ r.2.2.1 = 4 then Cond.methodLinkNest (rN o) r.1 (mY r.2.1) "LoanVans" else Cond.methodLink (rN o) r.1 (mY r.2.1))) && decide (r.2.1 < 281) && (mS r.2.1 == decide (r.2.2.1 = 2)) && (decide ((mY r.2.1).name = "<init>") == decide (3 ≤ r.2.2.1)))) = true := by decide +kernel
theorem lC_ok : (List.range 10).all (fun o => (lC o).all (fun r => decide ((tbC r.2.2.1)[r.2.2.2]? = some (Cond.classLink (rN o) r.1 r.2.1)))) = true := by decide +kernel
theorem lK_ok : (List.range 10).all (fun o => (lK o).all (fun r => decide ((tbC r.2.2.1)[r.2.2.2]? = some (Cond.constant (rN o) r.1 r.2.1)))) = true := by decide +kernel
theorem lO_ok : (List.range 10).all (fun o => (lO o).all (fun r => decide ((tbC r.2.1)[r.2.2]? = some (Cond.methodLink (rN o) r.1 objectInit)))) = true := by decide +kernel
theorem lS_ok : (List.range 10).all (fun o => (lS o).all (fun r => decide ((tbC r.2.1)[r.2.2]? = some (Cond.methodLink (rN o) r.1 arraycopyName)))) = true := by decide +kernel
abbrev kPast_init : Nat := 0
abbrev kPast_clear : Nat := 1
abbrev kPast_keep : Nat := 2
abbrev kPast_restore : Nat := 3
abbrev kPlan_init : Nat := 4
abbrev kPlan_empty : Nat := 5
abbrev kPlan_copyFrom : Nat := 6
abbrev kPlan_branchOn : Nat := 7
abbrev kPlan_isShut : Nat := 8
abbrev kPlan_openFrom : Nat := 9
abbrev kPlan_countAtHome : Nat := 10
abbrev kPlan_countOfTitle : Nat := 11
abbrev kReader_init : Nat := 12
abbrev kReader_put : Nat := 13
abbrev kReader_readInto : Nat := 14
abbrev kReader_begin : Nat := 15
abbrev kReader_endLine : Nat := 16
abbrev kReader_readBranch : Nat := 17
abbrev kReader_readTitle : Nat := 18
abbrev kReader_readItem : Nat := 19
abbrev kReader_readHold : Nat := 20
abbrev kReader_readVan : Nat := 21
abbrev kReader_readStop : Nat := 22
abbrev kReader_readGrace : Nat := 23
abbrev kReader_readRenews : Nat := 24
abbrev kReader_beginsRow : Nat := 25
abbrev kReader_takeNewName : Nat := 26
abbrev kReader_takeToldName : Nat := 27
abbrev kReader_takeNumber : Nat := 28
abbrev kReader_numberOfName : Nat := 29
abbrev kReader_fail : Nat := 30
abbrev kReader_advance : Nat := 31
abbrev kReader_scanWord : Nat := 32
abbrev kReader_scanNumber : Nat := 33
abbrev kReader_tokenOfWord : Nat := 34
abbrev kReader_codeOf : Nat := 35
abbrev kReader_isBlank : Nat := 36
abbrev kReader_isLetter : Nat := 37
abbrev kReader_isDigit : Nat := 38
abbrev kState_init : Nat := 39
abbrev kState_begin : Nat := 40
abbrev kState_copyFrom : Nat := 41
abbrev kState_putAt : Nat := 42
abbrev kState_addHold : Nat := 43
abbrev kState_cancelHold : Nat := 44
abbrev kState_giveItem : Nat := 45
abbrev kState_lend : Nat := 46
abbrev kState_takeBack : Nat := 47
abbrev kState_board : Nat := 48
abbrev kState_isThere : Nat := 49
abbrev kState_isFree : Nat := 50
abbrev kState_isWaiting : Nat := 51
abbrev kState_isOpenOf : Nat := 52
abbrev kState_countItems : Nat := 53
abbrev kState_countOpenAt : Nat := 54
abbrev kState_countOpenOf : Nat := 55
abbrev kState_countStage : Nat := 56
abbrev kState_countLoansOf : Nat := 57
abbrev kState_daysWaited : Nat := 58
abbrev kState_branchBit : Nat := 59
abbrev kWays_init : Nat := 60
abbrev kWays_forgetAll : Nat := 61
abbrev kWays_arrivalAt : Nat := 62
abbrev kWays_beginRow : Nat := 63
abbrev kWays_findLeg : Nat := 64
abbrev kWays_vanToBoard : Nat := 65
abbrev kWays_legPart : Nat := 66
abbrev kWays_goLegs : Nat := 67
abbrev kWorld_init : Nat := 68
abbrev kWorld_begin : Nat := 69
abbrev kWorld_copyFrom : Nat := 70
abbrev kWorld_goDays : Nat := 71
abbrev kWorld_goDay : Nat := 72
abbrev kWorld_takeBackItems : Nat := 73
abbrev kWorld_giveItems : Nat := 74
abbrev kWorld_nearestFree : Nat := 75
abbrev kWorld_lendItems : Nat := 76
abbrev kWorld_leaveVan : Nat := 77
abbrev kWorld_boardVan : Nat := 78
abbrev kWorld_lineUp : Nat := 79
abbrev kWorld_stepIntoLine : Nat := 80
abbrev kWorld_goalOf : Nat := 81
abbrev kWorld_lentWithin : Nat := 82
abbrev kWorld_countFree : Nat := 83
abbrev kWorld_countAstray : Nat := 84
abbrev kWorld_countLoans : Nat := 85
abbrev kWorld_balance : Nat := 86
abbrev kWorld_branchOfLoan : Nat := 87
abbrev kWorld_homeOfLoan : Nat := 88
abbrev kLoanVans_init : Nat := 89
abbrev kLoanVans_feed : Nat := 90
abbrev kLoanVans_text : Nat := 91
abbrev kLoanVans_fault : Nat := 92
abbrev kLoanVans_branch : Nat := 93
abbrev kLoanVans_title : Nat := 94
abbrev kLoanVans_item : Nat := 95
abbrev kLoanVans_holdOf : Nat := 96
abbrev kLoanVans_van : Nat := 97
abbrev kLoanVans_stop : Nat := 98
abbrev kLoanVans_hold : Nat := 99
abbrev kLoanVans_cancel : Nat := 100
abbrev kLoanVans_recall : Nat := 101
abbrev kLoanVans_renew : Nat := 102
abbrev kLoanVans_days : Nat := 103
abbrev kLoanVans_undo : Nat := 104
abbrev kLoanVans_owed : Nat := 105
abbrev kLoanVans_loans : Nat := 106
abbrev kLoanVans_lender : Nat := 107
abbrev kLoanVans_ranked : Nat := 108
abbrev kLoanVans_log : Nat := 109
abbrev kLoanVans_queue : Nat := 110
abbrev kLoanVans_inVan : Nat := 111
abbrev kLoanVans_waits : Nat := 112
abbrev kLoanVans_longest : Nat := 113
abbrev kLoanVans_waited : Nat := 114
abbrev kLoanVans_meanWait : Nat := 115
abbrev kLoanVans_nextDue : Nat := 116
abbrev kLoanVans_given : Nat := 117
abbrev kLoanVans_arrival : Nat := 118
abbrev kLoanVans_leg : Nat := 119
abbrev kLoanVans_legs : Nat := 120
abbrev kLoanVans_path : Nat := 121
abbrev kLoanVans_reach : Nat := 122
abbrev kLoanVans_farthest : Nat := 123
abbrev kLoanVans_center : Nat := 124
abbrev kLoanVans_thereAndBack : Nat := 125
abbrev kLoanVans_bestDay : Nat := 126
abbrev kLoanVans_meet : Nat := 127
abbrev kLoanVans_every : Nat := 128
abbrev kLoanVans_busiest : Nat := 129
abbrev kLoanVans_lentOn : Nat := 130
abbrev kLoanVans_ifHold : Nat := 131
abbrev kLoanVans_ifCancelled : Nat := 132
abbrev kLoanVans_ifNoVan : Nat := 133
abbrev kLoanVans_ifStop : Nat := 134
abbrev kLoanVans_ifClosed : Nat := 135
abbrev kLoanVans_ifPeriod : Nat := 136
abbrev kLoanVans_ifRoom : Nat := 137
abbrev kLoanVans_served : Nat := 138
abbrev kLoanVans_where : Nat := 139
abbrev kLoanVans_astray : Nat := 140
abbrev kLoanVans_visits : Nat := 141
abbrev kLoanVans_count : Nat := 142
abbrev kLoanVans_isWithin : Nat := 143
abbrev kLoanVans_isDay : Nat := 144
abbrev kLoanVans_isForetellable : Nat := 145
abbrev kLoanVans_orAbsent : Nat := 146
abbrev kLoanVans_isBranch : Nat := 147
abbrev kLoanVans_isTitle : Nat := 148
abbrev kLoanVans_isItem : Nat := 149
abbrev kLoanVans_isVan : Nat := 150
abbrev kLoanVans_isStop : Nat := 151
abbrev kLoanVans_isHold : Nat := 152
abbrev kLoanVans_branchRanked : Nat := 153
abbrev kLoanVans_countAhead : Nat := 154
abbrev kLoanVans_daysToAll : Nat := 155
abbrev kModel_init : Nat := 156
abbrev kModel_thrown : Nat := 157
abbrev kModel_isIn : Nat := 158
abbrev kModel_ofHold : Nat := 159
abbrev kModel_setHold : Nat := 160
abbrev kModel_ofItem : Nat := 161
abbrev kModel_setItem : Nat := 162
abbrev kModel_puts : Nat := 163
abbrev kModel_addsHold : Nat := 164
abbrev kModel_four : Nat := 165
abbrev kModel_feed : Nat := 166
abbrev kModel_see : Nat := 167
abbrev kModel_advance : Nat := 168
abbrev kModel_must : Nat := 169
abbrev kModel_isWord : Nat := 170
abbrev kModel_isName : Nat := 171
abbrev kModel_numberHere : Nat := 172
abbrev kModel_at : Nat := 173
abbrev kModel_opens : Nat := 174
abbrev kModel_freshHere : Nat := 175
abbrev kModel_toldHere : Nat := 176
abbrev kModel_branchHere : Nat := 177
abbrev kModel_titleHere : Nat := 178
abbrev kModel_readsBranch : Nat := 179
abbrev kModel_readsTitle : Nat := 180
abbrev kModel_readsItem : Nat := 181
abbrev kModel_readsVan : Nat := 182
abbrev kModel_readsHold : Nat := 183
abbrev kModel_readsLine : Nat := 184
abbrev kModel_begins : Nat := 185
abbrev kModel_text : Nat := 186
abbrev kModel_copies : Nat := 187
abbrev kModel_becomes : Nat := 188
abbrev kModel_freesItem : Nat := 189
abbrev kModel_fault : Nat := 190
abbrev kModel_isBranch : Nat := 191
abbrev kModel_isTitle : Nat := 192
abbrev kModel_isItem : Nat := 193
abbrev kModel_isHold : Nat := 194
abbrev kModel_isVan : Nat := 195
abbrev kModel_isShut : Nat := 196
abbrev kModel_openFrom : Nat := 197
abbrev kModel_stopOf : Nat := 198
abbrev kModel_isFree : Nat := 199
abbrev kModel_laysEarly : Nat := 200
abbrev kModel_arrivalOf : Nat := 201
abbrev kModel_laysLeads : Nat := 202
abbrev kModel_laysLeg : Nat := 203
abbrev kModel_isWay : Nat := 204
abbrev kModel_arrival : Nat := 205
abbrev kModel_leg : Nat := 206
abbrev kModel_legs : Nat := 207
abbrev kModel_path : Nat := 208
abbrev kModel_thereAndBack : Nat := 209
abbrev kModel_bestDay : Nat := 210
abbrev kModel_reach : Nat := 211
abbrev kModel_center : Nat := 212
abbrev kModel_comesBack : Nat := 213
abbrev kModel_givenTo : Nat := 214
abbrev kModel_gives : Nat := 215
abbrev kModel_lends : Nat := 216
abbrev kModel_inside : Nat := 217
abbrev kModel_goal : Nat := 218
abbrev kModel_boards : Nat := 219
abbrev kModel_isAt : Nat := 220
abbrev kModel_drives : Nat := 221
abbrev kModel_passes : Nat := 222
abbrev kModel_openOf : Nat := 223
abbrev kModel_branch : Nat := 224
abbrev kModel_title : Nat := 225
abbrev kModel_item : Nat := 226
abbrev kModel_holdOf : Nat := 227
abbrev kModel_van : Nat := 228
abbrev kModel_stop : Nat := 229
abbrev kModel_keeps : Nat := 230
abbrev kModel_hold : Nat := 231
abbrev kModel_mayCancel : Nat := 232
abbrev kModel_cancels : Nat := 233
abbrev kModel_cancel : Nat := 234
abbrev kModel_recall : Nat := 235
abbrev kModel_renew : Nat := 236
abbrev kModel_days : Nat := 237
abbrev kModel_undo : Nat := 238
abbrev kModel_balance : Nat := 239
abbrev kModel_owed : Nat := 240
abbrev kModel_loans : Nat := 241
abbrev kModel_queue : Nat := 242
abbrev kModel_inVan : Nat := 243
abbrev kModel_waits : Nat := 244
abbrev kModel_given : Nat := 245
abbrev kModel_tries : Nat := 246
abbrev kModel_returns : Nat := 247
abbrev kModel_lentAhead : Nat := 248
abbrev kModel_lentOn : Nat := 249
abbrev kModel_ifHold : Nat := 250
abbrev kModel_ifCancelled : Nat := 251
abbrev kModel_ifNoVan : Nat := 252
abbrev kModel_ifStop : Nat := 253
abbrev kModel_ifRoom : Nat := 254
abbrev kModel_ifClosed : Nat := 255
abbrev kModel_ifPeriod : Nat := 256
abbrev kModel_visits : Nat := 257
abbrev kModel_astray : Nat := 258
abbrev kModel_wasLent : Nat := 259
abbrev kModel_waited : Nat := 260
abbrev kModel_meanWait : Nat := 261
abbrev kModel_isSooner : Nat := 262
abbrev kModel_log : Nat := 263
abbrev kModel_allOwed : Nat := 264
abbrev kModel_ranked : Nat := 265
abbrev kModel_busiest : Nat := 266
abbrev kModel_where : Nat := 267
abbrev kModel_served : Nat := 268
abbrev kModel_servedIn : Nat := 269
abbrev kModel_meet : Nat := 270
abbrev kModel_every : Nat := 271
abbrev kModel_farthest : Nat := 272
abbrev kModel_longest : Nat := 273
abbrev kModel_lender : Nat := 274
abbrev kModel_nextDue : Nat := 275
abbrev kModel_inState : Nat := 276
abbrev kModel_count : Nat := 277
abbrev kMath_floorDiv : Nat := 278
abbrev kMath_max : Nat := 279
abbrev kMath_min : Nat := 280
abbrev kLaw_branch : Nat := 281
abbrev kLaw_title : Nat := 282
abbrev kLaw_item : Nat := 283
abbrev kLaw_holdOf : Nat := 284
abbrev kLaw_law : Nat := 285
end
section
/-! ===== a pure machine for this claim's bytecode: frames of values, a heap by numbers of cells ===== -/
abbrev Mem : Type := Nat → Nat → Int32
/-- longs, shapes (kind, length or class), references, how many cells, cells and slots made -/
abbrev Kst : Type := (Nat → Nat → Int64) × (Nat → Nat × Nat) × (Nat → Nat → Option Nat) × Nat × Nat × Nat
abbrev Hp : Type := Mem × Kst
abbrev Fr : Type := Nat × Nat × List Value × List Value
/-- (0, v) an int, (1, _) nothing, (2, k) thrown -/
abbrev Rs : Type := Nat × Int32
abbrev SC : Type := Nat × (Nat → Int32)
abbrev Act : Type := (Fr × Hp) ⊕ (Fr × Nat × List Value × Hp) ⊕ (Fr × Nat × List Value × Nat × Hp) ⊕ (Rs × Hp)
def kml (k : Kst) : Nat → Nat → Int64 := k.1
def ksh (k : Kst) : Nat → Nat × Nat := k.2.1
def kmr (k : Kst) : Nat → Nat → Option Nat := k.2.2.1
def knx (k : Kst) : Nat := k.2.2.2.1
def kkc (k : Kst) : Nat := k.2.2.2.2.1
def kks (k : Kst) : Nat := k.2.2.2.2.2
/-- the shape of a cell: (0, class), (1, n) int[n], (2, n) boolean[], (3, n) byte[], (4, n) long[], (5, n) State[], (6, n) int[][] -/
def shp (k : Kst) (a : Nat) : Nat × Nat := if a < knx k then ksh k a else (9, 0)
def up1 {α : Type} (f : Nat → α) (a : Nat) (v : α) : Nat → α := fun j => if j = a then v else f j
def up2 {α : Type} (f : Nat → Nat → α) (a i : Nat) (v : α) : Nat → Nat → α := fun j => if j = a then (fun k => if k = i then v else f a k) else f j
def inb (i : Int32) (n : Nat) : Bool := decide (¬ i < 0) && decide (i.toNatClampNeg < n)
def jc (c : Jvm.ClassFile.Cond) (x y : Int32) : Bool := match c with
  | .eq => decide (x = y)
  | .ne => decide (¬ x = y)
  | .lt => decide (x < y)
  | .ge => decide (y ≤ x)
  | .gt => decide (y < x)
  | .le => decide (x ≤ y)
-- fields and places
def gI (h : Hp) (a ci k : Nat) : Option Int32 := if shp h.2 a = (0, ci) then some (h.1 a k) else none
def gR (h : Hp) (a ci k : Nat) : Option Nat := if shp h.2 a = (0, ci) then kmr h.2 a k else none
def pI (h : Hp) (a ci k : Nat) (v : Int32) : Option Hp := if shp h.2 a = (0, ci) then some (up2 h.1 a k v, h.2) else none
def wr (k : Kst) (f : Nat → Nat → Option Nat) : Kst := (kml k, ksh k, f, knx k, kkc k, kks k)
def pR (h : Hp) (a ci k b : Nat) : Option Hp := if shp h.2 a = (0, ci) then some (h.1, wr h.2 (up2 (kmr h.2) a k (some b))) else none
def lI (h : Hp) (a : Nat) (i : Int32) : Option Int32 := if (shp h.2 a).1 = 1 ∧ inb i (shp h.2 a).2 then some (h.1 a i.toNatClampNeg) else none
def sI (h : Hp) (a : Nat) (i v : Int32) : Option Hp := if (shp h.2 a).1 = 1 ∧ inb i (shp h.2 a).2 then some (up2 h.1 a i.toNatClampNeg v, h.2) else none
/-- byte and boolean places -/
def lB (h : Hp) (a : Nat) (i : Int32) : Option Int32 := if ((shp h.2 a).1 = 2 ∨ (shp h.2 a).1 = 3) ∧ inb i (shp h.2 a).2 then some (h.1 a i.toNatClampNeg) else none
def sB (h : Hp) (a : Nat) (i v : Int32) : Option Hp := if ((shp h.2 a).1 = 2 ∨ (shp h.2 a).1 = 3) ∧ inb i (shp h.2 a).2 then some (up2 h.1 a i.toNatClampNeg (vp_nar (if (shp h.2 a).1 = 2 then .boolean else .byte) v), h.2) else none
def lL (h : Hp) (a : Nat) (i : Int32) : Option Int64 := if (shp h.2 a).1 = 4 ∧ inb i (shp h.2 a).2 then some (kml h.2 a i.toNatClampNeg) else none
def wl (k : Kst) (f : Nat → Nat → Int64) : Kst := (f, ksh k, kmr k, knx k, kkc k, kks k)
def sL (h : Hp) (a : Nat) (i : Int32) (v : Int64) : Option Hp := if (shp h.2 a).1 = 4 ∧ inb i (shp h.2 a).2 then some (h.1, wl h.2 (up2 (kml h.2) a i.toNatClampNeg v)) else none
def lR (h : Hp) (a : Nat) (i : Int32) : Option (Option Nat) := if ((shp h.2 a).1 = 5 ∨ (shp h.2 a).1 = 6) ∧ inb i (shp h.2 a).2 then some (kmr h.2 a i.toNatClampNeg) else none
def sR (h : Hp) (a : Nat) (i : Int32) (b : Nat) : Option Hp := if (shp h.2 a).1 = 5 ∧ inb i (shp h.2 a).2 ∧ shp h.2 b = (0, 3) then some (h.1, wr h.2 (up2 (kmr h.2) a i.toNatClampNeg (some b))) else none
def aln (h : Hp) (a : Nat) : Option Int32 := if 1 ≤ (shp h.2 a).1 ∧ (shp h.2 a).1 ≤ 6 then some (Int32.ofNat (shp h.2 a).2) else none
/-- a new cell of a shape, all its places 0 or null, with so many slots -/
def alc (h : Hp) (sh : Nat × Nat) (n : Nat) : Hp := (up1 h.1 (knx h.2) (fun _ => 0), (up1 (kml h.2) (knx h.2) (fun _ => 0), up1 (ksh h.2) (knx h.2) sh, up1 (kmr h.2) (knx h.2) (fun _ => none), knx h.2 + 1, kkc h.2 + 1, kks h.2 + n))
/-- 'new int[n][k]': the outer one, then its rows -/
def alm (h : Hp) (n k : Nat) : Hp := ((fun j => if knx h.2 ≤ j then (fun _ => 0) else h.1 j), ((fun j => if knx h.2 ≤ j then (fun _ => 0) else kml h.2 j), (fun j => if j < knx h.2 then ksh h.2 j else if j = knx h.2 then (6, n) else (1, k)), (fun j => if j < knx h.2 then kmr h.2 j else if j = knx h.2 then (fun i => if i < n then some (knx h.2 + 1 + i) else none) else (fun _ => none)), knx h.2 + (1 + n), kkc h.2 + (1 + n), kks h.2 + (n + n * k)))
/-- arraycopy between int arrays -/
def acp (h : Hp) (a : Nat) (sp : Int32) (b : Nat) (dp n : Int32) : Option Hp := if (shp h.2 a).1 = 1 ∧ (shp h.2 b).1 = 1 ∧ ¬ sp < 0 ∧ ¬ dp < 0 ∧ ¬ n < 0 ∧ sp.toNatClampNeg + n.toNatClampNeg ≤ (shp h.2 a).2 ∧ dp.toNatClampNeg + n.toNatClampNeg ≤ (shp h.2 b).2 then some (up1 h.1 b (va_cpy (h.1 a) (h.1 b) sp.toNatClampNeg dp.toNatClampNeg n.toNatClampNeg), h.2) else none
/-- what a throw makes: cells, slots -/
def thC : Nat := 1
def thS : Nat := 6
def thr (h : Hp) : Hp := (h.1, (kml h.2, ksh h.2, kmr h.2, knx h.2, kkc h.2 + thC, kks h.2 + thS))
/-- the eight throws: method, place, what (0 IndexOutOfBoundsException, 1 NoSuchElementException) -/
def thT : List ((Nat × Nat) × Int32) := [((93, 8), 0), ((93, 118), 1), ((94, 8), 0), ((94, 85), 1), ((95, 8), 0), ((95, 171), 1), ((96, 8), 0), ((96, 116), 1)]
/-- the law's calls of methods that may throw: entry, method, the helper -/
def lHT : List (Nat × Nat × Nat) := [(44, 93, 281), (54, 94, 282), (57, 95, 283), (60, 96, 284)]
/-- codeOf of a String constant: entry, value -/
def cdT : List (Nat × Int32) := [(9, 38293730), (17, 49733248), (19, 10820876), (21, 191875), (23, 16079), (25, 168727), (27, 4075196), (29, 261217378)]
def cd (i pc : Nat) : Option (Instr × Nat) := match decode (mB i) pc with
  | .ok r => some r
  | .error _ => none
def tgt (pc : Nat) (off : Int) : Option Nat := if 0 ≤ (pc : Int) + off then some ((pc : Int) + off).toNat else none
def gO (i pc : Nat) (ls st : List Value) (h : Hp) : Option Act := some (.inl ((i, pc, ls, st), h))
def gB (c : Bool) (i pc : Nat) (off : Int) (ls st : List Value) (h : Hp) : Option Act := match tgt pc off with
  | some t => if c then gO i t ls st h else gO i (pc + 3) ls st h
  | none => none
def rv (r : Option Nat) : Value := match r with
  | some a => .ref a
  | none => .null
def setV (ls : List Value) (k : Nat) (v : Value) : List Value := ls.set k v
/-- jump to the first row of offs that x is, counted from lo on -/
def swt (lo : Int) (offs : List Int) (x : Int32) (d : Int) : Int := match offs with
  | [] => d
  | o :: r => if x.toInt = lo then o else swt (lo + 1) r x d
def swl (ps : List (Int × Int)) (x : Int32) (d : Int) : Int := match ps with
  | [] => d
  | q :: r => if x.toInt = q.1 then q.2 else swl r x d
def pops (n : Nat) (st : List Value) : Option (List Value × List Value) := if n ≤ st.length then some ((st.take n).reverse, st.drop n) else none
/-- what may be handed to a method -/
def argOk (v : Value) : Bool := match v with
  | .int _ => true
  | .ref _ => true
  | .null => true
  | _ => false
/-- the receiver is of the method's class -/
def rcv (j : Nat) (as : List Value) (h : Hp) : Bool := mS j || (match as with
  | .ref a :: _ => decide (shp h.2 a = (0, mC j))
  | _ => false)
def gC (i pc : Nat) (ls : List Value) (st : List Value) (j n : Nat) (h : Hp) : Option Act := match pops n st with
  | some (as, r) => if (r.map fun v => v.category).sum ≤ 8 ∧ mV j < mV i ∧ as.all argOk = true ∧ rcv j as h = true then some (.inr (.inl ((i, pc + 3, ls, r), j, as, h))) else none
  | none => none
def nx1 (scr : Option SC) (i pc : Nat) (ls st : List Value) (h : Hp) (ins : Instr) : Option Act := match ins with
  | .aload_n k => match ls[(k : Nat)]? with
    | some (.ref a) => gO i (pc + 1) ls (.ref a :: st) h
    | some .null => gO i (pc + 1) ls (.null :: st) h
    | some (.retAddr 1) => gO i (pc + 1) ls (.retAddr 1 :: st) h
    | _ => none
  | .aload k => match ls[k]? with
    | some (.ref a) => gO i (pc + 2) ls (.ref a :: st) h
    | some .null => gO i (pc + 2) ls (.null :: st) h
    | _ => none
  | .iload_n k => match ls[(k : Nat)]? with
    | some (.int x) => gO i (pc + 1) ls (.int x :: st) h
    | _ => none
  | .iload k => match ls[k]? with
    | some (.int x) => gO i (pc + 2) ls (.int x :: st) h
    | _ => none
  | .istore_n k => match st with
    | .int x :: r => if (k : Nat) < ls.length then gO i (pc + 1) (setV ls k (.int x)) r h else none
    | _ => none
  | .istore k => match st with
    | .int x :: r => if k < ls.length then gO i (pc + 2) (setV ls k (.int x)) r h else none
    | _ => none
  | .astore_n k => match st with
    | .ref x :: r => if (k : Nat) < ls.length then gO i (pc + 1) (setV ls k (.ref x)) r h else none
    | .null :: r => if (k : Nat) < ls.length then gO i (pc + 1) (setV ls k .null) r h else none
    | _ => none
  | .astore k => match st with
    | .ref x :: r => if k < ls.length then gO i (pc + 2) (setV ls k (.ref x)) r h else none
    | .null :: r => if k < ls.length then gO i (pc + 2) (setV ls k .null) r h else none
    | _ => none
  | .iconst n => gO i (pc + 1) ls (.int (Int32.ofInt n) :: st) h
  | .bipush n => gO i (pc + 2) ls (.int (Int8.ofInt n).toInt32 :: st) h
  | .sipush n => gO i (pc + 3) ls (.int (Int16.ofInt n).toInt32 :: st) h
  | .ldc k => match (lK (mC i)).lookup k with
    | some q => gO i (pc + 2) ls (.int q.1 :: st) h
    | none => if mC i = 2 ∧ 6 ≤ mV i ∧ (st.map fun v => v.category).sum ≤ 8 then (match cdT.lookup k, cd i (pc + 2) with
      | some v, some (.invokestatic 11, 3) => gO i (pc + 5) ls (.int v :: st) h
      | _, _ => none) else none
  | .ldc_w k => match (lK (mC i)).lookup k with
    | some q => gO i (pc + 3) ls (.int q.1 :: st) h
    | none => none
  | .iadd => match st with
    | .int y :: .int x :: r => gO i (pc + 1) ls (.int (x + y) :: r) h
    | _ => none
  | .isub => match st with
    | .int y :: .int x :: r => gO i (pc + 1) ls (.int (x - y) :: r) h
    | _ => none
  | .imul => match st with
    | .int y :: .int x :: r => gO i (pc + 1) ls (.int (x * y) :: r) h
    | _ => none
  | .iand => match st with
    | .int y :: .int x :: r => gO i (pc + 1) ls (.int (x &&& y) :: r) h
    | _ => none
  | .ior => match st with
    | .int y :: .int x :: r => gO i (pc + 1) ls (.int (x ||| y) :: r) h
    | _ => none
  | .ixor => match st with
    | .int y :: .int x :: r => gO i (pc + 1) ls (.int (x ^^^ y) :: r) h
    | _ => none
  | .ishl => match st with
    | .int y :: .int x :: r => gO i (pc + 1) ls (.int (x <<< (y &&& 31)) :: r) h
    | _ => none
  | .ishr => match st with
    | .int y :: .int x :: r => gO i (pc + 1) ls (.int (x >>> (y &&& 31)) :: r) h
    | _ => none
  | .iushr => match st with
    | .int y :: .int x :: r => gO i (pc + 1) ls (.int (x.toUInt32 >>> (y.toUInt32 &&& Int32.toUInt32 31)).toInt32 :: r) h
    | _ => none
  | .irem => match st with
    | .int y :: .int x :: r => if y = 0 then none else gO i (pc + 1) ls (.int (x - x / y * y) :: r) h
    | _ => none
  | .idiv => match st with
    | .int y :: .int x :: r => if y = 0 then none else gO i (pc + 1) ls (.int (x / y) :: r) h
    | _ => none
  | .i2b => match st with
    | .int x :: r => gO i (pc + 1) ls (.int x.toInt8.toInt32 :: r) h
    | _ => none
  | .i2l => match st with
    | .int x :: r => gO i (pc + 1) ls (.long x.toInt64 :: r) h
    | _ => none
  | .lcmp => match st with
    | .long y :: .long x :: r => gO i (pc + 1) ls (.int (lg_cmp x y) :: r) h
    | _ => none
  | .iinc k n => match ls[k]? with
    | some (.int x) => gO i (pc + 3) (setV ls k (.int (x + Int32.ofInt n))) st h
    | _ => none
  | .dup => match st with
    | v :: r => if v.category = 1 then gO i (pc + 1) ls (v :: v :: r) h else none
    | _ => none
  | .dup2 => match st with
    | v :: w :: r => if v.category = 1 ∧ w.category = 1 then gO i (pc + 1) ls (v :: w :: v :: w :: r) h else none
    | _ => none
  | .pop => match st with
    | v :: r => if v.category = 1 then gO i (pc + 1) ls r h else none
    | _ => none
  | .getfield k => match st, (lF (mC i)).lookup k with
    | .ref a :: r, some q => if fRef q.1 q.2.1 then (match gR h a q.1 q.2.1 with
        | some b => gO i (pc + 3) ls (.ref b :: r) h
        | none => none) else (match gI h a q.1 q.2.1 with
        | some v => gO i (pc + 3) ls (.int v :: r) h
        | none => none)
    | _, _ => none
  | .putfield k => match st, (lF (mC i)).lookup k with
    | .int v :: .ref a :: r, some q => if fRef q.1 q.2.1 = false ∧ (fT q.1 q.2.1).2.2.2 = false ∧ (fY q.1 q.2.1 = .int ∨ v = 0 ∨ v = 1) then (match pI h a q.1 q.2.1 v with
        | some h1 => gO i (pc + 3) ls r h1
        | none => none) else none
    | .ref b :: .ref a :: r, some q => if fRef q.1 q.2.1 = true ∧ ((fT q.1 q.2.1).2.2.2 = false ∨ ((mY i).name = "<init>" ∧ q.2.2.1 = 0 ∧ q.1 = mC i)) then (match pR h a q.1 q.2.1 b with
        | some h1 => gO i (pc + 3) ls r h1
        | none => none) else none
    | _, _ => none
  | .iaload => match st with
    | .int x :: .ref a :: r => (match lI h a x with
        | some v => gO i (pc + 1) ls (.int v :: r) h
        | none => none)
    | .int x :: .retAddr 1 :: r => (match scr with
        | some s => if inb x s.1 then gO i (pc + 1) ls (.int (s.2 x.toNatClampNeg) :: r) h else none
        | none => none)
    | _ => none
  | .iastore => match st with
    | .int v :: .int x :: .ref a :: r => (match sI h a x v with
        | some h1 => gO i (pc + 1) ls r h1
        | none => none)
    | _ => none
  | .baload => match st with
    | .int x :: .ref a :: r => (match lB h a x with
        | some v => gO i (pc + 1) ls (.int v :: r) h
        | none => none)
    | _ => none
  | .bastore => match st with
    | .int v :: .int x :: .ref a :: r => (match sB h a x v with
        | some h1 => gO i (pc + 1) ls r h1
        | none => none)
    | _ => none
  | .laload => match st with
    | .int x :: .ref a :: r => (match lL h a x with
        | some v => gO i (pc + 1) ls (.long v :: r) h
        | none => none)
    | _ => none
  | .lastore => match st with
    | .long v :: .int x :: .ref a :: r => (match sL h a x v with
        | some h1 => gO i (pc + 1) ls r h1
        | none => none)
    | _ => none
  | .aaload => match st with
    | .int x :: .ref a :: r => (match lR h a x with
        | some v => gO i (pc + 1) ls (rv v :: r) h
        | none => none)
    | _ => none
  | .aastore => match st with
    | .ref b :: .int x :: .ref a :: r => (match sR h a x b with
        | some h1 => gO i (pc + 1) ls r h1
        | none => none)
    | _ => none
  | .arraylength => match st with
    | .ref a :: r => (match aln h a with
        | some v => gO i (pc + 1) ls (.int v :: r) h
        | none => none)
    | .retAddr 1 :: r => (match scr with
        | some s => gO i (pc + 1) ls (.int (Int32.ofNat s.1) :: r) h
        | none => none)
    | _ => none
  | .newarray t => match st with
    | .int n :: r => if n < 0 ∨ 1000000 < n then none else (match t with
        | .int => gO i (pc + 2) ls (.ref (knx h.2) :: r) (alc h (1, n.toNatClampNeg) n.toNatClampNeg)
        | .boolean => gO i (pc + 2) ls (.ref (knx h.2) :: r) (alc h (2, n.toNatClampNeg) n.toNatClampNeg)
        | .byte => gO i (pc + 2) ls (.ref (knx h.2) :: r) (alc h (3, n.toNatClampNeg) n.toNatClampNeg)
        | .long => gO i (pc + 2) ls (.ref (knx h.2) :: r) (alc h (4, n.toNatClampNeg) n.toNatClampNeg)
        | _ => none)
    | _ => none
  | .anewarray k => match st, (lC (mC i)).lookup k with
    | .int n :: r, some q => if n < 0 ∨ 1000000 < n then none else if q.1 = RX3 then gO i (pc + 3) ls (.ref (knx h.2) :: r) (alc h (5, n.toNatClampNeg) n.toNatClampNeg) else none
    | _, _ => none
  | .multianewarray k d => match st, (lC (mC i)).lookup k with
    | .int b :: .int a :: r, some q => if b < 0 ∨ 1000 < b ∨ a < 0 ∨ 1000 < a then none else if q.1 = "[[I" ∧ d = 2 then gO i (pc + 4) ls (.ref (knx h.2) :: r) (alm h a.toNatClampNeg b.toNatClampNeg) else none
    | _, _ => none
  | .new k => match thT.lookup (i, pc) with
    | some w => if st.isEmpty then some (.inr (.inr (.inr ((2, w), thr h)))) else none
    | none => match (lC (mC i)).lookup k with
      | some q => (match (List.range 8).find? (fun c => decide (rN c = q.1)) with
        | some c => gO i (pc + 3) ls (.ref (knx h.2) :: st) (alc h (0, c) (fN c))
        | none => none)
      | none => none
  | .invokespecial k => match (lO (mC i)).lookup k with
    | some _ => (match st with
      | .ref _ :: r => if (r.map fun v => v.category).sum ≤ 8 ∧ 1 ≤ mV i then gO i (pc + 3) ls r h else none
      | _ => none)
    | none => match (lM (mC i)).lookup k with
      | some q => if 3 ≤ q.2.1 then gC i pc ls st q.1 (mN q.1 + 1) h else none
      | none => none
  | .invokevirtual k => match (lM (mC i)).lookup k with
    | some q => if q.2.1 ≤ 1 then gC i pc ls st q.1 (mN q.1 + 1) h else none
    | none => none
  | .invokestatic k => if mC i = 9 then (match lHT.lookup k, st with
    | some q, .ref o :: .int p1 :: .int p0 :: .ref x :: r => if (r.map fun v => v.category).sum ≤ 8 ∧ shp h.2 x = (0, 6) then some (.inr (.inr (.inl ((i, pc + 3, ls, r), q.1, [.ref x, .int p0, .int p1], o, h)))) else none
    | _, _ => none) else match (lM (mC i)).lookup k with
    | some q => if q.2.1 = 2 then gC i pc ls st q.1 (mN q.1) h else none
    | none => match (lS (mC i)).lookup k with
        | some _ => (match st with
          | .int n :: .int dp :: .ref b :: .int sp :: .ref a :: r => if (r.map fun v => v.category).sum ≤ 8 ∧ 1 ≤ mV i then (match acp h a sp b dp n with
            | some h1 => gO i (pc + 3) ls r h1
            | none => none) else none
          | _ => none)
        | none => none
  | .ifCond c off => match st with
    | .int x :: r => gB (jc c x 0) i pc off ls r h
    | _ => none
  | .if_icmp c off => match st with
    | .int y :: .int x :: r => gB (jc c x y) i pc off ls r h
    | _ => none
  | .ifnull off => match st with
    | .ref _ :: r => gB false i pc off ls r h
    | .null :: r => gB true i pc off ls r h
    | _ => none
  | .ifnonnull off => match st with
    | .ref _ :: r => gB true i pc off ls r h
    | .null :: r => gB false i pc off ls r h
    | _ => none
  | .goto off => match tgt pc off with
    | some t => gO i t ls st h
    | none => none
  | .tableswitch d lo hi offs => match st with
    | .int x :: r => if hi = lo + (offs.size : Int) - 1 then (match tgt pc (swt lo offs.toList x d) with
      | some t => gO i t ls r h
      | none => none) else none
    | _ => none
  | .lookupswitch d ps => match st with
    | .int x :: r => if (ps.toList.zip (ps.toList.drop 1)).all (fun (a, next) => a.1 < next.1) = true then (match tgt pc (swl ps.toList x d) with
      | some t => gO i t ls r h
      | none => none) else none
    | _ => none
  | .ireturn => match st with
    | [.int x] => if mR i = some .int ∨ (mR i = some .boolean ∧ (x = 0 ∨ x = 1)) then some (.inr (.inr (.inr ((0, x), h)))) else none
    | _ => none
  | .return_ => match st with
    | [] => if mR i = none then some (.inr (.inr (.inr ((1, 0), h)))) else none
    | _ => none
  | _ => none
/-- the length of an instruction; 0: any -/
def iln (ins : Instr) : Nat := match ins with
  | .aload _ => 2
  | .iload _ => 2
  | .istore _ => 2
  | .astore _ => 2
  | .bipush _ => 2
  | .ldc _ => 2
  | .newarray _ => 2
  | .sipush _ => 3
  | .ldc_w _ => 3
  | .getfield _ => 3
  | .putfield _ => 3
  | .invokevirtual _ => 3
  | .invokespecial _ => 3
  | .invokestatic _ => 3
  | .new _ => 3
  | .anewarray _ => 3
  | .goto _ => 3
  | .ifCond _ _ => 3
  | .if_icmp _ _ => 3
  | .ifnull _ => 3
  | .ifnonnull _ => 3
  | .iinc _ _ => 3
  | .multianewarray _ _ => 4
  | .tableswitch _ _ _ _ => 0
  | .lookupswitch _ _ => 0
  | _ => 1
def nxt (scr : Option SC) (fr : Fr) (h : Hp) : Option Act := match cd fr.1 fr.2.1 with
  | some q => if q.2 = iln q.1 ∨ iln q.1 = 0 then nx1 scr fr.1 fr.2.1 fr.2.2.1 fr.2.2.2 h q.1 else none
  | none => none
/-- a method's first frame -/
def ent (j : Nat) (as : List Value) : Fr := (j, 0, as ++ List.replicate (mX j - as.length) (.retAddr 0), [])
def psh (fr : Fr) (v : Value) : Fr := (fr.1, fr.2.1, fr.2.2.1, v :: fr.2.2.2)
def stepf (f : Option SC → Fr → Hp → Option (Rs × Hp)) (scr : Option SC) (fr : Fr) (h : Hp) : Option (Rs × Hp) := match nxt scr fr h with
  | none => none
  | some (.inl q) => f scr q.1 q.2
  | some (.inr (.inl q)) => (match f none (ent q.2.1 q.2.2.1) q.2.2.2 with
    | some (w, h1) => if w.1 = 0 ∧ (mR q.2.1).isSome then f scr (psh q.1 (.int w.2)) h1 else if w.1 = 1 ∧ (mR q.2.1).isNone then f scr q.1 h1 else none
    | none => none)
  | some (.inr (.inr (.inl q))) => (match f none (ent q.2.1 q.2.2.1) q.2.2.2.2 with
    | some (w, h1) => if w.1 = 0 then (match sL h1 q.2.2.2.1 0 w.2.toInt64 with
        | some h2 => f scr (psh q.1 (.int 0)) h2
        | none => none) else if w.1 = 2 then f scr (psh q.1 (.int (w.2 + 1))) h1 else none
    | none => none)
  | some (.inr (.inr (.inr q))) => some q
def exec : Nat → Option SC → Fr → Hp → Option (Rs × Hp)
  | 0 => fun _ _ _ => none
  | n + 1 => stepf (exec n)
end
section
/-! ===== the pure machine's runs, without fuel ===== -/
theorem stepf_mono {f g : Option SC → Fr → Hp → Option (Rs × Hp)} (hfg : ∀ scr fr h r, f scr fr h = some r → g scr fr h = some r) {scr : Option SC} {fr : Fr} {h : Hp} {r : Rs × Hp} (hx : stepf f scr fr h = some r) : stepf g scr fr h = some r := by
  unfold stepf at hx ⊢
  cases hn : nxt scr fr h with
  | none => rw [hn] at hx; cases hx
  | some a =>
    rw [hn] at hx
    rcases a with q | q | q | q
    · exact hfg _ _ _ _ hx
    · dsimp only at hx ⊢
      cases hc : f none (ent q.2.1 q.2.2.1) q.2.2.2 with
      | none => rw [hc] at hx; cases hx
      | some w =>
        rw [hc] at hx
        rw [hfg _ _ _ _ hc]
        dsimp only at hx ⊢
        by_cases c1 : w.1.1 = 0 ∧ (mR q.2.1).isSome
        · rw [if_pos c1] at hx ⊢
          exact hfg _ _ _ _ hx
        · rw [if_neg c1] at hx ⊢
          by_cases c2 : w.1.1 = 1 ∧ (mR q.2.1).isNone
          · rw [if_pos c2] at hx ⊢
            exact hfg _ _ _ _ hx
          · rw [if_neg c2] at hx
            cases hx
    · dsimp only at hx ⊢
      cases hc : f none (ent q.2.1 q.2.2.1) q.2.2.2.2 with
      | none => rw [hc] at hx; cases hx
      | some w =>
        rw [hc] at hx
        rw [hfg _ _ _ _ hc]
        dsimp only at hx ⊢
        by_cases c1 : w.1.1 = 0
        · rw [if_pos c1] at hx ⊢
          cases hs : sL w.2 q.2.2.2.1 0 w.1.2.toInt64 with
          | none => rw [hs] at hx; cases hx
          | some h2 =>
            rw [hs] at hx
            exact hfg _ _ _ _ hx
        · rw [if_neg c1] at hx ⊢
          by_cases c2 : w.1.1 = 2
          · rw [if_pos c2] at hx ⊢
            exact hfg _ _ _ _ hx
          · rw [if_neg c2] at hx
            cases hx
    · exact hx
theorem exec_succ : ∀ (n : Nat) (scr : Option SC) (fr : Fr) (h : Hp) (r : Rs × Hp), exec n scr fr h = some r → exec (n + 1) scr fr h = some r
  | 0, _, _, _, _, hx => by cases hx
  | n + 1, _, _, _, _, hx => stepf_mono (exec_succ n) hx
theorem exec_le {n k : Nat} (hk : n ≤ k) {scr : Option SC} {fr : Fr} {h : Hp} {r : Rs × Hp} (hx : exec n scr fr h = some r) : exec k scr fr h = some r := by
  induction hk with
  | refl => exact hx
  | step _ ih => exact exec_succ _ _ _ _ _ ih
theorem exec_det {n k : Nat} {scr : Option SC} {fr : Fr} {h : Hp} {r r' : Rs × Hp} (hx : exec n scr fr h = some r) (hy : exec k scr fr h = some r') : r = r' := by
  rcases Nat.le_total n k with q | q
  · exact Option.some.inj ((exec_le q hx).symm.trans hy)
  · exact Option.some.inj (hx.symm.trans (exec_le q hy))
noncomputable def run (scr : Option SC) (fr : Fr) (h : Hp) : Option (Rs × Hp) := @dite (Option (Rs × Hp)) (∃ n r, exec n scr fr h = some r) (Classical.propDecidable _) (fun q => some (Classical.choose (Classical.choose_spec q))) (fun _ => none)
theorem run_iff {scr : Option SC} {fr : Fr} {h : Hp} {r : Rs × Hp} : run scr fr h = some r ↔ ∃ n, exec n scr fr h = some r := by
  unfold run
  constructor
  · intro hx
    split at hx
    · rename_i q
      exact ⟨_, (Classical.choose_spec (Classical.choose_spec q)).trans hx⟩
    · cases hx
  · rintro ⟨n, hx⟩
    have q : ∃ n r, exec n scr fr h = some r := ⟨n, r, hx⟩
    rw [dif_pos q]
    exact congrArg some (exec_det (Classical.choose_spec (Classical.choose_spec q)) hx)
theorem stepf_run {scr : Option SC} {fr : Fr} {h : Hp} {r : Rs × Hp} (hx : stepf run scr fr h = some r) : ∃ n, stepf (exec n) scr fr h = some r := by
  have key : ∀ (n k : Nat) {scr fr h r} (_ : exec n scr fr h = some r), exec (max n k) scr fr h = some r := fun n k _ _ _ _ q => exec_le (Nat.le_max_left n k) q
  have key2 : ∀ (n k : Nat) {scr fr h r} (_ : exec k scr fr h = some r), exec (max n k) scr fr h = some r := fun n k _ _ _ _ q => exec_le (Nat.le_max_right n k) q
  unfold stepf at hx ⊢
  cases hn : nxt scr fr h with
  | none => rw [hn] at hx; cases hx
  | some a =>
    rw [hn] at hx
    rcases a with q | q | q | q
    · exact run_iff.mp hx
    · dsimp only at hx ⊢
      cases hc : run none (ent q.2.1 q.2.2.1) q.2.2.2 with
      | none => rw [hc] at hx; cases hx
      | some w =>
        rw [hc] at hx
        obtain ⟨n, hn1⟩ := run_iff.mp hc
        dsimp only at hx ⊢
        by_cases c1 : w.1.1 = 0 ∧ (mR q.2.1).isSome
        · rw [if_pos c1] at hx
          obtain ⟨k, hk⟩ := run_iff.mp hx
          refine ⟨max n k, ?_⟩
          rw [key n k hn1]
          dsimp only
          rw [if_pos c1]
          exact key2 n k hk
        · rw [if_neg c1] at hx
          by_cases c2 : w.1.1 = 1 ∧ (mR q.2.1).isNone
          · rw [if_pos c2] at hx
            obtain ⟨k, hk⟩ := run_iff.mp hx
            refine ⟨max n k, ?_⟩
            rw [key n k hn1]
            dsimp only
            rw [if_neg c1, if_pos c2]
            exact key2 n k hk
          · rw [if_neg c2] at hx
            cases hx
    · dsimp only at hx ⊢
      cases hc : run none (ent q.2.1 q.2.2.1) q.2.2.2.2 with
      | none => rw [hc] at hx; cases hx
      | some w =>
        rw [hc] at hx
        obtain ⟨n, hn1⟩ := run_iff.mp hc
        dsimp only at hx ⊢
        by_cases c1 : w.1.1 = 0
        · rw [if_pos c1] at hx
          cases hs : sL w.2 q.2.2.2.1 0 w.1.2.toInt64 with
          | none => rw [hs] at hx; cases hx
          | some h2 =>
            rw [hs] at hx
            obtain ⟨k, hk⟩ := run_iff.mp hx
            refine ⟨max n k, ?_⟩
            rw [key n k hn1]
            dsimp only
            rw [if_pos c1, hs]
            exact key2 n k hk
        · rw [if_neg c1] at hx
          by_cases c2 : w.1.1 = 2
          · rw [if_pos c2] at hx
            obtain ⟨k, hk⟩ := run_iff.mp hx
            refine ⟨max n k, ?_⟩
            rw [key n k hn1]
            dsimp only
            rw [if_neg c1, if_pos c2]
            exact key2 n k hk
          · rw [if_neg c2] at hx
            cases hx
    · exact ⟨0, hx⟩
theorem run_step (scr : Option SC) (fr : Fr) (h : Hp) : run scr fr h = stepf run scr fr h := by
  apply Option.ext
  intro r
  constructor
  · intro hx
    obtain ⟨n, hn⟩ := run_iff.mp hx
    cases n with
    | zero => cases hn
    | succ n => exact stepf_mono (fun _ _ _ _ q => run_iff.mpr ⟨n, q⟩) hn
  · intro hx
    obtain ⟨n, hn⟩ := stepf_run hx
    exact run_iff.mpr ⟨n + 1, hn⟩
end
section
/-! ===== the pure heap in the machine's heap ===== -/
def tysOf (ca : Nat → ClassId) : List (ClassId × FieldType) := [(ca 0, .int), (ca 1, .boolean), (ca 2, .byte), (ca 3, .long), (ca 4, .object RX3), (ca 5, .array .int)]
def clE (ι : Nat → Nat) (ca : Nat → ClassId) (h : Hp) (a : Nat) : va_E := match ksh h.2 a with
  | (0, ci) => .inr (ci, (List.range (fN ci)).map fun k => if fRef ci k then va_rf ((kmr h.2 a k).map ι) else .int (h.1 a k))
  | (1, n) => .inl (ca 0, n, .inl (h.1 a))
  | (2, n) => .inl (ca 1, n, .inl (h.1 a))
  | (3, n) => .inl (ca 2, n, .inl (h.1 a))
  | (4, n) => .inl (ca 3, n, .inr (.inl (kml h.2 a)))
  | (5, n) => .inl (ca 4, n, .inr (.inr (.inr (.inr (fun j => (kmr h.2 a j).map ι)))))
  | (_, n) => .inl (ca 5, n, .inr (.inr (.inr (.inr (fun j => (kmr h.2 a j).map ι)))))
def wsO (ι : Nat → Nat) (ca : Nat → ClassId) (h : Hp) : va_W := (List.range (knx h.2)).map fun a => (ι a, clE ι ca h a)
theorem wsO_get {ι : Nat → Nat} {ca : Nat → ClassId} {h : Hp} {a : Nat} (ha : a < knx h.2) : (wsO ι ca h)[a]? = some (ι a, clE ι ca h a) := by
  unfold wsO
  rw [List.getElem?_map, List.getElem?_range ha]
  rfl
theorem wsO_none {ι : Nat → Nat} {ca : Nat → ClassId} {h : Hp} {a : Nat} (ha : ¬ a < knx h.2) : (wsO ι ca h)[a]? = none := by
  apply List.getElem?_eq_none
  simp only [wsO, List.length_map, List.length_range]
  omega
theorem wsO_len (ι : Nat → Nat) (ca : Nat → ClassId) (h : Hp) : (wsO ι ca h).length = knx h.2 := by simp [wsO]
theorem wsO_set {ι : Nat → Nat} {ca : Nat → ClassId} {h h1 : Hp} {a : Nat} (ha : a < knx h.2) (hn : knx h1.2 = knx h.2) (hk : ∀ b, b ≠ a → clE ι ca h1 b = clE ι ca h b) : (wsO ι ca h).set a (ι a, clE ι ca h1 a) = wsO ι ca h1 := by
  apply List.ext_getElem?
  intro k
  by_cases e : k = a
  · subst e
    rw [List.getElem?_set_self (by rw [wsO_len]; exact ha), wsO_get (by rw [hn]; exact ha)]
  · rw [List.getElem?_set_ne (Ne.symm e)]
    by_cases hb : k < knx h.2
    · rw [wsO_get hb, wsO_get (by rw [hn]; exact hb), hk k e]
    · rw [wsO_none hb, wsO_none (by rw [hn]; exact hb)]
theorem wsO_same {ι ι1 : Nat → Nat} {ca : Nat → ClassId} {h h1 : Hp} (hn : knx h1.2 = knx h.2) (hk : ∀ b, b < knx h.2 → ι1 b = ι b ∧ clE ι1 ca h1 b = clE ι ca h b) : wsO ι1 ca h1 = wsO ι ca h := by
  apply List.ext_getElem?
  intro k
  by_cases hb : k < knx h.2
  · rw [wsO_get hb, wsO_get (by rw [hn]; exact hb), (hk k hb).1, (hk k hb).2]
  · rw [wsO_none hb, wsO_none (by rw [hn]; exact hb)]
theorem wsO_push {ι ι1 : Nat → Nat} {ca : Nat → ClassId} {h h1 : Hp} (hn : knx h1.2 = knx h.2 + 1) (hk : ∀ b, b < knx h.2 → ι1 b = ι b ∧ clE ι1 ca h1 b = clE ι ca h b) : wsO ι ca h ++ [(ι1 (knx h.2), clE ι1 ca h1 (knx h.2))] = wsO ι1 ca h1 := by
  apply List.ext_getElem?
  intro k
  by_cases hb : k < knx h.2
  · rw [List.getElem?_append_left (by rw [wsO_len]; exact hb), wsO_get hb, wsO_get (by omega), (hk k hb).1, (hk k hb).2]
  · rw [List.getElem?_append_right (by rw [wsO_len]; omega), wsO_len]
    by_cases e : k = knx h.2
    · subst e
      rw [Nat.sub_self, wsO_get (by omega)]
      rfl
    · rw [wsO_none (by omega), List.getElem?_eq_none]
      show 1 ≤ _
      omega
/-- what a value is in the machine: a number of a cell its address; .retAddr 1 the script -/
def vm9 (ι : Nat → Nat) (b : Nat) (v : Value) : Value := match v with
  | .ref a => .ref (ι a)
  | .retAddr _ => .ref b
  | .int x => .int x
  | .long x => .long x
  | .float x => .float x
  | .double x => .double x
  | .null => .null
theorem vm9_cat (ι : Nat → Nat) (b : Nat) (v : Value) : (vm9 ι b v).category = v.category := by
  cases v <;> rfl
/-- the references of a list are numbers of cells -/
def fOk (n : Nat) (l : List Value) : Prop := ∀ v ∈ l, ∀ a, v = .ref a → a < n
def hOk (h : Hp) : Prop := ∀ a k b, kmr h.2 a k = some b → b < knx h.2
def lvR (ι : Nat → Nat) (b : Nat) (ls0 : Array Slot) (nL : Nat) (ls : List Value) : Prop := ls0.size = nL ∧ lv_wf ls0 ∧ ls.length = nL ∧ (∀ v ∈ ls, v.category = 1) ∧ ∀ (k : Nat) (v : Value), ls[k]? = some v → v ≠ .retAddr 0 → ls0[k]? = some (.val (vm9 ι b v))
theorem fk_t {n : Nat} {v : Value} {l : List Value} (h : fOk n (v :: l)) : fOk n l := fun w hw => h w (List.mem_cons_of_mem _ hw)
theorem fk_i {n : Nat} {x : Int32} {l : List Value} (h : fOk n l) : fOk n (.int x :: l) := fun w hw a e => by
  rcases List.mem_cons.mp hw with q | q
  · rw [q] at e; cases e
  · exact h w q a e
theorem fk_l {n : Nat} {x : Int64} {l : List Value} (h : fOk n l) : fOk n (.long x :: l) := fun w hw a e => by
  rcases List.mem_cons.mp hw with q | q
  · rw [q] at e; cases e
  · exact h w q a e
theorem fk_n {n : Nat} {l : List Value} (h : fOk n l) : fOk n (.null :: l) := fun w hw a e => by
  rcases List.mem_cons.mp hw with q | q
  · rw [q] at e; cases e
  · exact h w q a e
theorem fk_x {n k : Nat} {l : List Value} (h : fOk n l) : fOk n (.retAddr k :: l) := fun w hw a e => by
  rcases List.mem_cons.mp hw with q | q
  · rw [q] at e; cases e
  · exact h w q a e
theorem fk_r {n a : Nat} {l : List Value} (ha : a < n) (h : fOk n l) : fOk n (.ref a :: l) := fun w hw c e => by
  rcases List.mem_cons.mp hw with q | q
  · rw [q] at e; cases e; exact ha
  · exact h w q c e
theorem fk_v {n : Nat} {v : Value} {l l2 : List Value} (hv : fOk n (v :: l2)) (h : fOk n l) : fOk n (v :: l) := fun w hw c e => by
  rcases List.mem_cons.mp hw with q | q
  · exact hv w (List.mem_cons.mpr (Or.inl q)) c e
  · exact h w q c e
theorem fk_h {n a : Nat} {l : List Value} (h : fOk n (.ref a :: l)) : a < n := h _ List.mem_cons_self a rfl
theorem fk_g {n : Nat} {l : List Value} {k a : Nat} (h : fOk n l) (hk : l[k]? = some (.ref a)) : a < n := h _ (List.mem_of_getElem? hk) a rfl
theorem fk_m {n k : Nat} {l : List Value} (h : fOk n l) (hnk : n ≤ k) : fOk k l := fun w hw a e => Nat.lt_of_lt_of_le (h w hw a e) hnk
theorem fk_set {n k : Nat} {v : Value} {l : List Value} (h : fOk n l) (hv : fOk n [v]) : fOk n (l.set k v) := fun w hw a e => by
  rcases List.mem_or_eq_of_mem_set hw with q | q
  · exact h w q a e
  · exact hv w (by rw [q]; exact List.mem_singleton.mpr rfl) a e
theorem fk_take {n k : Nat} {l : List Value} (h : fOk n l) : fOk n (l.take k).reverse := fun w hw => h w (List.mem_of_mem_take (List.mem_reverse.mp hw))
theorem fk_drop {n k : Nat} {l : List Value} (h : fOk n l) : fOk n (l.drop k) := fun w hw => h w (List.mem_of_mem_drop hw)
theorem vm9_eq {ι ι1 : Nat → Nat} {b n : Nat} (hι : ∀ a, a < n → ι1 a = ι a) : ∀ {l : List Value}, fOk n l → l.map (vm9 ι1 b) = l.map (vm9 ι b) := by
  intro l h
  apply List.map_congr_left
  intro v hv
  cases v with
  | ref a => show Value.ref (ι1 a) = .ref (ι a); rw [hι a (h _ hv a rfl)]
  | _ => rfl
theorem lvR.ext {ι ι1 : Nat → Nat} {b n nL : Nat} {ls0 : Array Slot} {ls : List Value} (h : lvR ι b ls0 nL ls) (hι : ∀ a, a < n → ι1 a = ι a) (hf : fOk n ls) : lvR ι1 b ls0 nL ls := by
  refine ⟨h.1, h.2.1, h.2.2.1, h.2.2.2.1, fun k v hk hv => ?_⟩
  rw [h.2.2.2.2 k v hk hv]
  congr 2
  cases v with
  | ref a => show Value.ref (ι a) = .ref (ι1 a); rw [hι a (fk_g hf hk)]
  | _ => rfl
/-- the known locals as the kit lists them -/
def lvL (ι : Nat → Nat) (b : Nat) (ls : List Value) : List (Nat × Value) := ls.zipIdx.filterMap fun q => if q.1 = .retAddr 0 then none else some (q.2, vm9 ι b q.1)
theorem lvL_mem {ι : Nat → Nat} {b : Nat} {ls : List Value} {q : Nat × Value} : q ∈ lvL ι b ls ↔ ∃ v, ls[q.1]? = some v ∧ v ≠ .retAddr 0 ∧ q.2 = vm9 ι b v := by
  unfold lvL
  rw [List.mem_filterMap]
  constructor
  · rintro ⟨⟨v, k⟩, hm, he⟩
    have hk := List.mk_mem_zipIdx_iff_getElem?.mp hm
    by_cases e : v = .retAddr 0
    · simp [e] at he
    · simp only [e, if_false, Option.some.injEq] at he
      subst he
      exact ⟨v, hk, e, rfl⟩
  · rintro ⟨v, hk, e, h2⟩
    refine ⟨(v, q.1), List.mk_mem_zipIdx_iff_getElem?.mpr hk, ?_⟩
    simp only [e, if_false]
    rw [← h2]
theorem lvR.has {ι : Nat → Nat} {b nL : Nat} {ls0 : Array Slot} {ls : List Value} (h : lvR ι b ls0 nL ls) : lv_has ls0 nL (lvL ι b ls) := by
  refine ⟨h.1, h.2.1, fun q hq => ?_⟩
  obtain ⟨v, h1, h2, h3⟩ := lvL_mem.mp hq
  rw [h3]
  exact h.2.2.2.2 _ v h1 h2
theorem lvR.set {ι : Nat → Nat} {b nL k : Nat} {ls0 ls1 : Array Slot} {ls : List Value} {v : Value} (h : lvR ι b ls0 nL ls) (hc : v.category = 1)
    (h1 : lv_has ls1 nL ((k, vm9 ι b v) :: (lvL ι b ls).filter (fun q => !(q.1 == k) && !(q.1 + 1 == k && q.2.category == 2)))) : lvR ι b ls1 nL (ls.set k v) := by
  refine ⟨h1.1, h1.2.1, by rw [List.length_set]; exact h.2.2.1, fun w hw => ?_, fun j w hj hw => ?_⟩
  · rcases List.mem_or_eq_of_mem_set hw with q | q
    · exact h.2.2.2.1 w q
    · rw [q]; exact hc
  · by_cases e : j = k
    · subst e
      have hlt : j < ls.length := by
        have := (List.getElem?_eq_some_iff.mp hj).1
        rw [List.length_set] at this
        exact this
      rw [List.getElem?_set_self hlt] at hj
      cases hj
      exact h1.2.2 (j, vm9 ι b v) List.mem_cons_self
    · rw [List.getElem?_set_ne (Ne.symm e)] at hj
      refine h1.2.2 (j, vm9 ι b w) (List.mem_cons_of_mem _ (List.mem_filter.mpr ⟨lvL_mem.mpr ⟨w, hj, hw, rfl⟩, ?_⟩))
      have hcat : (vm9 ι b w).category = 1 := by rw [vm9_cat]; exact h.2.2.2.1 w (List.mem_of_getElem? hj)
      simp [e, hcat]
theorem lg_sl1 : ∀ (vs : List Value), (∀ v ∈ vs, v.category = 1) → lg_sl vs = vs.map .val
  | [], _ => rfl
  | v :: vs, h => by
    have h1 := h v List.mem_cons_self
    have h2 := lg_sl1 vs (fun w hw => h w (List.mem_cons_of_mem _ hw))
    unfold lg_sl at h2 ⊢
    rw [List.flatMap_cons, h2, if_neg (by rw [h1]; decide)]
    rfl
theorem lv_args1 : ∀ (vs : List Value) (k : Nat), (∀ v ∈ vs, v.category = 1) → ∀ (j : Nat) (v : Value), vs[j]? = some v → (k + j, v) ∈ lv_args k vs
  | [], _, _, j, v, h => by simp at h
  | w :: vs, k, hc, j, v, h => by
    unfold lv_args
    rw [if_neg (by rw [hc w List.mem_cons_self]; decide)]
    cases j with
    | zero => cases h; exact List.mem_cons_self
    | succ j =>
      rw [List.getElem?_cons_succ] at h
      have h2 := lv_args1 vs (k + 1) (fun w hw => hc w (List.mem_cons_of_mem _ hw)) j v h
      rw [show k + (j + 1) = k + 1 + j by omega]
      exact List.mem_cons_of_mem _ h2
/-- a method's first frame in the machine -/
theorem lvR_entry {ι : Nat → Nat} {b nL : Nat} {as : List Value} (hc : ∀ v ∈ as, v.category = 1) (hl : as.length ≤ nL) : lvR ι b ((lg_sl (as.map (vm9 ι b)) ++ List.replicate (nL - (lg_sl (as.map (vm9 ι b))).length) Slot.unset).toArray) nL (as ++ List.replicate (nL - as.length) (.retAddr 0)) := by
  have hc2 : ∀ v ∈ as.map (vm9 ι b), v.category = 1 := by
    intro v hv
    obtain ⟨w, h1, h2⟩ := List.mem_map.mp hv
    rw [← h2, vm9_cat]
    exact hc w h1
  have hlen : (lg_sl (as.map (vm9 ι b))).length = as.length := by rw [lg_sl1 _ hc2, List.length_map, List.length_map]
  have hh := lv_entry (as.map (vm9 ι b)) (n := nL) (by rw [hlen]; exact hl)
  refine ⟨hh.1, hh.2.1, by rw [List.length_append, List.length_replicate]; omega, fun v hv => ?_, fun k v hk hv => ?_⟩
  · rcases List.mem_append.mp hv with q | q
    · exact hc v q
    · rw [(List.mem_replicate.mp q).2]; rfl
  · by_cases hk2 : k < as.length
    · rw [List.getElem?_append_left hk2] at hk
      have h3 := lv_args1 (as.map (vm9 ι b)) 0 hc2 k (vm9 ι b v) (by rw [List.getElem?_map, hk]; rfl)
      rw [Nat.zero_add] at h3
      exact hh.2.2 (k, vm9 ι b v) h3
    · rw [List.getElem?_append_right (by omega)] at hk
      exact absurd (List.mem_replicate.mp (List.mem_of_getElem? hk)).2 hv
end
section
/-! ===== what the start says of old cells: String constants, Throwable's statics ===== -/
/-- own class, entry, text, place -/
def strJ : List (String × Nat × String × Nat) := [(RX2, 9, "branch", 0), (RX2, 17, "closed", 1), (RX2, 19, "title", 2), (RX2, 21, "item", 3), (RX2, 23, "van", 4), (RX2, 25, "hold", 5), (RX2, 27, "grace", 6), (RX2, 29, "renews", 7), (RX6, 87, "no such branch", 8), (RX6, 111, "no such what", 9), (RX6, 117, "no such title", 10), (RX6, 134, "no such item", 11), (RX6, 168, "no such hold", 12)]
def lenJ : List Nat := [6, 6, 5, 4, 3, 4, 5, 6, 14, 12, 13, 12, 12]
def bytJ : List (List Int32) := [[98, 114, 97, 110, 99, 104], [99, 108, 111, 115, 101, 100], [116, 105, 116, 108, 101], [105, 116, 101, 109], [118, 97, 110], [104, 111, 108, 100], [103, 114, 97, 99, 101], [114, 101, 110, 101, 119, 115], [110, 111, 32, 115, 117, 99, 104, 32, 98, 114, 97, 110, 99, 104], [110, 111, 32, 115, 117, 99, 104, 32, 119, 104, 97, 116], [110, 111, 32, 115, 117, 99, 104, 32, 116, 105, 116, 108, 101], [110, 111, 32, 115, 117, 99, 104, 32, 105, 116, 101, 109], [110, 111, 32, 115, 117, 99, 104, 32, 104, 111, 108, 100]]
def ZOK (A : Nat → Prop) (U : State) : Prop := (∃ adK adV : Nat → Nat, vk_S 13 lenJ bytJ adK adV A U U.heap ∧ (∀ q ∈ strJ, vk_R q.1 q.2.1 q.2.2.1 (adK q.2.2.2) U)) ∧ vx_Zq Bundle.tN "UNASSIGNED_STACK" Bundle.steD A U U.heap ∧ vx_Zq Bundle.tN "SUPPRESSED_SENTINEL" Bundle.listD A U U.heap ∧ va_Z "java/lang/String" "COMPACT_STRINGS" "Z" (.int 1) A U U.heap ∧ va_Nc "java/util/NoSuchElementException" "java/lang/IndexOutOfBoundsException" U ∧ va_Zq "jdk/internal/util/Preconditions" "SIOOBE_FORMATTER" "Ljava/util/function/BiFunction;" A U U.heap
theorem ZOK.move {A B : Nat → Prop} {U V : State} (hW : U.WarmedH V.vm) (hk : ∀ q : Nat, q < U.heap.size → ¬ A q → V.heap[q]? = U.heap[q]?) (hAB : ∀ q, B q → A q) (h : ZOK A U) : ZOK B V := by
  obtain ⟨⟨adK, adV, h1, h2⟩, h3, h4, h5, h6, h7⟩ := h
  exact ⟨⟨adK, adV, ((h1.moved hW.alike).kept hk).narrow hAB, fun q hq => (h2 q hq).warm hW⟩, ((h3.moved hW.alike).kept hk).narrow hAB, ((h4.moved hW.alike).kept hk).narrow hAB, ((h5.moved hW.alike).kept hk).narrow hAB, h6.moved hW.alike, ((h7.moved hW.alike).kept hk).narrow hAB⟩
theorem ZOK.calling {A : Nat → Prop} {U : State} (g : JFrame) (mk : MethodId) (a : Array Value) (h : ZOK A U) : ZOK A (U.calling g mk a) := by
  obtain ⟨⟨adK, adV, h1, h2⟩, h3, h4, h5, h6, h7⟩ := h
  have hvm : U.vm.Alike (U.calling g mk a).vm := Vm.Alike.refl U.vm
  exact ⟨⟨adK, adV, h1.moved hvm, fun q hq => (h2 q hq).same rfl⟩, h3.moved hvm, h4.moved hvm, h5.moved hvm, h6.moved hvm, h7.moved hvm⟩
end
section
/-! ===== each step of the pure machine is a step of the machine ===== -/
/-- a link into a nest mate -/
def nestW (w : Cond) : Bool := match w with
  | .fieldLinkNest _ _ _ _ _ _ => true
  | .methodLinkNest _ _ _ _ => true
  | .castable _ _ => true
  | .declares _ => true
  | _ => false
/-- what holds of a method's body as long as it runs -/
def Ctx (p : Program) (R : Room) (s : State) (m : MethodId) (args : Array Value) (meth : Method) (c : Code) (i b : Nat) (ca : Nat → ClassId) (D : va_G) (A : Nat → Prop) (scr : Option SC) : Prop :=
  p.tables.exec = Jvm.exec ∧ c.code = mB i ∧ c.maxLocals = mX i ∧ s.vm.findClass (rN (mC i)) = some m.cls ∧ (∀ w ∈ lw_tbl, goodWord w = true → w.before args s = true) ∧ (∀ w ∈ lw_tbl, nestW w = true → va_Nw w s) ∧ (va_AO RX3 s ∧ va_AOA .int s) ∧ ZOK A s ∧ va_K D vwCl (tysOf ca) s ∧ (∀ q, s.heap.size ≤ q → A q) ∧ (∀ sc, scr = some sc → va_X b sc.1 sc.2 s s.heap ∧ b < s.heap.size ∧ ¬ A b) ∧ ((mY i).name = "<init>" → meth.name = "<init>") ∧ mV i ≤ R.frames ∧ 39 * mV i ≤ R.locals ∧ mC i < 10
def RepS (s : State) (ι : Nat → Nat) (b : Nat) (ca : Nat → ClassId) (D : va_G) (A : Nat → Prop) (nL : Nat) (ls st : List Value) (h : Hp) (H : Heap) (locs : List Loc) (ls0 : Array Slot) : Prop :=
  va_P D vwCl (wsO ι ca h) H ∧ va_D A (wsO ι ca h) ∧ va_S A s.heap H locs ∧ lvR ι b ls0 nL ls ∧ fOk (knx h.2) ls ∧ fOk (knx h.2) st ∧ hOk h
theorem cd_ok {i pc : Nat} {q : Instr × Nat} (h : cd i pc = some q) : decode (mB i) pc = .ok q := by
  unfold cd at h
  split at h
  · cases h; assumption
  · cases h
theorem inb_in {x : Int32} {n : Nat} (h : inb x n = true) : vp_in x n := by
  simp only [inb, Bool.and_eq_true, decide_eq_true_eq] at h
  rintro (q | q)
  · exact h.1 q
  · omega
theorem tgt_ok {pc t : Nat} {off : Int} (h : tgt pc off = some t) : (pc : Int) + off = (t : Int) := by
  unfold tgt at h
  split at h
  · cases h
    rename_i q
    rw [Int.toNat_of_nonneg q]
  · cases h
section OPS
variable {p : Program} {l : Launch} {e : Env} {R : Room} {s : State} {m : MethodId} {args : Array Value} {below : List Frame} {meth : Method} {c : Code} {H : Heap} {locs : List Loc} {cells slots : Nat} {Q : State → Prop} {i b pc nL : Nat} {ca : Nat → ClassId} {D : va_G} {A : Nat → Prop} {scr : Option SC} {ι : Nat → Nat} {ls st : List Value} {h : Hp} {ls0 : Array Slot} {x y : Int32}
theorem RepS.stk {st2 : List Value} (hR : RepS s ι b ca D A nL ls st h H locs ls0) (hf : fOk (knx h.2) st2) : RepS s ι b ca D A nL ls st2 h H locs ls0 := ⟨hR.1, hR.2.1, hR.2.2.1, hR.2.2.2.1, hR.2.2.2.2.1, hf, hR.2.2.2.2.2.2⟩
theorem RepS.fs (hR : RepS s ι b ca D A nL ls st h H locs ls0) : fOk (knx h.2) st := hR.2.2.2.2.2.1
theorem RepS.fl (hR : RepS s ι b ca D A nL ls st h H locs ls0) : fOk (knx h.2) ls := hR.2.2.2.2.1
theorem RepS.lv (hR : RepS s ι b ca D A nL ls st h H locs ls0) : lvR ι b ls0 nL ls := hR.2.2.2.1
theorem RepS.at {k : Nat} {v : Value} (hR : RepS s ι b ca D A nL ls st h H locs ls0) (hk : ls[k]? = some v) (hv : v ≠ .retAddr 0) : ls0[k]? = some (.val (vm9 ι b v)) := hR.2.2.2.1.2.2.2.2 k v hk hv
theorem RepS.loc {ls1 : Array Slot} {ls2 st2 : List Value} (hR : RepS s ι b ca D A nL ls st h H locs ls0) (hl : lvR ι b ls1 nL ls2) (hf : fOk (knx h.2) ls2) (hf2 : fOk (knx h.2) st2) : RepS s ι b ca D A nL ls2 st2 h H locs ls1 := ⟨hR.1, hR.2.1, hR.2.2.1, hl, hf, hf2, hR.2.2.2.2.2.2⟩
theorem g_iload_n {k : Fin 4} (C : Ctx p R s m args meth c i b ca D A scr) (hd : decode (mB i) pc = .ok (.iload_n k, 1)) (hl : ls[(k : Nat)]? = some (.int x)) (hR : RepS s ι b ca D A (mX i) ls st h H locs ls0) (kk : RepS s ι b ca D A (mX i) ls (.int x :: st) h H locs ls0 → W p l e R s m args below meth c H locs cells slots Q (F0 m (pc + 1) ls0 ((.int x :: st).map (vm9 ι b)))) : W p l e R s m args below meth c H locs cells slots Q (F0 m (pc) ls0 (st.map (vm9 ι b))) := lv_iload_n C.1 C.2.1 hd rfl (hR.at hl (by simp)) (kk (hR.stk (fk_i hR.fs)))
theorem g_iload {k : Nat} (C : Ctx p R s m args meth c i b ca D A scr) (hd : decode (mB i) pc = .ok (.iload k, 2)) (hl : ls[k]? = some (.int x)) (hR : RepS s ι b ca D A (mX i) ls st h H locs ls0) (kk : RepS s ι b ca D A (mX i) ls (.int x :: st) h H locs ls0 → W p l e R s m args below meth c H locs cells slots Q (F0 m (pc + 2) ls0 ((.int x :: st).map (vm9 ι b)))) : W p l e R s m args below meth c H locs cells slots Q (F0 m (pc) ls0 (st.map (vm9 ι b))) := lv_iload C.1 C.2.1 hd (hR.at hl (by simp)) (kk (hR.stk (fk_i hR.fs)))
theorem g_aload_n {k : Fin 4} {a : Nat} (C : Ctx p R s m args meth c i b ca D A scr) (hd : decode (mB i) pc = .ok (.aload_n k, 1)) (hl : ls[(k : Nat)]? = some (.ref a)) (hR : RepS s ι b ca D A (mX i) ls st h H locs ls0) (kk : RepS s ι b ca D A (mX i) ls (.ref a :: st) h H locs ls0 → W p l e R s m args below meth c H locs cells slots Q (F0 m (pc + 1) ls0 ((.ref a :: st).map (vm9 ι b)))) : W p l e R s m args below meth c H locs cells slots Q (F0 m (pc) ls0 (st.map (vm9 ι b))) := lv_aload_n C.1 C.2.1 hd rfl (hR.at hl (by simp)) (kk (hR.stk (fk_r (fk_g hR.fl hl) hR.fs)))
theorem g_aload_nN {k : Fin 4} (C : Ctx p R s m args meth c i b ca D A scr) (hd : decode (mB i) pc = .ok (.aload_n k, 1)) (hl : ls[(k : Nat)]? = some .null) (hR : RepS s ι b ca D A (mX i) ls st h H locs ls0) (kk : RepS s ι b ca D A (mX i) ls (.null :: st) h H locs ls0 → W p l e R s m args below meth c H locs cells slots Q (F0 m (pc + 1) ls0 ((.null :: st).map (vm9 ι b)))) : W p l e R s m args below meth c H locs cells slots Q (F0 m (pc) ls0 (st.map (vm9 ι b))) := lv_aload_nN C.1 C.2.1 hd rfl (hR.at hl (by simp)) (kk (hR.stk (fk_n hR.fs)))
theorem g_aload {k : Nat} {a : Nat} (C : Ctx p R s m args meth c i b ca D A scr) (hd : decode (mB i) pc = .ok (.aload k, 2)) (hl : ls[k]? = some (.ref a)) (hR : RepS s ι b ca D A (mX i) ls st h H locs ls0) (kk : RepS s ι b ca D A (mX i) ls (.ref a :: st) h H locs ls0 → W p l e R s m args below meth c H locs cells slots Q (F0 m (pc + 2) ls0 ((.ref a :: st).map (vm9 ι b)))) : W p l e R s m args below meth c H locs cells slots Q (F0 m (pc) ls0 (st.map (vm9 ι b))) := lv_aload C.1 C.2.1 hd (hR.at hl (by simp)) (kk (hR.stk (fk_r (fk_g hR.fl hl) hR.fs)))
theorem g_aloadN {k : Nat} (C : Ctx p R s m args meth c i b ca D A scr) (hd : decode (mB i) pc = .ok (.aload k, 2)) (hl : ls[k]? = some .null) (hR : RepS s ι b ca D A (mX i) ls st h H locs ls0) (kk : RepS s ι b ca D A (mX i) ls (.null :: st) h H locs ls0 → W p l e R s m args below meth c H locs cells slots Q (F0 m (pc + 2) ls0 ((.null :: st).map (vm9 ι b)))) : W p l e R s m args below meth c H locs cells slots Q (F0 m (pc) ls0 (st.map (vm9 ι b))) := lv_aloadN C.1 C.2.1 hd (hR.at hl (by simp)) (kk (hR.stk (fk_n hR.fs)))
theorem g_aload_nX {k : Fin 4} (C : Ctx p R s m args meth c i b ca D A scr) (hd : decode (mB i) pc = .ok (.aload_n k, 1)) (hl : ls[(k : Nat)]? = some (.retAddr 1)) (hR : RepS s ι b ca D A (mX i) ls st h H locs ls0) (kk : RepS s ι b ca D A (mX i) ls (.retAddr 1 :: st) h H locs ls0 → W p l e R s m args below meth c H locs cells slots Q (F0 m (pc + 1) ls0 ((.retAddr 1 :: st).map (vm9 ι b)))) : W p l e R s m args below meth c H locs cells slots Q (F0 m (pc) ls0 (st.map (vm9 ι b))) := lv_aload_n C.1 C.2.1 hd rfl (hR.at hl (by simp)) (kk (hR.stk (fk_x hR.fs)))
theorem g_istore_n {k : Fin 4} (C : Ctx p R s m args meth c i b ca D A scr) (hd : decode (mB i) pc = .ok (.istore_n k, 1)) (hl : (k : Nat) < ls.length) (hR : RepS s ι b ca D A (mX i) ls (.int x :: st) h H locs ls0) (kk : ∀ ls1, RepS s ι b ca D A (mX i) (ls.set (k : Nat) (.int x)) st h H locs ls1 → W p l e R s m args below meth c H locs cells slots Q (F0 m (pc + 1) ls1 (st.map (vm9 ι b)))) : W p l e R s m args below meth c H locs cells slots Q (F0 m (pc) ls0 ((.int x :: st).map (vm9 ι b))) := lv_istore_n C.1 C.2.1 hd rfl hR.lv.has (by rw [← hR.lv.2.2.1]; exact hl) rfl (fun ls1 h1 => kk ls1 (hR.loc (hR.lv.set (v := .int x) rfl h1) (fk_set hR.fl (fk_i (fun _ q => by cases q))) (fk_t hR.fs)))
theorem g_istore {k : Nat} (C : Ctx p R s m args meth c i b ca D A scr) (hd : decode (mB i) pc = .ok (.istore k, 2)) (hl : k < ls.length) (hR : RepS s ι b ca D A (mX i) ls (.int x :: st) h H locs ls0) (kk : ∀ ls1, RepS s ι b ca D A (mX i) (ls.set k (.int x)) st h H locs ls1 → W p l e R s m args below meth c H locs cells slots Q (F0 m (pc + 2) ls1 (st.map (vm9 ι b)))) : W p l e R s m args below meth c H locs cells slots Q (F0 m (pc) ls0 ((.int x :: st).map (vm9 ι b))) := lv_istore C.1 C.2.1 hd hR.lv.has (by rw [← hR.lv.2.2.1]; exact hl) rfl (fun ls1 h1 => kk ls1 (hR.loc (hR.lv.set (v := .int x) rfl h1) (fk_set hR.fl (fk_i (fun _ q => by cases q))) (fk_t hR.fs)))
theorem g_astore_n {k : Fin 4} {a : Nat} (C : Ctx p R s m args meth c i b ca D A scr) (hd : decode (mB i) pc = .ok (.astore_n k, 1)) (hl : (k : Nat) < ls.length) (hR : RepS s ι b ca D A (mX i) ls (.ref a :: st) h H locs ls0) (kk : ∀ ls1, RepS s ι b ca D A (mX i) (ls.set (k : Nat) (.ref a)) st h H locs ls1 → W p l e R s m args below meth c H locs cells slots Q (F0 m (pc + 1) ls1 (st.map (vm9 ι b)))) : W p l e R s m args below meth c H locs cells slots Q (F0 m (pc) ls0 ((.ref a :: st).map (vm9 ι b))) := lv_astore_n C.1 C.2.1 hd rfl hR.lv.has (by rw [← hR.lv.2.2.1]; exact hl) rfl (fun ls1 h1 => kk ls1 (hR.loc (hR.lv.set (v := .ref a) rfl h1) (fk_set hR.fl (fk_r (fk_h hR.fs) (fun _ q => by cases q))) (fk_t hR.fs)))
theorem g_astore_nN {k : Fin 4} (C : Ctx p R s m args meth c i b ca D A scr) (hd : decode (mB i) pc = .ok (.astore_n k, 1)) (hl : (k : Nat) < ls.length) (hR : RepS s ι b ca D A (mX i) ls (.null :: st) h H locs ls0) (kk : ∀ ls1, RepS s ι b ca D A (mX i) (ls.set (k : Nat) .null) st h H locs ls1 → W p l e R s m args below meth c H locs cells slots Q (F0 m (pc + 1) ls1 (st.map (vm9 ι b)))) : W p l e R s m args below meth c H locs cells slots Q (F0 m (pc) ls0 ((.null :: st).map (vm9 ι b))) := lv_astore_nN C.1 C.2.1 hd rfl hR.lv.has (by rw [← hR.lv.2.2.1]; exact hl) rfl (fun ls1 h1 => kk ls1 (hR.loc (hR.lv.set (v := .null) rfl h1) (fk_set hR.fl (fk_n (fun _ q => by cases q))) (fk_t hR.fs)))
theorem g_astore {k : Nat} {a : Nat} (C : Ctx p R s m args meth c i b ca D A scr) (hd : decode (mB i) pc = .ok (.astore k, 2)) (hl : k < ls.length) (hR : RepS s ι b ca D A (mX i) ls (.ref a :: st) h H locs ls0) (kk : ∀ ls1, RepS s ι b ca D A (mX i) (ls.set k (.ref a)) st h H locs ls1 → W p l e R s m args below meth c H locs cells slots Q (F0 m (pc + 2) ls1 (st.map (vm9 ι b)))) : W p l e R s m args below meth c H locs cells slots Q (F0 m (pc) ls0 ((.ref a :: st).map (vm9 ι b))) := lv_astore C.1 C.2.1 hd hR.lv.has (by rw [← hR.lv.2.2.1]; exact hl) rfl (fun ls1 h1 => kk ls1 (hR.loc (hR.lv.set (v := .ref a) rfl h1) (fk_set hR.fl (fk_r (fk_h hR.fs) (fun _ q => by cases q))) (fk_t hR.fs)))
theorem g_astoreN {k : Nat} (C : Ctx p R s m args meth c i b ca D A scr) (hd : decode (mB i) pc = .ok (.astore k, 2)) (hl : k < ls.length) (hR : RepS s ι b ca D A (mX i) ls (.null :: st) h H locs ls0) (kk : ∀ ls1, RepS s ι b ca D A (mX i) (ls.set k .null) st h H locs ls1 → W p l e R s m args below meth c H locs cells slots Q (F0 m (pc + 2) ls1 (st.map (vm9 ι b)))) : W p l e R s m args below meth c H locs cells slots Q (F0 m (pc) ls0 ((.null :: st).map (vm9 ι b))) := lv_astoreN C.1 C.2.1 hd hR.lv.has (by rw [← hR.lv.2.2.1]; exact hl) rfl (fun ls1 h1 => kk ls1 (hR.loc (hR.lv.set (v := .null) rfl h1) (fk_set hR.fl (fk_n (fun _ q => by cases q))) (fk_t hR.fs)))
theorem g_iinc {k : Nat} {n : Int} (C : Ctx p R s m args meth c i b ca D A scr) (hd : decode (mB i) pc = .ok (.iinc k n, 3)) (hl : ls[k]? = some (.int x)) (hR : RepS s ι b ca D A (mX i) ls st h H locs ls0) (kk : ∀ ls1, RepS s ι b ca D A (mX i) (ls.set k (.int (x + Int32.ofInt n))) st h H locs ls1 → W p l e R s m args below meth c H locs cells slots Q (F0 m (pc + 3) ls1 (st.map (vm9 ι b)))) : W p l e R s m args below meth c H locs cells slots Q (F0 m (pc) ls0 (st.map (vm9 ι b))) := by
  obtain ⟨j, hj⟩ := List.getElem?_of_mem (lvL_mem (ι := ι) (b := b) (q := (k, .int x)) |>.mpr ⟨.int x, hl, by simp, rfl⟩)
  exact lv_iinc C.1 C.2.1 hd hR.lv.has hj rfl (by rw [← hR.lv.2.2.1]; exact (List.getElem?_eq_some_iff.mp hl).1) rfl (fun ls1 h1 => kk ls1 (hR.loc (hR.lv.set (v := .int (x + Int32.ofInt n)) rfl h1) (fk_set hR.fl (fk_i (fun _ q => by cases q))) hR.fs))
theorem g_iconst {n : Int} (C : Ctx p R s m args meth c i b ca D A scr) (hd : decode (mB i) pc = .ok (.iconst n, 1)) (hR : RepS s ι b ca D A (mX i) ls (st) h H locs ls0) (kk : RepS s ι b ca D A (mX i) ls (.int (Int32.ofInt n) :: st) h H locs ls0 → W p l e R s m args below meth c H locs cells slots Q (F0 m (pc + 1) ls0 ((.int (Int32.ofInt n) :: st).map (vm9 ι b)))) : W p l e R s m args below meth c H locs cells slots Q (F0 m (pc) ls0 ((st).map (vm9 ι b))) := lv_iconst C.1 C.2.1 hd rfl (kk (hR.stk (fk_i hR.fs)))
theorem g_bipush {n : Int} (C : Ctx p R s m args meth c i b ca D A scr) (hd : decode (mB i) pc = .ok (.bipush n, 2)) (hR : RepS s ι b ca D A (mX i) ls (st) h H locs ls0) (kk : RepS s ι b ca D A (mX i) ls (.int (Int8.ofInt n).toInt32 :: st) h H locs ls0 → W p l e R s m args below meth c H locs cells slots Q (F0 m (pc + 2) ls0 ((.int (Int8.ofInt n).toInt32 :: st).map (vm9 ι b)))) : W p l e R s m args below meth c H locs cells slots Q (F0 m (pc) ls0 ((st).map (vm9 ι b))) := lv_bipush C.1 C.2.1 hd rfl (kk (hR.stk (fk_i hR.fs)))
theorem g_sipush {n : Int} (C : Ctx p R s m args meth c i b ca D A scr) (hd : decode (mB i) pc = .ok (.sipush n, 3)) (hR : RepS s ι b ca D A (mX i) ls (st) h H locs ls0) (kk : RepS s ι b ca D A (mX i) ls (.int (Int16.ofInt n).toInt32 :: st) h H locs ls0 → W p l e R s m args below meth c H locs cells slots Q (F0 m (pc + 3) ls0 ((.int (Int16.ofInt n).toInt32 :: st).map (vm9 ι b)))) : W p l e R s m args below meth c H locs cells slots Q (F0 m (pc) ls0 ((st).map (vm9 ι b))) := lv_sipush C.1 C.2.1 hd rfl (kk (hR.stk (fk_i hR.fs)))
theorem g_iadd (C : Ctx p R s m args meth c i b ca D A scr) (hd : decode (mB i) pc = .ok (.iadd, 1)) (hR : RepS s ι b ca D A (mX i) ls (.int y :: .int x :: st) h H locs ls0) (kk : RepS s ι b ca D A (mX i) ls (.int (x + y) :: st) h H locs ls0 → W p l e R s m args below meth c H locs cells slots Q (F0 m (pc + 1) ls0 ((.int (x + y) :: st).map (vm9 ι b)))) : W p l e R s m args below meth c H locs cells slots Q (F0 m (pc) ls0 ((.int y :: .int x :: st).map (vm9 ι b))) := lv_iadd C.1 C.2.1 hd (kk (hR.stk (fk_i (fk_t (fk_t hR.fs)))))
theorem g_isub (C : Ctx p R s m args meth c i b ca D A scr) (hd : decode (mB i) pc = .ok (.isub, 1)) (hR : RepS s ι b ca D A (mX i) ls (.int y :: .int x :: st) h H locs ls0) (kk : RepS s ι b ca D A (mX i) ls (.int (x - y) :: st) h H locs ls0 → W p l e R s m args below meth c H locs cells slots Q (F0 m (pc + 1) ls0 ((.int (x - y) :: st).map (vm9 ι b)))) : W p l e R s m args below meth c H locs cells slots Q (F0 m (pc) ls0 ((.int y :: .int x :: st).map (vm9 ι b))) := lv_isub C.1 C.2.1 hd (kk (hR.stk (fk_i (fk_t (fk_t hR.fs)))))
theorem g_imul (C : Ctx p R s m args meth c i b ca D A scr) (hd : decode (mB i) pc = .ok (.imul, 1)) (hR : RepS s ι b ca D A (mX i) ls (.int y :: .int x :: st) h H locs ls0) (kk : RepS s ι b ca D A (mX i) ls (.int (x * y) :: st) h H locs ls0 → W p l e R s m args below meth c H locs cells slots Q (F0 m (pc + 1) ls0 ((.int (x * y) :: st).map (vm9 ι b)))) : W p l e R s m args below meth c H locs cells slots Q (F0 m (pc) ls0 ((.int y :: .int x :: st).map (vm9 ι b))) := lv_imul C.1 C.2.1 hd (kk (hR.stk (fk_i (fk_t (fk_t hR.fs)))))
theorem g_iand (C : Ctx p R s m args meth c i b ca D A scr) (hd : decode (mB i) pc = .ok (.iand, 1)) (hR : RepS s ι b ca D A (mX i) ls (.int y :: .int x :: st) h H locs ls0) (kk : RepS s ι b ca D A (mX i) ls (.int (x &&& y) :: st) h H locs ls0 → W p l e R s m args below meth c H locs cells slots Q (F0 m (pc + 1) ls0 ((.int (x &&& y) :: st).map (vm9 ι b)))) : W p l e R s m args below meth c H locs cells slots Q (F0 m (pc) ls0 ((.int y :: .int x :: st).map (vm9 ι b))) := lv_iand C.1 C.2.1 hd (kk (hR.stk (fk_i (fk_t (fk_t hR.fs)))))
theorem g_ior (C : Ctx p R s m args meth c i b ca D A scr) (hd : decode (mB i) pc = .ok (.ior, 1)) (hR : RepS s ι b ca D A (mX i) ls (.int y :: .int x :: st) h H locs ls0) (kk : RepS s ι b ca D A (mX i) ls (.int (x ||| y) :: st) h H locs ls0 → W p l e R s m args below meth c H locs cells slots Q (F0 m (pc + 1) ls0 ((.int (x ||| y) :: st).map (vm9 ι b)))) : W p l e R s m args below meth c H locs cells slots Q (F0 m (pc) ls0 ((.int y :: .int x :: st).map (vm9 ι b))) := lv_ior C.1 C.2.1 hd (kk (hR.stk (fk_i (fk_t (fk_t hR.fs)))))
theorem g_ixor (C : Ctx p R s m args meth c i b ca D A scr) (hd : decode (mB i) pc = .ok (.ixor, 1)) (hR : RepS s ι b ca D A (mX i) ls (.int y :: .int x :: st) h H locs ls0) (kk : RepS s ι b ca D A (mX i) ls (.int (x ^^^ y) :: st) h H locs ls0 → W p l e R s m args below meth c H locs cells slots Q (F0 m (pc + 1) ls0 ((.int (x ^^^ y) :: st).map (vm9 ι b)))) : W p l e R s m args below meth c H locs cells slots Q (F0 m (pc) ls0 ((.int y :: .int x :: st).map (vm9 ι b))) := lv_ixor C.1 C.2.1 hd (kk (hR.stk (fk_i (fk_t (fk_t hR.fs)))))
theorem g_ishl (C : Ctx p R s m args meth c i b ca D A scr) (hd : decode (mB i) pc = .ok (.ishl, 1)) (hR : RepS s ι b ca D A (mX i) ls (.int y :: .int x :: st) h H locs ls0) (kk : RepS s ι b ca D A (mX i) ls (.int (x <<< (y &&& 31)) :: st) h H locs ls0 → W p l e R s m args below meth c H locs cells slots Q (F0 m (pc + 1) ls0 ((.int (x <<< (y &&& 31)) :: st).map (vm9 ι b)))) : W p l e R s m args below meth c H locs cells slots Q (F0 m (pc) ls0 ((.int y :: .int x :: st).map (vm9 ι b))) := lv_ishl C.1 C.2.1 hd (kk (hR.stk (fk_i (fk_t (fk_t hR.fs)))))
theorem g_ishr (C : Ctx p R s m args meth c i b ca D A scr) (hd : decode (mB i) pc = .ok (.ishr, 1)) (hR : RepS s ι b ca D A (mX i) ls (.int y :: .int x :: st) h H locs ls0) (kk : RepS s ι b ca D A (mX i) ls (.int (x >>> (y &&& 31)) :: st) h H locs ls0 → W p l e R s m args below meth c H locs cells slots Q (F0 m (pc + 1) ls0 ((.int (x >>> (y &&& 31)) :: st).map (vm9 ι b)))) : W p l e R s m args below meth c H locs cells slots Q (F0 m (pc) ls0 ((.int y :: .int x :: st).map (vm9 ι b))) := lv_ishr C.1 C.2.1 hd (kk (hR.stk (fk_i (fk_t (fk_t hR.fs)))))
theorem g_iushr (C : Ctx p R s m args meth c i b ca D A scr) (hd : decode (mB i) pc = .ok (.iushr, 1)) (hR : RepS s ι b ca D A (mX i) ls (.int y :: .int x :: st) h H locs ls0) (kk : RepS s ι b ca D A (mX i) ls (.int (x.toUInt32 >>> (y.toUInt32 &&& Int32.toUInt32 31)).toInt32 :: st) h H locs ls0 → W p l e R s m args below meth c H locs cells slots Q (F0 m (pc + 1) ls0 ((.int (x.toUInt32 >>> (y.toUInt32 &&& Int32.toUInt32 31)).toInt32 :: st).map (vm9 ι b)))) : W p l e R s m args below meth c H locs cells slots Q (F0 m (pc) ls0 ((.int y :: .int x :: st).map (vm9 ι b))) := lv_iushr C.1 C.2.1 hd rfl (kk (hR.stk (fk_i (fk_t (fk_t hR.fs)))))
theorem g_irem (C : Ctx p R s m args meth c i b ca D A scr) (hd : decode (mB i) pc = .ok (.irem, 1)) (hy : ¬ y = 0) (hR : RepS s ι b ca D A (mX i) ls (.int y :: .int x :: st) h H locs ls0) (kk : RepS s ι b ca D A (mX i) ls (.int (x - x / y * y) :: st) h H locs ls0 → W p l e R s m args below meth c H locs cells slots Q (F0 m (pc + 1) ls0 ((.int (x - x / y * y) :: st).map (vm9 ι b)))) : W p l e R s m args below meth c H locs cells slots Q (F0 m (pc) ls0 ((.int y :: .int x :: st).map (vm9 ι b))) := lv_irem C.1 C.2.1 hd hy (kk (hR.stk (fk_i (fk_t (fk_t hR.fs)))))
theorem g_idiv (C : Ctx p R s m args meth c i b ca D A scr) (hd : decode (mB i) pc = .ok (.idiv, 1)) (hy : ¬ y = 0) (hR : RepS s ι b ca D A (mX i) ls (.int y :: .int x :: st) h H locs ls0) (kk : RepS s ι b ca D A (mX i) ls (.int (x / y) :: st) h H locs ls0 → W p l e R s m args below meth c H locs cells slots Q (F0 m (pc + 1) ls0 ((.int (x / y) :: st).map (vm9 ι b)))) : W p l e R s m args below meth c H locs cells slots Q (F0 m (pc) ls0 ((.int y :: .int x :: st).map (vm9 ι b))) := lv_idiv C.1 C.2.1 hd hy (kk (hR.stk (fk_i (fk_t (fk_t hR.fs)))))
theorem g_i2b (C : Ctx p R s m args meth c i b ca D A scr) (hd : decode (mB i) pc = .ok (.i2b, 1)) (hR : RepS s ι b ca D A (mX i) ls (.int x :: st) h H locs ls0) (kk : RepS s ι b ca D A (mX i) ls (.int x.toInt8.toInt32 :: st) h H locs ls0 → W p l e R s m args below meth c H locs cells slots Q (F0 m (pc + 1) ls0 ((.int x.toInt8.toInt32 :: st).map (vm9 ι b)))) : W p l e R s m args below meth c H locs cells slots Q (F0 m (pc) ls0 ((.int x :: st).map (vm9 ι b))) := lv_i2b C.1 C.2.1 hd rfl (kk (hR.stk (fk_i (fk_t hR.fs))))
theorem g_i2l (C : Ctx p R s m args meth c i b ca D A scr) (hd : decode (mB i) pc = .ok (.i2l, 1)) (hR : RepS s ι b ca D A (mX i) ls (.int x :: st) h H locs ls0) (kk : RepS s ι b ca D A (mX i) ls (.long x.toInt64 :: st) h H locs ls0 → W p l e R s m args below meth c H locs cells slots Q (F0 m (pc + 1) ls0 ((.long x.toInt64 :: st).map (vm9 ι b)))) : W p l e R s m args below meth c H locs cells slots Q (F0 m (pc) ls0 ((.int x :: st).map (vm9 ι b))) := lv_i2l C.1 C.2.1 hd rfl (kk (hR.stk (fk_l (fk_t hR.fs))))
theorem g_lcmp {u v : Int64} (C : Ctx p R s m args meth c i b ca D A scr) (hd : decode (mB i) pc = .ok (.lcmp, 1)) (hR : RepS s ι b ca D A (mX i) ls (.long v :: .long u :: st) h H locs ls0) (kk : RepS s ι b ca D A (mX i) ls (.int (lg_cmp u v) :: st) h H locs ls0 → W p l e R s m args below meth c H locs cells slots Q (F0 m (pc + 1) ls0 ((.int (lg_cmp u v) :: st).map (vm9 ι b)))) : W p l e R s m args below meth c H locs cells slots Q (F0 m (pc) ls0 ((.long v :: .long u :: st).map (vm9 ι b))) := W.lcmp C.1 C.2.1 hd (kk (hR.stk (fk_i (fk_t (fk_t hR.fs)))))
theorem g_dup {v : Value} (C : Ctx p R s m args meth c i b ca D A scr) (hd : decode (mB i) pc = .ok (.dup, 1)) (hv : v.category = 1) (hR : RepS s ι b ca D A (mX i) ls (v :: st) h H locs ls0) (kk : RepS s ι b ca D A (mX i) ls (v :: v :: st) h H locs ls0 → W p l e R s m args below meth c H locs cells slots Q (F0 m (pc + 1) ls0 ((v :: v :: st).map (vm9 ι b)))) : W p l e R s m args below meth c H locs cells slots Q (F0 m (pc) ls0 ((v :: st).map (vm9 ι b))) := lv_dup C.1 C.2.1 hd (by rw [vm9_cat]; exact hv) (kk (hR.stk (fk_v hR.fs hR.fs)))
theorem g_dup2 {v w : Value} (C : Ctx p R s m args meth c i b ca D A scr) (hd : decode (mB i) pc = .ok (.dup2, 1)) (hv : v.category = 1) (hw : w.category = 1) (hR : RepS s ι b ca D A (mX i) ls (v :: w :: st) h H locs ls0) (kk : RepS s ι b ca D A (mX i) ls (v :: w :: v :: w :: st) h H locs ls0 → W p l e R s m args below meth c H locs cells slots Q (F0 m (pc + 1) ls0 ((v :: w :: v :: w :: st).map (vm9 ι b)))) : W p l e R s m args below meth c H locs cells slots Q (F0 m (pc) ls0 ((v :: w :: st).map (vm9 ι b))) := lv_dup2_11 C.1 C.2.1 hd (by rw [vm9_cat]; exact hv) (by rw [vm9_cat]; exact hw) (kk (hR.stk (fk_v hR.fs (fk_v (fk_t hR.fs) hR.fs))))
theorem g_pop {v : Value} (C : Ctx p R s m args meth c i b ca D A scr) (hd : decode (mB i) pc = .ok (.pop, 1)) (hv : v.category = 1) (hR : RepS s ι b ca D A (mX i) ls (v :: st) h H locs ls0) (kk : RepS s ι b ca D A (mX i) ls (st) h H locs ls0 → W p l e R s m args below meth c H locs cells slots Q (F0 m (pc + 1) ls0 ((st).map (vm9 ι b)))) : W p l e R s m args below meth c H locs cells slots Q (F0 m (pc) ls0 ((v :: st).map (vm9 ι b))) := lv_pop C.1 C.2.1 hd (by rw [vm9_cat]; exact hv) (kk (hR.stk (fk_t hR.fs)))
theorem g_goto {off : Int} {t : Nat} (C : Ctx p R s m args meth c i b ca D A scr) (hd : decode (mB i) pc = .ok (.goto off, 3)) (ht : tgt pc off = some t) (hR : RepS s ι b ca D A (mX i) ls st h H locs ls0) (kk : RepS s ι b ca D A (mX i) ls st h H locs ls0 → W p l e R s m args below meth c H locs cells slots Q (F0 m (t) ls0 (st.map (vm9 ι b)))) : W p l e R s m args below meth c H locs cells slots Q (F0 m (pc) ls0 (st.map (vm9 ι b))) := lv_goto C.1 C.2.1 hd (tgt_ok ht) (kk hR)
theorem g_icmp_eq {off : Int} {t : Nat} (C : Ctx p R s m args meth c i b ca D A scr) (hd : decode (mB i) pc = .ok (.if_icmp .eq off, 3)) (ht : tgt pc off = some t) (hR : RepS s ι b ca D A (mX i) ls (.int y :: .int x :: st) h H locs ls0) (kk : RepS s ι b ca D A (mX i) ls st h H locs ls0 → W p l e R s m args below meth c H locs cells slots Q (F0 m ((if jc .eq x y then t else pc + 3)) ls0 (st.map (vm9 ι b)))) : W p l e R s m args below meth c H locs cells slots Q (F0 m (pc) ls0 ((.int y :: .int x :: st).map (vm9 ι b))) := by
  have k0 := kk (hR.stk (fk_t (fk_t hR.fs)))
  exact lv_icmp_eq C.1 C.2.1 hd (tgt_ok ht) (fun q => by rw [if_pos (by simp only [jc, decide_eq_true_eq]; exact q)] at k0; exact k0) (fun q => by rw [if_neg (by simp only [jc, decide_eq_true_eq]; exact q)] at k0; exact k0)
theorem g_if_eq {off : Int} {t : Nat} (C : Ctx p R s m args meth c i b ca D A scr) (hd : decode (mB i) pc = .ok (.ifCond .eq off, 3)) (ht : tgt pc off = some t) (hR : RepS s ι b ca D A (mX i) ls (.int x :: st) h H locs ls0) (kk : RepS s ι b ca D A (mX i) ls st h H locs ls0 → W p l e R s m args below meth c H locs cells slots Q (F0 m ((if jc .eq x 0 then t else pc + 3)) ls0 (st.map (vm9 ι b)))) : W p l e R s m args below meth c H locs cells slots Q (F0 m (pc) ls0 ((.int x :: st).map (vm9 ι b))) := by
  have k0 := kk (hR.stk (fk_t hR.fs))
  exact lv_if_eq C.1 C.2.1 hd (tgt_ok ht) (fun q => by rw [if_pos (by simp only [jc, decide_eq_true_eq]; exact q)] at k0; exact k0) (fun q => by rw [if_neg (by simp only [jc, decide_eq_true_eq]; exact q)] at k0; exact k0)
theorem g_icmp_ne {off : Int} {t : Nat} (C : Ctx p R s m args meth c i b ca D A scr) (hd : decode (mB i) pc = .ok (.if_icmp .ne off, 3)) (ht : tgt pc off = some t) (hR : RepS s ι b ca D A (mX i) ls (.int y :: .int x :: st) h H locs ls0) (kk : RepS s ι b ca D A (mX i) ls st h H locs ls0 → W p l e R s m args below meth c H locs cells slots Q (F0 m ((if jc .ne x y then t else pc + 3)) ls0 (st.map (vm9 ι b)))) : W p l e R s m args below meth c H locs cells slots Q (F0 m (pc) ls0 ((.int y :: .int x :: st).map (vm9 ι b))) := by
  have k0 := kk (hR.stk (fk_t (fk_t hR.fs)))
  exact lv_icmp_ne C.1 C.2.1 hd (tgt_ok ht) (fun q => by rw [if_pos (by simp only [jc, decide_eq_true_eq]; exact q)] at k0; exact k0) (fun q => by rw [if_neg (by simp only [jc, decide_eq_true_eq]; exact fun hh => hh q)] at k0; exact k0)
theorem g_if_ne {off : Int} {t : Nat} (C : Ctx p R s m args meth c i b ca D A scr) (hd : decode (mB i) pc = .ok (.ifCond .ne off, 3)) (ht : tgt pc off = some t) (hR : RepS s ι b ca D A (mX i) ls (.int x :: st) h H locs ls0) (kk : RepS s ι b ca D A (mX i) ls st h H locs ls0 → W p l e R s m args below meth c H locs cells slots Q (F0 m ((if jc .ne x 0 then t else pc + 3)) ls0 (st.map (vm9 ι b)))) : W p l e R s m args below meth c H locs cells slots Q (F0 m (pc) ls0 ((.int x :: st).map (vm9 ι b))) := by
  have k0 := kk (hR.stk (fk_t hR.fs))
  exact lv_if_ne C.1 C.2.1 hd (tgt_ok ht) (fun q => by rw [if_pos (by simp only [jc, decide_eq_true_eq]; exact q)] at k0; exact k0) (fun q => by rw [if_neg (by simp only [jc, decide_eq_true_eq]; exact fun hh => hh q)] at k0; exact k0)
theorem g_icmp_lt {off : Int} {t : Nat} (C : Ctx p R s m args meth c i b ca D A scr) (hd : decode (mB i) pc = .ok (.if_icmp .lt off, 3)) (ht : tgt pc off = some t) (hR : RepS s ι b ca D A (mX i) ls (.int y :: .int x :: st) h H locs ls0) (kk : RepS s ι b ca D A (mX i) ls st h H locs ls0 → W p l e R s m args below meth c H locs cells slots Q (F0 m ((if jc .lt x y then t else pc + 3)) ls0 (st.map (vm9 ι b)))) : W p l e R s m args below meth c H locs cells slots Q (F0 m (pc) ls0 ((.int y :: .int x :: st).map (vm9 ι b))) := by
  have k0 := kk (hR.stk (fk_t (fk_t hR.fs)))
  exact lv_icmp_lt C.1 C.2.1 hd (tgt_ok ht) (fun q => by rw [if_pos (by simp only [jc, decide_eq_true_eq]; exact q)] at k0; exact k0) (fun q => by rw [if_neg (by simp only [jc, decide_eq_true_eq]; exact q)] at k0; exact k0)
theorem g_if_lt {off : Int} {t : Nat} (C : Ctx p R s m args meth c i b ca D A scr) (hd : decode (mB i) pc = .ok (.ifCond .lt off, 3)) (ht : tgt pc off = some t) (hR : RepS s ι b ca D A (mX i) ls (.int x :: st) h H locs ls0) (kk : RepS s ι b ca D A (mX i) ls st h H locs ls0 → W p l e R s m args below meth c H locs cells slots Q (F0 m ((if jc .lt x 0 then t else pc + 3)) ls0 (st.map (vm9 ι b)))) : W p l e R s m args below meth c H locs cells slots Q (F0 m (pc) ls0 ((.int x :: st).map (vm9 ι b))) := by
  have k0 := kk (hR.stk (fk_t hR.fs))
  exact lv_if_lt C.1 C.2.1 hd (tgt_ok ht) (fun q => by rw [if_pos (by simp only [jc, decide_eq_true_eq]; exact q)] at k0; exact k0) (fun q => by rw [if_neg (by simp only [jc, decide_eq_true_eq]; exact q)] at k0; exact k0)
theorem g_icmp_ge {off : Int} {t : Nat} (C : Ctx p R s m args meth c i b ca D A scr) (hd : decode (mB i) pc = .ok (.if_icmp .ge off, 3)) (ht : tgt pc off = some t) (hR : RepS s ι b ca D A (mX i) ls (.int y :: .int x :: st) h H locs ls0) (kk : RepS s ι b ca D A (mX i) ls st h H locs ls0 → W p l e R s m args below meth c H locs cells slots Q (F0 m ((if jc .ge x y then t else pc + 3)) ls0 (st.map (vm9 ι b)))) : W p l e R s m args below meth c H locs cells slots Q (F0 m (pc) ls0 ((.int y :: .int x :: st).map (vm9 ι b))) := by
  have k0 := kk (hR.stk (fk_t (fk_t hR.fs)))
  exact lv_icmp_ge C.1 C.2.1 hd (tgt_ok ht) (fun q => by rw [if_pos (by simp only [jc, decide_eq_true_eq]; exact q)] at k0; exact k0) (fun q => by rw [if_neg (by simp only [jc, decide_eq_true_eq]; exact q)] at k0; exact k0)
theorem g_if_ge {off : Int} {t : Nat} (C : Ctx p R s m args meth c i b ca D A scr) (hd : decode (mB i) pc = .ok (.ifCond .ge off, 3)) (ht : tgt pc off = some t) (hR : RepS s ι b ca D A (mX i) ls (.int x :: st) h H locs ls0) (kk : RepS s ι b ca D A (mX i) ls st h H locs ls0 → W p l e R s m args below meth c H locs cells slots Q (F0 m ((if jc .ge x 0 then t else pc + 3)) ls0 (st.map (vm9 ι b)))) : W p l e R s m args below meth c H locs cells slots Q (F0 m (pc) ls0 ((.int x :: st).map (vm9 ι b))) := by
  have k0 := kk (hR.stk (fk_t hR.fs))
  exact lv_if_ge C.1 C.2.1 hd (tgt_ok ht) (fun q => by rw [if_pos (by simp only [jc, decide_eq_true_eq]; exact q)] at k0; exact k0) (fun q => by rw [if_neg (by simp only [jc, decide_eq_true_eq]; exact q)] at k0; exact k0)
theorem g_icmp_gt {off : Int} {t : Nat} (C : Ctx p R s m args meth c i b ca D A scr) (hd : decode (mB i) pc = .ok (.if_icmp .gt off, 3)) (ht : tgt pc off = some t) (hR : RepS s ι b ca D A (mX i) ls (.int y :: .int x :: st) h H locs ls0) (kk : RepS s ι b ca D A (mX i) ls st h H locs ls0 → W p l e R s m args below meth c H locs cells slots Q (F0 m ((if jc .gt x y then t else pc + 3)) ls0 (st.map (vm9 ι b)))) : W p l e R s m args below meth c H locs cells slots Q (F0 m (pc) ls0 ((.int y :: .int x :: st).map (vm9 ι b))) := by
  have k0 := kk (hR.stk (fk_t (fk_t hR.fs)))
  exact lv_icmp_gt C.1 C.2.1 hd (tgt_ok ht) (fun q => by rw [if_pos (by simp only [jc, decide_eq_true_eq]; exact q)] at k0; exact k0) (fun q => by rw [if_neg (by simp only [jc, decide_eq_true_eq]; exact q)] at k0; exact k0)
theorem g_if_gt {off : Int} {t : Nat} (C : Ctx p R s m args meth c i b ca D A scr) (hd : decode (mB i) pc = .ok (.ifCond .gt off, 3)) (ht : tgt pc off = some t) (hR : RepS s ι b ca D A (mX i) ls (.int x :: st) h H locs ls0) (kk : RepS s ι b ca D A (mX i) ls st h H locs ls0 → W p l e R s m args below meth c H locs cells slots Q (F0 m ((if jc .gt x 0 then t else pc + 3)) ls0 (st.map (vm9 ι b)))) : W p l e R s m args below meth c H locs cells slots Q (F0 m (pc) ls0 ((.int x :: st).map (vm9 ι b))) := by
  have k0 := kk (hR.stk (fk_t hR.fs))
  exact lv_if_gt C.1 C.2.1 hd (tgt_ok ht) (fun q => by rw [if_pos (by simp only [jc, decide_eq_true_eq]; exact q)] at k0; exact k0) (fun q => by rw [if_neg (by simp only [jc, decide_eq_true_eq]; exact q)] at k0; exact k0)
theorem g_icmp_le {off : Int} {t : Nat} (C : Ctx p R s m args meth c i b ca D A scr) (hd : decode (mB i) pc = .ok (.if_icmp .le off, 3)) (ht : tgt pc off = some t) (hR : RepS s ι b ca D A (mX i) ls (.int y :: .int x :: st) h H locs ls0) (kk : RepS s ι b ca D A (mX i) ls st h H locs ls0 → W p l e R s m args below meth c H locs cells slots Q (F0 m ((if jc .le x y then t else pc + 3)) ls0 (st.map (vm9 ι b)))) : W p l e R s m args below meth c H locs cells slots Q (F0 m (pc) ls0 ((.int y :: .int x :: st).map (vm9 ι b))) := by
  have k0 := kk (hR.stk (fk_t (fk_t hR.fs)))
  exact lv_icmp_le C.1 C.2.1 hd (tgt_ok ht) (fun q => by rw [if_pos (by simp only [jc, decide_eq_true_eq]; exact q)] at k0; exact k0) (fun q => by rw [if_neg (by simp only [jc, decide_eq_true_eq]; exact q)] at k0; exact k0)
theorem g_if_le {off : Int} {t : Nat} (C : Ctx p R s m args meth c i b ca D A scr) (hd : decode (mB i) pc = .ok (.ifCond .le off, 3)) (ht : tgt pc off = some t) (hR : RepS s ι b ca D A (mX i) ls (.int x :: st) h H locs ls0) (kk : RepS s ι b ca D A (mX i) ls st h H locs ls0 → W p l e R s m args below meth c H locs cells slots Q (F0 m ((if jc .le x 0 then t else pc + 3)) ls0 (st.map (vm9 ι b)))) : W p l e R s m args below meth c H locs cells slots Q (F0 m (pc) ls0 ((.int x :: st).map (vm9 ι b))) := by
  have k0 := kk (hR.stk (fk_t hR.fs))
  exact lv_if_le C.1 C.2.1 hd (tgt_ok ht) (fun q => by rw [if_pos (by simp only [jc, decide_eq_true_eq]; exact q)] at k0; exact k0) (fun q => by rw [if_neg (by simp only [jc, decide_eq_true_eq]; exact q)] at k0; exact k0)
theorem g_icmp {cc : Jvm.ClassFile.Cond} {off : Int} {t : Nat} (C : Ctx p R s m args meth c i b ca D A scr) (hd : decode (mB i) pc = .ok (.if_icmp cc off, 3)) (ht : tgt pc off = some t) (hR : RepS s ι b ca D A (mX i) ls (.int y :: .int x :: st) h H locs ls0) (kk : RepS s ι b ca D A (mX i) ls st h H locs ls0 → W p l e R s m args below meth c H locs cells slots Q (F0 m ((if jc cc x y then t else pc + 3)) ls0 (st.map (vm9 ι b)))) : W p l e R s m args below meth c H locs cells slots Q (F0 m (pc) ls0 ((.int y :: .int x :: st).map (vm9 ι b))) := by
  cases cc
  · exact g_icmp_eq C hd ht hR kk
  · exact g_icmp_ne C hd ht hR kk
  · exact g_icmp_lt C hd ht hR kk
  · exact g_icmp_ge C hd ht hR kk
  · exact g_icmp_gt C hd ht hR kk
  · exact g_icmp_le C hd ht hR kk
theorem g_if {cc : Jvm.ClassFile.Cond} {off : Int} {t : Nat} (C : Ctx p R s m args meth c i b ca D A scr) (hd : decode (mB i) pc = .ok (.ifCond cc off, 3)) (ht : tgt pc off = some t) (hR : RepS s ι b ca D A (mX i) ls (.int x :: st) h H locs ls0) (kk : RepS s ι b ca D A (mX i) ls st h H locs ls0 → W p l e R s m args below meth c H locs cells slots Q (F0 m ((if jc cc x 0 then t else pc + 3)) ls0 (st.map (vm9 ι b)))) : W p l e R s m args below meth c H locs cells slots Q (F0 m (pc) ls0 ((.int x :: st).map (vm9 ι b))) := by
  cases cc
  · exact g_if_eq C hd ht hR kk
  · exact g_if_ne C hd ht hR kk
  · exact g_if_lt C hd ht hR kk
  · exact g_if_ge C hd ht hR kk
  · exact g_if_gt C hd ht hR kk
  · exact g_if_le C hd ht hR kk
theorem g_ifnull {off : Int} {a : Nat} (C : Ctx p R s m args meth c i b ca D A scr) (hd : decode (mB i) pc = .ok (.ifnull off, 3)) (hR : RepS s ι b ca D A (mX i) ls (.ref a :: st) h H locs ls0) (kk : RepS s ι b ca D A (mX i) ls st h H locs ls0 → W p l e R s m args below meth c H locs cells slots Q (F0 m (pc + 3) ls0 (st.map (vm9 ι b)))) : W p l e R s m args below meth c H locs cells slots Q (F0 m (pc) ls0 ((.ref a :: st).map (vm9 ι b))) := lv_ifnull C.1 C.2.1 hd (kk (hR.stk (fk_t hR.fs)))
theorem g_ifnullN {off : Int} {t : Nat} (C : Ctx p R s m args meth c i b ca D A scr) (hd : decode (mB i) pc = .ok (.ifnull off, 3)) (ht : tgt pc off = some t) (hR : RepS s ι b ca D A (mX i) ls (.null :: st) h H locs ls0) (kk : RepS s ι b ca D A (mX i) ls st h H locs ls0 → W p l e R s m args below meth c H locs cells slots Q (F0 m (t) ls0 (st.map (vm9 ι b)))) : W p l e R s m args below meth c H locs cells slots Q (F0 m (pc) ls0 ((.null :: st).map (vm9 ι b))) := lv_ifnullN C.1 C.2.1 hd (tgt_ok ht) (kk (hR.stk (fk_t hR.fs)))
theorem g_ifnonnull {off : Int} {a t : Nat} (C : Ctx p R s m args meth c i b ca D A scr) (hd : decode (mB i) pc = .ok (.ifnonnull off, 3)) (ht : tgt pc off = some t) (hR : RepS s ι b ca D A (mX i) ls (.ref a :: st) h H locs ls0) (kk : RepS s ι b ca D A (mX i) ls st h H locs ls0 → W p l e R s m args below meth c H locs cells slots Q (F0 m (t) ls0 (st.map (vm9 ι b)))) : W p l e R s m args below meth c H locs cells slots Q (F0 m (pc) ls0 ((.ref a :: st).map (vm9 ι b))) := lv_ifnonnull C.1 C.2.1 hd (tgt_ok ht) (kk (hR.stk (fk_t hR.fs)))
theorem g_ifnonnullN {off : Int} (C : Ctx p R s m args meth c i b ca D A scr) (hd : decode (mB i) pc = .ok (.ifnonnull off, 3)) (hR : RepS s ι b ca D A (mX i) ls (.null :: st) h H locs ls0) (kk : RepS s ι b ca D A (mX i) ls st h H locs ls0 → W p l e R s m args below meth c H locs cells slots Q (F0 m (pc + 3) ls0 (st.map (vm9 ι b)))) : W p l e R s m args below meth c H locs cells slots Q (F0 m (pc) ls0 ((.null :: st).map (vm9 ι b))) := lv_ifnonnullN C.1 C.2.1 hd (kk (hR.stk (fk_t hR.fs)))
end OPS
end
section
/-! ===== words that the heap's steps need ===== -/
theorem xw_arr_int : Cond.arrayClass .int ∈ lw_tbl := tbC_mem 1 (List.mem_of_getElem? (i := 142) rfl)
theorem xw_arr_boolean : Cond.arrayClass .boolean ∈ lw_tbl := tbC_mem 6 (List.mem_of_getElem? (i := 147) rfl)
theorem xw_arr_byte : Cond.arrayClass .byte ∈ lw_tbl := tbC_mem 1 (List.mem_of_getElem? (i := 143) rfl)
theorem xw_arr_long : Cond.arrayClass .long ∈ lw_tbl := tbC_mem 8 (List.mem_of_getElem? (i := 157) rfl)
theorem xw_over_S : Cond.arrayOver (.object RX3) ∈ lw_tbl := tbC_mem 2 (List.mem_of_getElem? (i := 179) rfl)
theorem xw_over_I : Cond.arrayOver (.array .int) ∈ lw_tbl := tbC_mem 1 (List.mem_of_getElem? (i := 157) rfl)
theorem xw_oi : Cond.instanceMethod objectInit ∈ lw_tbl := tbC_mem 1 (List.mem_of_getElem? (i := 26) rfl)
theorem xw_oc : Cond.code objectInit ⟨#[0xb1]⟩ 1 none ∈ lw_tbl := tbC_mem 1 (List.mem_of_getElem? (i := 27) rfl)
theorem xw_an : Cond.native arraycopyName ∈ lw_tbl := tbC_mem 3 (List.mem_of_getElem? (i := 88) rfl)
theorem xw_as : Cond.static arraycopyName ∈ lw_tbl := tbC_mem 3 (List.mem_of_getElem? (i := 87) rfl)
theorem xw_ai : Cond.initialized "java/lang/System" ∈ lw_tbl := tbC_mem 1 (List.mem_of_getElem? (i := 14) rfl)
def inP : Nat → (Nat × Nat) × (Nat × Nat) := fun k => match k with
  | 0 => ((2, 173), (1, 11))
  | 1 => ((1, 151), (1, 8))
  | 2 => ((1, 29), (1, 2))
  | 3 => ((2, 19), (1, 9))
  | 4 => ((2, 117), (1, 10))
  | 5 => ((1, 145), (1, 7))
  | 6 => ((1, 21), (1, 1))
  | _ => ((5, 210), (1, 12))
theorem in_ok : (List.range 8).all (fun k => decide ((tbC (inP k).1.1)[(inP k).1.2]? = some (Cond.instantiable (rN k) (fN k))) && decide ((tbC (inP k).2.1)[(inP k).2.2]? = some (Cond.initialized (rN k)))) = true := by decide +kernel
def lyP0 : List (Nat × Nat) := [(2, 184), (2, 186), (2, 188)]
theorem ly_ok0 : ((u_ws (rN 0) (fT 0) (fN 0)).zip lyP0).all (fun q => decide ((tbC q.2.1)[q.2.2]? = some q.1) && goodWord q.1) = true := by decide +kernel
def lyP1 : List (Nat × Nat) := [(1, 223), (1, 225), (1, 227), (1, 229), (1, 231), (1, 233), (1, 235), (1, 237), (1, 239), (2, 1), (2, 3), (2, 5), (2, 7), (2, 9), (2, 11), (2, 13), (2, 15)]
theorem ly_ok1 : ((u_ws (rN 1) (fT 1) (fN 1)).zip lyP1).all (fun q => decide ((tbC q.2.1)[q.2.2]? = some q.1) && goodWord q.1) = true := by decide +kernel
def lyP2 : List (Nat × Nat) := [(1, 111), (1, 113), (1, 115), (1, 117), (1, 119), (1, 121), (1, 123), (1, 125), (1, 127), (1, 129), (1, 131), (1, 133), (1, 135), (1, 137), (1, 139)]
theorem ly_ok2 : ((u_ws (rN 2) (fT 2) (fN 2)).zip lyP2).all (fun q => decide ((tbC q.2.1)[q.2.2]? = some q.1) && goodWord q.1) = true := by decide +kernel
def lyP3 : List (Nat × Nat) := [(2, 77), (2, 79), (2, 81), (2, 83), (2, 85), (2, 87), (2, 89), (2, 91), (2, 93), (2, 95), (2, 97), (2, 99), (2, 101), (2, 103), (2, 105), (2, 107), (2, 109), (2, 111), (2, 113)]
theorem ly_ok3 : ((u_ws (rN 3) (fT 3) (fN 3)).zip lyP3).all (fun q => decide ((tbC q.2.1)[q.2.2]? = some q.1) && goodWord q.1) = true := by decide +kernel
def lyP4 : List (Nat × Nat) := [(2, 134), (2, 136), (2, 138), (2, 140), (2, 142), (2, 144), (2, 146), (2, 148)]
theorem ly_ok4 : ((u_ws (rN 4) (fT 4) (fN 4)).zip lyP4).all (fun q => decide ((tbC q.2.1)[q.2.2]? = some q.1) && goodWord q.1) = true := by decide +kernel
def lyP5 : List (Nat × Nat) := [(2, 161), (2, 163), (2, 165), (2, 167), (2, 169)]
theorem ly_ok5 : ((u_ws (rN 5) (fT 5) (fN 5)).zip lyP5).all (fun q => decide ((tbC q.2.1)[q.2.2]? = some q.1) && goodWord q.1) = true := by decide +kernel
def lyP6 : List (Nat × Nat) := [(2, 198), (2, 200), (2, 202), (2, 204), (2, 206), (2, 208), (2, 210)]
theorem ly_ok6 : ((u_ws (rN 6) (fT 6) (fN 6)).zip lyP6).all (fun q => decide ((tbC q.2.1)[q.2.2]? = some q.1) && goodWord q.1) = true := by decide +kernel
def lyP7 : List (Nat × Nat) := [(6, 32), (6, 34), (6, 36), (6, 38), (6, 40), (6, 42), (6, 44), (6, 46), (6, 48), (6, 50), (6, 52), (6, 54), (6, 56), (6, 58), (6, 60), (6, 62), (6, 64), (6, 66), (6, 68), (6, 70), (6, 72), (6, 74), (6, 76), (6, 78), (6, 80), (6, 82), (6, 84), (6, 86), (6, 88), (6, 90), (6, 92), (6, 94), (6, 96), (6, 98), (6, 100), (6, 102), (6, 104), (6, 106), (6, 108), (6, 110), (6, 112), (6, 114), (6, 116), (6, 118), (6, 120), (6, 122), (6, 124), (6, 126), (6, 128), (6, 130), (6, 132), (6, 134), (6, 136), (6, 138), (6, 140), (6, 142), (6, 144)]
theorem ly_ok7 : ((u_ws (rN 7) (fT 7) (fN 7)).zip lyP7).all (fun q => decide ((tbC q.2.1)[q.2.2]? = some q.1) && goodWord q.1) = true := by decide +kernel
theorem zip_all {α β : Type} {P : α → β → Prop} : ∀ (a : List α) (b : List β), a.length ≤ b.length → (∀ q ∈ a.zip b, P q.1 q.2) → ∀ x ∈ a, ∃ y, P x y
  | [], _, _, _, x, hx => absurd hx List.not_mem_nil
  | x0 :: a, [], hl, _, x, hx => by simp at hl
  | x0 :: a, y0 :: b, hl, h, x, hx => by
    rcases List.mem_cons.mp hx with e | e
    · subst e
      exact ⟨y0, h (x, y0) (by simp)⟩
    · exact zip_all a b (by simpa using hl) (fun q hq => h q (by rw [List.zip_cons_cons]; exact List.mem_cons_of_mem _ hq)) x e
def GWl : List Cond := lw_tbl.filter goodWord
theorem GWl_in {w : Cond} (h : w ∈ lw_tbl) (hg : goodWord w = true) : w ∈ GWl := List.mem_filter.mpr ⟨h, hg⟩
theorem ly_in {ws : List Cond} {ps : List (Nat × Nat)} (hl : ws.length ≤ ps.length) (h : (ws.zip ps).all (fun q => decide ((tbC q.2.1)[q.2.2]? = some q.1) && goodWord q.1) = true) : ∀ w ∈ ws, w ∈ GWl := by
  intro w hw
  obtain ⟨y, h1, h2⟩ := zip_all (P := fun a (b : Nat × Nat) => (tbC b.1)[b.2]? = some a ∧ goodWord a = true) ws ps hl (fun q hq => by
    have := List.all_eq_true.mp h q hq
    simpa using this) w hw
  exact GWl_in (tbC_mem _ (List.mem_of_getElem? h1)) h2
theorem lays_in : ∀ k, k < 8 → ∀ w ∈ u_ws (rN k) (fT k) (fN k), w ∈ GWl
  | 0, _ => ly_in (by decide +kernel) ly_ok0
  | 1, _ => ly_in (by decide +kernel) ly_ok1
  | 2, _ => ly_in (by decide +kernel) ly_ok2
  | 3, _ => ly_in (by decide +kernel) ly_ok3
  | 4, _ => ly_in (by decide +kernel) ly_ok4
  | 5, _ => ly_in (by decide +kernel) ly_ok5
  | 6, _ => ly_in (by decide +kernel) ly_ok6
  | 7, _ => ly_in (by decide +kernel) ly_ok7
  | k + 8, h => by omega
theorem vwCl_get : ∀ k, k < 8 → vwCl[k]? = some (rN k, fT k, fN k)
  | 0, _ => rfl
  | 1, _ => rfl
  | 2, _ => rfl
  | 3, _ => rfl
  | 4, _ => rfl
  | 5, _ => rfl
  | 6, _ => rfl
  | 7, _ => rfl
  | k + 8, h => by omega
theorem fY_ok : ∀ ci, ci < 8 → ∀ k, k < fN ci → parseFieldDescriptor (fT ci k).2.2.1 = some (fY ci k)
  | 0, _ => tyX0_ok
  | 1, _ => tyX1_ok
  | 2, _ => tyX2_ok
  | 3, _ => tyX3_ok
  | 4, _ => tyX4_ok
  | 5, _ => tyX5_ok
  | 6, _ => tyX6_ok
  | 7, _ => tyX7_ok
  | k + 8, h => by omega
theorem fnm_ok : ∀ ci, ci < 8 → ∀ a, a < fN ci → ∀ b, b < fN ci → a ≠ b → (fT ci a).2.1 ≠ (fT ci b).2.1
  | 0, _ => nmX0
  | 1, _ => nmX1
  | 2, _ => nmX2
  | 3, _ => nmX3
  | 4, _ => nmX4
  | 5, _ => nmX5
  | 6, _ => nmX6
  | 7, _ => nmX7
  | k + 8, h => by omega
theorem lkp {α : Type} : ∀ {l : List (Nat × α)} {k : Nat} {q : α}, l.lookup k = some q → (k, q) ∈ l
  | [], _, _, h => by cases h
  | (a, v) :: l, k, q, h => by
    rw [List.lookup_cons] at h
    by_cases e : k == a
    · simp only [e] at h
      cases h
      rw [eq_of_beq e]
      exact List.mem_cons_self
    · simp only [e] at h
      exact List.mem_cons_of_mem _ (lkp h)
theorem rng_all {n : Nat} {f : Nat → Bool} (h : (List.range n).all f = true) {k : Nat} (hk : k < n) : f k = true := List.all_eq_true.mp h k (List.mem_range.mpr hk)
theorem lF_at {o k : Nat} {q : Nat × Nat × Nat × Nat × Nat} (ho : o < 10) (h : (lF o).lookup k = some q) : (if q.2.2.1 = 0 then Cond.fieldLink (rN o) k (fT q.1 q.2.1).1 (fT q.1 q.2.1).2.1 (fT q.1 q.2.1).2.2.1 else Cond.fieldLinkNest (rN o) k (fT q.1 q.2.1).1 (fT q.1 q.2.1).2.1 (fT q.1 q.2.1).2.2.1 "LoanVans") ∈ lw_tbl ∧ q.1 < 8 ∧ q.2.1 < fN q.1 := by
  have h1 := List.all_eq_true.mp (rng_all lF_ok ho) _ (lkp h)
  simp only [Bool.and_eq_true, decide_eq_true_eq] at h1
  exact ⟨tbC_mem _ (List.mem_of_getElem? h1.1.1), h1.1.2, h1.2⟩
theorem lM_at {o k : Nat} {q : Nat × Nat × Nat × Nat} (ho : o < 10) (h : (lM o).lookup k = some q) : (if q.2.1 = 1 ∨ q.2.1 = 4 then Cond.methodLinkNest (rN o) k (mY q.1) "LoanVans" else Cond.methodLink (rN o) k (mY q.1)) ∈ lw_tbl ∧ q.1 < 281 ∧ mS q.1 = decide (q.2.1 = 2) ∧ decide ((mY q.1).name = "<init>") = decide (3 ≤ q.2.1) := by
  have h1 := List.all_eq_true.mp (rng_all lM_ok ho) _ (lkp h)
  simp only [Bool.and_eq_true, decide_eq_true_eq, beq_iff_eq] at h1
  exact ⟨tbC_mem _ (List.mem_of_getElem? h1.1.1.1), h1.1.1.2, h1.1.2, h1.2⟩
theorem lC_at {o k : Nat} {q : String × Nat × Nat} (ho : o < 10) (h : (lC o).lookup k = some q) : Cond.classLink (rN o) k q.1 ∈ lw_tbl := by
  have h1 := List.all_eq_true.mp (rng_all lC_ok ho) _ (lkp h)
  simp only [decide_eq_true_eq] at h1
  exact tbC_mem _ (List.mem_of_getElem? h1)
theorem lK_at {o k : Nat} {q : Int32 × Nat × Nat} (ho : o < 10) (h : (lK o).lookup k = some q) : Cond.constant (rN o) k q.1 ∈ lw_tbl := by
  have h1 := List.all_eq_true.mp (rng_all lK_ok ho) _ (lkp h)
  simp only [decide_eq_true_eq] at h1
  exact tbC_mem _ (List.mem_of_getElem? h1)
theorem lO_at {o k : Nat} {q : Nat × Nat} (ho : o < 10) (h : (lO o).lookup k = some q) : Cond.methodLink (rN o) k objectInit ∈ lw_tbl := by
  have h1 := List.all_eq_true.mp (rng_all lO_ok ho) _ (lkp h)
  simp only [decide_eq_true_eq] at h1
  exact tbC_mem _ (List.mem_of_getElem? h1)
theorem lS_at {o k : Nat} {q : Nat × Nat} (ho : o < 10) (h : (lS o).lookup k = some q) : Cond.methodLink (rN o) k arraycopyName ∈ lw_tbl := by
  have h1 := List.all_eq_true.mp (rng_all lS_ok ho) _ (lkp h)
  simp only [decide_eq_true_eq] at h1
  exact tbC_mem _ (List.mem_of_getElem? h1)
theorem in_at {k : Nat} (h : k < 8) : Cond.instantiable (rN k) (fN k) ∈ lw_tbl ∧ Cond.initialized (rN k) ∈ lw_tbl := by
  have h1 := rng_all in_ok h
  simp only [Bool.and_eq_true, decide_eq_true_eq] at h1
  exact ⟨tbC_mem _ (List.mem_of_getElem? h1.1), tbC_mem _ (List.mem_of_getElem? h1.2)⟩
end
section
/-! ===== steps that read or write the heap ===== -/
theorem shp_0 {k : Kst} {a n : Nat} (h : shp k a = (0, n)) : a < knx k ∧ ksh k a = (0, n) := by
  unfold shp at h
  split at h
  · exact ⟨by assumption, h⟩
  · cases h
theorem shp_k {k : Kst} {a j : Nat} (h : (shp k a).1 = j) (hj : j < 9) : a < knx k ∧ ksh k a = (j, (shp k a).2) := by
  unfold shp at h ⊢
  split at h
  · rename_i q
    rw [if_pos q]
    exact ⟨q, by rw [← h]⟩
  · simp at h; omega
theorem fY_kd : ∀ ci, ci < 8 → ∀ k, k < fN ci → fRef ci k = (fY ci k).isReference
  | 0, _ => by decide +kernel
  | 1, _ => by decide +kernel
  | 2, _ => by decide +kernel
  | 3, _ => by decide +kernel
  | 4, _ => by decide +kernel
  | 5, _ => by decide +kernel
  | 6, _ => by decide +kernel
  | 7, _ => by decide +kernel
  | k + 8, h => by omega
theorem ty_ref {ci k : Nat} {a : Nat} (h : (fY ci k).isReference = true) : narrow (fY ci k) (.ref a) = .ref a ∧ fits (fY ci k) (.ref a) = true := by
  revert h
  cases fY ci k with
  | object n => exact fun _ => ⟨rfl, rfl⟩
  | array t => exact fun _ => ⟨rfl, rfl⟩
  | _ => intro h; cases h
theorem rngmap_set {α : Type} {n k : Nat} {f g : Nat → α} (hk : k < n) (hg : ∀ j, j ≠ k → g j = f j) : ((List.range n).map f).set k (g k) = (List.range n).map g := by
  apply List.ext_getElem?
  intro j
  by_cases e : j = k
  · subst e
    rw [List.getElem?_set_self (by simp; exact hk), List.getElem?_map, List.getElem?_range hk]
    rfl
  · rw [List.getElem?_set_ne (Ne.symm e), List.getElem?_map, List.getElem?_map]
    by_cases hj : j < n
    · rw [List.getElem?_range hj]
      simp [hg j e]
    · rw [List.getElem?_eq_none (by simp; omega)]
      rfl
theorem rngmap_get {α : Type} {n k : Nat} {f : Nat → α} (hk : k < n) : ((List.range n).map f)[k]? = some (f k) := by
  rw [List.getElem?_map, List.getElem?_range hk]
  rfl
theorem clE_0 {ι : Nat → Nat} {ca : Nat → ClassId} {h : Hp} {a ci : Nat} (hs : ksh h.2 a = (0, ci)) : clE ι ca h a = .inr (ci, (List.range (fN ci)).map fun k => if fRef ci k then va_rf ((kmr h.2 a k).map ι) else .int (h.1 a k)) := by
  unfold clE
  rw [hs]
  rfl
theorem clE_1 {ι : Nat → Nat} {ca : Nat → ClassId} {h : Hp} {a n : Nat} (hs : ksh h.2 a = (1, n)) : clE ι ca h a = .inl (ca 0, n, .inl (h.1 a)) := by
  unfold clE
  rw [hs]
  rfl
theorem clE_2 {ι : Nat → Nat} {ca : Nat → ClassId} {h : Hp} {a n : Nat} (hs : ksh h.2 a = (2, n)) : clE ι ca h a = .inl (ca 1, n, .inl (h.1 a)) := by
  unfold clE
  rw [hs]
  rfl
theorem clE_3 {ι : Nat → Nat} {ca : Nat → ClassId} {h : Hp} {a n : Nat} (hs : ksh h.2 a = (3, n)) : clE ι ca h a = .inl (ca 2, n, .inl (h.1 a)) := by
  unfold clE
  rw [hs]
  rfl
theorem clE_4 {ι : Nat → Nat} {ca : Nat → ClassId} {h : Hp} {a n : Nat} (hs : ksh h.2 a = (4, n)) : clE ι ca h a = .inl (ca 3, n, .inr (.inl (kml h.2 a))) := by
  unfold clE
  rw [hs]
  rfl
theorem clE_5 {ι : Nat → Nat} {ca : Nat → ClassId} {h : Hp} {a n : Nat} (hs : ksh h.2 a = (5, n)) : clE ι ca h a = .inl (ca 4, n, .inr (.inr (.inr (.inr (fun j => (kmr h.2 a j).map ι))))) := by
  unfold clE
  rw [hs]
  rfl
theorem clE_6 {ι : Nat → Nat} {ca : Nat → ClassId} {h : Hp} {a n : Nat} (hs : ksh h.2 a = (6, n)) : clE ι ca h a = .inl (ca 5, n, .inr (.inr (.inr (.inr (fun j => (kmr h.2 a j).map ι))))) := by
  unfold clE
  rw [hs]
  rfl
/-- a cell that no step touches -/
theorem clE_ext {ι ι1 : Nat → Nat} {ca : Nat → ClassId} {h h1 : Hp} {b : Nat} (hh : hOk h) (hι : ∀ a, a < knx h.2 → ι1 a = ι a) (e1 : h1.1 b = h.1 b) (e2 : kml h1.2 b = kml h.2 b) (e3 : ksh h1.2 b = ksh h.2 b) (e4 : kmr h1.2 b = kmr h.2 b) : clE ι1 ca h1 b = clE ι ca h b := by
  have em : ∀ k, (kmr h.2 b k).map ι1 = (kmr h.2 b k).map ι := by
    intro k
    cases q : kmr h.2 b k with
    | none => rfl
    | some w => show some (ι1 w) = some (ι w); rw [hι w (hh b k w q)]
  unfold clE
  rw [e1, e2, e3, e4]
  simp only [em]
theorem up2_ne {α : Type} {f : Nat → Nat → α} {a i b : Nat} {v : α} (h : b ≠ a) : up2 f a i v b = f b := if_neg h
theorem up2_at {f : Nat → Nat → Int32} {a i : Nat} {v : Int32} : up2 f a i v a = upd (f a) i v := by
  unfold up2
  rw [if_pos rfl]
  rfl
theorem up2_atL {f : Nat → Nat → Int64} {a i : Nat} {v : Int64} : up2 f a i v a = vp_updL (f a) i v := by
  unfold up2
  rw [if_pos rfl]
  rfl
theorem up2_self {α : Type} {f : Nat → Nat → α} {a i : Nat} {v : α} : up2 f a i v a i = v := by simp [up2]
theorem up2_oth {α : Type} {f : Nat → Nat → α} {a i j : Nat} {v : α} (h : j ≠ i) : up2 f a i v a j = f a j := by simp [up2, h]
theorem up1_at {α : Type} {f : Nat → α} {a : Nat} {v : α} : up1 f a v a = v := if_pos rfl
theorem up1_ne {α : Type} {f : Nat → α} {a b : Nat} {v : α} (h : b ≠ a) : up1 f a v b = f b := if_neg h
section OPH
variable {p : Program} {l : Launch} {e : Env} {R : Room} {s : State} {m : MethodId} {args : Array Value} {below : List Frame} {meth : Method} {c : Code} {H : Heap} {locs : List Loc} {cells slots : Nat} {Q : State → Prop} {i b pc nL : Nat} {ca : Nat → ClassId} {D : va_G} {A : Nat → Prop} {scr : Option SC} {ι : Nat → Nat} {ls st : List Value} {h h1 : Hp} {ls0 : Array Slot} {x y : Int32}
theorem Ctx.w (C : Ctx p R s m args meth c i b ca D A scr) {w : Cond} (hw : w ∈ lw_tbl) (hg : goodWord w = true) : w.before args s = true := C.2.2.2.2.1 w hw hg
theorem Ctx.ts (C : Ctx p R s m args meth c i b ca D A scr) : ∀ w ∈ GWl, w.before args s = true := fun w hw => C.2.2.2.2.1 w (List.mem_filter.mp hw).1 (List.mem_filter.mp hw).2
theorem Ctx.own (C : Ctx p R s m args meth c i b ca D A scr) : s.vm.findClass (rN (mC i)) = some m.cls := C.2.2.2.1
theorem Ctx.nw (C : Ctx p R s m args meth c i b ca D A scr) {w : Cond} (hw : w ∈ lw_tbl) (hg : nestW w = true) : va_Nw w s := C.2.2.2.2.2.1 w hw hg
theorem Ctx.fn (C : Ctx p R s m args meth c i b ca D A scr) {a : String} {k : Nat} {n1 n2 n3 n4 : String} (hw : Cond.fieldLinkNest a k n1 n2 n3 n4 ∈ lw_tbl) : (Cond.fieldLinkNest a k n1 n2 n3 n4).before args s = true := va_Nw.use rfl (C.nw hw rfl)
theorem Ctx.ao (C : Ctx p R s m args meth c i b ca D A scr) : va_AO RX3 s ∧ va_AOA .int s := C.2.2.2.2.2.2.1
theorem Ctx.zk (C : Ctx p R s m args meth c i b ca D A scr) : ZOK A s := C.2.2.2.2.2.2.2.1
theorem Ctx.K (C : Ctx p R s m args meth c i b ca D A scr) : va_K D vwCl (tysOf ca) s := C.2.2.2.2.2.2.2.2.1
theorem Ctx.hA (C : Ctx p R s m args meth c i b ca D A scr) : ∀ q, s.heap.size ≤ q → A q := C.2.2.2.2.2.2.2.2.2.1
theorem Ctx.sc (C : Ctx p R s m args meth c i b ca D A scr) : ∀ sc, scr = some sc → va_X b sc.1 sc.2 s s.heap ∧ b < s.heap.size ∧ ¬ A b := C.2.2.2.2.2.2.2.2.2.2.1
theorem Ctx.nm (C : Ctx p R s m args meth c i b ca D A scr) : (mY i).name = "<init>" → meth.name = "<init>" := C.2.2.2.2.2.2.2.2.2.2.2.1
theorem Ctx.fr (C : Ctx p R s m args meth c i b ca D A scr) : mV i ≤ R.frames := C.2.2.2.2.2.2.2.2.2.2.2.2.1
theorem Ctx.lo (C : Ctx p R s m args meth c i b ca D A scr) : 39 * mV i ≤ R.locals := C.2.2.2.2.2.2.2.2.2.2.2.2.2.1
theorem Ctx.lt (C : Ctx p R s m args meth c i b ca D A scr) : mC i < 10 := C.2.2.2.2.2.2.2.2.2.2.2.2.2.2
/-- a write into a cell: what remains to be shown -/
theorem RepS.wrote {H1 : Heap} {locs1 : List Loc} {a : Nat} {st2 : List Value} (hR : RepS s ι b ca D A nL ls st h H locs ls0) (ha : a < knx h.2) (hn : knx h1.2 = knx h.2) (hk : ∀ j, j ≠ a → h1.1 j = h.1 j ∧ kml h1.2 j = kml h.2 j ∧ ksh h1.2 j = ksh h.2 j ∧ kmr h1.2 j = kmr h.2 j) (hh : hOk h1) (hf : fOk (knx h.2) st2)
    (hP : va_P D vwCl ((wsO ι ca h).set a (ι a, clE ι ca h1 a)) H1) (hD : va_D A ((wsO ι ca h).set a (ι a, clE ι ca h1 a))) (hS : va_S A s.heap H1 locs1) : RepS s ι b ca D A nL ls st2 h1 H1 locs1 ls0 := by
  have e := wsO_set (ι := ι) (ca := ca) ha hn (fun j hj => clE_ext hR.2.2.2.2.2.2 (fun _ _ => rfl) (hk j hj).1 (hk j hj).2.1 (hk j hj).2.2.1 (hk j hj).2.2.2)
  rw [e] at hP hD
  exact ⟨hP, hD, hS, hR.lv, by rw [hn]; exact hR.fl, by rw [hn]; exact hf, hh⟩
theorem g_getI {k a : Nat} {v : Int32} {q : Nat × Nat × Nat × Nat × Nat} (C : Ctx p R s m args meth c i b ca D A scr) (hd : decode (mB i) pc = .ok (.getfield k, 3)) (hq : (lF (mC i)).lookup k = some q) (hf : fRef q.1 q.2.1 = false) (hv : gI h a q.1 q.2.1 = some v) (hR : RepS s ι b ca D A (mX i) ls (.ref a :: st) h H locs ls0)
    (kk : RepS s ι b ca D A (mX i) ls (.int v :: st) h H locs ls0 → W p l e R s m args below meth c H locs cells slots Q (F0 m (pc + 3) ls0 ((.int v :: st).map (vm9 ι b)))) : W p l e R s m args below meth c H locs cells slots Q (F0 m pc ls0 ((.ref a :: st).map (vm9 ι b))) := by
  obtain ⟨hw, hc8, hkN⟩ := lF_at C.lt hq
  unfold gI at hv
  split at hv
  · rename_i hs
    cases hv
    obtain ⟨ha, hs⟩ := shp_0 hs
    have he := wsO_get (ι := ι) (ca := ca) ha
    rw [clE_0 hs] at he
    have hfs := rngmap_get (f := fun k => if fRef q.1 k then va_rf ((kmr h.2 a k).map ι) else Value.int (h.1 a k)) hkN
    simp only [hf, Bool.false_eq_true, if_false] at hfs
    have k0 := kk (hR.stk (fk_i (fk_t hR.fs)))
    by_cases hn : q.2.2.1 = 0
    · rw [if_pos hn] at hw
      exact va_get C.1 C.2.1 C.ts (lays_in _ hc8) C.own C.K hR.1 a he (vwCl_get _ hc8) q.2.1 hkN (C.w hw rfl) (fun _ z => z) hfs hd k0
    · rw [if_neg hn] at hw
      exact va_getN C.1 C.2.1 C.ts (lays_in _ hc8) C.own C.K hR.1 a he (vwCl_get _ hc8) q.2.1 hkN (C.fn hw) (fun _ z => z) hfs hd k0
  · cases hv
theorem g_getR {k a w : Nat} {q : Nat × Nat × Nat × Nat × Nat} (C : Ctx p R s m args meth c i b ca D A scr) (hd : decode (mB i) pc = .ok (.getfield k, 3)) (hq : (lF (mC i)).lookup k = some q) (hf : fRef q.1 q.2.1 = true) (hv : gR h a q.1 q.2.1 = some w) (hR : RepS s ι b ca D A (mX i) ls (.ref a :: st) h H locs ls0)
    (kk : RepS s ι b ca D A (mX i) ls (.ref w :: st) h H locs ls0 → W p l e R s m args below meth c H locs cells slots Q (F0 m (pc + 3) ls0 ((.ref w :: st).map (vm9 ι b)))) : W p l e R s m args below meth c H locs cells slots Q (F0 m pc ls0 ((.ref a :: st).map (vm9 ι b))) := by
  obtain ⟨hw, hc8, hkN⟩ := lF_at C.lt hq
  unfold gR at hv
  split at hv
  · rename_i hs
    obtain ⟨ha, hs⟩ := shp_0 hs
    have he := wsO_get (ι := ι) (ca := ca) ha
    rw [clE_0 hs] at he
    have hfs := rngmap_get (f := fun k => if fRef q.1 k then va_rf ((kmr h.2 a k).map ι) else Value.int (h.1 a k)) hkN
    simp only [hf, if_true, hv] at hfs
    have k0 := kk (hR.stk (fk_r (hR.2.2.2.2.2.2 a _ w hv) (fk_t hR.fs)))
    by_cases hn : q.2.2.1 = 0
    · rw [if_pos hn] at hw
      exact va_get C.1 C.2.1 C.ts (lays_in _ hc8) C.own C.K hR.1 a he (vwCl_get _ hc8) q.2.1 hkN (C.w hw rfl) (fun _ z => z) hfs hd k0
    · rw [if_neg hn] at hw
      exact va_getN C.1 C.2.1 C.ts (lays_in _ hc8) C.own C.K hR.1 a he (vwCl_get _ hc8) q.2.1 hkN (C.fn hw) (fun _ z => z) hfs hd k0
  · cases hv
theorem ty_int {ci k : Nat} {v : Int32} (h : fRef ci k = false) (h2 : fY ci k = .int ∨ v = 0 ∨ v = 1) : narrow (fY ci k) (.int v) = .int v ∧ fits (fY ci k) (.int v) = true := by
  have ht : fY ci k = .int ∨ fY ci k = .boolean := by
    unfold fRef at h
    revert h
    cases fY ci k <;> simp
  rcases ht with ht | ht
  · rw [ht]; exact ⟨rfl, rfl⟩
  · rw [ht] at h2 ⊢
    rcases h2 with h2 | h2 | h2
    · cases h2
    · subst h2; exact ⟨by decide, by decide⟩
    · subst h2; exact ⟨by decide, by decide⟩
theorem g_putI {k a : Nat} {v : Int32} {q : Nat × Nat × Nat × Nat × Nat} (C : Ctx p R s m args meth c i b ca D A scr) (hd : decode (mB i) pc = .ok (.putfield k, 3)) (hq : (lF (mC i)).lookup k = some q) (hf : fRef q.1 q.2.1 = false) (hfin : (fT q.1 q.2.1).2.2.2 = false) (hz : fY q.1 q.2.1 = .int ∨ v = 0 ∨ v = 1) (hv : pI h a q.1 q.2.1 v = some h1) (hR : RepS s ι b ca D A (mX i) ls (.int v :: .ref a :: st) h H locs ls0)
    (kk : ∀ H1 locs1, RepS s ι b ca D A (mX i) ls st h1 H1 locs1 ls0 → W p l e R s m args below meth c H1 locs1 cells slots Q (F0 m (pc + 3) ls0 (st.map (vm9 ι b)))) : W p l e R s m args below meth c H locs cells slots Q (F0 m pc ls0 ((.int v :: .ref a :: st).map (vm9 ι b))) := by
  obtain ⟨hw, hc8, hkN⟩ := lF_at C.lt hq
  unfold pI at hv
  split at hv
  · rename_i hs
    cases hv
    obtain ⟨ha, hs⟩ := shp_0 hs
    have he := wsO_get (ι := ι) (ca := ca) ha
    rw [clE_0 hs] at he
    have hcell : clE ι ca (up2 h.1 a q.2.1 v, h.2) a = .inr (q.1, ((List.range (fN q.1)).map fun k => if fRef q.1 k then va_rf ((kmr h.2 a k).map ι) else Value.int (h.1 a k)).set q.2.1 (.int v)) := by
      rw [clE_0 (h := (up2 h.1 a q.2.1 v, h.2)) hs]
      have e2 := rngmap_set (f := fun k => if fRef q.1 k then va_rf ((kmr h.2 a k).map ι) else Value.int (h.1 a k)) (g := fun k => if fRef q.1 k then va_rf ((kmr h.2 a k).map ι) else Value.int (up2 h.1 a q.2.1 v a k)) hkN (fun j hj => by simp only [up2_oth hj])
      simp only [hf, Bool.false_eq_true, if_false, up2_self] at e2
      rw [e2]
    have k0 : ∀ (H1 : Heap) (locs1 : List Loc), va_P D vwCl ((wsO ι ca h).set a (ι a, .inr (q.1, ((List.range (fN q.1)).map fun k => if fRef q.1 k then va_rf ((kmr h.2 a k).map ι) else Value.int (h.1 a k)).set q.2.1 (.int v)))) H1 → va_D A ((wsO ι ca h).set a (ι a, .inr (q.1, ((List.range (fN q.1)).map fun k => if fRef q.1 k then va_rf ((kmr h.2 a k).map ι) else Value.int (h.1 a k)).set q.2.1 (.int v)))) → va_S A s.heap H1 locs1 → W p l e R s m args below meth c H1 locs1 cells slots Q (F0 m (pc + 3) ls0 (st.map (vm9 ι b))) := by
      intro H1 locs1 g1 g2 g3
      rw [← hcell] at g1 g2
      exact kk H1 locs1 (hR.wrote (h1 := (up2 h.1 a q.2.1 v, h.2)) ha rfl (fun j hj => ⟨up2_ne hj, rfl, rfl, rfl⟩) hR.2.2.2.2.2.2 (fk_t (fk_t hR.fs)) g1 g2 g3)
    have hnf := ty_int (v := v) hf hz
    by_cases hn : q.2.2.1 = 0
    · rw [if_pos hn] at hw
      exact va_put C.1 C.2.1 C.ts (lays_in _ hc8) (fY q.1) (fY_ok _ hc8) (fnm_ok _ hc8) C.own C.K hR.1 hR.2.1 hR.2.2.1 a he (vwCl_get _ hc8) q.2.1 hkN (C.w hw rfl) (fun _ z => z) hfin (fY_ok _ hc8 _ hkN) hnf.1 hnf.2 (by simp; exact hkN) hd k0
    · rw [if_neg hn] at hw
      exact va_putN C.1 C.2.1 C.ts (lays_in _ hc8) (fY q.1) (fY_ok _ hc8) (fnm_ok _ hc8) C.own C.K hR.1 hR.2.1 hR.2.2.1 a he (vwCl_get _ hc8) q.2.1 hkN (C.fn hw) (fun _ z => z) hfin (fY_ok _ hc8 _ hkN) hnf.1 hnf.2 (by simp; exact hkN) hd k0
  · cases hv
theorem g_ild {a : Nat} {v : Int32} (C : Ctx p R s m args meth c i b ca D A scr) (hd : decode (mB i) pc = .ok (.iaload, 1)) (hv : lI h a x = some v) (hR : RepS s ι b ca D A (mX i) ls (.int x :: .ref a :: st) h H locs ls0)
    (kk : RepS s ι b ca D A (mX i) ls (.int v :: st) h H locs ls0 → W p l e R s m args below meth c H locs cells slots Q (F0 m (pc + 1) ls0 ((.int v :: st).map (vm9 ι b)))) : W p l e R s m args below meth c H locs cells slots Q (F0 m pc ls0 ((.int x :: .ref a :: st).map (vm9 ι b))) := by
  unfold lI at hv
  split at hv
  · rename_i hs
    cases hv
    obtain ⟨ha, hs1⟩ := shp_k hs.1 (by decide)
    have he := wsO_get (ι := ι) (ca := ca) ha
    rw [clE_1 hs1] at he
    exact va_iald C.1 C.2.1 C.K hR.1 a 0 he rfl (inb_in hs.2) hd (kk (hR.stk (fk_i (fk_t (fk_t hR.fs)))))
  · cases hv
theorem g_ist {a : Nat} {v : Int32} (C : Ctx p R s m args meth c i b ca D A scr) (hd : decode (mB i) pc = .ok (.iastore, 1)) (hv : sI h a x v = some h1) (hR : RepS s ι b ca D A (mX i) ls (.int v :: .int x :: .ref a :: st) h H locs ls0)
    (kk : ∀ H1 locs1, RepS s ι b ca D A (mX i) ls st h1 H1 locs1 ls0 → W p l e R s m args below meth c H1 locs1 cells slots Q (F0 m (pc + 1) ls0 (st.map (vm9 ι b)))) : W p l e R s m args below meth c H locs cells slots Q (F0 m pc ls0 ((.int v :: .int x :: .ref a :: st).map (vm9 ι b))) := by
  unfold sI at hv
  split at hv
  · rename_i hs
    cases hv
    obtain ⟨ha, hs1⟩ := shp_k hs.1 (by decide)
    have he := wsO_get (ι := ι) (ca := ca) ha
    rw [clE_1 hs1] at he
    refine va_iast C.1 C.2.1 C.K hR.1 hR.2.1 hR.2.2.1 a 0 he rfl (inb_in hs.2) hd (fun H1 locs1 g1 g2 g3 => ?_)
    rw [← up2_at, ← clE_1 (h := (up2 h.1 a x.toNatClampNeg v, h.2)) hs1] at g1 g2
    exact kk H1 locs1 (hR.wrote (h1 := (up2 h.1 a x.toNatClampNeg v, h.2)) ha rfl (fun j hj => ⟨up2_ne hj, rfl, rfl, rfl⟩) hR.2.2.2.2.2.2 (fk_t (fk_t (fk_t hR.fs))) g1 g2 g3)
  · cases hv
theorem g_bld {a : Nat} {v : Int32} (C : Ctx p R s m args meth c i b ca D A scr) (hd : decode (mB i) pc = .ok (.baload, 1)) (hv : lB h a x = some v) (hR : RepS s ι b ca D A (mX i) ls (.int x :: .ref a :: st) h H locs ls0)
    (kk : RepS s ι b ca D A (mX i) ls (.int v :: st) h H locs ls0 → W p l e R s m args below meth c H locs cells slots Q (F0 m (pc + 1) ls0 ((.int v :: st).map (vm9 ι b)))) : W p l e R s m args below meth c H locs cells slots Q (F0 m pc ls0 ((.int x :: .ref a :: st).map (vm9 ι b))) := by
  unfold lB at hv
  split at hv
  · rename_i hs
    cases hv
    have k0 := kk (hR.stk (fk_i (fk_t (fk_t hR.fs))))
    rcases hs.1 with q | q
    · obtain ⟨ha, hs1⟩ := shp_k q (by decide)
      have he := wsO_get (ι := ι) (ca := ca) ha
      rw [clE_2 hs1] at he
      exact va_zald C.1 C.2.1 C.K hR.1 a 1 he rfl (inb_in hs.2) hd k0
    · obtain ⟨ha, hs1⟩ := shp_k q (by decide)
      have he := wsO_get (ι := ι) (ca := ca) ha
      rw [clE_3 hs1] at he
      exact va_bald C.1 C.2.1 C.K hR.1 a 2 he rfl (inb_in hs.2) hd k0
  · cases hv
theorem g_bst {a : Nat} {v : Int32} (C : Ctx p R s m args meth c i b ca D A scr) (hd : decode (mB i) pc = .ok (.bastore, 1)) (hv : sB h a x v = some h1) (hR : RepS s ι b ca D A (mX i) ls (.int v :: .int x :: .ref a :: st) h H locs ls0)
    (kk : ∀ H1 locs1, RepS s ι b ca D A (mX i) ls st h1 H1 locs1 ls0 → W p l e R s m args below meth c H1 locs1 cells slots Q (F0 m (pc + 1) ls0 (st.map (vm9 ι b)))) : W p l e R s m args below meth c H locs cells slots Q (F0 m pc ls0 ((.int v :: .int x :: .ref a :: st).map (vm9 ι b))) := by
  unfold sB at hv
  split at hv
  · rename_i hs
    cases hv
    rcases hs.1 with q | q
    · obtain ⟨ha, hs1⟩ := shp_k q (by decide)
      have he := wsO_get (ι := ι) (ca := ca) ha
      rw [clE_2 hs1] at he
      simp only [q, if_true] at kk
      refine va_zast C.1 C.2.1 C.K hR.1 hR.2.1 hR.2.2.1 a 1 he rfl (inb_in hs.2) hd (fun H1 locs1 g1 g2 g3 => ?_)
      rw [← up2_at, ← clE_2 (h := (up2 h.1 a x.toNatClampNeg (vp_nar .boolean v), h.2)) hs1] at g1 g2
      exact kk H1 locs1 (hR.wrote (h1 := (up2 h.1 a x.toNatClampNeg (vp_nar .boolean v), h.2)) ha rfl (fun j hj => ⟨up2_ne hj, rfl, rfl, rfl⟩) hR.2.2.2.2.2.2 (fk_t (fk_t (fk_t hR.fs))) g1 g2 g3)
    · obtain ⟨ha, hs1⟩ := shp_k q (by decide)
      have he := wsO_get (ι := ι) (ca := ca) ha
      rw [clE_3 hs1] at he
      have q2 : ¬ (shp h.2 a).1 = 2 := by rw [q]; decide
      simp only [q2, if_false] at kk
      refine va_bast C.1 C.2.1 C.K hR.1 hR.2.1 hR.2.2.1 a 2 he rfl (inb_in hs.2) hd (fun H1 locs1 g1 g2 g3 => ?_)
      rw [← up2_at, ← clE_3 (h := (up2 h.1 a x.toNatClampNeg (vp_nar .byte v), h.2)) hs1] at g1 g2
      exact kk H1 locs1 (hR.wrote (h1 := (up2 h.1 a x.toNatClampNeg (vp_nar .byte v), h.2)) ha rfl (fun j hj => ⟨up2_ne hj, rfl, rfl, rfl⟩) hR.2.2.2.2.2.2 (fk_t (fk_t (fk_t hR.fs))) g1 g2 g3)
  · cases hv
theorem g_lld {a : Nat} {v : Int64} (C : Ctx p R s m args meth c i b ca D A scr) (hd : decode (mB i) pc = .ok (.laload, 1)) (hv : lL h a x = some v) (hR : RepS s ι b ca D A (mX i) ls (.int x :: .ref a :: st) h H locs ls0)
    (kk : RepS s ι b ca D A (mX i) ls (.long v :: st) h H locs ls0 → W p l e R s m args below meth c H locs cells slots Q (F0 m (pc + 1) ls0 ((.long v :: st).map (vm9 ι b)))) : W p l e R s m args below meth c H locs cells slots Q (F0 m pc ls0 ((.int x :: .ref a :: st).map (vm9 ι b))) := by
  unfold lL at hv
  split at hv
  · rename_i hs
    cases hv
    obtain ⟨ha, hs1⟩ := shp_k hs.1 (by decide)
    have he := wsO_get (ι := ι) (ca := ca) ha
    rw [clE_4 hs1] at he
    exact va_lald C.1 C.2.1 C.K hR.1 a 3 he rfl (inb_in hs.2) hd (kk (hR.stk (fk_l (fk_t (fk_t hR.fs)))))
  · cases hv
theorem g_lst {a : Nat} {v : Int64} (C : Ctx p R s m args meth c i b ca D A scr) (hd : decode (mB i) pc = .ok (.lastore, 1)) (hv : sL h a x v = some h1) (hR : RepS s ι b ca D A (mX i) ls (.long v :: .int x :: .ref a :: st) h H locs ls0)
    (kk : ∀ H1 locs1, RepS s ι b ca D A (mX i) ls st h1 H1 locs1 ls0 → W p l e R s m args below meth c H1 locs1 cells slots Q (F0 m (pc + 1) ls0 (st.map (vm9 ι b)))) : W p l e R s m args below meth c H locs cells slots Q (F0 m pc ls0 ((.long v :: .int x :: .ref a :: st).map (vm9 ι b))) := by
  unfold sL at hv
  split at hv
  · rename_i hs
    cases hv
    obtain ⟨ha, hs1⟩ := shp_k hs.1 (by decide)
    have he := wsO_get (ι := ι) (ca := ca) ha
    rw [clE_4 hs1] at he
    refine va_last C.1 C.2.1 C.K hR.1 hR.2.1 hR.2.2.1 a 3 he rfl (inb_in hs.2) hd (fun H1 locs1 g1 g2 g3 => ?_)
    have ec : clE ι ca (h.1, wl h.2 (up2 (kml h.2) a x.toNatClampNeg v)) a = .inl (ca 3, (shp h.2 a).2, .inr (.inl (vp_updL (kml h.2 a) x.toNatClampNeg v))) := by
      rw [clE_4 (h := (h.1, wl h.2 (up2 (kml h.2) a x.toNatClampNeg v))) hs1, ← up2_atL]
      rfl
    rw [← ec] at g1 g2
    exact kk H1 locs1 (hR.wrote (h1 := (h.1, wl h.2 (up2 (kml h.2) a x.toNatClampNeg v))) ha rfl (fun j hj => ⟨rfl, up2_ne hj, rfl, rfl⟩) hR.2.2.2.2.2.2 (fk_t (fk_t (fk_t hR.fs))) g1 g2 g3)
  · cases hv
theorem va_rf_v (ι : Nat → Nat) (b : Nat) (r : Option Nat) : va_rf (r.map ι) = vm9 ι b (rv r) := by
  cases r <;> rfl
theorem fk_rv {n : Nat} {r : Option Nat} {st : List Value} (hr : ∀ w, r = some w → w < n) (h : fOk n st) : fOk n (rv r :: st) := by
  cases r with
  | none => exact fk_n h
  | some w => exact fk_r (hr w rfl) h
theorem g_rld {a : Nat} {v : Option Nat} (C : Ctx p R s m args meth c i b ca D A scr) (hd : decode (mB i) pc = .ok (.aaload, 1)) (hv : lR h a x = some v) (hR : RepS s ι b ca D A (mX i) ls (.int x :: .ref a :: st) h H locs ls0)
    (kk : RepS s ι b ca D A (mX i) ls (rv v :: st) h H locs ls0 → W p l e R s m args below meth c H locs cells slots Q (F0 m (pc + 1) ls0 ((rv v :: st).map (vm9 ι b)))) : W p l e R s m args below meth c H locs cells slots Q (F0 m pc ls0 ((.int x :: .ref a :: st).map (vm9 ι b))) := by
  unfold lR at hv
  split at hv
  · rename_i hs
    cases hv
    have k0 := kk (hR.stk (fk_rv (fun w hw => hR.2.2.2.2.2.2 a _ w hw) (fk_t (fk_t hR.fs))))
    rw [List.map_cons, ← va_rf_v] at k0
    rcases hs.1 with q | q
    · obtain ⟨ha, hs1⟩ := shp_k q (by decide)
      have he := wsO_get (ι := ι) (ca := ca) ha
      rw [clE_5 hs1] at he
      exact va_aldq C.1 C.2.1 C.K hR.1 a 4 he rfl (inb_in hs.2) hd k0
    · obtain ⟨ha, hs1⟩ := shp_k q (by decide)
      have he := wsO_get (ι := ι) (ca := ca) ha
      rw [clE_6 hs1] at he
      have hin := inb_in hs.2
      have hlt : x.toNatClampNeg < (shp h.2 a).2 := Nat.not_le.mp fun z => hin (Or.inr z)
      exact W.aald (v := va_rf ((kmr h.2 a x.toNatClampNeg).map ι)) (ty := .array .int) C.1 C.2.1 (hR.1 a _ he) ((C.K.2 5 _ rfl).1 _ (fun j => va_rf ((kmr h.2 a j).map ι))) rfl (fun z => by cases z) (by show ¬ (x < 0 ∨ (arrV _ _ _).slots.size ≤ _); rw [arrV_size]; exact hin) (by show (arrV _ _ _).slots[_]? = _; rw [arrV_read _ _ hlt]) rfl rfl hd k0
  · cases hv
theorem hOk_wr {a k w : Nat} (hh : hOk h) (hw : w < knx h.2) : hOk (h.1, wr h.2 (up2 (kmr h.2) a k (some w))) := by
  intro a2 k2 b2 hq
  have hq : up2 (kmr h.2) a k (some w) a2 k2 = some b2 := hq
  by_cases e : a2 = a
  · subst e
    by_cases e2 : k2 = k
    · subst e2
      rw [up2_self] at hq
      cases hq
      exact hw
    · rw [up2_oth e2] at hq
      exact hh a2 k2 b2 hq
  · rw [up2_ne e] at hq
    exact hh a2 k2 b2 hq
theorem mr_up {a k w : Nat} : (fun j => ((up2 (kmr h.2) a k (some w)) a j).map ι) = va_up (fun j => (kmr h.2 a j).map ι) k (some (ι w)) := by
  funext j
  unfold up2 va_up
  simp only [if_true]
  by_cases e : j = k
  · simp [e]
  · simp [e]
theorem g_rst {a w : Nat} (C : Ctx p R s m args meth c i b ca D A scr) (hd : decode (mB i) pc = .ok (.aastore, 1)) (hv : sR h a x w = some h1) (hR : RepS s ι b ca D A (mX i) ls (.ref w :: .int x :: .ref a :: st) h H locs ls0)
    (kk : ∀ H1 locs1, RepS s ι b ca D A (mX i) ls st h1 H1 locs1 ls0 → W p l e R s m args below meth c H1 locs1 cells slots Q (F0 m (pc + 1) ls0 (st.map (vm9 ι b)))) : W p l e R s m args below meth c H locs cells slots Q (F0 m pc ls0 ((.ref w :: .int x :: .ref a :: st).map (vm9 ι b))) := by
  unfold sR at hv
  split at hv
  · rename_i hs
    cases hv
    obtain ⟨ha, hs1⟩ := shp_k hs.1 (by decide)
    have he := wsO_get (ι := ι) (ca := ca) ha
    rw [clE_5 hs1] at he
    obtain ⟨hw, hs2⟩ := shp_0 hs.2.2
    have he2 := wsO_get (ι := ι) (ca := ca) hw
    rw [clE_0 hs2] at he2
    refine va_astq C.1 C.2.1 C.K hR.1 hR.2.1 hR.2.2.1 a 4 w 3 (r := (rN 3, fT 3, fN 3)) he rfl he2 (vwCl_get 3 (by decide)) (inb_in hs.2.1) hd (fun H1 locs1 g1 g2 g3 => ?_)
    have ec : clE ι ca (h.1, wr h.2 (up2 (kmr h.2) a x.toNatClampNeg (some w))) a = .inl (ca 4, (shp h.2 a).2, .inr (.inr (.inr (.inr (va_up (fun j => (kmr h.2 a j).map ι) x.toNatClampNeg (some (ι w))))))) := by
      rw [clE_5 (h := (h.1, wr h.2 (up2 (kmr h.2) a x.toNatClampNeg (some w)))) hs1, ← mr_up]
      rfl
    rw [← ec] at g1 g2
    exact kk H1 locs1 (hR.wrote (h1 := (h.1, wr h.2 (up2 (kmr h.2) a x.toNatClampNeg (some w)))) ha rfl (fun j hj => ⟨rfl, rfl, rfl, up2_ne hj⟩) (hOk_wr hR.2.2.2.2.2.2 hw) (fk_t (fk_t (fk_t hR.fs))) g1 g2 g3)
  · cases hv
end OPH
end
section
/-! ===== steps that make cells, copy rows, read the script; switches ===== -/
theorem aoa_spec {args : Array Value} {s : State} {t : FieldType} (h : (Cond.arrayOver (.array t)).before args s = true) : ∃ comp c k, s.vm.findClass (FieldType.array t).toString = some comp ∧ (s.vm.classes.findIdx? fun (x : Class) => match x.kind with | .array component _ => component == comp | _ => false) = some c ∧ s.vm.classes[c]? = some k ∧ k.kind = .array comp (.array t) ∧ s.vm.findClass ("[" ++ (FieldType.array t).toString) = some c := by
  unfold Cond.before Cond.holds at h
  simp only [Cond.value, beq_iff_eq] at h
  cases hc : s.vm.findClass (FieldType.array t).toString with
  | none => simp [hc] at h
  | some comp =>
    simp only [hc, Option.bind_some, Option.bind_eq_some_iff, Option.map_eq_some_iff] at h
    obtain ⟨c, hi, k, hk, hb⟩ := h
    obtain ⟨hlt, hp, -⟩ := Array.findIdx?_eq_some_iff_getElem.mp hi
    have hkk : s.vm.classes[c] = k := (Array.getElem?_eq_some_iff.mp hk).2
    rw [hkk] at hp
    cases hkind : k.kind with
    | array component ty =>
      rw [hkind] at hb hp
      simp at hb hp
      exact ⟨comp, c, k, rfl, hi, hk, by rw [hkind, hp, hb.1], hb.2⟩
    | _ => rw [hkind] at hb; simp at hb
theorem aoa_moved {t : FieldType} {u U : State} (hvm : u.vm.Alike U.vm) (h : va_AOA t u) : va_AOA t U := by
  obtain ⟨comp, c, k, h1, h2, h3, h4, h5⟩ := aoa_spec h
  obtain ⟨k', hk', he⟩ := hvm.2.2 _ _ h3
  have hi : (U.vm.classes.findIdx? fun (x : Class) => match x.kind with | .array component _ => component == comp | _ => false) = some c := by
    refine Eq.trans ?_ h2
    refine (va_idx_bare U.vm comp).symm.trans (Eq.trans ?_ (va_idx_bare u.vm comp))
    first | rw [hvm.bare_eq] | rw [← hvm.bare_eq]
  have hkind : k'.kind = .array comp (.array t) := by rw [he]; exact h4
  have f1 : U.vm.findClass (FieldType.array t).toString = some comp := by rw [hvm.findClass]; exact h1
  have f2 : U.vm.findClass ("[" ++ (FieldType.array t).toString) = some c := by rw [hvm.findClass]; exact h5
  unfold va_AOA Cond.before Cond.holds
  simp only [Cond.value]
  rw [f1, Option.bind_some]
  refine (congrArg (fun o : Option Nat => (o.bind (fun c => (U.vm.classes[c]?).map fun (k : Class) => match k.kind with | .array _ ty => decide (ty = FieldType.array t) && decide (U.vm.findClass ("[" ++ (FieldType.array t).toString) = some c) | _ => false) == some true)) hi).trans ?_
  simp [hk', hkind, f2]
theorem fT_own : ∀ ci, ci < 8 → ∀ k, k < fN ci → (fT ci k).1 = rN ci
  | 0, _ => by decide +kernel
  | 1, _ => by decide +kernel
  | 2, _ => by decide +kernel
  | 3, _ => by decide +kernel
  | 4, _ => by decide +kernel
  | 5, _ => by decide +kernel
  | 6, _ => by decide +kernel
  | 7, _ => by decide +kernel
  | k + 8, h => by omega
theorem swt_out (lo : Int) : ∀ (offs : List Int) (x : Int32) (d : Int), (x.toInt < lo ∨ lo + (offs.length : Int) - 1 < x.toInt) → swt lo offs x d = d := by
  intro offs
  induction offs generalizing lo with
  | nil => intro x d _; rfl
  | cons o r ih =>
    intro x d h
    unfold swt
    rw [List.length_cons] at h
    rw [if_neg (by omega)]
    exact ih (lo + 1) x d (by omega)
theorem swt_in (lo : Int) : ∀ (offs : List Int) (x : Int32) (d : Int), ¬ x.toInt < lo → ¬ lo + (offs.length : Int) - 1 < x.toInt → offs[(x.toInt - lo).toNat]? = some (swt lo offs x d) := by
  intro offs
  induction offs generalizing lo with
  | nil => intro x d h1 h2; simp at h2; omega
  | cons o r ih =>
    intro x d h1 h2
    unfold swt
    rw [List.length_cons] at h2
    by_cases e : x.toInt = lo
    · rw [if_pos e, e, Int.sub_self]
      rfl
    · rw [if_neg e]
      have h3 := ih (lo + 1) x d (by omega) (by omega)
      rw [show (x.toInt - lo).toNat = (x.toInt - (lo + 1)).toNat + 1 by omega, List.getElem?_cons_succ]
      exact h3
theorem swl_ok : ∀ (ps : List (Int × Int)) (x : Int32) (d : Int), Op.lookupswitch.offset ps d x.toInt = swl ps x d
  | [], _, _ => rfl
  | (a, o) :: r, x, d => by
    unfold swl
    by_cases e : x.toInt = a
    · rw [if_pos e]
      simp [Op.lookupswitch.offset, e]
    · rw [if_neg e]
      have h := swl_ok r x d
      rw [← h]
      simp [Op.lookupswitch.offset, e, Ne.symm e]
theorem ca_arr {D : va_G} {ca : Nat → ClassId} {s : State} {cA : ClassId} {ty : FieldType} {j : Nat} (hK : va_K D vwCl (tysOf ca ++ [(cA, ty)]) s) (hj : (tysOf ca)[j]? = some (ca j, ty)) (hc : ∀ c, va_RA s c ty → s.vm.findClass ("[" ++ ty.toString) = some c) : cA = ca j := by
  have h1 := hc _ (hK.2 6 (cA, ty) rfl).2
  have hl : j < (tysOf ca).length := (List.getElem?_eq_some_iff.mp hj).1
  have h2 := hc _ (hK.2 j (ca j, ty) (by rw [List.getElem?_append_left hl]; exact hj)).2
  exact Option.some.inj (h1.symm.trans h2)
theorem nfw : nativeFrameWords "java/lang/System" "arraycopy" 5 ≤ 20 := by decide +kernel
section OPM
variable {p : Program} {l : Launch} {e : Env} {R : Room} {s : State} {m : MethodId} {args : Array Value} {below : List Frame} {meth : Method} {c : Code} {H : Heap} {locs : List Loc} {cells slots : Nat} {Q : State → Prop} {i b pc nL : Nat} {ca : Nat → ClassId} {D : va_G} {A : Nat → Prop} {scr : Option SC} {ι : Nat → Nat} {ls st : List Value} {h h1 : Hp} {ls0 : Array Slot} {x y : Int32}
theorem g_tsw {d lo hi : Int} {offs : Array Int} {len t : Nat} (C : Ctx p R s m args meth c i b ca D A scr) (hd : decode (mB i) pc = .ok (.tableswitch d lo hi offs, len)) (hh : hi = lo + (offs.size : Int) - 1) (ht : tgt pc (swt lo offs.toList x d) = some t) (hR : RepS s ι b ca D A (mX i) ls (.int x :: st) h H locs ls0)
    (kk : RepS s ι b ca D A (mX i) ls st h H locs ls0 → W p l e R s m args below meth c H locs cells slots Q (F0 m t ls0 (st.map (vm9 ι b)))) : W p l e R s m args below meth c H locs cells slots Q (F0 m pc ls0 ((.int x :: st).map (vm9 ι b))) := by
  have k0 := kk (hR.stk (fk_t hR.fs))
  have hlen : (offs.toList.length : Int) = (offs.size : Int) := by simp
  by_cases q : x.toInt < lo ∨ hi < x.toInt
  · rw [swt_out lo offs.toList x d (by rw [hlen, ← hh]; exact q)] at ht
    exact lv_tableOut C.1 C.2.1 hd q (tgt_ok ht) k0
  · have q1 : ¬ x.toInt < lo := fun z => q (Or.inl z)
    have q2 : ¬ hi < x.toInt := fun z => q (Or.inr z)
    refine lv_tableIn C.1 C.2.1 hd q1 q2 (off := swt lo offs.toList x d) ?_ (tgt_ok ht) k0
    rw [← Array.getElem?_toList]
    exact swt_in lo offs.toList x d q1 (by rw [hlen, ← hh]; exact q2)
theorem g_lsw {d : Int} {ps : Array (Int × Int)} {len t : Nat} (C : Ctx p R s m args meth c i b ca D A scr) (hd : decode (mB i) pc = .ok (.lookupswitch d ps, len)) (hh : (ps.toList.zip (ps.toList.drop 1)).all (fun (a, next) => a.1 < next.1) = true) (ht : tgt pc (swl ps.toList x d) = some t) (hR : RepS s ι b ca D A (mX i) ls (.int x :: st) h H locs ls0)
    (kk : RepS s ι b ca D A (mX i) ls st h H locs ls0 → W p l e R s m args below meth c H locs cells slots Q (F0 m t ls0 (st.map (vm9 ι b)))) : W p l e R s m args below meth c H locs cells slots Q (F0 m pc ls0 ((.int x :: st).map (vm9 ι b))) := by
  exact lv_lookup C.1 C.2.1 hd hh (swl_ok _ x d) (tgt_ok ht) (kk (hR.stk (fk_t hR.fs)))
theorem g_ldc {k : Nat} {q : Int32 × Nat × Nat} (C : Ctx p R s m args meth c i b ca D A scr) (hd : decode (mB i) pc = .ok (.ldc k, 2)) (hq : (lK (mC i)).lookup k = some q) (hR : RepS s ι b ca D A (mX i) ls st h H locs ls0)
    (kk : RepS s ι b ca D A (mX i) ls (.int q.1 :: st) h H locs ls0 → W p l e R s m args below meth c H locs cells slots Q (F0 m (pc + 2) ls0 ((.int q.1 :: st).map (vm9 ι b)))) : W p l e R s m args below meth c H locs cells slots Q (F0 m pc ls0 (st.map (vm9 ι b))) :=
  lv_ldc C.1 C.2.1 C.own (C.w (lK_at C.lt hq) rfl) hd (kk (hR.stk (fk_i hR.fs)))
theorem g_ldcw {k : Nat} {q : Int32 × Nat × Nat} (C : Ctx p R s m args meth c i b ca D A scr) (hd : decode (mB i) pc = .ok (.ldc_w k, 3)) (hq : (lK (mC i)).lookup k = some q) (hR : RepS s ι b ca D A (mX i) ls st h H locs ls0)
    (kk : RepS s ι b ca D A (mX i) ls (.int q.1 :: st) h H locs ls0 → W p l e R s m args below meth c H locs cells slots Q (F0 m (pc + 3) ls0 ((.int q.1 :: st).map (vm9 ι b)))) : W p l e R s m args below meth c H locs cells slots Q (F0 m pc ls0 (st.map (vm9 ι b))) :=
  lv_ldcw C.1 C.2.1 C.own (C.w (lK_at C.lt hq) rfl) hd (kk (hR.stk (fk_i hR.fs)))
theorem g_putR {k a w : Nat} {q : Nat × Nat × Nat × Nat × Nat} (C : Ctx p R s m args meth c i b ca D A scr) (hd : decode (mB i) pc = .ok (.putfield k, 3)) (hq : (lF (mC i)).lookup k = some q) (hf : fRef q.1 q.2.1 = true) (hfin : (fT q.1 q.2.1).2.2.2 = false ∨ ((mY i).name = "<init>" ∧ q.2.2.1 = 0 ∧ q.1 = mC i)) (hv : pR h a q.1 q.2.1 w = some h1) (hR : RepS s ι b ca D A (mX i) ls (.ref w :: .ref a :: st) h H locs ls0)
    (kk : ∀ H1 locs1, RepS s ι b ca D A (mX i) ls st h1 H1 locs1 ls0 → W p l e R s m args below meth c H1 locs1 cells slots Q (F0 m (pc + 3) ls0 (st.map (vm9 ι b)))) : W p l e R s m args below meth c H locs cells slots Q (F0 m pc ls0 ((.ref w :: .ref a :: st).map (vm9 ι b))) := by
  obtain ⟨hw, hc8, hkN⟩ := lF_at C.lt hq
  unfold pR at hv
  split at hv
  · rename_i hs
    cases hv
    obtain ⟨ha, hs⟩ := shp_0 hs
    have he := wsO_get (ι := ι) (ca := ca) ha
    rw [clE_0 hs] at he
    have hwn : w < knx h.2 := fk_h hR.fs
    have hcell : clE ι ca (h.1, wr h.2 (up2 (kmr h.2) a q.2.1 (some w))) a = .inr (q.1, ((List.range (fN q.1)).map fun k => if fRef q.1 k then va_rf ((kmr h.2 a k).map ι) else Value.int (h.1 a k)).set q.2.1 (.ref (ι w))) := by
      rw [clE_0 (h := (h.1, wr h.2 (up2 (kmr h.2) a q.2.1 (some w)))) hs]
      have e2 := rngmap_set (f := fun k => if fRef q.1 k then va_rf ((kmr h.2 a k).map ι) else Value.int (h.1 a k)) (g := fun k => if fRef q.1 k then va_rf ((up2 (kmr h.2) a q.2.1 (some w) a k).map ι) else Value.int (h.1 a k)) hkN (fun j hj => by simp only [up2_oth hj])
      simp only [hf, if_true, up2_self] at e2
      exact congrArg (fun z => Sum.inr (q.1, z)) e2.symm
    have k0 : ∀ (H1 : Heap) (locs1 : List Loc), va_P D vwCl ((wsO ι ca h).set a (ι a, .inr (q.1, ((List.range (fN q.1)).map fun k => if fRef q.1 k then va_rf ((kmr h.2 a k).map ι) else Value.int (h.1 a k)).set q.2.1 (.ref (ι w))))) H1 → va_D A ((wsO ι ca h).set a (ι a, .inr (q.1, ((List.range (fN q.1)).map fun k => if fRef q.1 k then va_rf ((kmr h.2 a k).map ι) else Value.int (h.1 a k)).set q.2.1 (.ref (ι w))))) → va_S A s.heap H1 locs1 → W p l e R s m args below meth c H1 locs1 cells slots Q (F0 m (pc + 3) ls0 (st.map (vm9 ι b))) := by
      intro H1 locs1 g1 g2 g3
      rw [← hcell] at g1 g2
      exact kk H1 locs1 (hR.wrote (h1 := (h.1, wr h.2 (up2 (kmr h.2) a q.2.1 (some w)))) ha rfl (fun j hj => ⟨rfl, rfl, rfl, up2_ne hj⟩) (hOk_wr hR.2.2.2.2.2.2 hwn) (fk_t (fk_t hR.fs)) g1 g2 g3)
    have hnf := ty_ref (a := ι w) (by rw [← fY_kd _ hc8 _ hkN]; exact hf)
    cases hb2 : (fT q.1 q.2.1).2.2.2 with
    | false =>
      by_cases hn : q.2.2.1 = 0
      · rw [if_pos hn] at hw
        exact va_put C.1 C.2.1 C.ts (lays_in _ hc8) (fY q.1) (fY_ok _ hc8) (fnm_ok _ hc8) C.own C.K hR.1 hR.2.1 hR.2.2.1 a he (vwCl_get _ hc8) q.2.1 hkN (C.w hw rfl) (fun _ z => z) hb2 (fY_ok _ hc8 _ hkN) hnf.1 hnf.2 (by simp; exact hkN) hd k0
      · rw [if_neg hn] at hw
        exact va_putN C.1 C.2.1 C.ts (lays_in _ hc8) (fY q.1) (fY_ok _ hc8) (fnm_ok _ hc8) C.own C.K hR.1 hR.2.1 hR.2.2.1 a he (vwCl_get _ hc8) q.2.1 hkN (C.fn hw) (fun _ z => z) hb2 (fY_ok _ hc8 _ hkN) hnf.1 hnf.2 (by simp; exact hkN) hd k0
    | true =>
      rcases hfin with z | z
      · rw [hb2] at z; cases z
      · rw [if_pos z.2.1] at hw
        have hin : meth.name = "<init>" := C.nm z.1
        exact va_putF C.1 C.2.1 C.ts (lays_in _ hc8) (fY q.1) (fY_ok _ hc8) (fnm_ok _ hc8) C.own C.K hR.1 hR.2.1 hR.2.2.1 a he (vwCl_get _ hc8) q.2.1 hkN (C.w hw rfl) (fun _ z => z) hb2 hin ((fT_own _ hc8 _ hkN).trans (congrArg rN z.2.2)) (fY_ok _ hc8 _ hkN) hnf.1 hnf.2 (by simp; exact hkN) hd k0
  · cases hv
theorem g_aln {a : Nat} {v : Int32} (C : Ctx p R s m args meth c i b ca D A scr) (hd : decode (mB i) pc = .ok (.arraylength, 1)) (hv : aln h a = some v) (hR : RepS s ι b ca D A (mX i) ls (.ref a :: st) h H locs ls0)
    (kk : RepS s ι b ca D A (mX i) ls (.int v :: st) h H locs ls0 → W p l e R s m args below meth c H locs cells slots Q (F0 m (pc + 1) ls0 ((.int v :: st).map (vm9 ι b)))) : W p l e R s m args below meth c H locs cells slots Q (F0 m pc ls0 ((.ref a :: st).map (vm9 ι b))) := by
  unfold aln at hv
  split at hv
  · rename_i hs
    cases hv
    have k0 := kk (hR.stk (fk_i (fk_t hR.fs)))
    obtain ⟨j, hj⟩ : ∃ j, (shp h.2 a).1 = j := ⟨_, rfl⟩
    obtain ⟨ha, hs1⟩ := shp_k hj (by omega)
    have he := wsO_get (ι := ι) (ca := ca) ha
    rcases (show j = 1 ∨ j = 2 ∨ j = 3 ∨ j = 4 ∨ j = 5 ∨ j = 6 by omega) with q | q | q | q | q | q <;> subst q
    · rw [clE_1 hs1] at he
      exact va_alen C.1 C.2.1 C.K hR.1 a 0 he rfl rfl hd k0
    · rw [clE_2 hs1] at he
      exact va_alen C.1 C.2.1 C.K hR.1 a 1 he rfl rfl hd k0
    · rw [clE_3 hs1] at he
      exact va_alen C.1 C.2.1 C.K hR.1 a 2 he rfl rfl hd k0
    · rw [clE_4 hs1] at he
      exact va_alen C.1 C.2.1 C.K hR.1 a 3 he rfl rfl hd k0
    · rw [clE_5 hs1] at he
      exact va_alen C.1 C.2.1 C.K hR.1 a 4 he rfl rfl hd k0
    · rw [clE_6 hs1] at he
      exact va_alen C.1 C.2.1 C.K hR.1 a 5 he rfl rfl hd k0
  · cases hv
theorem g_xld {sc : SC} (C : Ctx p R s m args meth c i b ca D A scr) (hsc : scr = some sc) (hd : decode (mB i) pc = .ok (.iaload, 1)) (hv : inb x sc.1 = true) (hR : RepS s ι b ca D A (mX i) ls (.int x :: .retAddr 1 :: st) h H locs ls0)
    (kk : RepS s ι b ca D A (mX i) ls (.int (sc.2 x.toNatClampNeg) :: st) h H locs ls0 → W p l e R s m args below meth c H locs cells slots Q (F0 m (pc + 1) ls0 ((.int (sc.2 x.toNatClampNeg) :: st).map (vm9 ι b)))) : W p l e R s m args below meth c H locs cells slots Q (F0 m pc ls0 ((.int x :: .retAddr 1 :: st).map (vm9 ι b))) := by
  obtain ⟨z1, z2, z3⟩ := C.sc sc hsc
  exact va_sld C.1 C.2.1 z1 z2 z3 hR.2.2.1 (inb_in hv) hd (kk (hR.stk (fk_i (fk_t (fk_t hR.fs)))))
theorem g_xln {sc : SC} (C : Ctx p R s m args meth c i b ca D A scr) (hsc : scr = some sc) (hd : decode (mB i) pc = .ok (.arraylength, 1)) (hR : RepS s ι b ca D A (mX i) ls (.retAddr 1 :: st) h H locs ls0)
    (kk : RepS s ι b ca D A (mX i) ls (.int (Int32.ofNat sc.1) :: st) h H locs ls0 → W p l e R s m args below meth c H locs cells slots Q (F0 m (pc + 1) ls0 ((.int (Int32.ofNat sc.1) :: st).map (vm9 ι b)))) : W p l e R s m args below meth c H locs cells slots Q (F0 m pc ls0 ((.retAddr 1 :: st).map (vm9 ι b))) := by
  obtain ⟨z1, z2, z3⟩ := C.sc sc hsc
  exact va_slen C.1 C.2.1 z1 z2 z3 hR.2.2.1 hd (kk (hR.stk (fk_i (fk_t hR.fs))))
/-- a cell that has come -/
theorem RepS.came {H1 : Heap} {sh : Nat × Nat} {n q : Nat} (hR : RepS s ι b ca D A nL ls st h H locs ls0)
    (hP : va_P D vwCl (wsO ι ca h ++ [(q, clE (up1 ι (knx h.2) q) ca (alc h sh n) (knx h.2))]) H1) (hD : va_D A (wsO ι ca h ++ [(q, clE (up1 ι (knx h.2) q) ca (alc h sh n) (knx h.2))])) (hS : va_S A s.heap H1 locs) {st2 : List Value} (hf : fOk (knx h.2) st2) :
    RepS s (up1 ι (knx h.2) q) b ca D A nL ls (.ref (knx h.2) :: st2) (alc h sh n) H1 locs ls0 := by
  have hι : ∀ a, a < knx h.2 → up1 ι (knx h.2) q a = ι a := fun a ha => up1_ne (by omega)
  have e := wsO_push (ι := ι) (ι1 := up1 ι (knx h.2) q) (ca := ca) (h := h) (h1 := alc h sh n) rfl (fun j hj => ⟨hι j hj, clE_ext hR.2.2.2.2.2.2 hι (up1_ne (by omega)) (up1_ne (by omega)) (up1_ne (by omega)) (up1_ne (by omega))⟩)
  rw [up1_at] at e
  rw [e] at hP hD
  have hn : knx (alc h sh n).2 = knx h.2 + 1 := rfl
  refine ⟨hP, hD, hS, hR.lv.ext hι hR.fl, fk_m hR.fl (by omega), fk_r (by omega) (fk_m hf (by omega)), fun a k w hw => ?_⟩
  have hw : up1 (kmr h.2) (knx h.2) (fun _ => none) a k = some w := hw
  rw [hn]
  by_cases e2 : a = knx h.2
  · rw [e2, up1_at] at hw; cases hw
  · rw [up1_ne e2] at hw
    have := hR.2.2.2.2.2.2 a k w hw
    omega
theorem alc_sh {sh : Nat × Nat} {n : Nat} : ksh (alc h sh n).2 (knx h.2) = sh := up1_at
theorem alc_mi {sh : Nat × Nat} {n : Nat} : (alc h sh n).1 (knx h.2) = (fun _ => 0) := up1_at
theorem alc_ml {sh : Nat × Nat} {n : Nat} : kml (alc h sh n).2 (knx h.2) = (fun _ => 0) := up1_at
theorem alc_mr {sh : Nat × Nat} {n : Nat} : kmr (alc h sh n).2 (knx h.2) = (fun _ => none) := up1_at
theorem cnk {n : Int32} (h1 : ¬ (n < 0 ∨ 1000000 < n)) : ¬ n < 0 ∧ n.toNatClampNeg ≤ 1000000 := by
  have h2 : ¬ n < 0 := fun z => h1 (Or.inl z)
  have h3 : ¬ 1000000 < n := fun z => h1 (Or.inr z)
  refine ⟨h2, ?_⟩
  have h4 := Int32.not_lt.mp h3
  have h5 := Int32.le_iff_toInt_le.mp h4
  have h6 : (1000000 : Int32).toInt = 1000000 := by decide
  rw [h6] at h5
  unfold Int32.toNatClampNeg
  omega
theorem g_newa_int {n : Int32} (C : Ctx p R s m args meth c i b ca D A scr) (hd : decode (mB i) pc = .ok (.newarray .int, 2)) (hn : ¬ (n < 0 ∨ 1000000 < n)) (hcl : cells + 1 ≤ R.cells) (hsl : slots + n.toNatClampNeg ≤ R.slots) (hR : RepS s ι b ca D A (mX i) ls (.int n :: st) h H locs ls0)
    (kk : ∀ q H1, RepS s (up1 ι (knx h.2) q) b ca D A (mX i) ls (.ref (knx h.2) :: st) (alc h (1, n.toNatClampNeg) n.toNatClampNeg) H1 locs ls0 → W p l e R s m args below meth c H1 locs (cells + 1) (slots + n.toNatClampNeg) Q (F0 m (pc + 2) ls0 ((.ref (knx h.2) :: st).map (vm9 (up1 ι (knx h.2) q) b)))) : W p l e R s m args below meth c H locs cells slots Q (F0 m pc ls0 ((.int n :: st).map (vm9 ι b))) := by
  obtain ⟨h0, hb⟩ := cnk hn
  refine va_newa (atype := .int) (a0 := (n.toNatClampNeg, .inl (fun _ => 0))) C.1 C.2.1 (C.w xw_arr_int rfl) rfl C.K hR.1 hR.2.1 hR.2.2.1 C.hA (fun _ => rfl) h0 rfl (by show _ * 4 ≤ _; omega) hcl hsl hd (fun q cA H1 g0 g1 g2 g3 => ?_)
  have ec := ca_arr (j := 0) g0 rfl (fun _ z => z)
  subst ec
  have ecl : clE (up1 ι (knx h.2) q) ca (alc h (1, n.toNatClampNeg) n.toNatClampNeg) (knx h.2) = .inl (ca 0, n.toNatClampNeg, .inl (fun _ => 0)) := by
    rw [clE_1 alc_sh, alc_mi]
  rw [← ecl] at g1 g2
  have hf := fk_t hR.fs
  have k0 := kk q H1 (hR.came g1 g2 g3 hf)
  rw [List.map_cons, vm9_eq (fun a ha => up1_ne (Nat.ne_of_lt ha)) hf] at k0
  rw [show vm9 (up1 ι (knx h.2) q) b (.ref (knx h.2)) = .ref q from congrArg Value.ref up1_at] at k0
  exact k0
theorem g_newa_boolean {n : Int32} (C : Ctx p R s m args meth c i b ca D A scr) (hd : decode (mB i) pc = .ok (.newarray .boolean, 2)) (hn : ¬ (n < 0 ∨ 1000000 < n)) (hcl : cells + 1 ≤ R.cells) (hsl : slots + n.toNatClampNeg ≤ R.slots) (hR : RepS s ι b ca D A (mX i) ls (.int n :: st) h H locs ls0)
    (kk : ∀ q H1, RepS s (up1 ι (knx h.2) q) b ca D A (mX i) ls (.ref (knx h.2) :: st) (alc h (2, n.toNatClampNeg) n.toNatClampNeg) H1 locs ls0 → W p l e R s m args below meth c H1 locs (cells + 1) (slots + n.toNatClampNeg) Q (F0 m (pc + 2) ls0 ((.ref (knx h.2) :: st).map (vm9 (up1 ι (knx h.2) q) b)))) : W p l e R s m args below meth c H locs cells slots Q (F0 m pc ls0 ((.int n :: st).map (vm9 ι b))) := by
  obtain ⟨h0, hb⟩ := cnk hn
  refine va_newa (atype := .boolean) (a0 := (n.toNatClampNeg, .inl (fun _ => 0))) C.1 C.2.1 (C.w xw_arr_boolean rfl) rfl C.K hR.1 hR.2.1 hR.2.2.1 C.hA (fun _ => rfl) h0 rfl (by show _ * 1 ≤ _; omega) hcl hsl hd (fun q cA H1 g0 g1 g2 g3 => ?_)
  have ec := ca_arr (j := 1) g0 rfl (fun _ z => z)
  subst ec
  have ecl : clE (up1 ι (knx h.2) q) ca (alc h (2, n.toNatClampNeg) n.toNatClampNeg) (knx h.2) = .inl (ca 1, n.toNatClampNeg, .inl (fun _ => 0)) := by
    rw [clE_2 alc_sh, alc_mi]
  rw [← ecl] at g1 g2
  have hf := fk_t hR.fs
  have k0 := kk q H1 (hR.came g1 g2 g3 hf)
  rw [List.map_cons, vm9_eq (fun a ha => up1_ne (Nat.ne_of_lt ha)) hf] at k0
  rw [show vm9 (up1 ι (knx h.2) q) b (.ref (knx h.2)) = .ref q from congrArg Value.ref up1_at] at k0
  exact k0
theorem g_newa_byte {n : Int32} (C : Ctx p R s m args meth c i b ca D A scr) (hd : decode (mB i) pc = .ok (.newarray .byte, 2)) (hn : ¬ (n < 0 ∨ 1000000 < n)) (hcl : cells + 1 ≤ R.cells) (hsl : slots + n.toNatClampNeg ≤ R.slots) (hR : RepS s ι b ca D A (mX i) ls (.int n :: st) h H locs ls0)
    (kk : ∀ q H1, RepS s (up1 ι (knx h.2) q) b ca D A (mX i) ls (.ref (knx h.2) :: st) (alc h (3, n.toNatClampNeg) n.toNatClampNeg) H1 locs ls0 → W p l e R s m args below meth c H1 locs (cells + 1) (slots + n.toNatClampNeg) Q (F0 m (pc + 2) ls0 ((.ref (knx h.2) :: st).map (vm9 (up1 ι (knx h.2) q) b)))) : W p l e R s m args below meth c H locs cells slots Q (F0 m pc ls0 ((.int n :: st).map (vm9 ι b))) := by
  obtain ⟨h0, hb⟩ := cnk hn
  refine va_newa (atype := .byte) (a0 := (n.toNatClampNeg, .inl (fun _ => 0))) C.1 C.2.1 (C.w xw_arr_byte rfl) rfl C.K hR.1 hR.2.1 hR.2.2.1 C.hA (fun _ => rfl) h0 rfl (by show _ * 1 ≤ _; omega) hcl hsl hd (fun q cA H1 g0 g1 g2 g3 => ?_)
  have ec := ca_arr (j := 2) g0 rfl (fun _ z => z)
  subst ec
  have ecl : clE (up1 ι (knx h.2) q) ca (alc h (3, n.toNatClampNeg) n.toNatClampNeg) (knx h.2) = .inl (ca 2, n.toNatClampNeg, .inl (fun _ => 0)) := by
    rw [clE_3 alc_sh, alc_mi]
  rw [← ecl] at g1 g2
  have hf := fk_t hR.fs
  have k0 := kk q H1 (hR.came g1 g2 g3 hf)
  rw [List.map_cons, vm9_eq (fun a ha => up1_ne (Nat.ne_of_lt ha)) hf] at k0
  rw [show vm9 (up1 ι (knx h.2) q) b (.ref (knx h.2)) = .ref q from congrArg Value.ref up1_at] at k0
  exact k0
theorem g_newa_long {n : Int32} (C : Ctx p R s m args meth c i b ca D A scr) (hd : decode (mB i) pc = .ok (.newarray .long, 2)) (hn : ¬ (n < 0 ∨ 1000000 < n)) (hcl : cells + 1 ≤ R.cells) (hsl : slots + n.toNatClampNeg ≤ R.slots) (hR : RepS s ι b ca D A (mX i) ls (.int n :: st) h H locs ls0)
    (kk : ∀ q H1, RepS s (up1 ι (knx h.2) q) b ca D A (mX i) ls (.ref (knx h.2) :: st) (alc h (4, n.toNatClampNeg) n.toNatClampNeg) H1 locs ls0 → W p l e R s m args below meth c H1 locs (cells + 1) (slots + n.toNatClampNeg) Q (F0 m (pc + 2) ls0 ((.ref (knx h.2) :: st).map (vm9 (up1 ι (knx h.2) q) b)))) : W p l e R s m args below meth c H locs cells slots Q (F0 m pc ls0 ((.int n :: st).map (vm9 ι b))) := by
  obtain ⟨h0, hb⟩ := cnk hn
  refine va_newa (atype := .long) (a0 := (n.toNatClampNeg, .inr (.inl (fun _ => 0)))) C.1 C.2.1 (C.w xw_arr_long rfl) rfl C.K hR.1 hR.2.1 hR.2.2.1 C.hA (fun _ => rfl) h0 rfl (by show _ * 8 ≤ _; omega) hcl hsl hd (fun q cA H1 g0 g1 g2 g3 => ?_)
  have ec := ca_arr (j := 3) g0 rfl (fun _ z => z)
  subst ec
  have ecl : clE (up1 ι (knx h.2) q) ca (alc h (4, n.toNatClampNeg) n.toNatClampNeg) (knx h.2) = .inl (ca 3, n.toNatClampNeg, .inr (.inl (fun _ => 0))) := by
    rw [clE_4 alc_sh, alc_ml]
  rw [← ecl] at g1 g2
  have hf := fk_t hR.fs
  have k0 := kk q H1 (hR.came g1 g2 g3 hf)
  rw [List.map_cons, vm9_eq (fun a ha => up1_ne (Nat.ne_of_lt ha)) hf] at k0
  rw [show vm9 (up1 ι (knx h.2) q) b (.ref (knx h.2)) = .ref q from congrArg Value.ref up1_at] at k0
  exact k0
theorem g_newa_S {k : Nat} {n : Int32} {r : String × Nat × Nat} (C : Ctx p R s m args meth c i b ca D A scr) (hd : decode (mB i) pc = .ok (.anewarray k, 3)) (hq : (lC (mC i)).lookup k = some r) (hr : r.1 = RX3) (hn : ¬ (n < 0 ∨ 1000000 < n)) (hcl : cells + 1 ≤ R.cells) (hsl : slots + n.toNatClampNeg ≤ R.slots) (hR : RepS s ι b ca D A (mX i) ls (.int n :: st) h H locs ls0)
    (kk : ∀ q H1, RepS s (up1 ι (knx h.2) q) b ca D A (mX i) ls (.ref (knx h.2) :: st) (alc h (5, n.toNatClampNeg) n.toNatClampNeg) H1 locs ls0 → W p l e R s m args below meth c H1 locs (cells + 1) (slots + n.toNatClampNeg) Q (F0 m (pc + 3) ls0 ((.ref (knx h.2) :: st).map (vm9 (up1 ι (knx h.2) q) b)))) : W p l e R s m args below meth c H locs cells slots Q (F0 m pc ls0 ((.int n :: st).map (vm9 ι b))) := by
  obtain ⟨h0, hb⟩ := cnk hn
  have hw := lC_at C.lt hq
  rw [hr] at hw
  refine va_newq C.1 C.2.1 C.own (C.w hw rfl) C.ao.1 C.K hR.1 hR.2.1 hR.2.2.1 C.hA h0 rfl (by omega) hcl hsl hd (fun q cA H1 g0 g1 g2 g3 => ?_)
  have ec := ca_arr (j := 4) g0 rfl (fun _ z => z.choose_spec.choose_spec.2.2.2)
  subst ec
  have ecl : clE (up1 ι (knx h.2) q) ca (alc h (5, n.toNatClampNeg) n.toNatClampNeg) (knx h.2) = .inl (ca 4, n.toNatClampNeg, .inr (.inr (.inr (.inr (fun _ => none))))) := by
    rw [clE_5 alc_sh, alc_mr]
    rfl
  rw [← ecl] at g1 g2
  have hf := fk_t hR.fs
  have k0 := kk q H1 (hR.came g1 g2 g3 hf)
  rw [List.map_cons, vm9_eq (fun a ha => up1_ne (Nat.ne_of_lt ha)) hf] at k0
  rw [show vm9 (up1 ι (knx h.2) q) b (.ref (knx h.2)) = .ref q from congrArg Value.ref up1_at] at k0
  exact k0
theorem def_ty {ci k : Nat} (hc : ci < 8) (hk : k < fN ci) : defaultValue (fY ci k) = if fRef ci k then va_rf none else .int 0 := by
  rw [fY_kd ci hc k hk]
  have hd := fY_kd ci hc k hk
  unfold fRef at hd
  revert hd
  cases fY ci k <;> intro hd <;> first | rfl | cases hd
theorem g_new {k w : Nat} {r : String × Nat × Nat} (C : Ctx p R s m args meth c i b ca D A scr) (hd : decode (mB i) pc = .ok (.new k, 3)) (hq : (lC (mC i)).lookup k = some r) (hw8 : w < 8) (hr : rN w = r.1) (hcl : cells + 1 ≤ R.cells) (hsl : slots + fN w ≤ R.slots) (hR : RepS s ι b ca D A (mX i) ls st h H locs ls0)
    (kk : ∀ q H1, RepS s (up1 ι (knx h.2) q) b ca D A (mX i) ls (.ref (knx h.2) :: st) (alc h (0, w) (fN w)) H1 locs ls0 → W p l e R s m args below meth c H1 locs (cells + 1) (slots + fN w) Q (F0 m (pc + 3) ls0 ((.ref (knx h.2) :: st).map (vm9 (up1 ι (knx h.2) q) b)))) : W p l e R s m args below meth c H locs cells slots Q (F0 m pc ls0 (st.map (vm9 ι b))) := by
  have hw := lC_at C.lt hq
  rw [← hr] at hw
  refine va_new (ci := w) (fs := (List.range (fN w)).map fun k => if fRef w k then va_rf none else Value.int 0) C.1 C.2.1 C.ts (lays_in _ hw8) (fY w) (fY_ok _ hw8) C.own (C.w hw rfl) (C.w (in_at hw8).1 rfl) (C.w (in_at hw8).2 rfl) C.K hR.1 hR.2.1 hR.2.2.1 C.hA (vwCl_get _ hw8) (fun j hj => ?_) hcl hsl hd (fun q H1 g1 g2 g3 => ?_)
  · unfold vp_V
    rw [List.getD_eq_getElem?_getD, rngmap_get hj, def_ty hw8 hj]
    rfl
  · have ecl : clE (up1 ι (knx h.2) q) ca (alc h (0, w) (fN w)) (knx h.2) = .inr (w, (List.range (fN w)).map fun k => if fRef w k then va_rf none else Value.int 0) := by
      rw [clE_0 alc_sh, alc_mr, alc_mi]
      rfl
    rw [← ecl] at g1 g2
    have k0 := kk q H1 (hR.came g1 g2 g3 hR.fs)
    rw [List.map_cons, vm9_eq (fun a ha => up1_ne (Nat.ne_of_lt ha)) hR.fs] at k0
    rw [show vm9 (up1 ι (knx h.2) q) b (.ref (knx h.2)) = .ref q from congrArg Value.ref up1_at] at k0
    exact k0
theorem cat_vm {ι : Nat → Nat} {b : Nat} (st : List Value) : ((st.map (vm9 ι b)).map fun v => v.category).sum = (st.map fun v => v.category).sum := by
  rw [List.map_map]
  congr 1
  apply List.map_congr_left
  intro v _
  exact vm9_cat ι b v
theorem g_oinit {k a : Nat} {r : Nat × Nat} (C : Ctx p R s m args meth c i b ca D A scr) (hd : decode (mB i) pc = .ok (.invokespecial k, 3)) (hq : (lO (mC i)).lookup k = some r) (hsum : (st.map fun v => v.category).sum ≤ 8) (hlv : 1 ≤ mV i) (hR : RepS s ι b ca D A (mX i) ls (.ref a :: st) h H locs ls0)
    (kk : RepS s ι b ca D A (mX i) ls st h H locs ls0 → W p l e R s m args below meth c H locs cells slots Q (F0 m (pc + 3) ls0 (st.map (vm9 ι b)))) : W p l e R s m args below meth c H locs cells slots Q (F0 m pc ls0 ((.ref a :: st).map (vm9 ι b))) := by
  have hfr := C.fr
  have hlo := C.lo
  refine W.objInit C.1 C.2.1 C.own (C.w (lO_at C.lt hq) rfl) (C.w xw_oi rfl) (C.w xw_oc rfl) rfl (by rw [C.2.2.1]; exact hR.lv.1) rfl hd (by omega) (by show 2 * 0 + _ + 12 ≤ _; rw [cat_vm]; omega) (kk (hR.stk (fk_t hR.fs)))
theorem g_acp {k a w : Nat} {sp dp n : Int32} {r : Nat × Nat} (C : Ctx p R s m args meth c i b ca D A scr) (hd : decode (mB i) pc = .ok (.invokestatic k, 3)) (hq : (lS (mC i)).lookup k = some r) (hsum : (st.map fun v => v.category).sum ≤ 8) (hlv : 1 ≤ mV i) (hv : acp h a sp w dp n = some h1) (hR : RepS s ι b ca D A (mX i) ls (.int n :: .int dp :: .ref w :: .int sp :: .ref a :: st) h H locs ls0)
    (kk : ∀ H1 locs1, RepS s ι b ca D A (mX i) ls st h1 H1 locs1 ls0 → W p l e R s m args below meth c H1 locs1 cells slots Q (F0 m (pc + 3) ls0 (st.map (vm9 ι b)))) : W p l e R s m args below meth c H locs cells slots Q (F0 m pc ls0 ((.int n :: .int dp :: .ref w :: .int sp :: .ref a :: st).map (vm9 ι b))) := by
  have hfr := C.fr
  have hlo := C.lo
  unfold acp at hv
  split at hv
  · rename_i hs
    cases hv
    obtain ⟨ha, hs1⟩ := shp_k hs.1 (by decide)
    obtain ⟨hw, hs2⟩ := shp_k hs.2.1 (by decide)
    have he := wsO_get (ι := ι) (ca := ca) ha
    rw [clE_1 hs1] at he
    have he2 := wsO_get (ι := ι) (ca := ca) hw
    rw [clE_1 hs2] at he2
    refine va_copyi C.1 C.2.1 (by rw [C.2.2.1]; exact hR.lv.1.symm) C.own (C.w (lS_at C.lt hq) rfl) (C.w xw_an rfl) (C.w xw_as rfl) (C.w xw_ai rfl) C.K hR.1 hR.2.1 hR.2.2.1 a w 0 0 he he2 rfl rfl rfl hs.2.2.1 hs.2.2.2.1 hs.2.2.2.2.1 hs.2.2.2.2.2.1 hs.2.2.2.2.2.2 (fun _ _ => rfl) (by omega) (by rw [cat_vm]; have := nfw; omega) hd (fun H1 locs1 g1 g2 g3 => ?_)
    have ec : clE ι ca (up1 h.1 w (va_cpy (h.1 a) (h.1 w) sp.toNatClampNeg dp.toNatClampNeg n.toNatClampNeg), h.2) w = .inl (ca 0, (shp h.2 w).2, .inl (va_cpy (h.1 a) (h.1 w) sp.toNatClampNeg dp.toNatClampNeg n.toNatClampNeg)) := by
      rw [clE_1 (h := (up1 h.1 w (va_cpy (h.1 a) (h.1 w) sp.toNatClampNeg dp.toNatClampNeg n.toNatClampNeg), h.2)) hs2]
      show Sum.inl (ca 0, _, Sum.inl (up1 h.1 w _ w)) = _
      rw [up1_at]
    rw [← ec] at g1 g2
    exact kk H1 locs1 (hR.wrote (h1 := (up1 h.1 w (va_cpy (h.1 a) (h.1 w) sp.toNatClampNeg dp.toNatClampNeg n.toNatClampNeg), h.2)) hw rfl (fun j hj => ⟨up1_ne hj, rfl, rfl, rfl⟩) hR.2.2.2.2.2.2 (fk_t (fk_t (fk_t (fk_t (fk_t hR.fs))))) g1 g2 g3)
  · cases hv
end OPM
end
section
/-! ===== new int[n][k] ===== -/
section MUL
variable {p : Program} {l : Launch} {e : Env} {R : Room} {s : State} {m : MethodId} {args : Array Value} {below : List Frame} {meth : Method} {c : Code} {H : Heap} {locs : List Loc} {cells slots : Nat} {Q : State → Prop} {i b pc nL : Nat} {ca : Nat → ClassId} {D : va_G} {A : Nat → Prop} {scr : Option SC} {ι : Nat → Nat} {ls st : List Value} {h h1 : Hp} {ls0 : Array Slot} {x y : Int32}
def mulI (ι : Nat → Nat) (nx q : Nat) (r : Nat → Nat) : Nat → Nat := fun a => if a < nx then ι a else if a = nx then q else r (a - (nx + 1))
theorem mul_ws {ca : Nat → ClassId} {n k q : Nat} {r : Nat → Nat} {f : Nat → va_E} (hh : hOk h) :
    (wsO ι ca h ++ [(q, .inl (ca 5, n, .inr (.inr (.inr (.inr (fun i => if i < n then some (r i) else none))))))]) ++ va_pl ([] ++ (List.range n).map r) (vr_up f ((List.range n).map r) (.inl (ca 0, (k, .inl (fun _ => 0))))) = wsO (mulI ι (knx h.2) q r) ca (alm h n k) := by
  have hnx : knx (alm h n k).2 = knx h.2 + (1 + n) := rfl
  have hsh : ∀ j, ksh (alm h n k).2 j = if j < knx h.2 then ksh h.2 j else if j = knx h.2 then (6, n) else (1, k) := fun _ => rfl
  have hmi : ∀ j, (alm h n k).1 j = if knx h.2 ≤ j then (fun _ => 0) else h.1 j := fun _ => rfl
  have hml : ∀ j, kml (alm h n k).2 j = if knx h.2 ≤ j then (fun _ => 0) else kml h.2 j := fun _ => rfl
  have hmr : ∀ j, kmr (alm h n k).2 j = if j < knx h.2 then kmr h.2 j else if j = knx h.2 then (fun i => if i < n then some (knx h.2 + 1 + i) else none) else (fun _ => none) := fun _ => rfl
  apply List.ext_getElem?
  intro j
  by_cases h1 : j < knx h.2
  · rw [List.append_assoc, List.getElem?_append_left (by rw [wsO_len]; exact h1), wsO_get h1, wsO_get (by rw [hnx]; omega)]
    have e1 : mulI ι (knx h.2) q r j = ι j := if_pos h1
    rw [e1, clE_ext (ι := ι) (ι1 := mulI ι (knx h.2) q r) (h := h) (h1 := alm h n k) (b := j) hh (fun a ha => if_pos ha) (by rw [hmi, if_neg (by omega)]) (by rw [hml, if_neg (by omega)]) (by rw [hsh, if_pos h1]) (by rw [hmr, if_pos h1])]
  · rw [List.append_assoc, List.getElem?_append_right (by rw [wsO_len]; omega), wsO_len]
    by_cases h2 : j = knx h.2
    · subst h2
      rw [Nat.sub_self, wsO_get (by rw [hnx]; omega)]
      have e1 : mulI ι (knx h.2) q r (knx h.2) = q := by unfold mulI; rw [if_neg (by omega), if_pos rfl]
      rw [e1, clE_6 (n := n) (by rw [hsh, if_neg (by omega), if_pos rfl]), hmr, if_neg (by omega), if_pos rfl]
      show some _ = some _
      refine congrArg (fun z => some (q, (Sum.inl (ca 5, n, .inr (.inr (.inr (.inr z)))) : va_E))) (funext fun i => ?_)
      show _ = Option.map _ (if i < n then some (knx h.2 + 1 + i) else none)
      by_cases hi : i < n
      · simp only [hi, if_true, Option.map_some]
        unfold mulI
        rw [if_neg (by omega), if_neg (by omega), show knx h.2 + 1 + i - (knx h.2 + 1) = i by omega]
      · simp only [hi, if_false]
        rfl
    · by_cases h3 : j < knx h.2 + (1 + n)
      · rw [wsO_get (by rw [hnx]; exact h3)]
        obtain ⟨d, hd⟩ : ∃ d, j - knx h.2 = d + 1 := ⟨j - knx h.2 - 1, by omega⟩
        have hdn : d < n := by omega
        rw [hd, List.singleton_append, List.getElem?_cons_succ]
        unfold va_pl
        rw [List.nil_append, List.getElem?_map, List.getElem?_map, List.getElem?_range hdn]
        have e1 : mulI ι (knx h.2) q r j = r d := by unfold mulI; rw [if_neg h1, if_neg h2, show j - (knx h.2 + 1) = d by omega]
        rw [e1, clE_1 (n := k) (by rw [hsh, if_neg h1, if_neg h2]), hmi, if_pos (by omega)]
        show some (r d, vr_up _ _ _ (r d)) = _
        rw [vr_up_in (List.mem_map.mpr ⟨d, List.mem_range.mpr hdn, rfl⟩)]
      · rw [wsO_none (by rw [hnx]; exact h3), List.getElem?_eq_none]
        simp [va_pl]
        omega
theorem g_mna {k : Nat} {n w : Int32} {r : String × Nat × Nat} (C : Ctx p R s m args meth c i b ca D A scr) (hd : decode (mB i) pc = .ok (.multianewarray k 2, 4)) (hq : (lC (mC i)).lookup k = some r) (hr : r.1 = "[[I") (hw : ¬ (w < 0 ∨ 1000 < w ∨ n < 0 ∨ 1000 < n)) (hcl : cells + (1 + n.toNatClampNeg) ≤ R.cells) (hsl : slots + (n.toNatClampNeg + n.toNatClampNeg * w.toNatClampNeg) ≤ R.slots) (hR : RepS s ι b ca D A (mX i) ls (.int w :: .int n :: st) h H locs ls0)
    (kk : ∀ ι1 H1, (∀ a, a < knx h.2 → ι1 a = ι a) → RepS s ι1 b ca D A (mX i) ls (.ref (knx h.2) :: st) (alm h n.toNatClampNeg w.toNatClampNeg) H1 locs ls0 → W p l e R s m args below meth c H1 locs (cells + (1 + n.toNatClampNeg)) (slots + (n.toNatClampNeg + n.toNatClampNeg * w.toNatClampNeg)) Q (F0 m (pc + 4) ls0 ((.ref (knx h.2) :: st).map (vm9 ι1 b)))) : W p l e R s m args below meth c H locs cells slots Q (F0 m pc ls0 ((.int w :: .int n :: st).map (vm9 ι b))) := by
  have b1 : ∀ z : Int32, ¬ z < 0 → ¬ 1000 < z → z.toNatClampNeg ≤ 1000 := by
    intro z _ h3
    have h5 := Int32.le_iff_toInt_le.mp (Int32.not_lt.mp h3)
    have h6 : (1000 : Int32).toInt = 1000 := by decide
    rw [h6] at h5
    unfold Int32.toNatClampNeg
    omega
  have w0 : ¬ w < 0 := fun z => hw (Or.inl z)
  have w1 := b1 w w0 (fun z => hw (Or.inr (Or.inl z)))
  have n0 : ¬ n < 0 := fun z => hw (Or.inr (Or.inr (Or.inl z)))
  have n1 := b1 n n0 (fun z => hw (Or.inr (Or.inr (Or.inr z))))
  have hl := lC_at C.lt hq
  rw [hr] at hl
  have hP := hR.1
  have hD := hR.2.1
  rw [← List.append_nil (wsO ι ca h)] at hP hD
  refine va_mna (X := wsO ι ca h) (L := []) (f := fun _ => .inl (0, (0, .inl (fun _ => 0)))) (ty := .int) (cy := ca 0) (z := (w.toNatClampNeg, .inl (fun _ => 0))) C.1 C.2.1 C.own (C.w hl rfl) C.ao.2 (C.w xw_arr_int rfl) (C.K.2 0 _ rfl).2 C.K hP hD hR.2.2.1 C.hA n0 w0 rfl rfl (by omega) (by show _ * 4 ≤ _; omega) (by omega) rfl rfl hcl hsl (fun _ => ?_) hd (fun q r1 cA H1 i1 i2 g0 g1 g2 g3 => ?_)
  · show ({ cls := _, slots := Array.replicate _ _, vm := .none } : Cell) = _
    rw [arrV_new]
    rfl
  · have ec := ca_arr (j := 5) g0 rfl (fun _ z => z)
    subst ec
    rw [mul_ws hR.2.2.2.2.2.2] at g1 g2
    have hf := fk_t (fk_t hR.fs)
    have hι : ∀ a, a < knx h.2 → mulI ι (knx h.2) q r1 a = ι a := fun a ha => if_pos ha
    have k0 := kk (mulI ι (knx h.2) q r1) H1 hι ⟨g1, g2, g3, hR.lv.ext hι hR.fl, fk_m hR.fl (by show _ ≤ knx h.2 + (1 + _); omega), fk_r (by show _ < knx h.2 + (1 + _); omega) (fk_m hf (by show _ ≤ knx h.2 + (1 + _); omega)), fun a k2 w2 hk2 => ?_⟩
    · rw [List.map_cons, vm9_eq hι hf] at k0
      rw [show vm9 (mulI ι (knx h.2) q r1) b (.ref (knx h.2)) = .ref q from congrArg Value.ref (by unfold mulI; rw [if_neg (by omega), if_pos rfl])] at k0
      rw [Nat.add_assoc, Nat.add_assoc]
      exact k0
    · have hk2 : (if a < knx h.2 then kmr h.2 a else if a = knx h.2 then (fun i => if i < n.toNatClampNeg then some (knx h.2 + 1 + i) else none) else (fun _ => none)) k2 = some w2 := hk2
      show w2 < knx h.2 + (1 + n.toNatClampNeg)
      by_cases e1 : a < knx h.2
      · rw [if_pos e1] at hk2
        have := hR.2.2.2.2.2.2 a k2 w2 hk2
        omega
      · rw [if_neg e1] at hk2
        by_cases e2 : a = knx h.2
        · rw [if_pos e2] at hk2
          by_cases e3 : k2 < n.toNatClampNeg
          · simp only [e3, if_true, Option.some.injEq] at hk2
            omega
          · simp only [e3, if_false] at hk2
            cases hk2
        · rw [if_neg e2] at hk2
          cases hk2
end MUL
end
section
/-! ===== one step of the pure machine that calls nothing ===== -/
theorem pI_k {h h1 : Hp} {a ci k : Nat} {v : Int32} (q : pI h a ci k v = some h1) : kkc h1.2 = kkc h.2 ∧ kks h1.2 = kks h.2 := by
  unfold pI at q
  split at q <;> cases q
  exact ⟨rfl, rfl⟩
theorem pR_k {h h1 : Hp} {a ci k w : Nat} (q : pR h a ci k w = some h1) : kkc h1.2 = kkc h.2 ∧ kks h1.2 = kks h.2 := by
  unfold pR at q
  split at q <;> cases q
  exact ⟨rfl, rfl⟩
theorem sI_k {h h1 : Hp} {a : Nat} {i v : Int32} (q : sI h a i v = some h1) : kkc h1.2 = kkc h.2 ∧ kks h1.2 = kks h.2 := by
  unfold sI at q
  split at q <;> cases q
  exact ⟨rfl, rfl⟩
theorem sB_k {h h1 : Hp} {a : Nat} {i v : Int32} (q : sB h a i v = some h1) : kkc h1.2 = kkc h.2 ∧ kks h1.2 = kks h.2 := by
  unfold sB at q
  split at q <;> cases q
  exact ⟨rfl, rfl⟩
theorem sL_k {h h1 : Hp} {a : Nat} {i : Int32} {v : Int64} (q : sL h a i v = some h1) : kkc h1.2 = kkc h.2 ∧ kks h1.2 = kks h.2 := by
  unfold sL at q
  split at q <;> cases q
  exact ⟨rfl, rfl⟩
theorem sR_k {h h1 : Hp} {a w : Nat} {i : Int32} (q : sR h a i w = some h1) : kkc h1.2 = kkc h.2 ∧ kks h1.2 = kks h.2 := by
  unfold sR at q
  split at q <;> cases q
  exact ⟨rfl, rfl⟩
theorem acp_k {h h1 : Hp} {a w : Nat} {sp dp n : Int32} (q : acp h a sp w dp n = some h1) : kkc h1.2 = kkc h.2 ∧ kks h1.2 = kks h.2 := by
  unfold acp at q
  split at q <;> cases q
  exact ⟨rfl, rfl⟩
section GOS
variable {p : Program} {l : Launch} {e : Env} {R : Room} {s : State} {m : MethodId} {args : Array Value} {below : List Frame} {meth : Method} {c : Code} {H : Heap} {locs : List Loc} {cells slots : Nat} {Q : State → Prop} {i b pc nL : Nat} {ca : Nat → ClassId} {D : va_G} {A : Nat → Prop} {scr : Option SC} {ι : Nat → Nat} {ls st : List Value} {h h1 : Hp} {ls0 : Array Slot} {x y : Int32}
/-- what a step owes to what comes behind it -/
abbrev GoK (p : Program) (l : Launch) (e : Env) (R : Room) (s : State) (m : MethodId) (args : Array Value) (below : List Frame) (meth : Method) (c : Code) (cells slots : Nat) (Q : State → Prop) (i b : Nat) (ca : Nat → ClassId) (D : va_G) (A : Nat → Prop) (ι : Nat → Nat) (h : Hp) (fr1 : Fr) (h1 : Hp) : Prop :=
  ∀ (ι1 : Nat → Nat) (H1 : Heap) (locs1 : List Loc) (ls1 : Array Slot), (∀ a, a < knx h.2 → ι1 a = ι a) → fr1.1 = i → RepS s ι1 b ca D A (mX i) fr1.2.2.1 fr1.2.2.2 h1 H1 locs1 ls1 → W p l e R s m args below meth c H1 locs1 (cells + (kkc h1.2 - kkc h.2)) (slots + (kks h1.2 - kks h.2)) Q (F0 m fr1.2.1 ls1 (fr1.2.2.2.map (vm9 ι1 b)))
theorem GoK.same {fr1 : Fr} (kk : GoK p l e R s m args below meth c cells slots Q i b ca D A ι h fr1 h) (hi : fr1.1 = i) : ∀ (H1 : Heap) (locs1 : List Loc) (ls1 : Array Slot), RepS s ι b ca D A (mX i) fr1.2.2.1 fr1.2.2.2 h H1 locs1 ls1 → W p l e R s m args below meth c H1 locs1 cells slots Q (F0 m fr1.2.1 ls1 (fr1.2.2.2.map (vm9 ι b))) := by
  intro H1 locs1 ls1 hR
  have k0 := kk ι H1 locs1 ls1 (fun _ _ => rfl) hi hR
  rw [Nat.sub_self, Nat.sub_self, Nat.add_zero, Nat.add_zero] at k0
  exact k0
theorem GoK.wrote {fr1 : Fr} (kk : GoK p l e R s m args below meth c cells slots Q i b ca D A ι h fr1 h1) (hi : fr1.1 = i) (hk : kkc h1.2 = kkc h.2 ∧ kks h1.2 = kks h.2) : ∀ (H1 : Heap) (locs1 : List Loc), RepS s ι b ca D A (mX i) fr1.2.2.1 fr1.2.2.2 h1 H1 locs1 ls0 → W p l e R s m args below meth c H1 locs1 cells slots Q (F0 m fr1.2.1 ls0 (fr1.2.2.2.map (vm9 ι b))) := by
  intro H1 locs1 hR
  have k0 := kk ι H1 locs1 ls0 (fun _ _ => rfl) hi hR
  rw [hk.1, hk.2, Nat.sub_self, Nat.sub_self, Nat.add_zero, Nat.add_zero] at k0
  exact k0
/-- codeOf of a String constant, in the machine -/
def CodeOK (p : Program) (l : Launch) (e : Env) (R : Room) (s : State) (m : MethodId) (args : Array Value) (below : List Frame) (meth : Method) (c : Code) (Q : State → Prop) (i b : Nat) (ca : Nat → ClassId) (D : va_G) (A : Nat → Prop) : Prop :=
  mC i = 2 → 6 ≤ mV i → ∀ (ι : Nat → Nat) (ls st : List Value) (h : Hp) (H : Heap) (locs : List Loc) (ls0 : Array Slot) (cells slots pc k : Nat) (v : Int32), cdT.lookup k = some v → cd i pc = some (.ldc k, 2) → cd i (pc + 2) = some (.invokestatic 11, 3) → (st.map fun v => v.category).sum ≤ 8 → cells ≤ R.cells → slots ≤ R.slots → RepS s ι b ca D A (mX i) ls st h H locs ls0 →
    (∀ (H1 : Heap) (locs1 : List Loc), RepS s ι b ca D A (mX i) ls (.int v :: st) h H1 locs1 ls0 → W p l e R s m args below meth c H1 locs1 cells slots Q (F0 m (pc + 5) ls0 ((.int v :: st).map (vm9 ι b)))) → W p l e R s m args below meth c H locs cells slots Q (F0 m pc ls0 (st.map (vm9 ι b)))
set_option maxHeartbeats 4000000 in
theorem go_ok (C : Ctx p R s m args meth c i b ca D A scr) (hco : CodeOK p l e R s m args below meth c Q i b ca D A) {fr1 : Fr} (hn : nxt scr (i, pc, ls, st) h = some (.inl (fr1, h1))) (hR : RepS s ι b ca D A (mX i) ls st h H locs ls0) (hcl : cells + (kkc h1.2 - kkc h.2) ≤ R.cells) (hsl : slots + (kks h1.2 - kks h.2) ≤ R.slots)
    (kk : GoK p l e R s m args below meth c cells slots Q i b ca D A ι h fr1 h1) : W p l e R s m args below meth c H locs cells slots Q (F0 m pc ls0 (st.map (vm9 ι b))) := by
  unfold nxt at hn
  cases hcd : cd i pc with
  | none => simp only [hcd] at hn; cases hn
  | some q =>
    obtain ⟨ins, len⟩ := q
    simp only [hcd] at hn
    by_cases hlen : len = iln ins ∨ iln ins = 0
    case neg => rw [if_neg hlen] at hn; cases hn
    rw [if_pos hlen] at hn
    have hd := cd_ok hcd
    cases ins with
    | iload_n k =>
      have hlen : len = _ := hlen.elim id (fun z => absurd z (by simp [iln]))
      rw [hlen] at hd
      unfold nx1 at hn
      dsimp only at hn
      cases hl : ls[(k : Nat)]? with
      | none => rw [hl] at hn; cases hn
      | some v =>
        rw [hl] at hn
        cases v with
        | int x => unfold gO at hn; cases hn; exact g_iload_n C hd hl hR (kk.same rfl _ _ _)
        | _ => cases hn
    | iload k =>
      have hlen : len = _ := hlen.elim id (fun z => absurd z (by simp [iln]))
      rw [hlen] at hd
      unfold nx1 at hn
      dsimp only at hn
      cases hl : ls[k]? with
      | none => rw [hl] at hn; cases hn
      | some v =>
        rw [hl] at hn
        cases v with
        | int x => unfold gO at hn; cases hn; exact g_iload C hd hl hR (kk.same rfl _ _ _)
        | _ => cases hn
    | aload_n k =>
      have hlen : len = _ := hlen.elim id (fun z => absurd z (by simp [iln]))
      rw [hlen] at hd
      unfold nx1 at hn
      dsimp only at hn
      cases hl : ls[(k : Nat)]? with
      | none => rw [hl] at hn; cases hn
      | some v =>
        rw [hl] at hn
        cases v with
        | ref a => unfold gO at hn; cases hn; exact g_aload_n C hd hl hR (kk.same rfl _ _ _)
        | null => unfold gO at hn; cases hn; exact g_aload_nN C hd hl hR (kk.same rfl _ _ _)
        | retAddr j =>
          rcases j with _ | _ | j
          · cases hn
          · unfold gO at hn; cases hn; exact g_aload_nX C hd hl hR (kk.same rfl _ _ _)
          · cases hn
        | _ => cases hn
    | aload k =>
      have hlen : len = _ := hlen.elim id (fun z => absurd z (by simp [iln]))
      rw [hlen] at hd
      unfold nx1 at hn
      dsimp only at hn
      cases hl : ls[k]? with
      | none => rw [hl] at hn; cases hn
      | some v =>
        rw [hl] at hn
        cases v with
        | ref a => unfold gO at hn; cases hn; exact g_aload C hd hl hR (kk.same rfl _ _ _)
        | null => unfold gO at hn; cases hn; exact g_aloadN C hd hl hR (kk.same rfl _ _ _)
        | _ => cases hn
    | iadd =>
      have hlen : len = _ := hlen.elim id (fun z => absurd z (by simp [iln]))
      rw [hlen] at hd
      unfold nx1 at hn
      dsimp only at hn
      cases st with
      | nil => cases hn
      | cons v0 r1 =>
        cases v0 with
        | int y =>
          cases r1 with
          | nil => cases hn
          | cons v1 r2 =>
            cases v1 with
            | int x =>
              try dsimp only at hn
              unfold gO at hn; cases hn; exact g_iadd C hd hR (kk.same rfl _ _ _)
            | _ => cases hn
        | _ => cases hn
    | isub =>
      have hlen : len = _ := hlen.elim id (fun z => absurd z (by simp [iln]))
      rw [hlen] at hd
      unfold nx1 at hn
      dsimp only at hn
      cases st with
      | nil => cases hn
      | cons v0 r1 =>
        cases v0 with
        | int y =>
          cases r1 with
          | nil => cases hn
          | cons v1 r2 =>
            cases v1 with
            | int x =>
              try dsimp only at hn
              unfold gO at hn; cases hn; exact g_isub C hd hR (kk.same rfl _ _ _)
            | _ => cases hn
        | _ => cases hn
    | imul =>
      have hlen : len = _ := hlen.elim id (fun z => absurd z (by simp [iln]))
      rw [hlen] at hd
      unfold nx1 at hn
      dsimp only at hn
      cases st with
      | nil => cases hn
      | cons v0 r1 =>
        cases v0 with
        | int y =>
          cases r1 with
          | nil => cases hn
          | cons v1 r2 =>
            cases v1 with
            | int x =>
              try dsimp only at hn
              unfold gO at hn; cases hn; exact g_imul C hd hR (kk.same rfl _ _ _)
            | _ => cases hn
        | _ => cases hn
    | iand =>
      have hlen : len = _ := hlen.elim id (fun z => absurd z (by simp [iln]))
      rw [hlen] at hd
      unfold nx1 at hn
      dsimp only at hn
      cases st with
      | nil => cases hn
      | cons v0 r1 =>
        cases v0 with
        | int y =>
          cases r1 with
          | nil => cases hn
          | cons v1 r2 =>
            cases v1 with
            | int x =>
              try dsimp only at hn
              unfold gO at hn; cases hn; exact g_iand C hd hR (kk.same rfl _ _ _)
            | _ => cases hn
        | _ => cases hn
    | ior =>
      have hlen : len = _ := hlen.elim id (fun z => absurd z (by simp [iln]))
      rw [hlen] at hd
      unfold nx1 at hn
      dsimp only at hn
      cases st with
      | nil => cases hn
      | cons v0 r1 =>
        cases v0 with
        | int y =>
          cases r1 with
          | nil => cases hn
          | cons v1 r2 =>
            cases v1 with
            | int x =>
              try dsimp only at hn
              unfold gO at hn; cases hn; exact g_ior C hd hR (kk.same rfl _ _ _)
            | _ => cases hn
        | _ => cases hn
    | ixor =>
      have hlen : len = _ := hlen.elim id (fun z => absurd z (by simp [iln]))
      rw [hlen] at hd
      unfold nx1 at hn
      dsimp only at hn
      cases st with
      | nil => cases hn
      | cons v0 r1 =>
        cases v0 with
        | int y =>
          cases r1 with
          | nil => cases hn
          | cons v1 r2 =>
            cases v1 with
            | int x =>
              try dsimp only at hn
              unfold gO at hn; cases hn; exact g_ixor C hd hR (kk.same rfl _ _ _)
            | _ => cases hn
        | _ => cases hn
    | ishl =>
      have hlen : len = _ := hlen.elim id (fun z => absurd z (by simp [iln]))
      rw [hlen] at hd
      unfold nx1 at hn
      dsimp only at hn
      cases st with
      | nil => cases hn
      | cons v0 r1 =>
        cases v0 with
        | int y =>
          cases r1 with
          | nil => cases hn
          | cons v1 r2 =>
            cases v1 with
            | int x =>
              try dsimp only at hn
              unfold gO at hn; cases hn; exact g_ishl C hd hR (kk.same rfl _ _ _)
            | _ => cases hn
        | _ => cases hn
    | ishr =>
      have hlen : len = _ := hlen.elim id (fun z => absurd z (by simp [iln]))
      rw [hlen] at hd
      unfold nx1 at hn
      dsimp only at hn
      cases st with
      | nil => cases hn
      | cons v0 r1 =>
        cases v0 with
        | int y =>
          cases r1 with
          | nil => cases hn
          | cons v1 r2 =>
            cases v1 with
            | int x =>
              try dsimp only at hn
              unfold gO at hn; cases hn; exact g_ishr C hd hR (kk.same rfl _ _ _)
            | _ => cases hn
        | _ => cases hn
    | iushr =>
      have hlen : len = _ := hlen.elim id (fun z => absurd z (by simp [iln]))
      rw [hlen] at hd
      unfold nx1 at hn
      dsimp only at hn
      cases st with
      | nil => cases hn
      | cons v0 r1 =>
        cases v0 with
        | int y =>
          cases r1 with
          | nil => cases hn
          | cons v1 r2 =>
            cases v1 with
            | int x =>
              try dsimp only at hn
              unfold gO at hn; cases hn; exact g_iushr C hd hR (kk.same rfl _ _ _)
            | _ => cases hn
        | _ => cases hn
    | irem =>
      have hlen : len = _ := hlen.elim id (fun z => absurd z (by simp [iln]))
      rw [hlen] at hd
      unfold nx1 at hn
      dsimp only at hn
      cases st with
      | nil => cases hn
      | cons v0 r1 =>
        cases v0 with
        | int y =>
          cases r1 with
          | nil => cases hn
          | cons v1 r2 =>
            cases v1 with
            | int x =>
              try dsimp only at hn
              by_cases hy : y = 0
              · rw [if_pos hy] at hn; cases hn
              · rw [if_neg hy] at hn; unfold gO at hn; cases hn; exact g_irem C hd hy hR (kk.same rfl _ _ _)
            | _ => cases hn
        | _ => cases hn
    | idiv =>
      have hlen : len = _ := hlen.elim id (fun z => absurd z (by simp [iln]))
      rw [hlen] at hd
      unfold nx1 at hn
      dsimp only at hn
      cases st with
      | nil => cases hn
      | cons v0 r1 =>
        cases v0 with
        | int y =>
          cases r1 with
          | nil => cases hn
          | cons v1 r2 =>
            cases v1 with
            | int x =>
              try dsimp only at hn
              by_cases hy : y = 0
              · rw [if_pos hy] at hn; cases hn
              · rw [if_neg hy] at hn; unfold gO at hn; cases hn; exact g_idiv C hd hy hR (kk.same rfl _ _ _)
            | _ => cases hn
        | _ => cases hn
    | i2b =>
      have hlen : len = _ := hlen.elim id (fun z => absurd z (by simp [iln]))
      rw [hlen] at hd
      unfold nx1 at hn
      dsimp only at hn
      cases st with
      | nil => cases hn
      | cons v0 r1 =>
        cases v0 with
        | int x =>
          try dsimp only at hn
          unfold gO at hn; cases hn; exact g_i2b C hd hR (kk.same rfl _ _ _)
        | _ => cases hn
    | i2l =>
      have hlen : len = _ := hlen.elim id (fun z => absurd z (by simp [iln]))
      rw [hlen] at hd
      unfold nx1 at hn
      dsimp only at hn
      cases st with
      | nil => cases hn
      | cons v0 r1 =>
        cases v0 with
        | int x =>
          try dsimp only at hn
          unfold gO at hn; cases hn; exact g_i2l C hd hR (kk.same rfl _ _ _)
        | _ => cases hn
    | lcmp =>
      have hlen : len = _ := hlen.elim id (fun z => absurd z (by simp [iln]))
      rw [hlen] at hd
      unfold nx1 at hn
      dsimp only at hn
      cases st with
      | nil => cases hn
      | cons v0 r1 =>
        cases v0 with
        | long y =>
          cases r1 with
          | nil => cases hn
          | cons v1 r2 =>
            cases v1 with
            | long x =>
              try dsimp only at hn
              unfold gO at hn; cases hn; exact g_lcmp C hd hR (kk.same rfl _ _ _)
            | _ => cases hn
        | _ => cases hn
    | iconst n =>
      have hlen : len = _ := hlen.elim id (fun z => absurd z (by simp [iln]))
      rw [hlen] at hd
      unfold nx1 at hn
      dsimp only at hn
      unfold gO at hn; cases hn; exact g_iconst C hd hR (kk.same rfl _ _ _)
    | bipush n =>
      have hlen : len = _ := hlen.elim id (fun z => absurd z (by simp [iln]))
      rw [hlen] at hd
      unfold nx1 at hn
      dsimp only at hn
      unfold gO at hn; cases hn; exact g_bipush C hd hR (kk.same rfl _ _ _)
    | sipush n =>
      have hlen : len = _ := hlen.elim id (fun z => absurd z (by simp [iln]))
      rw [hlen] at hd
      unfold nx1 at hn
      dsimp only at hn
      unfold gO at hn; cases hn; exact g_sipush C hd hR (kk.same rfl _ _ _)
    | dup =>
      have hlen : len = _ := hlen.elim id (fun z => absurd z (by simp [iln]))
      rw [hlen] at hd
      unfold nx1 at hn
      dsimp only at hn
      cases st with
      | nil => cases hn
      | cons v0 r1 =>
        try dsimp only at hn
        by_cases hv : v0.category = 1
        · rw [if_pos hv] at hn; unfold gO at hn; cases hn; exact g_dup C hd hv hR (kk.same rfl _ _ _)
        · rw [if_neg hv] at hn; cases hn
    | pop =>
      have hlen : len = _ := hlen.elim id (fun z => absurd z (by simp [iln]))
      rw [hlen] at hd
      unfold nx1 at hn
      dsimp only at hn
      cases st with
      | nil => cases hn
      | cons v0 r1 =>
        try dsimp only at hn
        by_cases hv : v0.category = 1
        · rw [if_pos hv] at hn; unfold gO at hn; cases hn; exact g_pop C hd hv hR (kk.same rfl _ _ _)
        · rw [if_neg hv] at hn; cases hn
    | dup2 =>
      have hlen : len = _ := hlen.elim id (fun z => absurd z (by simp [iln]))
      rw [hlen] at hd
      unfold nx1 at hn
      dsimp only at hn
      cases st with
      | nil => cases hn
      | cons v0 r1 =>
        cases r1 with
        | nil => cases hn
        | cons v1 r2 =>
          try dsimp only at hn
          by_cases hv : v0.category = 1 ∧ v1.category = 1
          · rw [if_pos hv] at hn; unfold gO at hn; cases hn; exact g_dup2 C hd hv.1 hv.2 hR (kk.same rfl _ _ _)
          · rw [if_neg hv] at hn; cases hn
    | istore_n k =>
      have hlen : len = _ := hlen.elim id (fun z => absurd z (by simp [iln]))
      rw [hlen] at hd
      unfold nx1 at hn
      dsimp only at hn
      cases st with
      | nil => cases hn
      | cons v0 r1 =>
        cases v0 with
        | int x =>
          try dsimp only at hn
          by_cases hl : (k : Nat) < ls.length
          · rw [if_pos hl] at hn; unfold gO at hn; cases hn; exact g_istore_n C hd hl hR (fun ls1 z => kk.same rfl _ _ ls1 z)
          · rw [if_neg hl] at hn; cases hn
        | _ => cases hn
    | istore k =>
      have hlen : len = _ := hlen.elim id (fun z => absurd z (by simp [iln]))
      rw [hlen] at hd
      unfold nx1 at hn
      dsimp only at hn
      cases st with
      | nil => cases hn
      | cons v0 r1 =>
        cases v0 with
        | int x =>
          try dsimp only at hn
          by_cases hl : k < ls.length
          · rw [if_pos hl] at hn; unfold gO at hn; cases hn; exact g_istore C hd hl hR (fun ls1 z => kk.same rfl _ _ ls1 z)
          · rw [if_neg hl] at hn; cases hn
        | _ => cases hn
    | astore_n k =>
      have hlen : len = _ := hlen.elim id (fun z => absurd z (by simp [iln]))
      rw [hlen] at hd
      unfold nx1 at hn
      dsimp only at hn
      cases st with
      | nil => cases hn
      | cons v0 r1 =>
        cases v0 with
        | ref a =>
          dsimp only at hn
          by_cases hl : (k : Nat) < ls.length
          · rw [if_pos hl] at hn; unfold gO at hn; cases hn; exact g_astore_n C hd hl hR (fun ls1 z => kk.same rfl _ _ ls1 z)
          · rw [if_neg hl] at hn; cases hn
        | null =>
          dsimp only at hn
          by_cases hl : (k : Nat) < ls.length
          · rw [if_pos hl] at hn; unfold gO at hn; cases hn; exact g_astore_nN C hd hl hR (fun ls1 z => kk.same rfl _ _ ls1 z)
          · rw [if_neg hl] at hn; cases hn
        | _ => cases hn
    | astore k =>
      have hlen : len = _ := hlen.elim id (fun z => absurd z (by simp [iln]))
      rw [hlen] at hd
      unfold nx1 at hn
      dsimp only at hn
      cases st with
      | nil => cases hn
      | cons v0 r1 =>
        cases v0 with
        | ref a =>
          dsimp only at hn
          by_cases hl : k < ls.length
          · rw [if_pos hl] at hn; unfold gO at hn; cases hn; exact g_astore C hd hl hR (fun ls1 z => kk.same rfl _ _ ls1 z)
          · rw [if_neg hl] at hn; cases hn
        | null =>
          dsimp only at hn
          by_cases hl : k < ls.length
          · rw [if_pos hl] at hn; unfold gO at hn; cases hn; exact g_astoreN C hd hl hR (fun ls1 z => kk.same rfl _ _ ls1 z)
          · rw [if_neg hl] at hn; cases hn
        | _ => cases hn
    | iinc k n =>
      have hlen : len = _ := hlen.elim id (fun z => absurd z (by simp [iln]))
      rw [hlen] at hd
      unfold nx1 at hn
      dsimp only at hn
      cases hl : ls[k]? with
      | none => rw [hl] at hn; cases hn
      | some v =>
        rw [hl] at hn
        cases v with
        | int x => unfold gO at hn; cases hn; exact g_iinc C hd hl hR (fun ls1 z => kk.same rfl _ _ ls1 z)
        | _ => cases hn
    | ldc k =>
      have hlen : len = _ := hlen.elim id (fun z => absurd z (by simp [iln]))
      rw [hlen] at hd
      unfold nx1 at hn
      dsimp only at hn
      cases hq : (lK (mC i)).lookup k with
      | some q => rw [hq] at hn; unfold gO at hn; cases hn; exact g_ldc C hd hq hR (kk.same rfl _ _ _)
      | none =>
        rw [hq] at hn
        by_cases h2 : mC i = 2 ∧ 6 ≤ mV i ∧ (st.map fun v => v.category).sum ≤ 8
        · simp only [if_pos h2] at hn
          cases hv : cdT.lookup k with
          | none => simp only [hv] at hn; cases hn
          | some v =>
            cases hc2 : cd i (pc + 2) with
            | none => simp only [hv, hc2] at hn; cases hn
            | some q2 =>
              obtain ⟨ins2, len2⟩ := q2
              simp only [hv, hc2] at hn
              split at hn
              · rename_i e1 e2
                cases e1
                cases e2
                unfold gO at hn
                cases hn
                exact hco h2.1 h2.2.1 ι ls st h H locs ls0 cells slots pc k v hv (by rw [hcd, hlen]; rfl) hc2 h2.2.2 (by omega) (by omega) hR (fun H2 locs2 hR2 => kk.same rfl H2 locs2 ls0 hR2)
              · cases hn
        · rw [if_neg h2] at hn; cases hn
    | ldc_w k =>
      have hlen : len = _ := hlen.elim id (fun z => absurd z (by simp [iln]))
      rw [hlen] at hd
      unfold nx1 at hn
      dsimp only at hn
      cases hq : (lK (mC i)).lookup k with
      | some q => rw [hq] at hn; unfold gO at hn; cases hn; exact g_ldcw C hd hq hR (kk.same rfl _ _ _)
      | none => rw [hq] at hn; cases hn
    | goto off =>
      have hlen : len = _ := hlen.elim id (fun z => absurd z (by simp [iln]))
      rw [hlen] at hd
      unfold nx1 at hn
      dsimp only at hn
      cases ht : tgt pc off with
      | none => rw [ht] at hn; cases hn
      | some t => rw [ht] at hn; unfold gO at hn; cases hn; exact g_goto C hd ht hR (kk.same rfl _ _ _)
    | if_icmp cc off =>
      have hlen : len = _ := hlen.elim id (fun z => absurd z (by simp [iln]))
      rw [hlen] at hd
      unfold nx1 at hn
      dsimp only at hn
      cases st with
      | nil => cases hn
      | cons v0 r1 =>
        cases v0 with
        | int y =>
          cases r1 with
          | nil => cases hn
          | cons v1 r2 =>
            cases v1 with
            | int x =>
              try dsimp only at hn
              unfold gB at hn
              cases ht : tgt pc off with
              | none => rw [ht] at hn; cases hn
              | some t =>
                rw [ht] at hn
                dsimp only at hn
                refine g_icmp C hd ht hR (fun z => ?_)
                cases hj : jc cc x y with
                | true => rw [hj] at hn; unfold gO at hn; cases hn; exact kk.same rfl _ _ _ z
                | false => rw [hj] at hn; unfold gO at hn; cases hn; exact kk.same rfl _ _ _ z
            | _ => cases hn
        | _ => cases hn
    | ifCond cc off =>
      have hlen : len = _ := hlen.elim id (fun z => absurd z (by simp [iln]))
      rw [hlen] at hd
      unfold nx1 at hn
      dsimp only at hn
      cases st with
      | nil => cases hn
      | cons v0 r1 =>
        cases v0 with
        | int x =>
          try dsimp only at hn
          unfold gB at hn
          cases ht : tgt pc off with
          | none => rw [ht] at hn; cases hn
          | some t =>
            rw [ht] at hn
            dsimp only at hn
            refine g_if C hd ht hR (fun z => ?_)
            cases hj : jc cc x 0 with
            | true => rw [hj] at hn; unfold gO at hn; cases hn; exact kk.same rfl _ _ _ z
            | false => rw [hj] at hn; unfold gO at hn; cases hn; exact kk.same rfl _ _ _ z
        | _ => cases hn
    | ifnull off =>
      have hlen : len = _ := hlen.elim id (fun z => absurd z (by simp [iln]))
      rw [hlen] at hd
      unfold nx1 at hn
      dsimp only at hn
      cases st with
      | nil => cases hn
      | cons v0 r1 =>
        cases v0 with
        | ref a =>
          unfold gB at hn
          cases ht : tgt pc off with
          | none => rw [ht] at hn; cases hn
          | some t => rw [ht] at hn; unfold gO at hn; cases hn; exact g_ifnull C hd hR (kk.same rfl _ _ _)
        | null =>
          unfold gB at hn
          cases ht : tgt pc off with
          | none => rw [ht] at hn; cases hn
          | some t => rw [ht] at hn; unfold gO at hn; cases hn; exact g_ifnullN C hd ht hR (kk.same rfl _ _ _)
        | _ => cases hn
    | ifnonnull off =>
      have hlen : len = _ := hlen.elim id (fun z => absurd z (by simp [iln]))
      rw [hlen] at hd
      unfold nx1 at hn
      dsimp only at hn
      cases st with
      | nil => cases hn
      | cons v0 r1 =>
        cases v0 with
        | ref a =>
          unfold gB at hn
          cases ht : tgt pc off with
          | none => rw [ht] at hn; cases hn
          | some t => rw [ht] at hn; unfold gO at hn; cases hn; exact g_ifnonnull C hd ht hR (kk.same rfl _ _ _)
        | null =>
          unfold gB at hn
          cases ht : tgt pc off with
          | none => rw [ht] at hn; cases hn
          | some t => rw [ht] at hn; unfold gO at hn; cases hn; exact g_ifnonnullN C hd hR (kk.same rfl _ _ _)
        | _ => cases hn
    | tableswitch d lo hi offs =>
      unfold nx1 at hn
      dsimp only at hn
      cases st with
      | nil => cases hn
      | cons v0 r1 =>
        cases v0 with
        | int x =>
          try dsimp only at hn
          by_cases hh : hi = lo + (offs.size : Int) - 1
          · rw [if_pos hh] at hn
            cases ht : tgt pc (swt lo offs.toList x d) with
            | none => rw [ht] at hn; cases hn
            | some t => rw [ht] at hn; unfold gO at hn; cases hn; exact g_tsw C hd hh ht hR (kk.same rfl _ _ _)
          · rw [if_neg hh] at hn; cases hn
        | _ => cases hn
    | lookupswitch d ps =>
      unfold nx1 at hn
      dsimp only at hn
      cases st with
      | nil => cases hn
      | cons v0 r1 =>
        cases v0 with
        | int x =>
          try dsimp only at hn
          by_cases hh : (ps.toList.zip (ps.toList.drop 1)).all (fun (a, next) => a.1 < next.1) = true
          · rw [if_pos hh] at hn
            cases ht : tgt pc (swl ps.toList x d) with
            | none => rw [ht] at hn; cases hn
            | some t => rw [ht] at hn; unfold gO at hn; cases hn; exact g_lsw C hd hh ht hR (kk.same rfl _ _ _)
          · rw [if_neg hh] at hn; cases hn
        | _ => cases hn
    | getfield k =>
      have hlen : len = _ := hlen.elim id (fun z => absurd z (by simp [iln]))
      rw [hlen] at hd
      unfold nx1 at hn
      dsimp only at hn
      cases st with
      | nil => cases hn
      | cons v0 r1 =>
        cases v0 with
        | ref a =>
          try dsimp only at hn
          cases hq : (lF (mC i)).lookup k with
          | none => rw [hq] at hn; cases hn
          | some q =>
            rw [hq] at hn
            dsimp only at hn
            cases hf : fRef q.1 q.2.1 with
            | true =>
              rw [hf, if_pos rfl] at hn
              cases hv : gR h a q.1 q.2.1 with
              | none => rw [hv] at hn; cases hn
              | some w => rw [hv] at hn; unfold gO at hn; cases hn; exact g_getR C hd hq hf hv hR (kk.same rfl _ _ _)
            | false =>
              rw [hf, if_neg (by decide)] at hn
              cases hv : gI h a q.1 q.2.1 with
              | none => rw [hv] at hn; cases hn
              | some w => rw [hv] at hn; unfold gO at hn; cases hn; exact g_getI C hd hq hf hv hR (kk.same rfl _ _ _)
        | _ => cases hn
    | putfield k =>
      have hlen : len = _ := hlen.elim id (fun z => absurd z (by simp [iln]))
      rw [hlen] at hd
      unfold nx1 at hn
      dsimp only at hn
      cases hq : (lF (mC i)).lookup k with
      | none =>
        rw [hq] at hn
        split at hn
        · rename_i e2; cases e2
        · rename_i e2; cases e2
        · cases hn
      | some q =>
        rw [hq] at hn
        split at hn
        · rename_i v a r q2 e2
          cases e2
          by_cases hg : fRef q.1 q.2.1 = false ∧ (fT q.1 q.2.1).2.2.2 = false ∧ (fY q.1 q.2.1 = .int ∨ v = 0 ∨ v = 1)
          · rw [if_pos hg] at hn
            cases hv : pI h a q.1 q.2.1 v with
            | none => rw [hv] at hn; cases hn
            | some w => rw [hv] at hn; unfold gO at hn; cases hn; exact g_putI C hd hq hg.1 hg.2.1 hg.2.2 hv hR (kk.wrote rfl (pI_k hv))
          · rw [if_neg hg] at hn; cases hn
        · rename_i w a r q2 e2
          cases e2
          by_cases hg : fRef q.1 q.2.1 = true ∧ ((fT q.1 q.2.1).2.2.2 = false ∨ ((mY i).name = "<init>" ∧ q.2.2.1 = 0 ∧ q.1 = mC i))
          · rw [if_pos hg] at hn
            cases hv : pR h a q.1 q.2.1 w with
            | none => rw [hv] at hn; cases hn
            | some w2 => rw [hv] at hn; unfold gO at hn; cases hn; exact g_putR C hd hq hg.1 hg.2 hv hR (kk.wrote rfl (pR_k hv))
          · rw [if_neg hg] at hn; cases hn
        · cases hn
    | iaload =>
      have hlen : len = _ := hlen.elim id (fun z => absurd z (by simp [iln]))
      rw [hlen] at hd
      unfold nx1 at hn
      dsimp only at hn
      split at hn
      · rename_i x a r
        cases hv : lI h a x with
        | none => rw [hv] at hn; cases hn
        | some v => rw [hv] at hn; unfold gO at hn; cases hn; exact g_ild C hd hv hR (kk.same rfl _ _ _)
      · rename_i x r
        cases scr with
        | none => cases hn
        | some sc =>
          dsimp only at hn
          by_cases hv : inb x sc.1 = true
          · rw [if_pos hv] at hn; unfold gO at hn; cases hn; exact g_xld C rfl hd hv hR (kk.same rfl _ _ _)
          · rw [if_neg hv] at hn; cases hn
      · cases hn
    | baload =>
      have hlen : len = _ := hlen.elim id (fun z => absurd z (by simp [iln]))
      rw [hlen] at hd
      unfold nx1 at hn
      dsimp only at hn
      cases st with
      | nil => cases hn
      | cons v0 r1 =>
        cases v0 with
        | int x =>
          cases r1 with
          | nil => cases hn
          | cons v1 r2 =>
            cases v1 with
            | ref a =>
              try dsimp only at hn
              cases hv : lB h a x with
              | none => rw [hv] at hn; cases hn
              | some v => rw [hv] at hn; unfold gO at hn; cases hn; exact g_bld C hd hv hR (kk.same rfl _ _ _)
            | _ => cases hn
        | _ => cases hn
    | laload =>
      have hlen : len = _ := hlen.elim id (fun z => absurd z (by simp [iln]))
      rw [hlen] at hd
      unfold nx1 at hn
      dsimp only at hn
      cases st with
      | nil => cases hn
      | cons v0 r1 =>
        cases v0 with
        | int x =>
          cases r1 with
          | nil => cases hn
          | cons v1 r2 =>
            cases v1 with
            | ref a =>
              try dsimp only at hn
              cases hv : lL h a x with
              | none => rw [hv] at hn; cases hn
              | some v => rw [hv] at hn; unfold gO at hn; cases hn; exact g_lld C hd hv hR (kk.same rfl _ _ _)
            | _ => cases hn
        | _ => cases hn
    | aaload =>
      have hlen : len = _ := hlen.elim id (fun z => absurd z (by simp [iln]))
      rw [hlen] at hd
      unfold nx1 at hn
      dsimp only at hn
      cases st with
      | nil => cases hn
      | cons v0 r1 =>
        cases v0 with
        | int x =>
          cases r1 with
          | nil => cases hn
          | cons v1 r2 =>
            cases v1 with
            | ref a =>
              try dsimp only at hn
              cases hv : lR h a x with
              | none => rw [hv] at hn; cases hn
              | some v => rw [hv] at hn; unfold gO at hn; cases hn; exact g_rld C hd hv hR (kk.same rfl _ _ _)
            | _ => cases hn
        | _ => cases hn
    | iastore =>
      have hlen : len = _ := hlen.elim id (fun z => absurd z (by simp [iln]))
      rw [hlen] at hd
      unfold nx1 at hn
      dsimp only at hn
      cases st with
      | nil => cases hn
      | cons v0 r1 =>
        cases v0 with
        | int v =>
          cases r1 with
          | nil => cases hn
          | cons v1 r2 =>
            cases v1 with
            | int x =>
              cases r2 with
              | nil => cases hn
              | cons v2 r3 =>
                cases v2 with
                | ref a =>
                  try dsimp only at hn
                  cases hv : sI h a x v with
                  | none => rw [hv] at hn; cases hn
                  | some w => rw [hv] at hn; unfold gO at hn; cases hn; exact g_ist C hd hv hR (kk.wrote rfl (sI_k hv))
                | _ => cases hn
            | _ => cases hn
        | _ => cases hn
    | bastore =>
      have hlen : len = _ := hlen.elim id (fun z => absurd z (by simp [iln]))
      rw [hlen] at hd
      unfold nx1 at hn
      dsimp only at hn
      cases st with
      | nil => cases hn
      | cons v0 r1 =>
        cases v0 with
        | int v =>
          cases r1 with
          | nil => cases hn
          | cons v1 r2 =>
            cases v1 with
            | int x =>
              cases r2 with
              | nil => cases hn
              | cons v2 r3 =>
                cases v2 with
                | ref a =>
                  try dsimp only at hn
                  cases hv : sB h a x v with
                  | none => rw [hv] at hn; cases hn
                  | some w => rw [hv] at hn; unfold gO at hn; cases hn; exact g_bst C hd hv hR (kk.wrote rfl (sB_k hv))
                | _ => cases hn
            | _ => cases hn
        | _ => cases hn
    | lastore =>
      have hlen : len = _ := hlen.elim id (fun z => absurd z (by simp [iln]))
      rw [hlen] at hd
      unfold nx1 at hn
      dsimp only at hn
      cases st with
      | nil => cases hn
      | cons v0 r1 =>
        cases v0 with
        | long v =>
          cases r1 with
          | nil => cases hn
          | cons v1 r2 =>
            cases v1 with
            | int x =>
              cases r2 with
              | nil => cases hn
              | cons v2 r3 =>
                cases v2 with
                | ref a =>
                  try dsimp only at hn
                  cases hv : sL h a x v with
                  | none => rw [hv] at hn; cases hn
                  | some w => rw [hv] at hn; unfold gO at hn; cases hn; exact g_lst C hd hv hR (kk.wrote rfl (sL_k hv))
                | _ => cases hn
            | _ => cases hn
        | _ => cases hn
    | aastore =>
      have hlen : len = _ := hlen.elim id (fun z => absurd z (by simp [iln]))
      rw [hlen] at hd
      unfold nx1 at hn
      dsimp only at hn
      cases st with
      | nil => cases hn
      | cons v0 r1 =>
        cases v0 with
        | ref v =>
          cases r1 with
          | nil => cases hn
          | cons v1 r2 =>
            cases v1 with
            | int x =>
              cases r2 with
              | nil => cases hn
              | cons v2 r3 =>
                cases v2 with
                | ref a =>
                  try dsimp only at hn
                  cases hv : sR h a x v with
                  | none => rw [hv] at hn; cases hn
                  | some w => rw [hv] at hn; unfold gO at hn; cases hn; exact g_rst C hd hv hR (kk.wrote rfl (sR_k hv))
                | _ => cases hn
            | _ => cases hn
        | _ => cases hn
    | arraylength =>
      have hlen : len = _ := hlen.elim id (fun z => absurd z (by simp [iln]))
      rw [hlen] at hd
      unfold nx1 at hn
      dsimp only at hn
      split at hn
      · rename_i a r
        cases hv : aln h a with
        | none => rw [hv] at hn; cases hn
        | some v => rw [hv] at hn; unfold gO at hn; cases hn; exact g_aln C hd hv hR (kk.same rfl _ _ _)
      · rename_i r
        cases scr with
        | none => cases hn
        | some sc => dsimp only at hn; unfold gO at hn; cases hn; exact g_xln C rfl hd hR (kk.same rfl _ _ _)
      · cases hn
    | newarray t =>
      have hlen : len = _ := hlen.elim id (fun z => absurd z (by simp [iln]))
      rw [hlen] at hd
      unfold nx1 at hn
      dsimp only at hn
      cases st with
      | nil => cases hn
      | cons v0 r1 =>
        cases v0 with
        | int n =>
          try dsimp only at hn
          by_cases hg : n < 0 ∨ 1000000 < n
          · rw [if_pos hg] at hn; cases hn
          · rw [if_neg hg] at hn
            cases t with
            | int =>
              unfold gO at hn
              cases hn
              have e1 : (kkc h.2 + 1) - kkc h.2 = 1 := Nat.add_sub_cancel_left _ _
              have e2 : (kks h.2 + n.toNatClampNeg) - kks h.2 = n.toNatClampNeg := Nat.add_sub_cancel_left _ _
              have hcl2 : cells + ((kkc h.2 + 1) - kkc h.2) ≤ R.cells := hcl
              have hsl2 : slots + ((kks h.2 + n.toNatClampNeg) - kks h.2) ≤ R.slots := hsl
              rw [e1] at hcl2
              rw [e2] at hsl2
              refine g_newa_int C hd hg hcl2 hsl2 hR (fun q H1 z => ?_)
              have k0 := kk (up1 ι (knx h.2) q) H1 locs ls0 (fun a ha => up1_ne (Nat.ne_of_lt ha)) rfl z
              rw [show kkc (alc h _ _).2 = kkc h.2 + 1 from rfl, show kks (alc h _ _).2 = kks h.2 + n.toNatClampNeg from rfl, e1, e2] at k0
              exact k0
            | boolean =>
              unfold gO at hn
              cases hn
              have e1 : (kkc h.2 + 1) - kkc h.2 = 1 := Nat.add_sub_cancel_left _ _
              have e2 : (kks h.2 + n.toNatClampNeg) - kks h.2 = n.toNatClampNeg := Nat.add_sub_cancel_left _ _
              have hcl2 : cells + ((kkc h.2 + 1) - kkc h.2) ≤ R.cells := hcl
              have hsl2 : slots + ((kks h.2 + n.toNatClampNeg) - kks h.2) ≤ R.slots := hsl
              rw [e1] at hcl2
              rw [e2] at hsl2
              refine g_newa_boolean C hd hg hcl2 hsl2 hR (fun q H1 z => ?_)
              have k0 := kk (up1 ι (knx h.2) q) H1 locs ls0 (fun a ha => up1_ne (Nat.ne_of_lt ha)) rfl z
              rw [show kkc (alc h _ _).2 = kkc h.2 + 1 from rfl, show kks (alc h _ _).2 = kks h.2 + n.toNatClampNeg from rfl, e1, e2] at k0
              exact k0
            | byte =>
              unfold gO at hn
              cases hn
              have e1 : (kkc h.2 + 1) - kkc h.2 = 1 := Nat.add_sub_cancel_left _ _
              have e2 : (kks h.2 + n.toNatClampNeg) - kks h.2 = n.toNatClampNeg := Nat.add_sub_cancel_left _ _
              have hcl2 : cells + ((kkc h.2 + 1) - kkc h.2) ≤ R.cells := hcl
              have hsl2 : slots + ((kks h.2 + n.toNatClampNeg) - kks h.2) ≤ R.slots := hsl
              rw [e1] at hcl2
              rw [e2] at hsl2
              refine g_newa_byte C hd hg hcl2 hsl2 hR (fun q H1 z => ?_)
              have k0 := kk (up1 ι (knx h.2) q) H1 locs ls0 (fun a ha => up1_ne (Nat.ne_of_lt ha)) rfl z
              rw [show kkc (alc h _ _).2 = kkc h.2 + 1 from rfl, show kks (alc h _ _).2 = kks h.2 + n.toNatClampNeg from rfl, e1, e2] at k0
              exact k0
            | long =>
              unfold gO at hn
              cases hn
              have e1 : (kkc h.2 + 1) - kkc h.2 = 1 := Nat.add_sub_cancel_left _ _
              have e2 : (kks h.2 + n.toNatClampNeg) - kks h.2 = n.toNatClampNeg := Nat.add_sub_cancel_left _ _
              have hcl2 : cells + ((kkc h.2 + 1) - kkc h.2) ≤ R.cells := hcl
              have hsl2 : slots + ((kks h.2 + n.toNatClampNeg) - kks h.2) ≤ R.slots := hsl
              rw [e1] at hcl2
              rw [e2] at hsl2
              refine g_newa_long C hd hg hcl2 hsl2 hR (fun q H1 z => ?_)
              have k0 := kk (up1 ι (knx h.2) q) H1 locs ls0 (fun a ha => up1_ne (Nat.ne_of_lt ha)) rfl z
              rw [show kkc (alc h _ _).2 = kkc h.2 + 1 from rfl, show kks (alc h _ _).2 = kks h.2 + n.toNatClampNeg from rfl, e1, e2] at k0
              exact k0
            | _ => cases hn
        | _ => cases hn
    | anewarray k =>
      have hlen : len = _ := hlen.elim id (fun z => absurd z (by simp [iln]))
      rw [hlen] at hd
      unfold nx1 at hn
      dsimp only at hn
      cases st with
      | nil => cases hn
      | cons v0 r1 =>
        cases v0 with
        | int n =>
          try dsimp only at hn
          cases hq : (lC (mC i)).lookup k with
          | none => rw [hq] at hn; cases hn
          | some q =>
            rw [hq] at hn
            dsimp only at hn
            by_cases hg : n < 0 ∨ 1000000 < n
            · rw [if_pos hg] at hn; cases hn
            · rw [if_neg hg] at hn
              by_cases hr : q.1 = RX3
              · rw [if_pos hr] at hn
                unfold gO at hn
                cases hn
                have e1 : (kkc h.2 + 1) - kkc h.2 = 1 := Nat.add_sub_cancel_left _ _
                have e2 : (kks h.2 + n.toNatClampNeg) - kks h.2 = n.toNatClampNeg := Nat.add_sub_cancel_left _ _
                have hcl2 : cells + ((kkc h.2 + 1) - kkc h.2) ≤ R.cells := hcl
                have hsl2 : slots + ((kks h.2 + n.toNatClampNeg) - kks h.2) ≤ R.slots := hsl
                rw [e1] at hcl2
                rw [e2] at hsl2
                refine g_newa_S C hd hq hr hg hcl2 hsl2 hR (fun q H1 z => ?_)
                have k0 := kk (up1 ι (knx h.2) q) H1 locs ls0 (fun a ha => up1_ne (Nat.ne_of_lt ha)) rfl z
                rw [show kkc (alc h _ _).2 = kkc h.2 + 1 from rfl, show kks (alc h _ _).2 = kks h.2 + n.toNatClampNeg from rfl, e1, e2] at k0
                exact k0
              · rw [if_neg hr] at hn; cases hn
        | _ => cases hn
    | multianewarray k d =>
      have hlen : len = _ := hlen.elim id (fun z => absurd z (by simp [iln]))
      rw [hlen] at hd
      unfold nx1 at hn
      dsimp only at hn
      cases st with
      | nil => cases hn
      | cons v0 r1 =>
        cases v0 with
        | int w =>
          cases r1 with
          | nil => cases hn
          | cons v1 r2 =>
            cases v1 with
            | int n =>
              try dsimp only at hn
              cases hq : (lC (mC i)).lookup k with
              | none => rw [hq] at hn; cases hn
              | some q =>
                rw [hq] at hn
                dsimp only at hn
                by_cases hg : w < 0 ∨ 1000 < w ∨ n < 0 ∨ 1000 < n
                · rw [if_pos hg] at hn; cases hn
                · rw [if_neg hg] at hn
                  by_cases hr : q.1 = "[[I" ∧ d = 2
                  · rw [if_pos hr] at hn
                    unfold gO at hn
                    cases hn
                    obtain ⟨hr, hd2⟩ := hr
                    subst hd2
                    have e1 : (kkc h.2 + (1 + n.toNatClampNeg)) - kkc h.2 = 1 + n.toNatClampNeg := Nat.add_sub_cancel_left _ _
                    have e2 : (kks h.2 + (n.toNatClampNeg + n.toNatClampNeg * w.toNatClampNeg)) - kks h.2 = n.toNatClampNeg + n.toNatClampNeg * w.toNatClampNeg := Nat.add_sub_cancel_left _ _
                    have hcl2 : cells + ((kkc h.2 + (1 + n.toNatClampNeg)) - kkc h.2) ≤ R.cells := hcl
                    have hsl2 : slots + ((kks h.2 + (n.toNatClampNeg + n.toNatClampNeg * w.toNatClampNeg)) - kks h.2) ≤ R.slots := hsl
                    rw [e1] at hcl2
                    rw [e2] at hsl2
                    refine g_mna C hd hq hr hg hcl2 hsl2 hR (fun ι1 H1 hι z => ?_)
                    have k0 := kk ι1 H1 locs ls0 hι rfl z
                    rw [show kkc (alm h _ _).2 = kkc h.2 + (1 + n.toNatClampNeg) from rfl, show kks (alm h _ _).2 = kks h.2 + (n.toNatClampNeg + n.toNatClampNeg * w.toNatClampNeg) from rfl, e1, e2] at k0
                    exact k0
                  · rw [if_neg hr] at hn; cases hn
            | _ => cases hn
        | _ => cases hn
    | new k =>
      have hlen : len = _ := hlen.elim id (fun z => absurd z (by simp [iln]))
      rw [hlen] at hd
      unfold nx1 at hn
      dsimp only at hn
      cases hth : thT.lookup (i, pc) with
      | some w => rw [hth] at hn; dsimp only at hn; split at hn <;> cases hn
      | none =>
        rw [hth] at hn
        dsimp only at hn
        cases hq : (lC (mC i)).lookup k with
        | none => rw [hq] at hn; cases hn
        | some q =>
          rw [hq] at hn
          dsimp only at hn
          cases hfd : (List.range 8).find? (fun c => decide (rN c = q.1)) with
          | none => rw [hfd] at hn; cases hn
          | some w =>
            rw [hfd] at hn
            unfold gO at hn
            cases hn
            have hw8 : w < 8 := List.mem_range.mp (List.mem_of_find?_eq_some hfd)
            have hr : rN w = q.1 := by
              have := List.find?_some hfd
              exact of_decide_eq_true this
            have e1 : (kkc h.2 + 1) - kkc h.2 = 1 := Nat.add_sub_cancel_left _ _
            have e2 : (kks h.2 + fN w) - kks h.2 = fN w := Nat.add_sub_cancel_left _ _
            have hcl2 : cells + ((kkc h.2 + 1) - kkc h.2) ≤ R.cells := hcl
            have hsl2 : slots + ((kks h.2 + fN w) - kks h.2) ≤ R.slots := hsl
            rw [e1] at hcl2
            rw [e2] at hsl2
            refine g_new C hd hq hw8 hr hcl2 hsl2 hR (fun q H1 z => ?_)
            have k0 := kk (up1 ι (knx h.2) q) H1 locs ls0 (fun a ha => up1_ne (Nat.ne_of_lt ha)) rfl z
            rw [show kkc (alc h _ _).2 = kkc h.2 + 1 from rfl, show kks (alc h _ _).2 = kks h.2 + fN w from rfl, e1, e2] at k0
            exact k0
    | invokespecial k =>
      have hlen : len = _ := hlen.elim id (fun z => absurd z (by simp [iln]))
      rw [hlen] at hd
      unfold nx1 at hn
      dsimp only at hn
      cases hq : (lO (mC i)).lookup k with
      | some q =>
        rw [hq] at hn
        dsimp only at hn
        cases st with
        | nil => cases hn
        | cons v0 r1 =>
          cases v0 with
          | ref a =>
            dsimp only at hn
            by_cases hg : (r1.map fun v => v.category).sum ≤ 8 ∧ 1 ≤ mV i
            · rw [if_pos hg] at hn; unfold gO at hn; cases hn; exact g_oinit C hd hq hg.1 hg.2 hR (kk.same rfl _ _ _)
            · rw [if_neg hg] at hn; cases hn
          | _ => cases hn
      | none =>
        rw [hq] at hn
        dsimp only at hn
        cases hq2 : (lM (mC i)).lookup k with
        | none => rw [hq2] at hn; cases hn
        | some q =>
          rw [hq2] at hn
          dsimp only at hn
          split at hn
          · unfold gC at hn
            split at hn
            · split at hn <;> cases hn
            · cases hn
          · cases hn
    | invokevirtual k =>
      have hlen : len = _ := hlen.elim id (fun z => absurd z (by simp [iln]))
      rw [hlen] at hd
      unfold nx1 at hn
      dsimp only at hn
      cases hq2 : (lM (mC i)).lookup k with
      | none => rw [hq2] at hn; cases hn
      | some q =>
        rw [hq2] at hn
        dsimp only at hn
        split at hn
        · unfold gC at hn
          split at hn
          · split at hn <;> cases hn
          · cases hn
        · cases hn
    | invokestatic k =>
      have hlen : len = _ := hlen.elim id (fun z => absurd z (by simp [iln]))
      rw [hlen] at hd
      unfold nx1 at hn
      dsimp only at hn
      by_cases h9 : mC i = 9
      · rw [if_pos h9] at hn
        split at hn
        · split at hn <;> cases hn
        · cases hn
      · rw [if_neg h9] at hn
        cases hq2 : (lM (mC i)).lookup k with
        | some q =>
          rw [hq2] at hn
          dsimp only at hn
          split at hn
          · unfold gC at hn
            split at hn
            · split at hn <;> cases hn
            · cases hn
          · cases hn
        | none =>
          rw [hq2] at hn
          dsimp only at hn
          cases hq3 : (lS (mC i)).lookup k with
          | none => rw [hq3] at hn; cases hn
          | some q =>
            rw [hq3] at hn
            dsimp only at hn
            split at hn
            · rename_i n dp w sp a r
              by_cases hg : (r.map fun v => v.category).sum ≤ 8 ∧ 1 ≤ mV i
              · rw [if_pos hg] at hn
                cases hv : acp h a sp w dp n with
                | none => rw [hv] at hn; cases hn
                | some w2 => rw [hv] at hn; unfold gO at hn; cases hn; exact g_acp C hd hq3 hg.1 hg.2 hv hR (kk.wrote rfl (acp_k hv))
              · rw [if_neg hg] at hn; cases hn
            · cases hn
    | ireturn =>
      have hlen : len = _ := hlen.elim id (fun z => absurd z (by simp [iln]))
      rw [hlen] at hd
      unfold nx1 at hn
      dsimp only at hn
      split at hn
      · split at hn <;> cases hn
      · cases hn
    | return_ =>
      have hlen : len = _ := hlen.elim id (fun z => absurd z (by simp [iln]))
      rw [hlen] at hd
      unfold nx1 at hn
      dsimp only at hn
      split at hn
      · split at hn <;> cases hn
      · cases hn
    | _ => cases hn
end GOS
end
section
/-! ===== what no step takes away; what the tables say of a method ===== -/
def Mono (h h1 : Hp) : Prop := knx h.2 ≤ knx h1.2 ∧ kkc h.2 ≤ kkc h1.2 ∧ kks h.2 ≤ kks h1.2
theorem Mono.rf {h : Hp} : Mono h h := ⟨Nat.le_refl _, Nat.le_refl _, Nat.le_refl _⟩
theorem Mono.tr {h h1 h2 : Hp} (a : Mono h h1) (b : Mono h1 h2) : Mono h h2 := ⟨Nat.le_trans a.1 b.1, Nat.le_trans a.2.1 b.2.1, Nat.le_trans a.2.2 b.2.2⟩
theorem pI_m {h h1 : Hp} {a ci k : Nat} {v : Int32} (q : pI h a ci k v = some h1) : Mono h h1 := by
  unfold pI at q
  split at q <;> cases q
  exact Mono.rf
theorem pR_m {h h1 : Hp} {a ci k w : Nat} (q : pR h a ci k w = some h1) : Mono h h1 := by
  unfold pR at q
  split at q <;> cases q
  exact Mono.rf
theorem sI_m {h h1 : Hp} {a : Nat} {i v : Int32} (q : sI h a i v = some h1) : Mono h h1 := by
  unfold sI at q
  split at q <;> cases q
  exact Mono.rf
theorem sB_m {h h1 : Hp} {a : Nat} {i v : Int32} (q : sB h a i v = some h1) : Mono h h1 := by
  unfold sB at q
  split at q <;> cases q
  exact Mono.rf
theorem sL_m {h h1 : Hp} {a : Nat} {i : Int32} {v : Int64} (q : sL h a i v = some h1) : Mono h h1 := by
  unfold sL at q
  split at q <;> cases q
  exact Mono.rf
theorem sR_m {h h1 : Hp} {a w : Nat} {i : Int32} (q : sR h a i w = some h1) : Mono h h1 := by
  unfold sR at q
  split at q <;> cases q
  exact Mono.rf
theorem acp_m {h h1 : Hp} {a w : Nat} {sp dp n : Int32} (q : acp h a sp w dp n = some h1) : Mono h h1 := by
  unfold acp at q
  split at q <;> cases q
  exact Mono.rf
theorem alc_m {h : Hp} {sh : Nat × Nat} {n : Nat} : Mono h (alc h sh n) := ⟨Nat.le_succ _, Nat.le_succ _, Nat.le_add_right _ _⟩
theorem alm_m {h : Hp} {n k : Nat} : Mono h (alm h n k) := ⟨Nat.le_add_right _ _, Nat.le_add_right _ _, Nat.le_add_right _ _⟩
theorem thr_m {h : Hp} : Mono h (thr h) := ⟨Nat.le_refl _, Nat.le_add_right _ _, Nat.le_add_right _ _⟩
def ActM (h : Hp) (a : Act) : Prop := match a with
  | .inl q => Mono h q.2
  | .inr (.inl q) => q.2.2.2 = h
  | .inr (.inr (.inl q)) => q.2.2.2.2 = h
  | .inr (.inr (.inr q)) => Mono h q.2
set_option maxHeartbeats 4000000 in
theorem nx1_m {scr : Option SC} {i pc : Nat} {ls st : List Value} {h : Hp} {ins : Instr} {a : Act} (hn : nx1 scr i pc ls st h ins = some a) : ActM h a := by
  unfold nx1 at hn
  split at hn
  all_goals (try simp only [gO, gB, gC] at hn)
  all_goals (repeat' (split at hn))
  all_goals first
    | (cases hn; done)
    | (cases hn; exact Mono.rf)
    | (cases hn; exact alc_m)
    | (cases hn; exact alm_m)
    | (cases hn; exact thr_m)
    | (cases hn; rfl)
    | (cases hn; exact pI_m (by assumption))
    | (cases hn; exact pR_m (by assumption))
    | (cases hn; exact sI_m (by assumption))
    | (cases hn; exact sB_m (by assumption))
    | (cases hn; exact sL_m (by assumption))
    | (cases hn; exact sR_m (by assumption))
    | (cases hn; exact acp_m (by assumption))
theorem nxt_m {scr : Option SC} {fr : Fr} {h : Hp} {a : Act} (hn : nxt scr fr h = some a) : ActM h a := by
  unfold nxt at hn
  split at hn
  · split at hn
    · exact nx1_m hn
    · cases hn
  · cases hn
theorem exec_m : ∀ (n : Nat) (scr : Option SC) (fr : Fr) (h : Hp) (r : Rs) (h1 : Hp), exec n scr fr h = some (r, h1) → Mono h h1 := by
  intro n
  induction n with
  | zero => intro _ _ _ _ _ hx; cases hx
  | succ n ih =>
    intro scr fr h r h1 hx
    unfold exec stepf at hx
    cases hn : nxt scr fr h with
    | none => rw [hn] at hx; cases hx
    | some a =>
      rw [hn] at hx
      have hm := nxt_m hn
      rcases a with q | q | q | q
      · exact Mono.tr hm (ih _ _ _ _ _ hx)
      · dsimp only at hx
        have hm : q.2.2.2 = h := hm
        cases hc : exec n none (ent q.2.1 q.2.2.1) q.2.2.2 with
        | none => rw [hc] at hx; cases hx
        | some w =>
          rw [hc] at hx
          have m1 := ih _ _ _ _ _ hc
          rw [hm] at m1
          dsimp only at hx
          split at hx
          · exact Mono.tr m1 (ih _ _ _ _ _ hx)
          · split at hx
            · exact Mono.tr m1 (ih _ _ _ _ _ hx)
            · cases hx
      · dsimp only at hx
        have hm : q.2.2.2.2 = h := hm
        cases hc : exec n none (ent q.2.1 q.2.2.1) q.2.2.2.2 with
        | none => rw [hc] at hx; cases hx
        | some w =>
          rw [hc] at hx
          have m1 := ih _ _ _ _ _ hc
          rw [hm] at m1
          dsimp only at hx
          split at hx
          · cases hs : sL w.2 q.2.2.2.1 0 w.1.2.toInt64 with
            | none => rw [hs] at hx; cases hx
            | some h2 =>
              rw [hs] at hx
              exact Mono.tr m1 (Mono.tr (sL_m hs) (ih _ _ _ _ _ hx))
          · split at hx
            · exact Mono.tr m1 (ih _ _ _ _ _ hx)
            · cases hx
      · cases hx
        exact hm
-- the tables
theorem mPos_len : mPos.length = 281 := by decide +kernel
theorem mTab_len : mTab.length = 286 := by decide +kernel
theorem chunk {α : Type} {l : List α} {f : α → Nat → Bool} (a n : Nat) (h : ((l.drop a).take n).zipIdx.all (fun q => f q.1 (q.2 + a)) = true) {j : Nat} (h1 : a ≤ j) (h2 : j < a + n) (h3 : j < l.length) : ∃ x, f x j = true := by
  have hd : ((l.drop a).take n)[j - a]? = some l[j] := by
    rw [List.getElem?_take_of_lt (by omega), List.getElem?_drop, show a + (j - a) = j by omega, List.getElem?_eq_getElem h3]
  have hm : (l[j], j - a) ∈ ((l.drop a).take n).zipIdx := List.mk_mem_zipIdx_iff_getElem?.mpr hd
  have := List.all_eq_true.mp h _ hm
  refine ⟨l[j], ?_⟩
  rw [show j - a + a = j by omega] at this
  exact this
theorem mChk_ok {j : Nat} (hj : j < 281) : ∃ P, mChk j P = true := by
  have hl := mPos_len
  rcases (show j < 47 ∨ (47 ≤ j ∧ j < 94) ∨ (94 ≤ j ∧ j < 141) ∨ (141 ≤ j ∧ j < 188) ∨ (188 ≤ j ∧ j < 235) ∨ 235 ≤ j by omega) with q | q | q | q | q | q
  · exact chunk (l := mPos) (f := fun P j => mChk j P) 0 47 mchk_0 (by omega) (by omega) (by omega)
  · exact chunk (l := mPos) (f := fun P j => mChk j P) 47 47 mchk_47 (by omega) (by omega) (by omega)
  · exact chunk (l := mPos) (f := fun P j => mChk j P) 94 47 mchk_94 (by omega) (by omega) (by omega)
  · exact chunk (l := mPos) (f := fun P j => mChk j P) 141 47 mchk_141 (by omega) (by omega) (by omega)
  · exact chunk (l := mPos) (f := fun P j => mChk j P) 188 47 mchk_188 (by omega) (by omega) (by omega)
  · exact chunk (l := mPos) (f := fun P j => mChk j P) 235 47 mchk_235 (by omega) (by omega) (by omega)
theorem code_in {j : Nat} (hj : j < 281) : Cond.code (mY j) (mB j) (mX j) (mR j) ∈ lw_tbl := by
  have key : ∀ a n, (∀ r ∈ (mTab.drop a).take n, Cond.code r.1 r.2.1 r.2.2.1 r.2.2.2.1 ∈ lw_tbl) → a ≤ j → j < a + n → Cond.code (mY j) (mB j) (mX j) (mR j) ∈ lw_tbl := by
    intro a n h h1 h2
    have h3 : j < mTab.length := by rw [mTab_len]; omega
    have hg : mG j = mTab[j] := by unfold mG; rw [List.getD_eq_getElem?_getD, List.getElem?_eq_getElem h3]; rfl
    have hd : ((mTab.drop a).take n)[j - a]? = some mTab[j] := by
      rw [List.getElem?_take_of_lt (by omega), List.getElem?_drop, show a + (j - a) = j by omega, List.getElem?_eq_getElem h3]
    have := h _ (List.mem_of_getElem? hd)
    unfold mY mB mX mR
    rw [hg]
    exact this
  rcases (show j < 40 ∨ (40 ≤ j ∧ j < 80) ∨ (80 ≤ j ∧ j < 120) ∨ (120 ≤ j ∧ j < 160) ∨ (160 ≤ j ∧ j < 200) ∨ (200 ≤ j ∧ j < 240) ∨ (240 ≤ j ∧ j < 280) ∨ 280 ≤ j by omega) with q | q | q | q | q | q | q | q
  · exact key 0 40 cwr_0 (by omega) (by omega)
  · exact key 40 40 cwr_40 (by omega) (by omega)
  · exact key 80 40 cwr_80 (by omega) (by omega)
  · exact key 120 40 cwr_120 (by omega) (by omega)
  · exact key 160 40 cwr_160 (by omega) (by omega)
  · exact key 200 40 cwr_200 (by omega) (by omega)
  · exact key 240 40 cwr_240 (by omega) (by omega)
  · exact key 280 1 cwr_280 (by omega) (by omega)
theorem mfact {j : Nat} (hj : j < 281) : ((if mS j then Cond.static (mY j) else Cond.instanceMethod (mY j)) ∈ lw_tbl) ∧ (mS j = true ∨ (mY j).name = "<init>" ∨ Cond.selects (mY j).cls (mY j) (mY j) ∈ lw_tbl) ∧ Cond.initialized (mY j).cls ∈ lw_tbl ∧ (mY j).cls = rN (mC j) ∧ ((mY j).cls ≠ "java/lang/invoke/MethodHandle" ∧ (mY j).cls ≠ "java/lang/invoke/VarHandle") ∧ (parseMethodDescriptor (mY j).desc).map (fun d => d.parameters.length) = some (mN j) ∧ plainFor (mY j) = true ∧ mX j ≤ 11 ∧ mN j + (if mS j then 0 else 1) ≤ mX j := by
  obtain ⟨P, h⟩ := mChk_ok hj
  unfold mChk at h
  simp only [Bool.and_eq_true, Bool.or_eq_true, decide_eq_true_eq] at h
  obtain ⟨⟨⟨⟨⟨⟨⟨⟨⟨h1, h2⟩, h3⟩, h4⟩, h5⟩, h6⟩, h7⟩, h8⟩, h9⟩, h10⟩ := h
  refine ⟨tbC_mem _ (List.mem_of_getElem? h1), ?_, tbC_mem _ (List.mem_of_getElem? h3), h4, ⟨h5, h6⟩, h7, h8, h9, h10⟩
  rcases h2 with (q | q) | q
  · exact Or.inl q
  · exact Or.inr (Or.inl q)
  · exact Or.inr (Or.inr (tbC_mem _ (List.mem_of_getElem? q)))
theorem mC_lt : ∀ j, mC j < 8 ∨ mC j = 8 ∨ mC j = 9 ∨ mC j = 99 := by
  intro j
  have h : mTab.all (fun r => decide (r.2.2.2.2.1 < 10)) = true := by decide +kernel
  unfold mC mG
  rw [List.getD_eq_getElem?_getD]
  cases hj : mTab[j]? with
  | none => exact Or.inr (Or.inr (Or.inr rfl))
  | some r =>
    have := List.all_eq_true.mp h r (List.mem_of_getElem? hj)
    simp only [decide_eq_true_eq] at this
    show r.2.2.2.2.1 < 8 ∨ r.2.2.2.2.1 = 8 ∨ r.2.2.2.2.1 = 9 ∨ r.2.2.2.2.1 = 99
    omega
theorem mC_10 {j : Nat} (hj : j < 281) : mC j < 10 := by
  have h : mTab.all (fun r => decide (r.2.2.2.2.1 < 10)) = true := by decide +kernel
  have h3 : j < mTab.length := by rw [mTab_len]; omega
  have hg : mG j = mTab[j] := by unfold mG; rw [List.getD_eq_getElem?_getD, List.getElem?_eq_getElem h3]; rfl
  have := List.all_eq_true.mp h _ (List.getElem_mem h3)
  unfold mC
  rw [hg]
  simpa using this
end
section
/-! ===== a method's contract; calls ===== -/
def wsM (j : Nat) : List Cond := .code (mY j) (mB j) (mX j) (mR j) :: GWl
def rmM (j mc ms : Nat) : Room := { frames := mV j, cells := mc, slots := ms, locals := 39 * mV j }
def TabOK (D : va_G) (ca : Nat → ClassId) (U : State) : Prop := va_K D vwCl (tysOf ca) U ∧ (∀ w ∈ lw_tbl, nestW w = true → va_Nw w U) ∧ (va_AO RX3 U ∧ va_AOA .int U)
theorem TabOK.warm {D : va_G} {ca : Nat → ClassId} {U V : State} (hW : U.WarmedH V.vm) (h : TabOK D ca U) : TabOK D ca V := by
  refine ⟨h.1.moved hW.alike, fun w hw hn => ?_, h.2.2.1.moved hW.alike, aoa_moved hW.alike h.2.2.2⟩
  have h1 := h.2.1 w hw hn
  cases w with
  | fieldLinkNest => exact va_Nw.warmF hW h1
  | methodLinkNest => exact va_Nw.warmM hW h1
  | castable => exact va_Nw.warmC hW h1
  | declares => exact va_Nw.warmD hW h1
  | _ => cases hn
theorem TabOK.calling {D : va_G} {ca : Nat → ClassId} {U : State} (g : JFrame) (mk : MethodId) (a : Array Value) (h : TabOK D ca U) : TabOK D ca (U.calling g mk a) := by
  have hvm : U.vm.Alike (U.calling g mk a).vm := Vm.Alike.refl U.vm
  refine ⟨h.1.moved hvm, fun w hw hn => ?_, h.2.2.1.moved hvm, aoa_moved hvm h.2.2.2⟩
  have h1 := h.2.1 w hw hn
  cases w with
  | fieldLinkNest => exact va_Nw.same rfl rfl h1
  | methodLinkNest => exact va_Nw.same rfl rfl h1
  | castable => exact va_Nw.same rfl rfl h1
  | declares => exact va_Nw.same rfl rfl h1
  | _ => cases hn
def PcB (D : va_G) (ca : Nat → ClassId) (sz : Nat) (ι : Nat → Nat) (h : Hp) : State → Prop := fun U => U.heap.size = sz ∧ va_P D vwCl (wsO ι ca h) U.heap ∧ va_D (fun _ => True) (wsO ι ca h) ∧ TabOK D ca U ∧ ZOK (va_A (wsO ι ca h) sz) U
def BM (D : va_G) (ca : Nat → ClassId) (sz : Nat) (ι : Nat → Nat) (h h1 : Hp) (u : Nat → Nat) (t : State) : Prop := va_P D vwCl (wsO u ca h1) t.heap ∧ va_D (va_A (wsO ι ca h) sz) (wsO u ca h1)
def AgM (ι : Nat → Nat) (h h1 : Hp) (u : Nat → Nat) : Prop := (∀ a, a < knx h.2 → u a = ι a) ∧ hOk h1
/-- for every run of n steps that ends with an int, or with nothing, the method keeps to it -/
def MetI (n : Nat) : Prop := ∀ (j : Nat) (as : List Value) (h : Hp) (v : Int32) (h1 : Hp), exec n none (ent j as) h = some ((0, v), h1) → j < 281 → (mR j).isSome = true → as.length = mN j + (if mS j then 0 else 1) → as.all argOk = true → fOk (knx h.2) as → hOk h → ∀ (l : Launch) (D : va_G) (ca : Nat → ClassId) (ι : Nat → Nat) (sz : Nat),
  Met l (mY j) (wsM j) (rmM j (kkc h1.2 - kkc h.2) (kks h1.2 - kks h.2)) (va_Pc (as.map (vm9 ι 0)) (PcB D ca sz ι h)) (va_Qi (fun r u => r = v ∧ AgM ι h h1 u) (BM D ca sz ι h h1) (va_A (wsO ι ca h) sz)) (kkc h1.2 - kkc h.2) (kks h1.2 - kks h.2) (va_A (wsO ι ca h) sz)
def MetV (n : Nat) : Prop := ∀ (j : Nat) (as : List Value) (h : Hp) (v : Int32) (h1 : Hp), exec n none (ent j as) h = some ((1, v), h1) → j < 281 → mR j = none → as.length = mN j + (if mS j then 0 else 1) → as.all argOk = true → fOk (knx h.2) as → hOk h → ∀ (l : Launch) (D : va_G) (ca : Nat → ClassId) (ι : Nat → Nat) (sz : Nat),
  Met l (mY j) (wsM j) (rmM j (kkc h1.2 - kkc h.2) (kks h1.2 - kks h.2)) (va_Pc (as.map (vm9 ι 0)) (PcB D ca sz ι h)) (va_Qv (fun u => AgM ι h h1 u) (BM D ca sz ι h h1) (va_A (wsO ι ca h) sz)) (kkc h1.2 - kkc h.2) (kks h1.2 - kks h.2) (va_A (wsO ι ca h) sz)
theorem PcB.blind {D : va_G} {ca : Nat → ClassId} {sz : Nat} {ι : Nat → Nat} {h : Hp} {av : List Value} : FrameBlind (va_Pc av (PcB D ca sz ι h)) := by
  intro a U g mk q
  obtain ⟨q0, q1, q2, q3, q4, q5⟩ := q
  exact ⟨q0, q1, q2, q3, q4.calling g mk a, q5.calling g mk a⟩
theorem argOk_vm {ι : Nat → Nat} {b : Nat} : ∀ {as : List Value}, as.all argOk = true → as.map (vm9 ι b) = as.map (vm9 ι 0) := by
  intro as h
  apply List.map_congr_left
  intro v hv
  have h1 := List.all_eq_true.mp h v hv
  cases v <;> first | rfl | cases h1
theorem argOk_cat {as : List Value} (h : as.all argOk = true) : ∀ v ∈ as, v.category = 1 := by
  intro v hv
  have h1 := List.all_eq_true.mp h v hv
  cases v <;> first | rfl | cases h1
theorem pops_ok {n : Nat} {st as r : List Value} (h : pops n st = some (as, r)) : st = as.reverse ++ r ∧ as.length = n := by
  unfold pops at h
  split at h
  · cases h
    refine ⟨by rw [List.reverse_reverse, List.take_append_drop], by rw [List.length_reverse, List.length_take]; omega⟩
  · cases h
/-- what a call instruction says -/
theorem nxt_call {scr : Option SC} {i pc : Nat} {ls st : List Value} {h : Hp} {q : Fr × Nat × List Value × Hp} (hn : nxt scr (i, pc, ls, st) h = some (.inr (.inl q))) :
    ∃ (k : Nat) (lk : Nat × Nat × Nat × Nat) (r : List Value), (lM (mC i)).lookup k = some lk ∧ lk.1 = q.2.1 ∧ q.1 = (i, pc + 3, ls, r) ∧ q.2.2.2 = h ∧ st = q.2.2.1.reverse ++ r ∧ (r.map fun v => v.category).sum ≤ 8 ∧ mV q.2.1 < mV i ∧ q.2.2.1.all argOk = true ∧ rcv q.2.1 q.2.2.1 h = true ∧
      ((decode (mB i) pc = .ok (.invokevirtual k, 3) ∧ lk.2.1 ≤ 1 ∧ q.2.2.1.length = mN q.2.1 + 1) ∨ (decode (mB i) pc = .ok (.invokespecial k, 3) ∧ 3 ≤ lk.2.1 ∧ q.2.2.1.length = mN q.2.1 + 1) ∨ (decode (mB i) pc = .ok (.invokestatic k, 3) ∧ lk.2.1 = 2 ∧ q.2.2.1.length = mN q.2.1)) := by
  have hg : ∀ {n j : Nat}, gC i pc ls st j n h = some (.inr (.inl q)) → ∃ r : List Value, j = q.2.1 ∧ q.1 = (i, pc + 3, ls, r) ∧ q.2.2.2 = h ∧ st = q.2.2.1.reverse ++ r ∧ (r.map fun v => v.category).sum ≤ 8 ∧ mV q.2.1 < mV i ∧ q.2.2.1.all argOk = true ∧ rcv q.2.1 q.2.2.1 h = true ∧ q.2.2.1.length = n := by
    intro n j hg
    unfold gC at hg
    cases hp : pops n st with
    | none => rw [hp] at hg; cases hg
    | some ar =>
      obtain ⟨as, r⟩ := ar
      rw [hp] at hg
      dsimp only at hg
      split at hg
      · rename_i hc
        cases hg
        obtain ⟨e1, e2⟩ := pops_ok hp
        exact ⟨r, rfl, rfl, rfl, e1, hc.1, hc.2.1, hc.2.2.1, hc.2.2.2, e2⟩
      · cases hg
  unfold nxt at hn
  cases hcd : cd i pc with
  | none => simp only [hcd] at hn; cases hn
  | some w =>
    obtain ⟨ins, len⟩ := w
    simp only [hcd] at hn
    by_cases hlen : len = iln ins ∨ iln ins = 0
    case neg => rw [if_neg hlen] at hn; cases hn
    rw [if_pos hlen] at hn
    have hd := cd_ok hcd
    cases ins with
    | invokevirtual k =>
      have hlen : len = _ := hlen.elim id (fun z => absurd z (by simp [iln]))
      rw [hlen] at hd
      unfold nx1 at hn
      dsimp only at hn
      cases hq2 : (lM (mC i)).lookup k with
      | none => rw [hq2] at hn; cases hn
      | some lk =>
        rw [hq2] at hn
        dsimp only at hn
        split at hn
        · rename_i hk
          obtain ⟨r, e0, e1, e2, e3, e4, e5, e6, e7, e8⟩ := hg hn
          exact ⟨k, lk, r, hq2, e0, e1, e2, e3, e4, e5, e6, e7, Or.inl ⟨hd, hk, by rw [e8, e0]⟩⟩
        · cases hn
    | invokespecial k =>
      have hlen : len = _ := hlen.elim id (fun z => absurd z (by simp [iln]))
      rw [hlen] at hd
      unfold nx1 at hn
      dsimp only at hn
      cases hq1 : (lO (mC i)).lookup k with
      | some _ =>
        rw [hq1] at hn
        dsimp only at hn
        split at hn
        · split at hn
          · unfold gO at hn; cases hn
          · cases hn
        · cases hn
      | none =>
        rw [hq1] at hn
        dsimp only at hn
        cases hq2 : (lM (mC i)).lookup k with
        | none => rw [hq2] at hn; cases hn
        | some lk =>
          rw [hq2] at hn
          dsimp only at hn
          split at hn
          · rename_i hk
            obtain ⟨r, e0, e1, e2, e3, e4, e5, e6, e7, e8⟩ := hg hn
            exact ⟨k, lk, r, hq2, e0, e1, e2, e3, e4, e5, e6, e7, Or.inr (Or.inl ⟨hd, hk, by rw [e8, e0]⟩)⟩
          · cases hn
    | invokestatic k =>
      have hlen : len = _ := hlen.elim id (fun z => absurd z (by simp [iln]))
      rw [hlen] at hd
      unfold nx1 at hn
      dsimp only at hn
      by_cases h9 : mC i = 9
      · rw [if_pos h9] at hn
        split at hn
        · split at hn <;> cases hn
        · cases hn
      · rw [if_neg h9] at hn
        cases hq2 : (lM (mC i)).lookup k with
        | some lk =>
          rw [hq2] at hn
          dsimp only at hn
          split at hn
          · rename_i hk
            obtain ⟨r, e0, e1, e2, e3, e4, e5, e6, e7, e8⟩ := hg hn
            exact ⟨k, lk, r, hq2, e0, e1, e2, e3, e4, e5, e6, e7, Or.inr (Or.inr ⟨hd, hk, by rw [e8, e0]⟩)⟩
          · cases hn
        | none =>
          rw [hq2] at hn
          dsimp only at hn
          split at hn
          · split at hn
            · split at hn
              · split at hn
                · unfold gO at hn; cases hn
                · cases hn
              · cases hn
            · cases hn
          · cases hn
    | _ =>
      exfalso
      unfold nx1 at hn
      simp only [gO, gB] at hn
      revert hn
      repeat' split
      all_goals (intro hn; cases hn)
end
section
/-! ===== calls; every run of the pure machine is a run of the machine ===== -/
theorem lst_len {as : List Value} {n : Nat} (h : as.length = n + 1) : ∃ v t, as = v :: t ∧ t.length = n := by
  cases as with
  | nil => cases h
  | cons v t => exact ⟨v, t, rfl, by simpa using h⟩
section CALL
variable {p : Program} {l : Launch} {e : Env} {R : Room} {s : State} {m : MethodId} {args : Array Value} {below : List Frame} {meth : Method} {c : Code} {H : Heap} {locs : List Loc} {cells slots : Nat} {Q : State → Prop} {i b pc nL : Nat} {ca : Nat → ClassId} {D : va_G} {A : Nat → Prop} {scr : Option SC} {ι : Nat → Nat} {ls st : List Value} {h h1 : Hp} {ls0 : Array Slot} {x y : Int32}
/-- a call, by its contract -/
theorem call_run {q : Fr × Nat × List Value × Hp} {k mc ms : Nat} {lk : Nat × Nat × Nat × Nat} {r : List Value} {Qc : Array Value → State → Outcome → State → Prop} {free : Addr → Prop} (C : Ctx p R s m args meth c i b ca D A scr)
    (hlk : (lM (mC i)).lookup k = some lk) (hj : lk.1 = q.2.1) (hst : st = q.2.2.1.reverse ++ r) (hsum : (r.map fun v => v.category).sum ≤ 8) (hlv : mV q.2.1 < mV i) (hall : q.2.2.1.all argOk = true) (hrc : rcv q.2.1 q.2.2.1 h = true)
    (hk : (decode (mB i) pc = .ok (.invokevirtual k, 3) ∧ lk.2.1 ≤ 1 ∧ q.2.2.1.length = mN q.2.1 + 1) ∨ (decode (mB i) pc = .ok (.invokespecial k, 3) ∧ 3 ≤ lk.2.1 ∧ q.2.2.1.length = mN q.2.1 + 1) ∨ (decode (mB i) pc = .ok (.invokestatic k, 3) ∧ lk.2.1 = 2 ∧ q.2.2.1.length = mN q.2.1))
    (hret : 3 ≤ lk.2.1 → mR q.2.1 = none)
    (hM : Met l (mY q.2.1) (wsM q.2.1) (rmM q.2.1 mc ms) (va_Pc (q.2.2.1.map (vm9 ι 0)) (PcB D ca H.size ι h)) Qc mc ms free) (hR : RepS s ι b ca D A (mX i) ls st h H locs ls0) (hcl : cells + mc ≤ R.cells) (hsl : slots + ms ≤ R.slots) :
    va_Run p l e R s m args below meth c H locs cells slots mc ms (F0 m pc ls0 (st.map (vm9 ι b))) (r.map (vm9 ι b)) (Qc (q.2.2.1.map (vm9 ι 0)).toArray) free ∧ ∀ a, va_A (wsO ι ca h) H.size a → A a := by
  obtain ⟨fr1, j, as, h9⟩ := q
  dsimp only at *
  obtain ⟨hw, hj81, hs2, hi3⟩ := lM_at C.lt hlk
  rw [hj] at hw hj81 hs2 hi3
  obtain ⟨f1, f2, f3, f4, f5, f6, f7, f8, f9⟩ := mfact hj81
  have hfr := C.fr
  have hlo := C.lo
  have hFc : ∀ a, va_A (wsO ι ca h) H.size a → A a := by
    intro a ha
    rcases ha with ⟨k2, e2, h2⟩ | h2
    · exact hR.2.1.2 k2 _ h2
    · exact C.hA a (Nat.le_trans hR.2.2.1.1 h2)
  refine ⟨?_, hFc⟩
  have hcode := code_in hj81
  have S : CallFix p m c (mB i) (mX i) s args GWl (rN (mC i)) := ⟨C.1, C.2.1, C.2.2.1, C.own, C.ts⟩
  have hpay : ∀ w ∈ wsM j, ∀ (a' : Array Value) (U : State), s.WarmedH U.vm → w.before a' U = true := pay_in (big := GWl) C.ts (fun w hw2 => by
    have hw3 : w ∈ GWl := by
      rcases List.mem_cons.mp hw2 with z | z
      · rw [z]; exact GWl_in hcode rfl
      · exact z
    exact ⟨hw3, good_of_word (List.mem_filter.mp hw3).2⟩)
  have hcw : Cond.code (mY j) (mB j) (mX j) (mR j) ∈ wsM j := List.mem_cons_self
  have hpar : ∀ sig, parseMethodDescriptor (mY j).desc = some sig → mN j = sig.parameters.length := by
    intro sig hs
    rw [hs] at f6
    exact (Option.some.inj f6).symm
  have hf1 : (rmM j mc ms).frames + 1 ≤ R.frames := by show mV j + 1 ≤ _; omega
  have hl1 : 8 + (mX j + 11) + (rmM j mc ms).locals ≤ R.locals := by show 8 + (mX j + 11) + 39 * mV j ≤ _; omega
  have hini : (Cond.initialized (mY j).cls).before args s = true := C.w f3 rfl
  have hcb : (Cond.code (mY j) (mB j) (mX j) (mR j)).before args s = true := C.w hcode rfl
  have hPcU : ∀ U : State, U.heap = H → s.WarmedH U.vm → PcB D ca H.size ι h U := by
    intro U hU hW
    refine ⟨by rw [hU], by rw [hU]; exact hR.1, hR.2.1.weaken (fun _ _ _ _ => trivial), TabOK.warm hW ⟨C.K, fun w hw2 hn2 => C.nw hw2 hn2, C.ao⟩, C.zk.move hW (fun q hq1 hq2 => by rw [hU]; exact hR.2.2.1.2.1 q hq1 hq2) hFc⟩
  have hmap : st.map (vm9 ι b) = (as.map (vm9 ι 0)).reverse ++ r.map (vm9 ι b) := by
    rw [hst, List.map_append, List.map_reverse, argOk_vm hall]
  have hsum2 : 2 * (F0 m pc ls0 (st.map (vm9 ι b))).monitorRoom + ((r.map (vm9 ι b)).map fun v => v.category).sum ≤ 8 := by
    rw [cat_vm]
    exact (lv_room (m := m) (pc := pc) (ls := ls0) (rest := st.map (vm9 ι b)) (st := r) hsum)
  rcases hk with ⟨hd, hk1, hlen⟩ | ⟨hd, hk1, hlen⟩ | ⟨hd, hk1, hlen⟩
  · -- virtual
    have hns : mS j = false := by rw [hs2]; exact decide_eq_false (by omega)
    obtain ⟨v, t, e1, e2⟩ := lst_len hlen
    subst e1
    rw [hns] at f1
    have hsel : Cond.selects (mY j).cls (mY j) (mY j) ∈ lw_tbl := by
      rcases f2 with z | z | z
      · rw [hns] at z; cases z
      · rw [decide_eq_true z] at hi3
        exact absurd (of_decide_eq_true hi3.symm) (by omega)
      · exact z
    obtain ⟨a, hv, hsh⟩ : ∃ a, v = .ref a ∧ shp h.2 a = (0, mC j) := by
      unfold rcv at hrc
      rw [hns, Bool.false_or] at hrc
      cases v with
      | ref a => exact ⟨a, rfl, of_decide_eq_true hrc⟩
      | _ => cases hrc
    subst hv
    obtain ⟨ha, hks⟩ := shp_0 hsh
    have he := wsO_get (ι := ι) (ca := ca) ha
    rw [clE_0 hks] at he
    have hjc8 : mC j < 8 := by
      rcases mC_lt j with z | z | z | z
      · exact z
      · exfalso
        obtain ⟨q', q1, -⟩ := hR.1 a _ he
        rw [z] at q1
        cases q1
      · exfalso
        obtain ⟨q', q1, -⟩ := hR.1 a _ he
        rw [z] at q1
        cases q1
      · exfalso
        obtain ⟨q', q1, -⟩ := hR.1 a _ he
        rw [z] at q1
        cases q1
    have hrcv := va_recv C.K hR.1 (vwCl_get _ hjc8) he
    have hp : PreV s H (mY j).cls (ι a) (va_Pc ((Value.ref a :: t).map (vm9 ι 0)) (PcB D ca H.size ι h)) (t.map (vm9 ι 0)) := ⟨PcB.blind, by rw [f4]; exact hrcv, fun U hU hW => ⟨rfl, hPcU U hU hW⟩⟩
    have hstk : (F0 m pc ls0 (st.map (vm9 ι b))).stack = (t.map (vm9 ι 0)).reverse ++ .ref (ι a) :: r.map (vm9 ι b) := by
      show st.map (vm9 ι b) = _
      rw [hmap, List.map_cons, List.reverse_cons, List.append_assoc]
      rfl
    by_cases hn : lk.2.1 = 1 ∨ lk.2.1 = 4
    · rw [if_pos hn] at hw
      exact va_runVN S hM ⟨⟨⟨rfl, rfl, hf1, hl1, hpay, hcw⟩, hcb, hini, f5, hpar, va_Nw.use rfl (C.nw hw rfl)⟩, C.w f1 rfl, C.w hsel rfl⟩ hp rfl (by rw [List.length_map]; exact e2) hR.lv.1 hstk hsum2 hd ⟨hcl, hsl⟩
    · rw [if_neg hn] at hw
      exact va_runV S hM ⟨⟨rfl, rfl, hf1, hl1, hpay, hcw, hcb, hini, f5, hpar, C.w hw rfl⟩, C.w f1 rfl, C.w hsel rfl⟩ hp rfl (by rw [List.length_map]; exact e2) hR.lv.1 hstk hsum2 hd ⟨hcl, hsl⟩
  · -- init
    have hns : mS j = false := by rw [hs2]; exact decide_eq_false (by omega)
    obtain ⟨v, t, e1, e2⟩ := lst_len hlen
    subst e1
    rw [hns] at f1
    have hnm : (mY j).name = "<init>" := by
      rw [decide_eq_true hk1] at hi3
      exact of_decide_eq_true hi3
    obtain ⟨a, hv, hsh⟩ : ∃ a, v = .ref a ∧ shp h.2 a = (0, mC j) := by
      unfold rcv at hrc
      rw [hns, Bool.false_or] at hrc
      cases v with
      | ref a => exact ⟨a, rfl, of_decide_eq_true hrc⟩
      | _ => cases hrc
    subst hv
    have hp : PreS s H (va_Pc ((Value.ref a :: t).map (vm9 ι 0)) (PcB D ca H.size ι h)) (.ref (ι a) :: t.map (vm9 ι 0)) := ⟨PcB.blind, fun U hU hW => ⟨rfl, hPcU U hU hW⟩⟩
    have hstk : (F0 m pc ls0 (st.map (vm9 ι b))).stack = (t.map (vm9 ι 0)).reverse ++ .ref (ι a) :: r.map (vm9 ι b) := by
      show st.map (vm9 ι b) = _
      rw [hmap, List.map_cons, List.reverse_cons, List.append_assoc]
      rfl
    rw [hret hk1] at hcw hcb
    by_cases hn : lk.2.1 = 1 ∨ lk.2.1 = 4
    · rw [if_pos hn] at hw
      exact va_runIN S hM ⟨⟨⟨rfl, rfl, hf1, hl1, hpay, hcw⟩, hcb, hini, f5, hpar, va_Nw.use rfl (C.nw hw rfl)⟩, hnm, C.w f1 rfl⟩ hp rfl (by rw [List.length_map]; exact e2) hR.lv.1 hstk hsum2 hd ⟨hcl, hsl⟩
    · rw [if_neg hn] at hw
      exact va_runI S hM ⟨⟨rfl, rfl, hf1, hl1, hpay, hcw, hcb, hini, f5, hpar, C.w hw rfl⟩, hnm, C.w f1 rfl⟩ hp rfl (by rw [List.length_map]; exact e2) hR.lv.1 hstk hsum2 hd ⟨hcl, hsl⟩
  · -- static
    have hns : mS j = true := by rw [hs2]; exact decide_eq_true hk1
    rw [hns] at f1
    rw [if_neg (by omega)] at hw
    exact va_runS S hM ⟨⟨rfl, rfl, hf1, hl1, hpay, hcw, hcb, hini, f5, hpar, C.w hw rfl⟩, C.w f1 rfl⟩ ⟨PcB.blind, fun U hU hW => ⟨rfl, hPcU U hU hW⟩⟩ rfl (by rw [List.length_map]; exact hlen) hR.lv.1 hmap hsum2 hd ⟨hcl, hsl⟩
end CALL
end
section
/-! ===== soundness ===== -/
theorem init_v {j : Nat} (hn : (mY j).name = "<init>") (hj : j < 281) : mR j = none := by
  have h : mTab.all (fun r => !(decide (r.1.name = "<init>")) || decide (r.2.2.2.1 = none)) = true := by decide +kernel
  have h3 : j < mTab.length := by rw [mTab_len]; omega
  have hg : mG j = mTab[j] := by unfold mG; rw [List.getD_eq_getElem?_getD, List.getElem?_eq_getElem h3]; rfl
  have h1 := List.all_eq_true.mp h _ (List.getElem_mem h3)
  unfold mY at hn
  rw [hg] at hn
  simp only [hn, decide_true, Bool.not_true, Bool.false_or, decide_eq_true_eq] at h1
  unfold mR
  rw [hg]
  exact h1
theorem Met.ofWF {l : Launch} {y : MethodName} {ws ws' : List Cond} {rm : Room} {Pc : Array Value → State → Prop} {Qc : Array Value → State → Outcome → State → Prop} {mc ms : Nat} {free : Addr → Prop} {cc : ByteArray} {maxL : Nat} {ret : Option FieldType}
    (hy : plainFor y = true) (hw : ws = Cond.code y cc maxL ret :: ws')
    (body : ∀ p e s m args below meth c s₁, BodyLoose p l y (headSpec ws rm) cc maxL ret e s m args below meth c s₁ → c.maxLocals = maxL → Pc args s →
      W p l e (headSpec ws rm).room s m args below meth c s.heap [] 0 0 (MQ below Qc args s mc ms free) (entryFrame m args maxL)) : Met l y ws rm Pc Qc mc ms free := by
  refine MetFree.of_bodySF (code := cc) (maxLocals := maxL) (ret := ret) hy ?_ ?_
  · intro args s m h hn
    obtain ⟨meth, c, h1, h2, h3, h4, h5, h6, -, -⟩ := Cond.code_spec hn (atoms_spec (ws := ws) h _ (by rw [hw]; exact List.mem_cons_self))
    exact ⟨meth, c, h1, h2, h3, h4, h5, h6⟩
  · intro p e s m args below meth c s₁ B hml hP _
    have hh0 : s₁.heap = s.heap := by rw [B.state]; rfl
    obtain ⟨t, a1, o, b1, b2, b3⟩ := body p e s m args below meth c s₁ B hml hP s₁ hh0 (Stand.of_body B)
    exact ⟨t, o, a1, b1, b2, ⟨b3.1, b3.2⟩⟩
theorem nxt_help {scr : Option SC} {i pc : Nat} {ls st : List Value} {h : Hp} {q : Fr × Nat × List Value × Nat × Hp} (hn : nxt scr (i, pc, ls, st) h = some (.inr (.inr (.inl q)))) : mC i = 9 := by
  unfold nxt at hn
  split at hn
  · split at hn
    · rename_i ins _ _
      unfold nx1 at hn
      simp only [gO, gB, gC] at hn
      revert hn
      repeat' split
      all_goals first
        | (intro hn; cases hn; done)
        | (intro _; assumption)
    · cases hn
  · cases hn
section BODY
variable {p : Program} {l : Launch} {e : Env} {R : Room} {s : State} {m : MethodId} {args : Array Value} {below : List Frame} {meth : Method} {c : Code} {Q : State → Prop} {i b : Nat} {ca : Nat → ClassId} {D : va_G} {A : Nat → Prop} {scr : Option SC}
/-- at the last step -/
def EndK (p : Program) (l : Launch) (e : Env) (R : Room) (s : State) (m : MethodId) (args : Array Value) (below : List Frame) (meth : Method) (c : Code) (cells slots : Nat) (Q : State → Prop) (i b : Nat) (ca : Nat → ClassId) (D : va_G) (A : Nat → Prop) (scr : Option SC) (ι : Nat → Nat) (h : Hp) (r : Rs) (h1 : Hp) : Prop :=
  ∀ (ι1 : Nat → Nat) (H1 : Heap) (locs1 : List Loc) (ls1 : Array Slot) (pc1 : Nat) (lsx stx : List Value) (hx : Hp), (∀ a, a < knx h.2 → ι1 a = ι a) → Mono h hx → nxt scr (i, pc1, lsx, stx) hx = some (.inr (.inr (.inr (r, h1)))) → RepS s ι1 b ca D A (mX i) lsx stx hx H1 locs1 ls1 → W p l e R s m args below meth c H1 locs1 (cells + (kkc hx.2 - kkc h.2)) (slots + (kks hx.2 - kks h.2)) Q (F0 m pc1 ls1 (stx.map (vm9 ι1 b)))
/-- the law's calls of its helpers -/
def HelpAt (n : Nat) (p : Program) (l : Launch) (e : Env) (R : Room) (s : State) (m : MethodId) (args : Array Value) (below : List Frame) (meth : Method) (c : Code) (Q : State → Prop) (i b : Nat) (ca : Nat → ClassId) (D : va_G) (A : Nat → Prop) (scr : Option SC) : Prop :=
  ∀ (ι : Nat → Nat) (ls st : List Value) (h : Hp) (H : Heap) (locs : List Loc) (ls0 : Array Slot) (cells slots pc : Nat) (q : Fr × Nat × List Value × Nat × Hp) (w : Rs) (h2 : Hp), nxt scr (i, pc, ls, st) h = some (.inr (.inr (.inl q))) → (∃ k, k ≤ n ∧ exec k none (ent q.2.1 q.2.2.1) h = some (w, h2)) → RepS s ι b ca D A (mX i) ls st h H locs ls0 →
    (w.1 = 0 → ∀ h3, sL h2 q.2.2.2.1 0 w.2.toInt64 = some h3 → cells + (kkc h3.2 - kkc h.2) ≤ R.cells → slots + (kks h3.2 - kks h.2) ≤ R.slots → GoK p l e R s m args below meth c cells slots Q i b ca D A ι h (psh q.1 (.int 0)) h3 → W p l e R s m args below meth c H locs cells slots Q (F0 m pc ls0 (st.map (vm9 ι b)))) ∧
    (w.1 = 2 → cells + (kkc h2.2 - kkc h.2) ≤ R.cells → slots + (kks h2.2 - kks h.2) ≤ R.slots → GoK p l e R s m args below meth c cells slots Q i b ca D A ι h (psh q.1 (.int (w.2 + 1))) h2 → W p l e R s m args below meth c H locs cells slots Q (F0 m pc ls0 (st.map (vm9 ι b))))
theorem HelpAt.le {n k : Nat} (hk : k ≤ n) (h : HelpAt n p l e R s m args below meth c Q i b ca D A scr) : HelpAt k p l e R s m args below meth c Q i b ca D A scr := by
  intro ι ls st h2 H locs ls0 cells slots pc q w h3 hn hx hR
  obtain ⟨k2, e1, e2⟩ := hx
  exact h ι ls st h2 H locs ls0 cells slots pc q w h3 hn ⟨k2, by omega, e2⟩ hR
set_option maxHeartbeats 4000000 in
theorem body_ok (N : Nat) (hI : ∀ n, n < N → MetI n) (hV : ∀ n, n < N → MetV n) (C : Ctx p R s m args meth c i b ca D A scr) (hco : CodeOK p l e R s m args below meth c Q i b ca D A) : ∀ (n : Nat), n ≤ N → HelpAt n p l e R s m args below meth c Q i b ca D A scr → ∀ (pc : Nat) (ls st : List Value) (h : Hp) (r : Rs) (h1 : Hp), exec n scr (i, pc, ls, st) h = some (r, h1) → ∀ (ι : Nat → Nat) (H : Heap) (locs : List Loc) (ls0 : Array Slot) (cells slots : Nat), RepS s ι b ca D A (mX i) ls st h H locs ls0 → cells + (kkc h1.2 - kkc h.2) ≤ R.cells → slots + (kks h1.2 - kks h.2) ≤ R.slots → EndK p l e R s m args below meth c cells slots Q i b ca D A scr ι h r h1 → W p l e R s m args below meth c H locs cells slots Q (F0 m pc ls0 (st.map (vm9 ι b))) := by
  intro n
  induction n with
  | zero => intro _ _ pc ls st h r h1 hx; cases hx
  | succ n ih =>
    intro hnN hHelp pc ls st h r h1 hx ι H locs ls0 cells slots hR hcl hsl hend
    have ih := ih (by omega) (hHelp.le (by omega))
    have hx0 := hx
    unfold exec stepf at hx
    cases hn : nxt scr (i, pc, ls, st) h with
    | none => rw [hn] at hx; cases hx
    | some a =>
      rw [hn] at hx
      have hm := nxt_m hn
      rcases a with q | q | q | q
      · -- a step
        dsimp only at hx
        have m0 : Mono h q.2 := hm
        have m1 := exec_m _ _ _ _ _ _ hx
        obtain ⟨⟨i2, pc2, ls2, st2⟩, h2⟩ := q
        dsimp only at hx m0 m1
        have a1 := m0.2.1
        have a2 := m0.2.2
        have a3 := m1.2.1
        have a4 := m1.2.2
        refine go_ok C hco hn hR (by omega) (by omega) (fun ι1 H1 locs1 ls1 hι hi2 hR1 => ?_)
        dsimp only at hi2 hR1 ⊢
        subst hi2
        refine ih pc2 ls2 st2 h2 r h1 hx ι1 H1 locs1 ls1 _ _ hR1 (by omega) (by omega) (fun ι3 H3 locs3 ls3 pc3 lsx stx hx3 hι3 m3 hn3 hR3 => ?_)
        have b1 := m3.2.1
        have b2 := m3.2.2
        have k0 := hend ι3 H3 locs3 ls3 pc3 lsx stx hx3 (fun a ha => (hι3 a (Nat.lt_of_lt_of_le ha m0.1)).trans (hι a ha)) (Mono.tr m0 m3) hn3 hR3
        rw [show cells + (kkc h2.2 - kkc h.2) + (kkc hx3.2 - kkc h2.2) = cells + (kkc hx3.2 - kkc h.2) by omega, show slots + (kks h2.2 - kks h.2) + (kks hx3.2 - kks h2.2) = slots + (kks hx3.2 - kks h.2) by omega]
        exact k0
      · -- a call
        dsimp only at hx
        obtain ⟨k, lk, r0, hlk, hj, hfr1, hq4, hst, hsum, hlv, hall, hrc, hk⟩ := nxt_call hn
        rw [hq4] at hx
        have hj81 := (lM_at C.lt hlk).2.1
        have hs2 := (lM_at C.lt hlk).2.2.1
        have hi3 := (lM_at C.lt hlk).2.2.2
        rw [hj] at hj81 hs2 hi3
        have hlen : q.2.2.1.length = mN q.2.1 + (if mS q.2.1 then 0 else 1) := by
          rcases hk with ⟨-, z, w⟩ | ⟨-, z, w⟩ | ⟨-, z, w⟩
          · rw [hs2, decide_eq_false (by omega), w]; rfl
          · rw [hs2, decide_eq_false (by omega), w]; rfl
          · rw [hs2, decide_eq_true z, w]; rfl
        have hret : 3 ≤ lk.2.1 → mR q.2.1 = none := by
          intro z
          rw [decide_eq_true z] at hi3
          exact init_v (of_decide_eq_true hi3) hj81
        have hfas : fOk (knx h.2) q.2.2.1 := by
          have z := hR.fs
          rw [hst] at z
          intro v hv
          exact z v (List.mem_append_left _ (List.mem_reverse.mpr hv))
        have hfr0 : fOk (knx h.2) r0 := by
          have z := hR.fs
          rw [hst] at z
          intro v hv
          exact z v (List.mem_append_right _ hv)
        cases hc : exec n none (ent q.2.1 q.2.2.1) h with
        | none => rw [hc] at hx; cases hx
        | some w =>
          obtain ⟨⟨w0, wv⟩, h2⟩ := w
          rw [hc] at hx
          dsimp only at hx
          have m0 := exec_m _ _ _ _ _ _ hc
          have a1 := m0.2.1
          have a2 := m0.2.2
          rw [hfr1] at hx
          by_cases c1 : w0 = 0 ∧ (mR q.2.1).isSome
          · rw [if_pos c1] at hx
            obtain ⟨c10, c11⟩ := c1
            subst c10
            have m1 := exec_m _ _ _ _ _ _ hx
            have a3 := m1.2.1
            have a4 := m1.2.2
            have hM := hI n (by omega) q.2.1 q.2.2.1 h wv h2 hc hj81 c11 hlen hall hfas hR.2.2.2.2.2.2 l D ca ι H.size
            have hcl2 : cells + (kkc h2.2 - kkc h.2) ≤ R.cells := by omega
            have hsl2 : slots + (kks h2.2 - kks h.2) ≤ R.slots := by omega
            obtain ⟨hrun, hFc⟩ := call_run (p := p) (e := e) (below := below) (cells := cells) (slots := slots) C hlk hj hst hsum hlv hall hrc hk hret hM hR hcl2 hsl2
            refine va_calli hrun hR.2.2.1 (fun q2 _ hq2 => hFc q2 hq2) hFc (fun r2 u t H1 locs1 ht hvm hpost hB hz1 hk1 hS1 => ?_)
            obtain ⟨er, hag, hho⟩ := hpost
            obtain ⟨g1, g2⟩ := hB
            rw [ht] at g1
            subst er
            have hR1 : RepS s u b ca D A (mX i) ls (.int r2 :: r0) h2 H1 locs1 ls0 := ⟨g1, g2.weaken (fun _ _ _ z => hFc _ z), hS1, hR.lv.ext hag hR.fl, fk_m hR.fl m0.1, fk_i (fk_m hfr0 m0.1), hho⟩
            have k0 := ih (pc + 3) ls (.int r2 :: r0) h2 r h1 hx u H1 locs1 ls0 _ _ hR1 (by show cells + (kkc h2.2 - kkc h.2) + _ ≤ _; omega) (by show slots + (kks h2.2 - kks h.2) + _ ≤ _; omega) (fun ι3 H3 locs3 ls3 pc3 lsx stx hx3 hι3 m3 hn3 hR3 => by
              have b1 := m3.2.1
              have b2 := m3.2.2
              have k0 := hend ι3 H3 locs3 ls3 pc3 lsx stx hx3 (fun a ha => (hι3 a (Nat.lt_of_lt_of_le ha m0.1)).trans (hag a ha)) (Mono.tr m0 m3) hn3 hR3
              rw [show cells + (kkc h2.2 - kkc h.2) + (kkc hx3.2 - kkc h2.2) = cells + (kkc hx3.2 - kkc h.2) by omega, show slots + (kks h2.2 - kks h.2) + (kks hx3.2 - kks h2.2) = slots + (kks hx3.2 - kks h.2) by omega]
              exact k0)
            rw [List.map_cons, vm9_eq hag hfr0] at k0
            exact k0
          · rw [if_neg c1] at hx
            by_cases c2 : w0 = 1 ∧ (mR q.2.1).isNone
            · rw [if_pos c2] at hx
              obtain ⟨c20, c21⟩ := c2
              subst c20
              have m1 := exec_m _ _ _ _ _ _ hx
              have a3 := m1.2.1
              have a4 := m1.2.2
              have hM := hV n (by omega) q.2.1 q.2.2.1 h wv h2 hc hj81 (Option.isNone_iff_eq_none.mp c21) hlen hall hfas hR.2.2.2.2.2.2 l D ca ι H.size
              have hcl2 : cells + (kkc h2.2 - kkc h.2) ≤ R.cells := by omega
              have hsl2 : slots + (kks h2.2 - kks h.2) ≤ R.slots := by omega
              obtain ⟨hrun, hFc⟩ := call_run (p := p) (e := e) (below := below) (cells := cells) (slots := slots) C hlk hj hst hsum hlv hall hrc hk hret hM hR hcl2 hsl2
              refine va_callv hrun hR.2.2.1 (fun q2 _ hq2 => hFc q2 hq2) hFc (fun u t H1 locs1 ht hvm hpost hB hz1 hk1 hS1 => ?_)
              obtain ⟨hag, hho⟩ := hpost
              obtain ⟨g1, g2⟩ := hB
              rw [ht] at g1
              have hR1 : RepS s u b ca D A (mX i) ls r0 h2 H1 locs1 ls0 := ⟨g1, g2.weaken (fun _ _ _ z => hFc _ z), hS1, hR.lv.ext hag hR.fl, fk_m hR.fl m0.1, fk_m hfr0 m0.1, hho⟩
              have k0 := ih (pc + 3) ls r0 h2 r h1 hx u H1 locs1 ls0 _ _ hR1 (by show cells + (kkc h2.2 - kkc h.2) + _ ≤ _; omega) (by show slots + (kks h2.2 - kks h.2) + _ ≤ _; omega) (fun ι3 H3 locs3 ls3 pc3 lsx stx hx3 hι3 m3 hn3 hR3 => by
                have b1 := m3.2.1
                have b2 := m3.2.2
                have k0 := hend ι3 H3 locs3 ls3 pc3 lsx stx hx3 (fun a ha => (hι3 a (Nat.lt_of_lt_of_le ha m0.1)).trans (hag a ha)) (Mono.tr m0 m3) hn3 hR3
                rw [show cells + (kkc h2.2 - kkc h.2) + (kkc hx3.2 - kkc h2.2) = cells + (kkc hx3.2 - kkc h.2) by omega, show slots + (kks h2.2 - kks h.2) + (kks hx3.2 - kks h2.2) = slots + (kks hx3.2 - kks h.2) by omega]
                exact k0)
              rw [vm9_eq hag hfr0] at k0
              exact k0
            · rw [if_neg c2] at hx
              cases hx
      · -- a helper of the law
        dsimp only at hx
        have hq : q.2.2.2.2 = h := hm
        rw [hq] at hx
        cases hc : exec n none (ent q.2.1 q.2.2.1) h with
        | none => rw [hc] at hx; cases hx
        | some w =>
          obtain ⟨w, h2⟩ := w
          rw [hc] at hx
          dsimp only at hx
          have m0 := exec_m _ _ _ _ _ _ hc
          have hH := hHelp ι ls st h H locs ls0 cells slots pc q w h2 hn ⟨n, by omega, hc⟩ hR
          by_cases c1 : w.1 = 0
          · rw [if_pos c1] at hx
            cases hs : sL h2 q.2.2.2.1 0 w.2.toInt64 with
            | none => rw [hs] at hx; cases hx
            | some h3 =>
              rw [hs] at hx
              dsimp only at hx
              have m1 := exec_m _ _ _ _ _ _ hx
              have m2 := Mono.tr m0 (sL_m hs)
              have a1 := m2.2.1
              have a2 := m2.2.2
              have a3 := m1.2.1
              have a4 := m1.2.2
              refine hH.1 c1 h3 hs (by omega) (by omega) (fun ι1 H1 locs1 ls1 hι hi2 hR1 => ?_)
              obtain ⟨⟨i2, pc2, ls2, st2⟩, q2⟩ := q
              have hi2 : i2 = i := hi2
              subst hi2
              refine ih pc2 ls2 (.int 0 :: st2) h3 r h1 hx ι1 H1 locs1 ls1 _ _ hR1 (by omega) (by omega) (fun ι3 H3 locs3 ls3 pc3 lsx stx hx3 hι3 m3 hn3 hR3 => ?_)
              have b1 := m3.2.1
              have b2 := m3.2.2
              have k0 := hend ι3 H3 locs3 ls3 pc3 lsx stx hx3 (fun a ha => (hι3 a (Nat.lt_of_lt_of_le ha m2.1)).trans (hι a ha)) (Mono.tr m2 m3) hn3 hR3
              rw [show cells + (kkc h3.2 - kkc h.2) + (kkc hx3.2 - kkc h3.2) = cells + (kkc hx3.2 - kkc h.2) by omega, show slots + (kks h3.2 - kks h.2) + (kks hx3.2 - kks h3.2) = slots + (kks hx3.2 - kks h.2) by omega]
              exact k0
          · rw [if_neg c1] at hx
            by_cases c2 : w.1 = 2
            · rw [if_pos c2] at hx
              have m1 := exec_m _ _ _ _ _ _ hx
              have a1 := m0.2.1
              have a2 := m0.2.2
              have a3 := m1.2.1
              have a4 := m1.2.2
              refine hH.2 c2 (by omega) (by omega) (fun ι1 H1 locs1 ls1 hι hi2 hR1 => ?_)
              obtain ⟨⟨i2, pc2, ls2, st2⟩, q2⟩ := q
              have hi2 : i2 = i := hi2
              subst hi2
              refine ih pc2 ls2 (.int (w.2 + 1) :: st2) h2 r h1 hx ι1 H1 locs1 ls1 _ _ hR1 (by omega) (by omega) (fun ι3 H3 locs3 ls3 pc3 lsx stx hx3 hι3 m3 hn3 hR3 => ?_)
              have b1 := m3.2.1
              have b2 := m3.2.2
              have k0 := hend ι3 H3 locs3 ls3 pc3 lsx stx hx3 (fun a ha => (hι3 a (Nat.lt_of_lt_of_le ha m0.1)).trans (hι a ha)) (Mono.tr m0 m3) hn3 hR3
              rw [show cells + (kkc h2.2 - kkc h.2) + (kkc hx3.2 - kkc h2.2) = cells + (kkc hx3.2 - kkc h.2) by omega, show slots + (kks h2.2 - kks h.2) + (kks hx3.2 - kks h2.2) = slots + (kks hx3.2 - kks h.2) by omega]
              exact k0
            · rw [if_neg c2] at hx
              cases hx
      · -- the end
        cases hx
        have k0 := hend ι H locs ls0 pc ls st h (fun _ _ => rfl) Mono.rf hn hR
        rw [Nat.sub_self, Nat.sub_self, Nat.add_zero, Nat.add_zero] at k0
        exact k0
end BODY
end
section
/-! ===== String constants: length, charAt; Reader.codeOf ===== -/
theorem jw_ini_RX2 : Cond.initialized RX2 ∈ GWl := GWl_in (tbC_mem 1 (List.mem_of_getElem? (i := 2) rfl)) rfl
theorem jw_ini_RJ0 : Cond.initialized RJ0 ∈ GWl := GWl_in (tbC_mem 1 (List.mem_of_getElem? (i := 3) rfl)) rfl
theorem jw_ini_RJ1 : Cond.initialized RJ1 ∈ GWl := GWl_in (tbC_mem 1 (List.mem_of_getElem? (i := 4) rfl)) rfl
theorem jw_ini_RJ3 : Cond.initialized RJ3 ∈ GWl := GWl_in (tbC_mem 1 (List.mem_of_getElem? (i := 5) rfl)) rfl
theorem jw_link_RX2_11 : Cond.methodLink RX2 11 yX2_codeOf ∈ GWl := GWl_in (tbC_mem 1 (List.mem_of_getElem? (i := 35) rfl)) rfl
theorem jw_st_cof : Cond.static yX2_codeOf ∈ GWl := GWl_in (tbC_mem 1 (List.mem_of_getElem? (i := 36) rfl)) rfl
theorem jw_code_cof : Cond.code yX2_codeOf cX2_codeOf 3 (some .int) ∈ GWl := GWl_in (tbC_mem 1 (List.mem_of_getElem? (i := 37) rfl)) rfl
theorem jw_link_RX2_216 : Cond.methodLink RX2 216 yJ0_length_8abf5 ∈ GWl := GWl_in (tbC_mem 1 (List.mem_of_getElem? (i := 38) rfl)) rfl
theorem jw_in_len : Cond.instanceMethod yJ0_length_8abf5 ∈ GWl := GWl_in (tbC_mem 1 (List.mem_of_getElem? (i := 39) rfl)) rfl
theorem jw_sel_len : Cond.selects RJ0 yJ0_length_8abf5 yJ0_length_8abf5 ∈ GWl := GWl_in (tbC_mem 1 (List.mem_of_getElem? (i := 40) rfl)) rfl
theorem jw_code_len : Cond.code yJ0_length_8abf5 cJ0_length_8abf5 1 (some .int) ∈ GWl := GWl_in (tbC_mem 1 (List.mem_of_getElem? (i := 41) rfl)) rfl
theorem jw_link_RJ0_335 : Cond.methodLink RJ0 335 yJ0_coder_7d493 ∈ GWl := GWl_in (tbC_mem 1 (List.mem_of_getElem? (i := 42) rfl)) rfl
theorem jw_in_cod : Cond.instanceMethod yJ0_coder_7d493 ∈ GWl := GWl_in (tbC_mem 1 (List.mem_of_getElem? (i := 43) rfl)) rfl
theorem jw_sel_cod : Cond.selects RJ0 yJ0_coder_7d493 yJ0_coder_7d493 ∈ GWl := GWl_in (tbC_mem 1 (List.mem_of_getElem? (i := 44) rfl)) rfl
theorem jw_code_cod : Cond.code yJ0_coder_7d493 cJ0_coder_7d493 1 (some .byte) ∈ GWl := GWl_in (tbC_mem 1 (List.mem_of_getElem? (i := 45) rfl)) rfl
theorem jw_f_38 : Cond.fieldLink RJ0 38 "java/lang/String" "COMPACT_STRINGS" "Z" ∈ GWl := GWl_in (tbC_mem 1 (List.mem_of_getElem? (i := 46) rfl)) rfl
theorem jw_link_RX2_221 : Cond.methodLink RX2 221 yJ0_charAt_5068e ∈ GWl := GWl_in (tbC_mem 1 (List.mem_of_getElem? (i := 48) rfl)) rfl
theorem jw_in_cha : Cond.instanceMethod yJ0_charAt_5068e ∈ GWl := GWl_in (tbC_mem 1 (List.mem_of_getElem? (i := 49) rfl)) rfl
theorem jw_sel_cha : Cond.selects RJ0 yJ0_charAt_5068e yJ0_charAt_5068e ∈ GWl := GWl_in (tbC_mem 1 (List.mem_of_getElem? (i := 50) rfl)) rfl
theorem jw_code_cha : Cond.code yJ0_charAt_5068e cJ0_charAt_5068e 2 (some .char) ∈ GWl := GWl_in (tbC_mem 1 (List.mem_of_getElem? (i := 51) rfl)) rfl
theorem jw_link_RJ0_492 : Cond.methodLink RJ0 492 yJ0_isLatin1_aae02 ∈ GWl := GWl_in (tbC_mem 1 (List.mem_of_getElem? (i := 52) rfl)) rfl
theorem jw_in_isl : Cond.instanceMethod yJ0_isLatin1_aae02 ∈ GWl := GWl_in (tbC_mem 1 (List.mem_of_getElem? (i := 53) rfl)) rfl
theorem jw_sel_isl : Cond.selects RJ0 yJ0_isLatin1_aae02 yJ0_isLatin1_aae02 ∈ GWl := GWl_in (tbC_mem 1 (List.mem_of_getElem? (i := 54) rfl)) rfl
theorem jw_code_isl : Cond.code yJ0_isLatin1_aae02 cJ0_isLatin1_aae02 1 (some .boolean) ∈ GWl := GWl_in (tbC_mem 1 (List.mem_of_getElem? (i := 55) rfl)) rfl
theorem jw_link_RJ0_495 : Cond.methodLink RJ0 495 yJ1_charAt_3b067 ∈ GWl := GWl_in (tbC_mem 1 (List.mem_of_getElem? (i := 56) rfl)) rfl
theorem jw_st_cha1 : Cond.static yJ1_charAt_3b067 ∈ GWl := GWl_in (tbC_mem 1 (List.mem_of_getElem? (i := 57) rfl)) rfl
theorem jw_code_cha1 : Cond.code yJ1_charAt_3b067 cJ1_charAt_3b067 2 (some .char) ∈ GWl := GWl_in (tbC_mem 1 (List.mem_of_getElem? (i := 58) rfl)) rfl
theorem jw_link_RJ1_9 : Cond.methodLink RJ1 9 yJ0_checkIndex_df160 ∈ GWl := GWl_in (tbC_mem 1 (List.mem_of_getElem? (i := 59) rfl)) rfl
theorem jw_st_chk : Cond.static yJ0_checkIndex_df160 ∈ GWl := GWl_in (tbC_mem 1 (List.mem_of_getElem? (i := 60) rfl)) rfl
theorem jw_code_chk : Cond.code yJ0_checkIndex_df160 cJ0_checkIndex_df160 2 none ∈ GWl := GWl_in (tbC_mem 1 (List.mem_of_getElem? (i := 61) rfl)) rfl
theorem jw_f_1053 : Cond.fieldLink RJ0 1053 "jdk/internal/util/Preconditions" "SIOOBE_FORMATTER" "Ljava/util/function/BiFunction;" ∈ GWl := GWl_in (tbC_mem 1 (List.mem_of_getElem? (i := 62) rfl)) rfl
theorem jw_link_RJ0_1059 : Cond.methodLink RJ0 1059 yJ3_checkIndex_8e157 ∈ GWl := GWl_in (tbC_mem 1 (List.mem_of_getElem? (i := 64) rfl)) rfl
theorem jw_st_pre : Cond.static yJ3_checkIndex_8e157 ∈ GWl := GWl_in (tbC_mem 1 (List.mem_of_getElem? (i := 65) rfl)) rfl
theorem jw_code_pre : Cond.code yJ3_checkIndex_8e157 cJ3_checkIndex_8e157 3 (some .int) ∈ GWl := GWl_in (tbC_mem 1 (List.mem_of_getElem? (i := 66) rfl)) rfl
theorem jw_f_9 : Cond.fieldLink RJ0 9 "java/lang/String" "value" "[B" ∈ GWl := GWl_in (tbC_mem 8 (List.mem_of_getElem? (i := 171) rfl)) rfl
theorem jw_f_15 : Cond.fieldLink RJ0 15 "java/lang/String" "coder" "B" ∈ GWl := GWl_in (tbC_mem 8 (List.mem_of_getElem? (i := 172) rfl)) rfl
abbrev rmJ (k : Nat) : Room := { frames := k, cells := 0, slots := 0, locals := 39 * k }
abbrev wsJ (y : MethodName) (bytes : ByteArray) (maxL : Nat) (ret : Option FieldType) : List Cond := .code y bytes maxL ret :: GWl
def JZ (adK adV : Nat → Nat) (A : Nat → Prop) (U : State) : Prop := vk_S 13 lenJ bytJ adK adV A U U.heap ∧ va_Z "java/lang/String" "COMPACT_STRINGS" "Z" (.int 1) A U U.heap ∧ va_Zq "jdk/internal/util/Preconditions" "SIOOBE_FORMATTER" "Ljava/util/function/BiFunction;" A U U.heap
def NwA (sz : Nat) : Nat → Prop := fun q => sz ≤ q
def PcJ (adK adV : Nat → Nat) (sz : Nat) : State → Prop := fun U => U.heap.size = sz ∧ JZ adK adV (NwA sz) U
theorem PcJ.blind {adK adV : Nat → Nat} {sz : Nat} {av : List Value} : FrameBlind (va_Pc av (PcJ adK adV sz)) := by
  intro a U g mk q
  obtain ⟨q0, q1, q2, q3, q4⟩ := q
  have hvm : U.vm.Alike (U.calling g mk a).vm := Vm.Alike.refl U.vm
  exact ⟨q0, q1, q2.moved hvm, q3.moved hvm, q4.moved hvm⟩
section STRJ
variable {p : Program} {l : Launch} {e : Env} {R : Room} {s : State} {m : MethodId} {args : Array Value} {below : List Frame} {meth : Method} {c : Code} {H : Heap} {locs : List Loc} {cells slots : Nat} {Q : State → Prop} {A : Nat → Prop} {adK adV : Nat → Nat}
theorem JZ.to (h : JZ adK adV A s) (hS : va_S A s.heap H locs) (hA : ∀ q, H.size ≤ q → A q) {U : State} (hU : U.heap = H) (hW : s.WarmedH U.vm) : PcJ adK adV H.size U := by
  obtain ⟨h1, h2, h3⟩ := h
  subst hU
  exact ⟨rfl, ((h1.moved hW.alike).kept hS.2.1).narrow hA, ((h2.moved hW.alike).kept hS.2.1).narrow hA, ((h3.moved hW.alike).kept hS.2.1).narrow hA⟩
theorem jpay (hts : ∀ w ∈ GWl, w.before args s = true) {y : MethodName} {bytes : ByteArray} {maxL : Nat} {ret : Option FieldType} (hc : Cond.code y bytes maxL ret ∈ GWl) : ∀ w ∈ wsJ y bytes maxL ret, ∀ (a' : Array Value) (U : State), s.WarmedH U.vm → w.before a' U = true :=
  pay_in (big := GWl) hts (fun w hw2 => by
    have hw3 : w ∈ GWl := by
      rcases List.mem_cons.mp hw2 with z | z
      · rw [z]; exact hc
      · exact z
    exact ⟨hw3, good_of_word (List.mem_filter.mp hw3).2⟩)
theorem jpar {y : MethodName} {n : Nat} (h : (parseMethodDescriptor y.desc).map (fun d => d.parameters.length) = some n) : ∀ sig, parseMethodDescriptor y.desc = some sig → n = sig.parameters.length := by
  intro sig hs
  rw [hs] at h
  exact (Option.some.inj h).symm
/-- a call of a static JDK method -/
theorem j_runS {cc bytes : ByteArray} {nL maxL index n k : Nat} {own : String} {y : MethodName} {ret : Option FieldType} {As rest : List Value} {g : JFrame} {Qc : Array Value → State → Outcome → State → Prop} {free : Addr → Prop} (S : CallFix p m c cc nL s args GWl own) (hM : Met l y (wsJ y bytes maxL ret) (rmJ k) (va_Pc As (PcJ adK adV H.size)) Qc 0 0 free)
    (w1 : Cond.code y bytes maxL ret ∈ GWl) (w2 : Cond.methodLink own index y ∈ GWl) (w3 : Cond.static y ∈ GWl) (w4 : Cond.initialized y.cls ∈ GWl) (w5 : y.cls ≠ "java/lang/invoke/MethodHandle" ∧ y.cls ≠ "java/lang/invoke/VarHandle") (w6 : (parseMethodDescriptor y.desc).map (fun d => d.parameters.length) = some n) (w7 : k + 1 ≤ R.frames ∧ 39 * (k + 1) ≤ R.locals ∧ maxL ≤ 20)
    (hJ : JZ adK adV A s) (hS : va_S A s.heap H locs) (hA : ∀ q, H.size ≤ q → A q) (hg : g.method = m) (hn : As.length = n) (hsize : g.locals.size = nL) (hstack : g.stack = As.reverse ++ rest) (hW : 2 * g.monitorRoom + (rest.map fun v => v.category).sum ≤ 8) (hdg : decode cc g.pc = .ok (.invokestatic index, 3)) (hf : cells ≤ R.cells ∧ slots ≤ R.slots) :
    va_Run p l e R s m args below meth c H locs cells slots 0 0 g rest (Qc As.toArray) free := by
  have hts := S.2.2.2.2
  exact va_runS S hM ⟨⟨rfl, rfl, w7.1, by show 8 + (maxL + 11) + 39 * k ≤ _; omega, jpay hts w1, List.mem_cons_self, hts _ w1, hts _ w4, w5, jpar w6, hts _ w2⟩, hts _ w3⟩ ⟨PcJ.blind, fun U hU hW => ⟨rfl, hJ.to hS hA hU hW⟩⟩ hg hn hsize hstack hW hdg hf
/-- a call of a JDK method on the String of place i -/
theorem j_runV {cc bytes : ByteArray} {nL maxL index n k i : Nat} {own : String} {y : MethodName} {ret : Option FieldType} {As rest : List Value} {g : JFrame} {Qc : Array Value → State → Outcome → State → Prop} {free : Addr → Prop} (S : CallFix p m c cc nL s args GWl own) (hM : Met l y (wsJ y bytes maxL ret) (rmJ k) (va_Pc (.ref (adK i) :: As) (PcJ adK adV H.size)) Qc 0 0 free) (hi : i < 13)
    (w1 : Cond.code y bytes maxL ret ∈ GWl) (w2 : Cond.methodLink own index y ∈ GWl) (w3 : Cond.instanceMethod y ∈ GWl) (w4 : Cond.initialized y.cls ∈ GWl) (w8 : Cond.selects RJ0 y y ∈ GWl) (w5 : y.cls ≠ "java/lang/invoke/MethodHandle" ∧ y.cls ≠ "java/lang/invoke/VarHandle") (w6 : (parseMethodDescriptor y.desc).map (fun d => d.parameters.length) = some n) (w7 : k + 1 ≤ R.frames ∧ 39 * (k + 1) ≤ R.locals ∧ maxL ≤ 20)
    (hJ : JZ adK adV A s) (hS : va_S A s.heap H locs) (hA : ∀ q, H.size ≤ q → A q) (hg : g.method = m) (hn : As.length = n) (hsize : g.locals.size = nL) (hstack : g.stack = As.reverse ++ .ref (adK i) :: rest) (hW : 2 * g.monitorRoom + (rest.map fun v => v.category).sum ≤ 8) (hdg : decode cc g.pc = .ok (.invokevirtual index, 3)) (hf : cells ≤ R.cells ∧ slots ≤ R.slots) :
    va_Run p l e R s m args below meth c H locs cells slots 0 0 g rest (Qc (.ref (adK i) :: As).toArray) free := by
  have hts := S.2.2.2.2
  exact va_runV (C := RJ0) S hM ⟨⟨rfl, rfl, w7.1, by show 8 + (maxL + 11) + 39 * k ≤ _; omega, jpay hts w1, List.mem_cons_self, hts _ w1, hts _ w4, w5, jpar w6, hts _ w2⟩, hts _ w3, hts _ w8⟩ ⟨PcJ.blind, vk_recv hJ.1 hi hS, fun U hU hW => ⟨rfl, hJ.to hS hA hU hW⟩⟩ hg hn hsize hstack hW hdg hf
end STRJ
abbrev QiJ (r : Int32) (sz : Nat) : Array Value → State → Outcome → State → Prop := va_Qi (S := Unit) (fun v _ => v = r) (fun _ _ => True) (NwA sz)
abbrev QvJ (sz : Nat) : Array Value → State → Outcome → State → Prop := va_Qv (S := Unit) (fun _ => True) (fun _ _ => True) (NwA sz)
theorem ts_J {args : Array Value} {s : State} {y : MethodName} {bytes : ByteArray} {maxL : Nat} {ret : Option FieldType} {rm : Room} (h : (headSpec (wsJ y bytes maxL ret) rm).pre.before args s = true) : ∀ w ∈ GWl, w.before args s = true := fun w hw => atoms_spec (ws := wsJ y bytes maxL ret) h w (List.mem_cons_of_mem _ hw)
theorem jm_cod (l : Launch) (adK adV : Nat → Nat) (sz i : Nat) (hi : i < 13) : Met l yJ0_coder_7d493 (wsJ yJ0_coder_7d493 cJ0_coder_7d493 1 (some .byte)) (rmJ 0) (va_Pc [.ref (adK i)] (PcJ adK adV sz)) (QiJ 0 sz) 0 0 (NwA sz) := by
  refine Met.ofWF (cc := cJ0_coder_7d493) (maxL := 1) (ret := some .byte) (by decide +kernel) rfl ?_
  intro p e s m args below meth c s₁ B hml hv
  obtain ⟨e1, hsz, hJ⟩ := hv
  subst e1
  have hown : s.vm.findClass RJ0 = some m.cls := findClass_of_methodNamed B.named
  have ts := ts_J B.pre
  show W p l e _ s m _ below meth c s.heap [] 0 0 _ (F0 m 0 #[.val (.ref (adK i))] [])
  refine va_gets B.exec B.bytes hJ.2.1 va_S.rf hown (ts _ jw_f_38) (fun _ h => h) (index := 38) (by decide +kernel) ?_
  refine lv_if_eq B.exec B.bytes (off := 10) (tgt := 13) (by decide +kernel) rfl (fun z => absurd z (by decide)) (fun _ => ?_)
  refine lv_aload_n B.exec B.bytes (k := 0) (i := 0) (by decide +kernel) rfl rfl ?_
  refine vk_getf B.exec B.bytes (hJ.1.1 i hi).2.1 va_S.rf hown (ts _ jw_f_15) (fun _ h => h) (index := 15) (by decide +kernel) ?_
  refine lv_goto B.exec B.bytes (off := 4) (tgt := 14) (by decide +kernel) rfl ?_
  have hlocks := B.notSynchronized
  exact W.zret (ty := .byte) B.exec B.bytes B.returns rfl (fun t ht _ => ⟨⟨0, (), rfl, rfl, trivial⟩, va_S.rf.F ht⟩) (fun _ h => by cases h) (by decide +kernel)
theorem jm_isl (l : Launch) (adK adV : Nat → Nat) (sz i : Nat) (hi : i < 13) : Met l yJ0_isLatin1_aae02 (wsJ yJ0_isLatin1_aae02 cJ0_isLatin1_aae02 1 (some .boolean)) (rmJ 0) (va_Pc [.ref (adK i)] (PcJ adK adV sz)) (QiJ 1 sz) 0 0 (NwA sz) := by
  refine Met.ofWF (cc := cJ0_isLatin1_aae02) (maxL := 1) (ret := some .boolean) (by decide +kernel) rfl ?_
  intro p e s m args below meth c s₁ B hml hv
  obtain ⟨e1, hsz, hJ⟩ := hv
  subst e1
  have hown : s.vm.findClass RJ0 = some m.cls := findClass_of_methodNamed B.named
  have ts := ts_J B.pre
  show W p l e _ s m _ below meth c s.heap [] 0 0 _ (F0 m 0 #[.val (.ref (adK i))] [])
  refine va_gets B.exec B.bytes hJ.2.1 va_S.rf hown (ts _ jw_f_38) (fun _ h => h) (index := 38) (by decide +kernel) ?_
  refine lv_if_eq B.exec B.bytes (off := 14) (tgt := 17) (by decide +kernel) rfl (fun z => absurd z (by decide)) (fun _ => ?_)
  refine lv_aload_n B.exec B.bytes (k := 0) (i := 0) (by decide +kernel) rfl rfl ?_
  refine vk_getf B.exec B.bytes (hJ.1.1 i hi).2.1 va_S.rf hown (ts _ jw_f_15) (fun _ h => h) (index := 15) (by decide +kernel) ?_
  refine lv_if_ne B.exec B.bytes (off := 7) (tgt := 17) (by decide +kernel) rfl (fun z => absurd rfl z) (fun _ => ?_)
  refine lv_iconst B.exec B.bytes (n := 1) (v := 1) (by decide +kernel) rfl ?_
  refine lv_goto B.exec B.bytes (off := 4) (tgt := 18) (by decide +kernel) rfl ?_
  have hlocks := B.notSynchronized
  exact W.zret (ty := .boolean) B.exec B.bytes B.returns rfl (fun t ht _ => ⟨⟨1, (), rfl, rfl, trivial⟩, va_S.rf.F ht⟩) (fun _ h => by cases h) (by decide +kernel)
theorem jm_len (l : Launch) (adK adV : Nat → Nat) (sz i : Nat) (hi : i < 13) : Met l yJ0_length_8abf5 (wsJ yJ0_length_8abf5 cJ0_length_8abf5 1 (some .int)) (rmJ 1) (va_Pc [.ref (adK i)] (PcJ adK adV sz)) (QiJ (Int32.ofNat (lenJ.getD i 0)) sz) 0 0 (NwA sz) := by
  refine Met.ofWF (cc := cJ0_length_8abf5) (maxL := 1) (ret := some .int) (by decide +kernel) rfl ?_
  intro p e s m args below meth c s₁ B hml hv
  obtain ⟨e1, hsz, hJ⟩ := hv
  subst e1
  have hown : s.vm.findClass RJ0 = some m.cls := findClass_of_methodNamed B.named
  have ts := ts_J B.pre
  subst hsz
  show W p l e _ s m _ below meth c s.heap [] 0 0 _ (F0 m 0 #[.val (.ref (adK i))] [])
  refine lv_aload_n B.exec B.bytes (k := 0) (i := 0) (by decide +kernel) rfl rfl ?_
  refine vk_getf B.exec B.bytes (hJ.1.1 i hi).2.2.1 va_S.rf hown (ts _ jw_f_9) (fun _ h => h) (index := 9) (by decide +kernel) ?_
  refine va_tlen B.exec B.bytes (hJ.1.1 i hi).2.2.2 va_S.rf rfl (by decide +kernel) ?_
  refine lv_aload_n B.exec B.bytes (k := 0) (i := 0) (by decide +kernel) rfl rfl ?_
  refine va_calli (j_runV (k := 0) (n := 0) (index := 335) (cc := cJ0_length_8abf5) (nL := 1) (own := RJ0) (As := []) ⟨B.exec, B.bytes, hml, hown, ts⟩ (jm_cod l adK adV _ i hi) hi jw_code_cod jw_link_RJ0_335 jw_in_cod jw_ini_RJ0 jw_sel_cod (by decide +kernel) (by decide +kernel) (by decide) hJ va_S.rf (fun _ h => h) rfl rfl rfl rfl (by show 0 + (1 + 0) ≤ 8; decide) (show decode cJ0_length_8abf5 6 = _ by decide +kernel) ⟨Nat.zero_le _, Nat.zero_le _⟩) va_S.rf (fun _ h h2 => absurd h (Nat.not_lt.mpr h2)) (fun _ h => h) ?_
  intro r u t H1 locs1 ht hvm hr _ hz hk hS1
  subst hr
  refine lv_ishr B.exec B.bytes (by decide +kernel) ?_
  have hlocks := B.notSynchronized
  have he : Int32.ofNat (lenJ.getD i 0) >>> ((0 : Int32) &&& 31) = Int32.ofNat (lenJ.getD i 0) := by
    have : ∀ j, j < 13 → Int32.ofNat (lenJ.getD j 0) >>> ((0 : Int32) &&& 31) = Int32.ofNat (lenJ.getD j 0) := by decide +kernel
    exact this i hi
  rw [he]
  exact W.zret (ty := .int) B.exec B.bytes B.returns rfl (fun t ht _ => ⟨⟨_, (), rfl, rfl, trivial⟩, hS1.F ht⟩) hS1.2.2 (by decide +kernel)
theorem jm_pre (l : Launch) (adK adV : Nat → Nat) (sz : Nat) (i n : Int32) (fm : Value) (h0 : ¬ i < 0) (h1 : i < n) (hfm : fm = .null ∨ ∃ t, fm = .ref t) : Met l yJ3_checkIndex_8e157 (wsJ yJ3_checkIndex_8e157 cJ3_checkIndex_8e157 3 (some .int)) (rmJ 0) (va_Pc [.int i, .int n, fm] (PcJ adK adV sz)) (QiJ i sz) 0 0 (NwA sz) := by
  refine Met.ofWF (cc := cJ3_checkIndex_8e157) (maxL := 3) (ret := some .int) (by decide +kernel) rfl ?_
  intro p e s m args below meth c s₁ B hml hv
  obtain ⟨e1, hsz, hJ⟩ := hv
  subst e1
  have he : entryFrame m [.int i, .int n, fm].toArray 3 = F0 m 0 #[.val (.int i), .val (.int n), .val fm] [] := by
    rcases hfm with z | ⟨t, z⟩ <;> subst z <;> rfl
  rw [he]
  refine lv_iload_n B.exec B.bytes (k := 0) (i := 0) (by decide +kernel) rfl rfl ?_
  refine lv_if_lt B.exec B.bytes (off := 8) (tgt := 9) (by decide +kernel) rfl (fun z => absurd z h0) (fun _ => ?_)
  refine lv_iload_n B.exec B.bytes (k := 0) (i := 0) (by decide +kernel) rfl rfl ?_
  refine lv_iload_n B.exec B.bytes (k := 1) (i := 1) (by decide +kernel) rfl rfl ?_
  refine lv_icmp_lt B.exec B.bytes (off := 10) (tgt := 16) (by decide +kernel) rfl (fun _ => ?_) (fun z => absurd h1 z)
  refine lv_iload_n B.exec B.bytes (k := 0) (i := 0) (by decide +kernel) rfl rfl ?_
  have hlocks := B.notSynchronized
  exact W.zret (ty := .int) B.exec B.bytes B.returns rfl (fun t ht _ => ⟨⟨_, (), rfl, rfl, trivial⟩, va_S.rf.F ht⟩) (fun _ h => by cases h) (by decide +kernel)
theorem jm_chk (l : Launch) (adK adV : Nat → Nat) (sz : Nat) (i n : Int32) (h0 : ¬ i < 0) (h1 : i < n) : Met l yJ0_checkIndex_df160 (wsJ yJ0_checkIndex_df160 cJ0_checkIndex_df160 2 none) (rmJ 1) (va_Pc [.int i, .int n] (PcJ adK adV sz)) (QvJ sz) 0 0 (NwA sz) := by
  refine Met.ofWF (cc := cJ0_checkIndex_df160) (maxL := 2) (ret := none) (by decide +kernel) rfl ?_
  intro p e s m args below meth c s₁ B hml hv
  obtain ⟨e1, hsz, hJ⟩ := hv
  subst e1
  have hown : s.vm.findClass RJ0 = some m.cls := findClass_of_methodNamed B.named
  have ts := ts_J B.pre
  subst hsz
  show W p l e _ s m _ below meth c s.heap [] 0 0 _ (F0 m 0 #[.val (.int i), .val (.int n)] [])
  refine lv_iload_n B.exec B.bytes (k := 0) (i := 0) (by decide +kernel) rfl rfl ?_
  refine lv_iload_n B.exec B.bytes (k := 1) (i := 1) (by decide +kernel) rfl rfl ?_
  obtain ⟨fm, hc, hZ⟩ : ∃ fm : Value, (fm = .null ∨ ∃ t, fm = .ref t) ∧ va_Z "jdk/internal/util/Preconditions" "SIOOBE_FORMATTER" "Ljava/util/function/BiFunction;" fm (NwA s.heap.size) s s.heap := by
    rcases hJ.2.2 with z | ⟨t, z⟩
    · exact ⟨_, Or.inl rfl, z⟩
    · exact ⟨_, Or.inr ⟨t, rfl⟩, z⟩
  refine va_gets B.exec B.bytes hZ va_S.rf hown (ts _ jw_f_1053) (fun _ h => h) (index := 1053) (by decide +kernel) ?_
  refine va_calli (j_runS (k := 0) (n := 3) (index := 1059) (cc := cJ0_checkIndex_df160) (nL := 2) (own := RJ0) (As := [.int i, .int n, fm]) (rest := []) ⟨B.exec, B.bytes, hml, hown, ts⟩ (jm_pre l adK adV _ i n fm h0 h1 hc) jw_code_pre jw_link_RJ0_1059 jw_st_pre jw_ini_RJ3 (by decide +kernel) (by decide +kernel) (by decide) hJ va_S.rf (fun _ h => h) rfl rfl rfl rfl (by show 0 + 0 ≤ 8; decide) (show decode cJ0_checkIndex_df160 5 = _ by decide +kernel) ⟨Nat.zero_le _, Nat.zero_le _⟩) va_S.rf (fun _ h h2 => absurd h (Nat.not_lt.mpr h2)) (fun _ h => h) ?_
  intro r u t H1 locs1 ht hvm hr _ hz hk hS1
  refine lv_pop B.exec B.bytes (by decide +kernel) rfl ?_
  have hlocks := B.notSynchronized
  exact W.vret B.exec B.bytes B.returns (fun t ht _ => ⟨⟨(), rfl, trivial, trivial⟩, hS1.F ht⟩) hS1.2.2 (by decide +kernel)
/-- the byte at k of the constant at i -/
def chJ (i k : Nat) : Int32 := (bytJ.getD i []).getD k 0
theorem chJ_ok : ∀ i, i < 13 → ∀ k, k < lenJ.getD i 0 → ((chJ i k &&& 255).toUInt32 % 65536).toInt32 = chJ i k ∧ (chJ i k).toUInt32.toUInt16.toUInt32.toInt32 = chJ i k := by decide +kernel
theorem inJ_ok : ∀ i, i < 13 → ∀ k, k < lenJ.getD i 0 → ¬ Int32.ofNat k < 0 ∧ Int32.ofNat k < Int32.ofNat (lenJ.getD i 0) ∧ (Int32.ofNat k).toNatClampNeg = k := by decide +kernel
theorem jm_cha1 (l : Launch) (adK adV : Nat → Nat) (sz i k : Nat) (hi : i < 13) (hk : k < lenJ.getD i 0) : Met l yJ1_charAt_3b067 (wsJ yJ1_charAt_3b067 cJ1_charAt_3b067 2 (some .char)) (rmJ 2) (va_Pc [.ref (adV i), .int (Int32.ofNat k)] (PcJ adK adV sz)) (QiJ (chJ i k) sz) 0 0 (NwA sz) := by
  refine Met.ofWF (cc := cJ1_charAt_3b067) (maxL := 2) (ret := some .char) (by decide +kernel) rfl ?_
  intro p e s m args below meth c s₁ B hml hv
  obtain ⟨e1, hsz, hJ⟩ := hv
  subst e1
  have hown : s.vm.findClass RJ1 = some m.cls := findClass_of_methodNamed B.named
  have ts := ts_J B.pre
  subst hsz
  obtain ⟨k1, k2, k3⟩ := inJ_ok i hi k hk
  obtain ⟨k4, k5⟩ := chJ_ok i hi k hk
  have hT := (hJ.1.1 i hi).2.2.2
  show W p l e _ s m _ below meth c s.heap [] 0 0 _ (F0 m 0 #[.val (.ref (adV i)), .val (.int (Int32.ofNat k))] [])
  refine lv_iload_n B.exec B.bytes (k := 1) (i := 1) (by decide +kernel) rfl rfl ?_
  refine lv_aload_n B.exec B.bytes (k := 0) (i := 0) (by decide +kernel) rfl rfl ?_
  refine va_tlen B.exec B.bytes hT va_S.rf rfl (by decide +kernel) ?_
  refine va_callv (j_runS (k := 1) (n := 2) (index := 9) (cc := cJ1_charAt_3b067) (nL := 2) (own := RJ1) (As := [.int (Int32.ofNat k), .int (Int32.ofNat (lenJ.getD i 0))]) (rest := []) ⟨B.exec, B.bytes, hml, hown, ts⟩ (jm_chk l adK adV _ _ _ k1 k2) jw_code_chk jw_link_RJ1_9 jw_st_chk jw_ini_RJ0 (by decide +kernel) (by decide +kernel) (by decide) hJ va_S.rf (fun _ h => h) rfl rfl rfl rfl (by show 0 + 0 ≤ 8; decide) (show decode cJ1_charAt_3b067 3 = _ by decide +kernel) ⟨Nat.zero_le _, Nat.zero_le _⟩) va_S.rf (fun _ h h2 => absurd h (Nat.not_lt.mpr h2)) (fun _ h => h) ?_
  intro u t H1 locs1 ht hvm hr _ hz hk hS1
  refine lv_aload_n B.exec B.bytes (k := 0) (i := 0) (by decide +kernel) rfl rfl ?_
  refine lv_iload_n B.exec B.bytes (k := 1) (i := 1) (by decide +kernel) rfl rfl ?_
  refine va_tb B.exec B.bytes hT hS1 (v := .int (chJ i k)) (by rintro (z | z); exact k1 z; rw [k3] at z; omega) (by rw [k3]; rfl) (by decide +kernel) ?_
  refine lv_sipush B.exec B.bytes (n := 255) (v := 255) (by decide +kernel) rfl ?_
  refine lv_iand B.exec B.bytes (by decide +kernel) ?_
  refine lv_i2c B.exec B.bytes (by decide +kernel) k4 ?_
  have hlocks := B.notSynchronized
  exact W.zret (ty := .char) B.exec B.bytes B.returns (by show Value.int _ = _; rw [k5]) (fun t ht _ => ⟨⟨_, (), rfl, rfl, trivial⟩, hS1.F ht⟩) hS1.2.2 (by decide +kernel)
theorem jm_cha (l : Launch) (adK adV : Nat → Nat) (sz i k : Nat) (hi : i < 13) (hk : k < lenJ.getD i 0) : Met l yJ0_charAt_5068e (wsJ yJ0_charAt_5068e cJ0_charAt_5068e 2 (some .char)) (rmJ 3) (va_Pc [.ref (adK i), .int (Int32.ofNat k)] (PcJ adK adV sz)) (QiJ (chJ i k) sz) 0 0 (NwA sz) := by
  refine Met.ofWF (cc := cJ0_charAt_5068e) (maxL := 2) (ret := some .char) (by decide +kernel) rfl ?_
  intro p e s m args below meth c s₁ B hml hv
  obtain ⟨e1, hsz, hJ⟩ := hv
  subst e1
  have hown : s.vm.findClass RJ0 = some m.cls := findClass_of_methodNamed B.named
  have ts := ts_J B.pre
  subst hsz
  obtain ⟨k4, k5⟩ := chJ_ok i hi k hk
  show W p l e _ s m _ below meth c s.heap [] 0 0 _ (F0 m 0 #[.val (.ref (adK i)), .val (.int (Int32.ofNat k))] [])
  refine lv_aload_n B.exec B.bytes (k := 0) (i := 0) (by decide +kernel) rfl rfl ?_
  refine va_calli (j_runV (k := 0) (n := 0) (index := 492) (cc := cJ0_charAt_5068e) (nL := 2) (own := RJ0) (As := []) (rest := []) ⟨B.exec, B.bytes, hml, hown, ts⟩ (jm_isl l adK adV _ i hi) hi jw_code_isl jw_link_RJ0_492 jw_in_isl jw_ini_RJ0 jw_sel_isl (by decide +kernel) (by decide +kernel) (by decide) hJ va_S.rf (fun _ h => h) rfl rfl rfl rfl (by show 0 + 0 ≤ 8; decide) (show decode cJ0_charAt_5068e 1 = _ by decide +kernel) ⟨Nat.zero_le _, Nat.zero_le _⟩) va_S.rf (fun _ h h2 => absurd h (Nat.not_lt.mpr h2)) (fun _ h => h) ?_
  intro r u t H1 locs1 ht hvm hr _ hz hkk hS1
  subst hr
  refine lv_if_eq B.exec B.bytes (off := 12) (tgt := 16) (by decide +kernel) rfl (fun z => absurd z (by decide)) (fun _ => ?_)
  refine lv_aload_n B.exec B.bytes (k := 0) (i := 0) (by decide +kernel) rfl rfl ?_
  refine vk_getf B.exec B.bytes (hJ.1.1 i hi).2.2.1 hS1 hown (ts _ jw_f_9) (fun _ h => h) (index := 9) (by decide +kernel) ?_
  refine lv_iload_n B.exec B.bytes (k := 1) (i := 1) (by decide +kernel) rfl rfl ?_
  refine va_calli (j_runS (k := 2) (n := 2) (index := 495) (cc := cJ0_charAt_5068e) (nL := 2) (own := RJ0) (As := [.ref (adV i), .int (Int32.ofNat k)]) (rest := []) ⟨B.exec, B.bytes, hml, hown, ts⟩ (jm_cha1 l adK adV _ i k hi hk) jw_code_cha1 jw_link_RJ0_495 jw_st_cha1 jw_ini_RJ1 (by decide +kernel) (by decide +kernel) (by decide) hJ hS1 (fun _ h => Nat.le_trans hz h) rfl rfl rfl rfl (by show 0 + 0 ≤ 8; decide) (show decode cJ0_charAt_5068e 12 = _ by decide +kernel) ⟨Nat.zero_le _, Nat.zero_le _⟩) hS1 (fun _ h h2 => absurd h (Nat.not_lt.mpr h2)) (fun _ h => Nat.le_trans hz h) ?_
  intro r u t H2 locs2 ht hvm hr _ hz2 hkk2 hS2
  subst hr
  have hlocks := B.notSynchronized
  exact W.zret (ty := .char) B.exec B.bytes B.returns (by show Value.int _ = _; rw [k5]) (fun t ht _ => ⟨⟨_, (), rfl, rfl, trivial⟩, hS2.F ht⟩) hS2.2.2 (by decide +kernel)
/-- base 27 -/
def cvJ (i : Nat) : Nat → Int32
  | 0 => 0
  | k + 1 => cvJ i k * 27 + chJ i k - 97 + 1
theorem cvJ_ok : ∀ i, i < 8 → cvJ i (lenJ.getD i 0) = (cdT.getD i (0, 0)).2 ∧ (strJ.getD i ("", 0, "", 0)) = (RX2, (cdT.getD i (0, 0)).1, (strJ.getD i ("", 0, "", 0)).2.2.1, i) := by decide +kernel
theorem stepJ_ok : ∀ i, i < 13 → ∀ k, k < lenJ.getD i 0 → Int32.ofNat k + Int32.ofInt 1 = Int32.ofNat (k + 1) := by decide +kernel
theorem jm_cof (l : Launch) (adK adV : Nat → Nat) (sz i : Nat) (hi : i < 13) : Met l yX2_codeOf (wsJ yX2_codeOf cX2_codeOf 3 (some .int)) (rmJ 4) (va_Pc [.ref (adK i)] (PcJ adK adV sz)) (QiJ (cvJ i (lenJ.getD i 0)) sz) 0 0 (NwA sz) := by
  refine Met.ofWF (cc := cX2_codeOf) (maxL := 3) (ret := some .int) (by decide +kernel) rfl ?_
  intro p e s m args below meth c s₁ B hml hv
  obtain ⟨e1, hsz, hJ⟩ := hv
  subst e1
  have hown : s.vm.findClass RX2 = some m.cls := findClass_of_methodNamed B.named
  have ts := ts_J B.pre
  subst hsz
  have hlocks := B.notSynchronized
  have loop : ∀ d k, k + d = lenJ.getD i 0 → ∀ (H1 : Heap) (locs1 : List Loc) (ls1 : Array Slot), va_S (NwA s.heap.size) s.heap H1 locs1 → lv_has ls1 3 [(2, .int (Int32.ofNat k)), (1, .int (cvJ i k)), (0, .ref (adK i))] → W p l e (headSpec (wsJ yX2_codeOf cX2_codeOf 3 (some .int)) (rmJ 4)).room s m [Value.ref (adK i)].toArray below meth c H1 locs1 0 0 (MQ below (QiJ (cvJ i (lenJ.getD i 0)) s.heap.size) [Value.ref (adK i)].toArray s 0 0 (NwA s.heap.size)) (F0 m 4 ls1 []) := by
    intro d
    have call1 : ∀ k, ∀ (H1 : Heap) (locs1 : List Loc) (ls1 : Array Slot), va_S (NwA s.heap.size) s.heap H1 locs1 → lv_has ls1 3 [(2, .int (Int32.ofNat k)), (1, .int (cvJ i k)), (0, .ref (adK i))] →
        (∀ (H2 : Heap) (locs2 : List Loc), va_S (NwA s.heap.size) s.heap H2 locs2 → W p l e (headSpec (wsJ yX2_codeOf cX2_codeOf 3 (some .int)) (rmJ 4)).room s m [Value.ref (adK i)].toArray below meth c H2 locs2 0 0 (MQ below (QiJ (cvJ i (lenJ.getD i 0)) s.heap.size) [Value.ref (adK i)].toArray s 0 0 (NwA s.heap.size)) (F0 m 9 ls1 [.int (Int32.ofNat (lenJ.getD i 0)), .int (Int32.ofNat k)])) →
        W p l e (headSpec (wsJ yX2_codeOf cX2_codeOf 3 (some .int)) (rmJ 4)).room s m [Value.ref (adK i)].toArray below meth c H1 locs1 0 0 (MQ below (QiJ (cvJ i (lenJ.getD i 0)) s.heap.size) [Value.ref (adK i)].toArray s 0 0 (NwA s.heap.size)) (F0 m 4 ls1 []) := by
      intro k H1 locs1 ls1 hS1 hls kk
      refine lv_iload_n B.exec B.bytes (k := 2) (i := 2) (by decide +kernel) rfl (lv_at hls 0 rfl) ?_
      refine lv_aload_n B.exec B.bytes (k := 0) (i := 0) (by decide +kernel) rfl (lv_at hls 2 rfl) ?_
      have hz := hS1.1
      refine va_calli (j_runV (k := 1) (n := 0) (index := 216) (cc := cX2_codeOf) (nL := 3) (own := RX2) (As := []) (rest := [.int (Int32.ofNat k)]) ⟨B.exec, B.bytes, hml, hown, ts⟩ (jm_len l adK adV _ i hi) hi jw_code_len jw_link_RX2_216 jw_in_len jw_ini_RJ0 jw_sel_len (by decide +kernel) (by decide +kernel) (by decide) hJ hS1 (fun _ h => Nat.le_trans hz h) rfl rfl hls.1 rfl (by show 0 + (1 + 0) ≤ 8; decide) (show decode cX2_codeOf 6 = _ by decide +kernel) ⟨Nat.zero_le _, Nat.zero_le _⟩) hS1 (fun _ h h2 => absurd h (Nat.not_lt.mpr h2)) (fun _ h => Nat.le_trans hz h) ?_
      intro r u t H2 locs2 ht hvm hr _ hz2 hkk2 hS2
      subst hr
      exact kk H2 locs2 hS2
    induction d with
    | zero =>
      intro k hk H1 locs1 ls1 hS1 hls
      have hk : k = lenJ.getD i 0 := by omega
      subst hk
      refine call1 _ H1 locs1 ls1 hS1 hls (fun H2 locs2 hS2 => ?_)
      refine lv_icmp_ge B.exec B.bytes (off := 25) (tgt := 34) (by decide +kernel) rfl (fun _ => ?_) (fun z => absurd (Int32.le_refl _) z)
      refine lv_iload_n B.exec B.bytes (k := 1) (i := 1) (by decide +kernel) rfl (lv_at hls 1 rfl) ?_
      exact W.zret (ty := .int) B.exec B.bytes B.returns rfl (fun t ht _ => ⟨⟨_, (), rfl, rfl, trivial⟩, hS2.F ht⟩) hS2.2.2 (by decide +kernel)
    | succ d ih =>
      intro k hk H1 locs1 ls1 hS1 hls
      have hkl : k < lenJ.getD i 0 := by omega
      obtain ⟨k1, k2, k3⟩ := inJ_ok i hi k hkl
      refine call1 _ H1 locs1 ls1 hS1 hls (fun H2 locs2 hS2 => ?_)
      refine lv_icmp_ge B.exec B.bytes (off := 25) (tgt := 34) (by decide +kernel) rfl (fun z => absurd k2 (Int32.not_lt.mpr z)) (fun _ => ?_)
      refine lv_iload_n B.exec B.bytes (k := 1) (i := 1) (by decide +kernel) rfl (lv_at hls 1 rfl) ?_
      refine lv_bipush B.exec B.bytes (n := 27) (v := 27) (by decide +kernel) rfl ?_
      refine lv_imul B.exec B.bytes (by decide +kernel) ?_
      refine lv_aload_n B.exec B.bytes (k := 0) (i := 0) (by decide +kernel) rfl (lv_at hls 2 rfl) ?_
      refine lv_iload_n B.exec B.bytes (k := 2) (i := 2) (by decide +kernel) rfl (lv_at hls 0 rfl) ?_
      have hz := hS2.1
      refine va_calli (j_runV (k := 3) (n := 1) (index := 221) (cc := cX2_codeOf) (nL := 3) (own := RX2) (As := [.int (Int32.ofNat k)]) (rest := [.int (cvJ i k * 27)]) ⟨B.exec, B.bytes, hml, hown, ts⟩ (jm_cha l adK adV _ i k hi hkl) hi jw_code_cha jw_link_RX2_221 jw_in_cha jw_ini_RJ0 jw_sel_cha (by decide +kernel) (by decide +kernel) (by decide) hJ hS2 (fun _ h => Nat.le_trans hz h) rfl rfl hls.1 rfl (by show 0 + (1 + 0) ≤ 8; decide) (show decode cX2_codeOf 18 = _ by decide +kernel) ⟨Nat.zero_le _, Nat.zero_le _⟩) hS2 (fun _ h h2 => absurd h (Nat.not_lt.mpr h2)) (fun _ h => Nat.le_trans hz h) ?_
      intro r u t H3 locs3 ht hvm hr _ hz2 hkk2 hS3
      subst hr
      refine lv_iadd B.exec B.bytes (by decide +kernel) ?_
      refine lv_bipush B.exec B.bytes (n := 97) (v := 97) (by decide +kernel) rfl ?_
      refine lv_isub B.exec B.bytes (by decide +kernel) ?_
      refine lv_iconst B.exec B.bytes (n := 1) (v := 1) (by decide +kernel) rfl ?_
      refine lv_iadd B.exec B.bytes (by decide +kernel) ?_
      refine lv_istore_n B.exec B.bytes (k := 1) (i := 1) (by decide +kernel) rfl hls (by decide) rfl (fun ls2 hls2 => ?_)
      refine lv_iinc B.exec B.bytes (i := 2) (k := 1) (n := 1) (by decide +kernel) hls2 rfl (stepJ_ok i hi k hkl) (by decide) rfl (fun ls3 hls3 => ?_)
      refine lv_goto B.exec B.bytes (off := -27) (tgt := 4) (by decide +kernel) rfl ?_
      refine ih (k + 1) (by omega) H3 locs3 ls3 hS3 ⟨hls3.1, hls3.2.1, fun q hq => hls3.2.2 q ?_⟩
      simp only [List.mem_cons, List.not_mem_nil, or_false] at hq
      rcases hq with z | z | z <;> subst z <;> simp [cvJ, Value.category]
  have he : lv_has (#[.val (.ref (adK i)), .unset, .unset] : Array Slot) 3 [(0, .ref (adK i))] := lv_entry [.ref (adK i)] (n := 3) (Nat.le_of_ble_eq_true rfl)
  show W p l e _ s m _ below meth c s.heap [] 0 0 _ (F0 m 0 #[.val (.ref (adK i)), .unset, .unset] [])
  refine lv_iconst B.exec B.bytes (n := 0) (v := 0) (by decide +kernel) rfl ?_
  refine lv_istore_n B.exec B.bytes (k := 1) (i := 1) (by decide +kernel) rfl he (by decide) rfl (fun ls2 hls2 => ?_)
  refine lv_iconst B.exec B.bytes (n := 0) (v := 0) (by decide +kernel) rfl ?_
  refine lv_istore_n B.exec B.bytes (k := 2) (i := 2) (by decide +kernel) rfl hls2 (by decide) rfl (fun ls3 hls3 => ?_)
  exact loop (lenJ.getD i 0) 0 (by omega) s.heap [] ls3 va_S.rf hls3
section CODEOK
variable {p : Program} {l : Launch} {e : Env} {R : Room} {s : State} {m : MethodId} {args : Array Value} {below : List Frame} {meth : Method} {c : Code} {Q : State → Prop} {i b : Nat} {ca : Nat → ClassId} {D : va_G} {A : Nat → Prop} {scr : Option SC}
theorem code_ok (C : Ctx p R s m args meth c i b ca D A scr) : CodeOK p l e R s m args below meth c Q i b ca D A := by
  intro hm hv ι ls st h H locs ls0 cells slots pc k v hk hd hd2 hsum hcl hsl hR kk
  obtain ⟨j, hj, e1, e2⟩ : ∃ j, j < 8 ∧ (cdT.getD j (0, 0)).1 = k ∧ (cdT.getD j (0, 0)).2 = v := by
    have h1 : (k, v) ∈ cdT := by
      rw [List.lookup_eq_some_iff] at hk
      obtain ⟨l1, l2, h1, -⟩ := hk
      rw [h1]
      simp
    obtain ⟨j, hj, h2⟩ := List.getElem_of_mem h1
    refine ⟨j, hj, ?_, ?_⟩ <;> rw [List.getD_eq_getElem?_getD, List.getElem?_eq_getElem hj, h2] <;> rfl
  subst e1
  subst e2
  obtain ⟨⟨adK, adV, z1, z2⟩, z3, z4, z5, z6, z7⟩ := C.zk
  obtain ⟨g1, g2⟩ := cvJ_ok j hj
  have g3 := z2 (strJ.getD j ("", 0, "", 0)) (by
    have : j < strJ.length := by show j < 13; omega
    rw [List.getD_eq_getElem?_getD, List.getElem?_eq_getElem this]
    exact List.getElem_mem this)
  rw [g2] at g3
  have hown : s.vm.findClass RX2 = some m.cls := by have := C.own; rw [hm] at this; exact this
  have hJ : JZ adK adV A s := ⟨z1, z5, z7⟩
  have hd := cd_ok hd
  have hd2 := cd_ok hd2
  refine va_ldcS C.1 C.2.1 hown g3 hd ?_
  have hfr := C.fr
  have hlo := C.lo
  have hS := hR.2.2.1
  have hz := hS.1
  have hA : ∀ q, H.size ≤ q → A q := fun q hq => C.hA q (Nat.le_trans hz hq)
  refine va_calli (j_runS (k := 4) (n := 1) (index := 11) (cc := mB i) (nL := mX i) (own := RX2) (As := [.ref (adK j)]) (rest := st.map (vm9 ι b)) ⟨C.1, C.2.1, C.2.2.1, hown, C.ts⟩ (jm_cof l adK adV _ j (by omega)) jw_code_cof jw_link_RX2_11 jw_st_cof jw_ini_RX2 (by decide +kernel) (by decide +kernel) ⟨by omega, by omega, by decide⟩ hJ hS hA rfl rfl hR.lv.1 rfl (lv_room (m := m) (pc := pc) (ls := ls0) (rest := .ref (adK j) :: st.map (vm9 ι b)) (by rw [cat_vm]; exact hsum)) hd2 ⟨hcl, hsl⟩) hS (fun _ h h2 => absurd h (Nat.not_lt.mpr h2)) hA ?_
  intro r u t H1 locs1 ht hvm hr _ hz1 hkk hS1
  subst hr
  rw [g1]
  refine kk H1 locs1 ⟨hR.1.kept (fun k2 q hk2 => hkk q.1 (vx_lt hR.1 hk2) (Nat.not_le.mpr (vx_lt hR.1 hk2))), hR.2.1, hS1, hR.lv, hR.fl, fk_i hR.fs, hR.2.2.2.2.2.2⟩
end CODEOK
end
section
/-! ===== every method keeps its contract ===== -/
theorem nxt_ret0 {scr : Option SC} {i pc : Nat} {ls st : List Value} {h h1 : Hp} {v : Int32} (hn : nxt scr (i, pc, ls, st) h = some (.inr (.inr (.inr ((0, v), h1))))) : decode (mB i) pc = .ok (.ireturn, 1) ∧ st = [.int v] ∧ h1 = h ∧ (mR i = some .int ∨ (mR i = some .boolean ∧ (v = 0 ∨ v = 1))) := by
  unfold nxt at hn
  cases hcd : cd i pc with
  | none => simp only [hcd] at hn; cases hn
  | some w =>
    obtain ⟨ins, len⟩ := w
    simp only [hcd] at hn
    by_cases hlen : len = iln ins ∨ iln ins = 0
    case neg => rw [if_neg hlen] at hn; cases hn
    rw [if_pos hlen] at hn
    have hd := cd_ok hcd
    cases ins with
    | ireturn =>
      have hlen : len = _ := hlen.elim id (fun z => absurd z (by simp [iln]))
      rw [hlen] at hd
      unfold nx1 at hn
      dsimp only at hn
      split at hn
      · split at hn
        · rename_i hc
          cases hn
          exact ⟨hd, rfl, rfl, hc⟩
        · cases hn
      · cases hn
    | _ =>
      exfalso
      unfold nx1 at hn
      simp only [gO, gB, gC] at hn
      revert hn
      repeat' split
      all_goals (intro hn; cases hn)
theorem nxt_ret1 {scr : Option SC} {i pc : Nat} {ls st : List Value} {h h1 : Hp} {v : Int32} (hn : nxt scr (i, pc, ls, st) h = some (.inr (.inr (.inr ((1, v), h1))))) : decode (mB i) pc = .ok (.return_, 1) ∧ st = [] ∧ h1 = h ∧ mR i = none := by
  unfold nxt at hn
  cases hcd : cd i pc with
  | none => simp only [hcd] at hn; cases hn
  | some w =>
    obtain ⟨ins, len⟩ := w
    simp only [hcd] at hn
    by_cases hlen : len = iln ins ∨ iln ins = 0
    case neg => rw [if_neg hlen] at hn; cases hn
    rw [if_pos hlen] at hn
    have hd := cd_ok hcd
    cases ins with
    | return_ =>
      have hlen : len = _ := hlen.elim id (fun z => absurd z (by simp [iln]))
      rw [hlen] at hd
      unfold nx1 at hn
      dsimp only at hn
      split at hn
      · split at hn
        · rename_i hc
          cases hn
          exact ⟨hd, rfl, rfl, hc⟩
        · cases hn
      · cases hn
    | _ =>
      exfalso
      unfold nx1 at hn
      simp only [gO, gB, gC] at hn
      revert hn
      repeat' split
      all_goals (intro hn; cases hn)
theorem own_cls {j : Nat} (hj : j < 281) : (mY j).cls = rN (mC j) := (mfact hj).2.2.2.1
/-- a method's body, from its entry -/
theorem entry_ok {j : Nat} (hj : j < 281) {as : List Value} {h : Hp} (hlen : as.length = mN j + (if mS j then 0 else 1)) (hall : as.all argOk = true) (hfas : fOk (knx h.2) as) (hho : hOk h) {l : Launch} {D : va_G} {ca : Nat → ClassId} {ι : Nat → Nat} {sz mc ms : Nat}
    {p : Program} {e : Env} {s : State} {m : MethodId} {args : Array Value} {below : List Frame} {meth : Method} {c : Code} {s₁ : State} (B : BodyLoose p l (mY j) (headSpec (wsM j) (rmM j mc ms)) (mB j) (mX j) (mR j) e s m args below meth c s₁) (hml : c.maxLocals = mX j) (hv : va_Pc (as.map (vm9 ι 0)) (PcB D ca sz ι h) args s) :
    ∃ ls0, entryFrame m args (mX j) = F0 m 0 ls0 [] ∧ Ctx p (headSpec (wsM j) (rmM j mc ms)).room s m args meth c j 0 ca D (va_A (wsO ι ca h) sz) none ∧ RepS s ι 0 ca D (va_A (wsO ι ca h) sz) (mX j) (as ++ List.replicate (mX j - as.length) (.retAddr 0)) [] h s.heap [] ls0 ∧ s.heap.size = sz := by
  obtain ⟨e1, hsz, hP, hD0, hT, hZ⟩ := hv
  obtain ⟨f1, f2, f3, f4, f5, f6, f7, f8, f9⟩ := mfact hj
  have hown : s.vm.findClass (mY j).cls = some m.cls := findClass_of_methodNamed B.named
  have hts := atoms_spec (ws := wsM j) B.pre
  refine ⟨(lg_sl (as.map (vm9 ι 0)) ++ List.replicate (mX j - (lg_sl (as.map (vm9 ι 0))).length) Slot.unset).toArray, by rw [e1]; exact lg_entry_eq _ _ _, ⟨B.exec, B.bytes, hml, by rw [← f4]; exact hown, fun w hw hg => hts w (List.mem_cons_of_mem _ (GWl_in hw hg)), hT.2.1, hT.2.2, hZ, hT.1, fun q hq => Or.inr (by rw [← hsz]; exact hq), fun sc hs => by (cases hs), (fun z => (name_of_methodNamed B.named B.method).1.trans z), Nat.le_refl _, Nat.le_refl _, mC_10 hj⟩, ⟨hP, hD0.self, va_S.rf, lvR_entry (argOk_cat hall) (by rw [hlen]; exact f9), fun v hv a he => ?_, fun v hv => absurd hv List.not_mem_nil, hho⟩, hsz⟩
  rcases List.mem_append.mp hv with z | z
  · exact hfas v z a he
  · rw [(List.mem_replicate.mp z).2] at he
    cases he
theorem met_ok : ∀ n, MetI n ∧ MetV n := by
  intro n
  induction n using Nat.strongRecOn with
  | _ n ih =>
    have no_help : ∀ {j : Nat}, j < 281 → ∀ {p : Program} {l : Launch} {e : Env} {R : Room} {s : State} {m : MethodId} {args : Array Value} {below : List Frame} {meth : Method} {c : Code} {Q : State → Prop} {b : Nat} {ca : Nat → ClassId} {D : va_G} {A : Nat → Prop}, HelpAt n p l e R s m args below meth c Q j b ca D A none := by
      intro j hj p l e R s m args below meth c Q b ca D A ι ls st h H locs ls0 cells slots pc q w h2 hn
      have h9 := nxt_help hn
      exfalso
      have h3 : j < mTab.length := by rw [mTab_len]; omega
      have hd : (mTab.take 281).all (fun r => decide (r.2.2.2.2.1 ≠ 9)) = true := by decide +kernel
      have hm : mTab[j] ∈ mTab.take 281 := List.mem_of_getElem? (i := j) (by rw [List.getElem?_take_of_lt hj, List.getElem?_eq_getElem h3])
      have h1 := List.all_eq_true.mp hd _ hm
      have hg : mG j = mTab[j] := by unfold mG; rw [List.getD_eq_getElem?_getD, List.getElem?_eq_getElem h3]; rfl
      unfold mC at h9
      rw [hg] at h9
      simp [h9] at h1
    constructor
    · intro j as h v h1 hx hj hr hlen hall hfas hho l D ca ι sz
      refine Met.ofWF (cc := mB j) (maxL := mX j) (ret := mR j) (mfact hj).2.2.2.2.2.2.1 rfl ?_
      intro p e s m args below meth c s₁ B hml hv
      obtain ⟨ls0, he, C, hR, hsz⟩ := entry_ok hj hlen hall hfas hho B hml hv
      rw [he]
      refine body_ok (l := l) (e := e) (below := below) n (fun k hk => (ih k hk).1) (fun k hk => (ih k hk).2) C (code_ok C) n (Nat.le_refl n) (no_help hj) 0 _ [] h (0, v) h1 hx ι s.heap [] ls0 0 0 hR (by rw [Nat.zero_add]; exact Nat.le_refl _) (by rw [Nat.zero_add]; exact Nat.le_refl _) ?_
      intro ι1 H1 locs1 ls1 pc1 lsx stx hx1 hι m1 hn1 hR1
      obtain ⟨d1, d2, d3, d4⟩ := nxt_ret0 hn1
      subst d2
      subst d3
      rw [Nat.zero_add, Nat.zero_add]
      have hq : ∀ t : State, t.heap = H1 → s.WarmedH t.vm → va_Qi (fun r u => r = v ∧ AgM ι h h1 u) (BM D ca sz ι h h1) (va_A (wsO ι ca h) sz) args s (.returned (some (.int v))) t := fun t ht _ => ⟨⟨v, ι1, rfl, ⟨rfl, hι, hR1.2.2.2.2.2.2⟩, by rw [ht]; exact hR1.1, hR1.2.1⟩, hR1.2.2.1.F ht⟩
      have hlocks := B.notSynchronized
      rcases d4 with d4 | ⟨d4, d5⟩
      · exact W.zret (ty := .int) B.exec B.bytes (B.returns.trans d4) rfl hq hR1.2.2.1.2.2 d1
      · exact W.zret (ty := .boolean) B.exec B.bytes (B.returns.trans d4) (by rcases d5 with z | z <;> subst z <;> decide) hq hR1.2.2.1.2.2 d1
    · intro j as h v h1 hx hj hr hlen hall hfas hho l D ca ι sz
      refine Met.ofWF (cc := mB j) (maxL := mX j) (ret := mR j) (mfact hj).2.2.2.2.2.2.1 rfl ?_
      intro p e s m args below meth c s₁ B hml hv
      obtain ⟨ls0, he, C, hR, hsz⟩ := entry_ok hj hlen hall hfas hho B hml hv
      rw [he]
      refine body_ok (l := l) (e := e) (below := below) n (fun k hk => (ih k hk).1) (fun k hk => (ih k hk).2) C (code_ok C) n (Nat.le_refl n) (no_help hj) 0 _ [] h (1, v) h1 hx ι s.heap [] ls0 0 0 hR (by rw [Nat.zero_add]; exact Nat.le_refl _) (by rw [Nat.zero_add]; exact Nat.le_refl _) ?_
      intro ι1 H1 locs1 ls1 pc1 lsx stx hx1 hι m1 hn1 hR1
      obtain ⟨d1, d2, d3, d4⟩ := nxt_ret1 hn1
      subst d2
      subst d3
      rw [Nat.zero_add, Nat.zero_add]
      have hlocks := B.notSynchronized
      exact W.vret B.exec B.bytes (B.returns.trans d4) (fun t ht _ => ⟨⟨ι1, rfl, ⟨hι, hR1.2.2.2.2.2.2⟩, by rw [ht]; exact hR1.1, hR1.2.1⟩, hR1.2.2.1.F ht⟩) hR1.2.2.1.2.2 d1
end
section
/-! ===== 'throw new E("text")' for any index of the constructor's first link (turned from the kit's row for index 7) ===== -/
def gxAt (own : String) (ic : Nat) (X Y : String) (names : List String) (i1 : Nat) (b1 : ByteArray) : List Cond :=
  Bundle.throwableAtoms ++ Bundle.throwableSAtoms ++ (Bundle.passSAtoms X Y i1 b1 ++ Bundle.chainSAtoms Y names) ++
  [.methodLink own ic (Bundle.initS X), .instantiable X 6, .castable X X, .selects X Bundle.tFill0 Bundle.tFill0, .selects X Bundle.tFill Bundle.tFill,
   .lays X Bundle.tN "cause" "Ljava/lang/Throwable;", .lays X Bundle.tN "stackTrace" Bundle.steD, .lays X Bundle.tN "suppressedExceptions" Bundle.listD, .lays X Bundle.tN "detailMessage" "Ljava/lang/String;",
   .isRef (.static Bundle.tN "UNASSIGNED_STACK" Bundle.steD), .isRef (.static Bundle.tN "SUPPRESSED_SENTINEL" Bundle.listD),
   .fieldLink Bundle.tN 198 Bundle.tN "backtrace" "Ljava/lang/Object;", .lays Bundle.tN Bundle.tN "backtrace" "Ljava/lang/Object;", .lays X Bundle.tN "backtrace" "Ljava/lang/Object;"]
def gxAtS (own : String) (ic : Nat) (X Y : String) (names : List String) (i1 : Nat) (b1 : ByteArray) : List Cond := (gxAt own ic X Y names i1 b1).filter vx_no
theorem gx_chain {args : Array Value} {s : State} {pl : Platform} (hpl : pl.magicAccessors = ({} : Platform).magicAccessors) {top : MethodId} (htop : s.methodNamed? (Bundle.initS Bundle.tN) = some top) {i1 : Nat} {b1 : ByteArray} (names : List String) (X Y : String) (hX : Bundle.fit X = true) (hY : Bundle.fit Y = true) (hn : ∀ n ∈ names, Bundle.fit n = true)
    (z0 : decode b1 0 = .ok (.aload_n 0, 1)) (z1 : decode b1 1 = .ok (.aload_n 1, 1)) (z2 : decode b1 2 = .ok (.invokespecial i1, 3)) (z5 : decode b1 5 = .ok (.return_, 1)) (h : ∀ c ∈ Bundle.passSAtoms X Y i1 b1 ++ Bundle.chainSAtoms Y names, c.before args s = true) :
      ∃ (P1 : PassC) (Ps : List PassC), Ps.length = names.length + 1 ∧ P1.LinksS pl s ∧ (∀ P, P ∈ Ps → P.LinksS pl s) ∧ s.methodNamed? (Bundle.initS X) = some P1.m ∧
        P1.sup = firstOf top (Ps.map (·.toPassT)) ∧ PassesOn top (Ps.map (·.toPassT)) := by
  obtain ⟨P, L, hm, hs⟩ := PassC.ofS_atoms (args := args) (s := s) hpl (X := X) (Y := Y) (Bundle.fit_spec hX).1 (Bundle.fit_spec hY).2 z0 z1 z2 z5 (fun c hc => h c (List.mem_append_left _ hc))
  obtain ⟨P', Ps, hlen, L', hL, hm', hsup, hpass⟩ := Bundle.chainS (args := args) hpl htop names Y hY hn (fun c hc => h c (List.mem_append_right _ hc))
  refine ⟨P, P' :: Ps, by simp [hlen], L, ?_, hm, Option.some.inj (hs.symm.trans hm'), hsup, hpass⟩
  intro Q hQ
  rcases List.mem_cons.mp hQ with rfl | hQ
  · exact L'
  · exact hL Q hQ
section GX1
variable {p : Program} {l : Launch} {e : Env} {R : Room} {s : State} {m₀ : MethodId} {args : Array Value} {below : List Frame} {meth : Method} {c : Code} {W : State} {locs : List Loc} {cells slots : Nat}
set_option maxHeartbeats 1000000 in
theorem gx_ctor (X : Stand p l e R s m₀ args below meth c W locs cells slots) (hexec : p.tables.exec = Jvm.exec) (htr : e.platform.stackTraces = false) {own cls : String} {Y1 : String} {names : List String} {ic i1 : Nat} {b1 : ByteArray}
    (hown : s.vm.findClass own = some m₀.cls) (hcls : Bundle.fit cls = true) (hY1 : Bundle.fit Y1 = true) (hnames : ∀ n ∈ names, Bundle.fit n = true) (z0 : decode b1 0 = .ok (.aload_n 0, 1)) (z1 : decode b1 1 = .ok (.aload_n 1, 1)) (z2 : decode b1 2 = .ok (.invokespecial i1, 3)) (z5 : decode b1 5 = .ok (.return_, 1))
    (h : ∀ a ∈ gxAt own ic cls Y1 names i1 b1, a.before args s = true)
    (hlocs : ∀ x ∈ locs, ∀ cell, s.heap[x.base]? = some cell → cell.vm.isStatics = false)
    {a : Addr} {cX : ClassId} {kX : Class} (hfoundX : s.vm.findClass cls = some cX) (hkX : s.vm.classes[cX]? = some kX) (hcell : W.heap[a]? = some (freshCell cX kX)) (hnew : s.heap.size ≤ a)
    {msg : Value} (hmsg : msg.isRef = true)
    {g : JFrame} (hg : g.method = m₀) (hsize : g.locals.size = c.maxLocals) (hlocked : g.locked = none) (hentered : g.entered = []) {rest : List Value} (hstack : g.stack = msg :: .ref a :: .ref a :: rest)
    (hd6 : decode c.code g.pc = .ok (.invokespecial ic, 3)) (hd9 : decode c.code (g.pc + 3) = .ok (.athrow, 1)) (hout : ∀ x ∈ c.exceptionTable.toList, covers x (g.pc + 3) = false)
    (hRframes : names.length + 4 < R.frames) (hRlocals : 2 * g.monitorRoom + ((Value.ref a :: rest).map fun v => v.category).sum + (13 * (names.length + 2) + 42) ≤ R.locals) (hlocks : meth.locks = false := by first | assumption | exact BodyLoose.notSynchronized (by assumption) | exact Body.notSynchronized (by assumption)) :
    ∃ U : State, Steps p.tables e below (W.setTop g) U ∧ U.status = .running ∧ Ended U below (.threw a) ∧ s.WarmedH U.vm ∧ s.sameButNew ({ U with vm := s.vm } : State) locs cells slots ∧
      ∃ ce, U.heap[a]? = some ce ∧ ce.vm = .none ∧ s.vm.findClass cls = some ce.cls := by
  have howns : e.platform.frameOwnsMonitors = true := by rw [X.admits.platform]
  have hfin : e.platform.finalization = false := by rw [X.admits.platform]
  have hpl : e.platform.magicAccessors = ({} : Platform).magicAccessors := by rw [X.admits.platform]
  have a' : ∀ x, x ∈ gxAt own ic cls Y1 names i1 b1 → x.holds args s none s [] = true := fun x hx => h x hx
  obtain ⟨T, Z0, L, -, Y⟩ := ThrowableC.of_atoms (args := args) howns hfin hpl (fun x hx => h x (by simp [gxAt, hx]))
  obtain ⟨Z, M, LZ, LM, hnZ⟩ := Init0T.ofS_atoms (args := args) hpl L Y (fun x hx => h x (by simp [gxAt, hx]))
  obtain ⟨P1, Ps, hlen, L1, hL, hP1m, hlink1, hlink⟩ := gx_chain (args := args) hpl hnZ names cls Y1 hcls hY1 hnames z0 z1 z2 z5 (fun x hx => h x (by simp only [gxAt, List.mem_append]; simp only [List.mem_append] at hx; simp [hx]))
  have hfound : s.vm.findClass cls = some P1.m.cls := findClass_of_methodNamed hP1m
  cases Option.some.inj (hfoundX.symm.trans hfound)
  obtain ⟨c1, kX', hc1, hk, hord, -, -, hn6⟩ := Cond.instantiable_spec (a' (.instantiable cls 6) (by simp [gxAt]))
  cases Option.some.inj (hc1.symm.trans hfound)
  cases Option.some.inj (hkX.symm.trans hk)
  have hsel0 : selectMethod e.platform s.vm P1.m.cls T.fill0 = .method T.fill0 := by
    obtain ⟨c2, r2, m2, q1, q2, q3, q4, -⟩ := Cond.selects_spec (a' (.selects cls Bundle.tFill0 Bundle.tFill0) (by simp [gxAt]))
    cases Option.some.inj (q1.symm.trans hfound)
    cases Option.some.inj (q2.symm.trans (State.methodFound?_of_named Y.fill0 (by decide)))
    cases Option.some.inj (q3.symm.trans Y.fill0)
    rw [Launch.admits_selectMethod X.admits]; exact q4
  have hselF : selectMethod e.platform s.vm P1.m.cls T.fill = .method T.fill := by
    obtain ⟨c2, r2, m2, q1, q2, q3, q4, -⟩ := Cond.selects_spec (a' (.selects cls Bundle.tFill Bundle.tFill) (by simp [gxAt]))
    cases Option.some.inj (q1.symm.trans hfound)
    cases Option.some.inj (q2.symm.trans (State.methodFound?_of_named Y.fill (by decide)))
    cases Option.some.inj (q3.symm.trans Y.fill)
    rw [Launch.admits_selectMethod X.admits]; exact q4
  obtain ⟨cellS0, hcS0, hiss⟩ := Y.statics
  obtain ⟨u0, hu0⟩ := Cond.staticRefV Y.unassigned L.unassignedStatic L.statics hcS0 hiss (a' (.isRef (.static Bundle.tN "UNASSIGNED_STACK" Bundle.steD)) (by simp [gxAt]))
  obtain ⟨sen, hsen⟩ := Cond.staticRefV Y.sentinel L.sentinelStatic L.statics hcS0 hiss (a' (.isRef (.static Bundle.tN "SUPPRESSED_SENTINEL" Bundle.listD)) (by simp [gxAt]))
  obtain ⟨ci198, i198, fB, hk198, hg198, ha198, hsB, -, hnB, htB, hffB⟩ := Cond.ownField (t := .object "java/lang/Object") Y.found L.cls (by decide +kernel) (a' (.fieldLink Bundle.tN 198 Bundle.tN "backtrace" "Ljava/lang/Object;") (by simp [gxAt])) (a' (.lays Bundle.tN Bundle.tN "backtrace" "Ljava/lang/Object;") (by simp [gxAt])) e.platform hpl
  obtain ⟨cellS, hcS', heS, -, hkeep⟩ := X.same.2.2.2.2.2 T.aS cellS0 hcS0
  have hcellS : W.heap[T.aS]? = some cellS := hcS'
  have hout' : ∀ i, (⟨T.aS, i⟩ : Loc) ∉ locs := fun i hmem => by
    have := hlocs _ hmem cellS0 hcS0
    rw [hiss] at this; cases this
  have hknownS : cellS.vm ≠ .unknown := by
    rw [heS]; intro hu
    rw [show cellS0.vm = .unknown from hu] at hiss
    cases hiss
  have hneS : T.aS ≠ a := Nat.ne_of_lt (Nat.lt_of_lt_of_le (Array.getElem?_eq_some_iff.mp hcS0).1 hnew)
  obtain ⟨iM, hffM⟩ := Y.msg
  obtain ⟨tyC, dC, hdC, hdnC⟩ := Cond.laysAt hfound hk Y.cause (a' (.lays cls Bundle.tN "cause" "Ljava/lang/Throwable;") (by simp [gxAt]))
  obtain ⟨tyS, dS, hdS, hdnS⟩ := Cond.laysAt hfound hk Y.stack (a' (.lays cls Bundle.tN "stackTrace" Bundle.steD) (by simp [gxAt]))
  obtain ⟨tyP, dP, hdP, hdnP⟩ := Cond.laysAt hfound hk Y.supp (a' (.lays cls Bundle.tN "suppressedExceptions" Bundle.listD) (by simp [gxAt]))
  obtain ⟨tyM, dM, hdM, hdnM⟩ := Cond.laysAt hfound hk hffM (a' (.lays cls Bundle.tN "detailMessage" "Ljava/lang/String;") (by simp [gxAt]))
  obtain ⟨tyB, dB, hdB, hdnB⟩ := Cond.laysAt hfound hk hffB (a' (.lays cls Bundle.tN "backtrace" "Ljava/lang/Object;") (by simp [gxAt]))
  have bC := Cond.laysApart hdB hdC hdnB hdnC (by rw [hnB, Y.causeName]; decide)
  have bS := Cond.laysApart hdB hdS hdnB hdnS (by rw [hnB, Y.stackName]; decide)
  have bP := Cond.laysApart hdB hdP hdnB hdnP (by rw [hnB, Y.suppName]; decide)
  have hskip : SkipFacts T e.platform s (fun u => u) u0 ((preparedCellV T.toThrowableT (freshCell P1.m.cls kX) a u0 sen).withEntry W.cur) :=
    ⟨{ ci198 := ci198, i198 := i198, fBack := fB }, ⟨hk198, hg198, ha198, hsB⟩, by
      have := fresh_default (c := P1.m.cls) tyB
      rw [htB] at this
      simpa [preparedCellV, Cell.setSlot, Cell.withEntry, Array.getElem?_setIfInBounds, bC, bS, bP, bC.symm, bS.symm, bP.symm, defaultValue] using this, fun _ _ => rfl⟩
  obtain ⟨tm, methC, cdC, kC, vm₁, hnC, -, -, -, -, -, -, -, hW₁, st1⟩ := Steps.initColdS (tb := p.tables) (e := e) (below := below) (s := s) (U := W) X.here hexec X.warmed hpl hown (t := Bundle.initS cls) rfl rfl (Bundle.fit_spec hcls).2
    (a' (.methodLink own ic (Bundle.initS cls)) (by simp [gxAt])) (h (.instanceMethod (Bundle.initS cls)) (by simp [gxAt, Bundle.passSAtoms])) (bytes := b1) (maxL := 2) (h (.code (Bundle.initS cls) b1 2 none) (by simp [gxAt, Bundle.passSAtoms]))
    (f := g) hg (a := a) (msg := msg) (rest := .ref a :: rest) hstack hd6
  cases Option.some.inj (hnC.symm.trans hP1m)
  have X₁ := X.noted hW₁
  obtain ⟨vm₂, X₂, st2⟩ := X₁.ctorMessageOffV hexec (g := { g with stack := .ref a :: rest }) hg hsize T L Z LZ M LM (P1 :: Ps)
    (fun P hP => by rcases List.mem_cons.mp hP with rfl | hP; exact L1; exact hL P hP) ⟨hlink1, hlink⟩ (u0 := u0) (sen := sen) (self := a) hmsg (cell := freshCell P1.m.cls kX) (cellS := cellS)
    hcell (fun _ => by simp) (by simp) rfl rfl hsel0 hselF hcellS hneS hknownS (by rw [hkeep _ (hout' _)]; exact hu0) (by rw [hkeep _ (hout' _)]; exact hsen)
    (Takes.of_laid hk hord tyC (by rw [Y.causeType]; rfl)) (Takes.of_laid hk hord tyS (by rw [Y.stackType]; exact fits_refV_array _ u0)) (Takes.of_laid hk hord tyP (by rw [Y.suppType]; exact fits_refV_object _ sen))
    (Takes.of_laid hk hord tyM (by rw [Y.msgType]; exact fits_refV_object _ ⟨msg, hmsg⟩)) Y.objLocals hskip htr [] hd6
    (by simp only [List.length_cons, hlen]; omega) (by simp only [List.length_cons, hlen]; exact hRlocals)
  obtain ⟨hwalk, hrun, hended, hWU, hsame⟩ := X₂.athrowLeaves hexec (g := { g with stack := .ref a :: rest, pc := g.pc + 3 }) hg hlocked hentered hout (a := a) (rest := rest) rfl hd9
  have hlt : a < ((W.setVm vm₁).setVm vm₂).heap.size := (Array.getElem?_eq_some_iff.mp hcell).1
  have hU := heapAt_setCell_self (s := (W.setVm vm₁).setVm vm₂) (plainBareV T.toThrowableT (freshCell P1.m.cls kX) a u0 sen msg) hlt
  refine ⟨_, st1 _ (fun acts => ?_), hrun, hended, hWU, hsame.weaken (fun y hy hlt' => ?_) (Nat.le_refl _) (Nat.le_refl _), _, hU, rfl, hfound⟩
  · rw [doInvoke_state]
    exact st2 _ hwalk
  · rcases List.mem_append.mp hy with h1 | h1
    · exact h1
    · exfalso
      have hb : y.base = a := by
        simp only [List.mem_cons, List.not_mem_nil, or_false] at h1
        rcases h1 with rfl | rfl | rfl | rfl | rfl <;> rfl
      rw [hb] at hlt'
      exact Nat.not_lt.mpr hnew hlt'
end GX1
section GX2
variable {p : Program} {l : Launch} {e : Env} {R : Room} {s : State} {m : MethodId} {args : Array Value} {below : List Frame} {meth : Method} {c : Code} {H : Heap} {locs : List Loc} {cells slots : Nat} {Q : State → Prop}
variable {free : Addr → Prop} {A0 A1 : Nat → Prop} {H0 : Heap} {a : Array Value} {ls : Array Slot} {st0 rest : List Value}
variable {Qc : Array Value → State → Outcome → State → Prop} {XC : String → State → State → Prop}
/-- 'throw new E("text")': new; dup; ldc; invokespecial; athrow -/
theorem gx_throwS {cc : ByteArray} {pc : Nat} (hexec : p.tables.exec = Jvm.exec) (hb : c.code = cc) (hl : l.stackTraces = false) {own cls text : String} {Y1 : String} {names : List String} {ik is ic mc ms sa i1 : Nat} {b1 : ByteArray} {A : Nat → Prop}
    (hown : s.vm.findClass own = some m.cls) (hcls : Bundle.fit cls = true) (hY1 : Bundle.fit Y1 = true) (hnames : ∀ n ∈ names, Bundle.fit n = true) (z0 : decode b1 0 = .ok (.aload_n 0, 1)) (z1 : decode b1 1 = .ok (.aload_n 1, 1)) (z2 : decode b1 2 = .ok (.invokespecial i1, 3)) (z5 : decode b1 5 = .ok (.return_, 1))
    (hk : (Cond.classLink own ik cls).before args s = true) (hini : (Cond.initialized cls).before args s = true) (hstr : vk_R own is text sa s) (hat : ∀ w ∈ gxAtS own ic cls Y1 names i1 b1, w.before args s = true)
    (hgood : ∀ w ∈ Cond.classLink own ik cls :: Cond.initialized cls :: gxAtS own ic cls Y1 names i1 b1, vx_ot w = true)
    (hU : vx_Zq Bundle.tN "UNASSIGNED_STACK" Bundle.steD A s s.heap) (hN : vx_Zq Bundle.tN "SUPPRESSED_SENTINEL" Bundle.listD A s s.heap) (hS : va_S A s.heap H locs) (hsize : ls.size = c.maxLocals)
    (d0 : decode cc pc = .ok (.new ik, 3)) (d3 : decode cc (pc + 3) = .ok (.dup, 1)) (d4 : decode cc (pc + 4) = .ok (.ldc is, 2)) (d6 : decode cc (pc + 6) = .ok (.invokespecial ic, 3)) (d9 : decode cc (pc + 9) = .ok (.athrow, 1))
    (hout : ∀ x ∈ c.exceptionTable.toList, covers x (pc + 9) = false)
    (hRframes : names.length + 4 < R.frames) (hRlocals : (rest.map fun v => v.category).sum + (13 * (names.length + 2) + 43) ≤ R.locals) (hRcells : cells + 1 ≤ R.cells) (hRslots : slots + 6 ≤ R.slots) (hlocks : meth.locks = false)
    (hx : ∀ t : State, s.vm.Alike t.vm → H.size ≤ t.heap.size → (∀ q : Nat, q < H.size → t.heap[q]? = H[q]?) → XC cls s t)
    (hf : ∀ z ∈ locs, free z.base) (hc : cells + 1 ≤ mc) (hs : slots + 6 ≤ ms) :
    W p l e R s m args below meth c H locs cells slots (vx_MQ below Qc XC args s mc ms free) (F0 m pc ls rest) := by
  intro T hT X
  have htr : e.platform.stackTraces = false := (show e.platform.stackTraces = l.stackTraces by rw [X.admits.platform]).trans hl
  have Y := vx_rebase X (R' := { frames := R.frames, locals := R.locals, cells := 1, slots := 6 }) (Nat.le_refl _) (Nat.le_refl _) hRcells hRslots
  obtain ⟨s', hA⟩ : ∃ z, z = (T.setVm s.vm).setFrames (.invoking m args :: below) := ⟨_, rfl⟩
  rw [← hA] at Y
  have hvm : s'.vm = s.vm := by rw [hA]; rfl
  have hhp : s'.heap = H := by rw [hA]; exact hT
  have hW0 : s.WarmedH s'.vm := by rw [hvm]; exact State.WarmedH.refl s
  have hat' : ∀ w ∈ gxAtS own ic cls Y1 names i1 b1, w.before args s' = true := fun w hw => vx_ot_at hW0 hvm.symm (hgood w (List.mem_cons_of_mem _ (List.mem_cons_of_mem _ hw))) (hat w hw)
  have hk' : (Cond.classLink own ik cls).before args s' = true := vx_ot_at hW0 hvm.symm (hgood _ List.mem_cons_self) hk
  have hini' : (Cond.initialized cls).before args s' = true := vx_ot_at hW0 hvm.symm (hgood _ (List.mem_cons_of_mem _ List.mem_cons_self)) hini
  have hU' : vx_Zq Bundle.tN "UNASSIGNED_STACK" Bundle.steD A s' s'.heap := by rw [hhp]; exact vx_Zq.moved hW0.alike (hU.kept hS.2.1)
  have hN' : vx_Zq Bundle.tN "SUPPRESSED_SENTINEL" Bundle.listD A s' s'.heap := by rw [hhp]; exact vx_Zq.moved hW0.alike (hN.kept hS.2.1)
  have h : ∀ w ∈ gxAt own ic cls Y1 names i1 b1, w.before args s' = true := vx_own hat' (vx_isRefq hU'.1) (vx_isRefq hN'.1) hU'.2.word hN'.2.word
  have hown' : s'.vm.findClass own = some m.cls := by rw [hvm]; exact hown
  have hins : (Cond.instantiable cls 6).before args s' = true := h _ (by simp [gxAt])
  obtain ⟨vm₁, cX, kX, hfX, hkX, -, -, X₁, st1⟩ := Y.newCold hexec (own := own) (C := cls) (index := ik) (n := 6) hown' hk' hins hini'
    (g := F0 m pc ls rest) rfl (by rw [hb]; exact d0) (Nat.le_refl _) (Nat.le_refl _)
  generalize hT1 : (T.setVm vm₁).pushCell { cls := cX, slots := kX.instanceTypes.map defaultValue, vm := .none } = T1 at X₁ st1
  have hcat : (Value.ref T.heap.size).category = 1 := rfl
  have hcellA : T1.heap[T.heap.size]? = some (freshCell cX kX) := by rw [← hT1]; exact State.heap_pushCell_size _ _
  have d3' : decode c.code (pc + 3) = .ok (.dup, 1) := by rw [hb]; exact d3
  have d4' : decode c.code (pc + 4) = .ok (.ldc is, 2) := by rw [hb]; exact d4
  have hstr' : vk_R own is text sa s' := vk_R.warm hW0 hstr
  obtain ⟨U, hsteps, hrun, hend, hW, hsame, ce, hce, hOv, hOc⟩ := gx_ctor X₁ hexec htr (own := own) (cls := cls) (Y1 := Y1) (names := names) (ic := ic) hown' hcls hY1 hnames z0 z1 z2 z5 h (fun x hx => nomatch hx) hfX hkX hcellA (by rw [hhp, hT]; exact Nat.le_refl _) (msg := .ref sa) rfl
    (g := { method := m, pc := pc + 6, locals := ls, stack := .ref sa :: .ref T.heap.size :: .ref T.heap.size :: rest, locked := none }) rfl hsize rfl rfl (rest := rest) rfl
    (by rw [hb]; exact d6) (by rw [hb]; exact d9) hout hRframes (by simp only [List.map_cons, List.sum_cons, hcat]; omega) hlocks
  obtain ⟨f1, f2⟩ := vx_frame hsame
  rw [hhp] at f1 f2
  have hWs : s.WarmedH U.vm := State.WarmedH.trans hW0 hW
  have hcl : s.vm.findClass cls = some ce.cls := by
    have h9 := hOc
    rw [hvm] at h9
    exact h9
  have hall : s.sameButNew ({ U with vm := s.vm } : State) locs mc ms := by
    subst hA
    obtain ⟨e1, e2⟩ := hsame
    rw [State.setFrames_setFrames] at e1
    have h2 : (T.setVm s.vm).sameButNew ({ U with vm := s.vm } : State) [] (0 + 1) (0 + 6) := ⟨e1, e2⟩
    have h3 := X.same.trans h2
    rw [List.append_nil] at h3
    exact h3.mono hc hs
  refine ⟨U, ?_, .threw T.heap.size, hrun, hend, Or.inr ⟨T.heap.size, rfl, cls, ce, locs, hx U hWs.alike f1 (fun q hq => f2 q hq (fun z hz => nomatch hz)), hce, hOv, hcl, hWs, hall, hf⟩⟩
  refine st1 _ ?_
  show Steps p.tables e below (T1.setTop { method := m, pc := pc + 3, locals := ls, stack := .ref T.heap.size :: rest, locked := none }) _
  jvm_step X₁.here [X₁.here.top, hexec, d3', Value.category]
  exact X₁.ldcString hexec (own := own) (text := text) (index := is) (a := sa) hown' hstr'.1 hstr'.2
    (g := { method := m, pc := pc + 4, locals := ls, stack := .ref T.heap.size :: .ref T.heap.size :: rest, locked := none }) rfl d4' _ hsteps
end GX2
def exN (w : Int32) : String := if w = 0 then "java/lang/IndexOutOfBoundsException" else "java/util/NoSuchElementException"
def exB : ByteArray := ⟨#[0x2a, 0x2b, 0xb7, 0x00, 0x0d, 0xb1]⟩
abbrev exR : String := "java/lang/RuntimeException"
abbrev exU : List String := ["java/lang/Exception"]
def exL0 : List Cond := Cond.classLink RX6 85 (exN 0) :: Cond.initialized (exN 0) :: gxAtS RX6 89 (exN 0) exR exU 7 Bundle.six
def exL1 : List Cond := Cond.classLink RX6 109 (exN 1) :: Cond.initialized (exN 1) :: gxAtS RX6 113 (exN 1) exR exU 13 exB
theorem at_in0 : exL0.all (fun w => decide (w ∈ lw_tbl)) = true := by decide +kernel
theorem at_in1 : exL1.all (fun w => decide (w ∈ lw_tbl)) = true := by decide +kernel
def at_bad (w : Cond) : Bool := !(goodWord w || nestW w)
theorem at_gd0 : exL0.filter at_bad = [] := by decide +kernel
theorem at_gd1 : exL1.filter at_bad = [] := by decide +kernel
theorem at_ot0 : exL0.all vx_ot = true := by decide +kernel
theorem at_ot1 : exL1.all vx_ot = true := by decide +kernel
end
section
/-! ===== the four methods that may throw: their contract when they do ===== -/
theorem nxt_ret2 {scr : Option SC} {i pc : Nat} {ls st : List Value} {h h1 : Hp} {v : Int32} (hn : nxt scr (i, pc, ls, st) h = some (.inr (.inr (.inr ((2, v), h1))))) : thT.lookup (i, pc) = some v ∧ st = [] ∧ h1 = thr h := by
  unfold nxt at hn
  cases hcd : cd i pc with
  | none => simp only [hcd] at hn; cases hn
  | some w =>
    obtain ⟨ins, len⟩ := w
    simp only [hcd] at hn
    by_cases hlen : len = iln ins ∨ iln ins = 0
    case neg => rw [if_neg hlen] at hn; cases hn
    rw [if_pos hlen] at hn
    cases ins with
    | new k =>
      unfold nx1 at hn
      dsimp only at hn
      cases ht : thT.lookup (i, pc) with
      | none =>
        exfalso
        rw [ht] at hn
        simp only [gO] at hn
        revert hn
        repeat' split
        all_goals (intro hn; cases hn)
      | some w =>
        rw [ht] at hn
        dsimp only at hn
        split at hn
        · rename_i hs
          cases hn
          exact ⟨rfl, List.isEmpty_iff.mp hs, rfl⟩
        · cases hn
    | _ =>
      exfalso
      unfold nx1 at hn
      simp only [gO, gB, gC] at hn
      revert hn
      repeat' split
      all_goals (intro hn; cases hn)
theorem no_help {N : Nat} {j : Nat} (hj : j < 281) {p : Program} {l : Launch} {e : Env} {R : Room} {s : State} {m : MethodId} {args : Array Value} {below : List Frame} {meth : Method} {c : Code} {Q : State → Prop} {b : Nat} {ca : Nat → ClassId} {D : va_G} {A : Nat → Prop} : HelpAt N p l e R s m args below meth c Q j b ca D A none := by
  intro ι ls st h H locs ls0 cells slots pc q w h2 hn
  have h9 := nxt_help hn
  exfalso
  have h3 : j < mTab.length := by rw [mTab_len]; omega
  have hd : (mTab.take 281).all (fun r => decide (r.2.2.2.2.1 ≠ 9)) = true := by decide +kernel
  have hm : mTab[j] ∈ mTab.take 281 := List.mem_of_getElem? (i := j) (by rw [List.getElem?_take_of_lt hj, List.getElem?_eq_getElem h3])
  have h1 := List.all_eq_true.mp hd _ hm
  have hg : mG j = mTab[j] := by unfold mG; rw [List.getD_eq_getElem?_getD, List.getElem?_eq_getElem h3]; rfl
  unfold mC at h9
  rw [hg] at h9
  simp [h9] at h1
theorem w_of {p : Program} {R : Room} {s : State} {m : MethodId} {args : Array Value} {meth : Method} {c : Code} {i b : Nat} {ca : Nat → ClassId} {D : va_G} {A : Nat → Prop} {scr : Option SC} (C : Ctx p R s m args meth c i b ca D A scr) {w : Cond} (hw : w ∈ lw_tbl) (hg : at_bad w = false) : w.before args s = true := by
  unfold at_bad at hg
  cases h1 : goodWord w with
  | true => exact C.w hw h1
  | false =>
    rw [h1] at hg
    have h2 : nestW w = true := by simpa using hg
    have h3 := C.nw hw h2
    cases w with
    | fieldLinkNest => exact va_Nw.use rfl h3
    | methodLinkNest => exact va_Nw.use rfl h3
    | castable => exact va_Nw.use rfl h3
    | declares => exact va_Nw.use rfl h3
    | _ => cases h2
theorem w_all {p : Program} {R : Room} {s : State} {m : MethodId} {args : Array Value} {meth : Method} {c : Code} {i b : Nat} {ca : Nat → ClassId} {D : va_G} {A : Nat → Prop} {scr : Option SC} (C : Ctx p R s m args meth c i b ca D A scr) {L : List Cond} (h1 : L.all (fun w => decide (w ∈ lw_tbl)) = true) (h2 : L.filter at_bad = []) : ∀ w ∈ L, w.before args s = true := by
  intro w hw
  refine w_of C (of_decide_eq_true (List.all_eq_true.mp h1 w hw)) ?_
  cases h : at_bad w with
  | false => rfl
  | true =>
    have : w ∈ L.filter at_bad := List.mem_filter.mpr ⟨hw, h⟩
    rw [h2] at this
    cases this
theorem wsO_thr {ι : Nat → Nat} {ca : Nat → ClassId} {h : Hp} : wsO ι ca (thr h) = wsO ι ca h := rfl
/-- where a throw leaves the method -/
def MetX (n : Nat) : Prop := ∀ (j : Nat) (as : List Value) (h : Hp) (v : Int32) (h1 : Hp), exec n none (ent j as) h = some ((2, v), h1) → 93 ≤ j → j < 97 → as.length = 3 → as.all argOk = true → fOk (knx h.2) as → hOk h → ∀ (l : Launch), l.stackTraces = false → ∀ (D : va_G) (ca : Nat → ClassId) (ι : Nat → Nat) (sz : Nat),
  vx_Met l (mY j) (wsM j) (rmM j (kkc h1.2 - kkc h.2) (kks h1.2 - kks h.2)) (va_Pc (as.map (vm9 ι 0)) (PcB D ca sz ι h)) (fun _ _ _ _ => False) (vx_X (fun u => AgM ι h h1 u) (fun E u t => E = exN v ∧ (v = 0 ∨ v = 1) ∧ BM D ca sz ι h h1 u t) (va_A (wsO ι ca h) sz)) (kkc h1.2 - kkc h.2) (kks h1.2 - kks h.2) (va_A (wsO ι ca h) sz)
def thD : List ((Nat × Nat) × (Nat × Nat × Nat × Nat)) := [((93, 8), (85, 87, 89, 8)), ((93, 118), (109, 111, 113, 9)), ((94, 8), (85, 117, 89, 10)), ((94, 85), (109, 111, 113, 9)), ((95, 8), (85, 134, 89, 11)), ((95, 171), (109, 111, 113, 9)), ((96, 8), (85, 168, 89, 12)), ((96, 116), (109, 111, 113, 9))]
theorem thD_ok : ∀ q ∈ thT, ∃ r ∈ thD, r.1 = q.1 ∧ cd q.1.1 q.1.2 = some (.new r.2.1, 3) ∧ cd q.1.1 (q.1.2 + 3) = some (.dup, 1) ∧ cd q.1.1 (q.1.2 + 4) = some (.ldc r.2.2.1, 2) ∧ cd q.1.1 (q.1.2 + 6) = some (.invokespecial r.2.2.2.1, 3) ∧ cd q.1.1 (q.1.2 + 9) = some (.athrow, 1) ∧ (strJ.getD r.2.2.2.2 ("", 0, "", 0)).1 = RX6 ∧ (strJ.getD r.2.2.2.2 ("", 0, "", 0)).2.1 = r.2.2.1 ∧ r.2.2.2.2 < 13 ∧ mC q.1.1 = 6 ∧ ((q.2 = 0 ∧ r.2.1 = 85 ∧ r.2.2.2.1 = 89) ∨ (q.2 = 1 ∧ r.2.1 = 109 ∧ r.2.2.2.1 = 113)) := by decide +kernel
set_option maxHeartbeats 1000000 in
theorem metx_ok (n : Nat) : MetX n := by
  intro j as h v h1 hx hj1 hj2 hlen hall hfas hho l hl D ca ι sz
  have hj : j < 281 := by omega
  have hnm : mN j + (if mS j then 0 else 1) = 3 ∧ mV j = 7 ∧ plainName (mY j).cls = true := by
    have : ∀ k, k < 4 → mN (93 + k) + (if mS (93 + k) then 0 else 1) = 3 ∧ mV (93 + k) = 7 ∧ plainName (mY (93 + k)).cls = true := by decide +kernel
    have h9 := this (j - 93) (by omega)
    rwa [show 93 + (j - 93) = j by omega] at h9
  refine vx_ofW (cc := mB j) (maxL := mX j) (ret := mR j) hnm.2.2 rfl ?_
  intro p e s m args below meth c s₁ B hml htb hv
  obtain ⟨ls0, he, C, hR, hsz⟩ := entry_ok hj (hlen.trans hnm.1.symm) hall hfas hho B hml hv
  rw [he]
  refine body_ok (l := l) (e := e) (below := below) n (fun k hk => (met_ok k).1) (fun k hk => (met_ok k).2) C (code_ok C) n (Nat.le_refl n) (no_help hj) 0 _ [] h (2, v) h1 hx ι s.heap [] ls0 0 0 hR (by rw [Nat.zero_add]; exact Nat.le_refl _) (by rw [Nat.zero_add]; exact Nat.le_refl _) ?_
  intro ι1 H1 locs1 ls1 pc1 lsx stx hx1 hι m1 hn1 hR1
  obtain ⟨d1, d2, d3⟩ := nxt_ret2 hn1
  subst d2
  subst d3
  rw [Nat.zero_add, Nat.zero_add]
  have a1 := m1.2.1
  have a2 := m1.2.2
  have hm : ((j, pc1), v) ∈ thT := by
    rw [List.lookup_eq_some_iff] at d1
    obtain ⟨l1, l2, h9, -⟩ := d1
    rw [h9]
    simp
  obtain ⟨r, hr, r1, c0, c3, c4, c6, c9, s1, s2, s3, cm, hr2⟩ := thD_ok _ hm
  have hown : s.vm.findClass RX6 = some m.cls := by have h9 := C.own; rw [cm] at h9; exact h9
  obtain ⟨⟨adK, adV, z1, z2⟩, z3, z4, z5, z6, z7⟩ := C.zk
  have g3 := z2 (strJ.getD r.2.2.2.2 ("", 0, "", 0)) (by
    have : r.2.2.2.2 < strJ.length := s3
    rw [List.getD_eq_getElem?_getD, List.getElem?_eq_getElem this]
    exact List.getElem_mem this)
  rw [s1, s2] at g3
  have hS := hR1.2.2.1
  have hkc : kkc (thr hx1).2 = kkc hx1.2 + 1 := rfl
  have hks : kks (thr hx1).2 = kks hx1.2 + 6 := rfl
  have hxc : ∀ t : State, s.vm.Alike t.vm → H1.size ≤ t.heap.size → (∀ q : Nat, q < H1.size → t.heap[q]? = H1[q]?) → (v = 0 ∨ v = 1) → vx_X (fun u => AgM ι h (thr hx1) u) (fun E u t => E = exN v ∧ (v = 0 ∨ v = 1) ∧ BM D ca sz ι h (thr hx1) u t) (va_A (wsO ι ca h) sz) (exN v) s t := by
    intro t _ hz hq hv01
    refine ⟨ι1, ⟨hι, hR1.2.2.2.2.2.2⟩, ⟨rfl, hv01, ?_, hR1.2.1⟩, Nat.le_trans hS.1 hz, fun q h8 h9 => (hq q (Nat.lt_of_lt_of_le h8 hS.1)).trans (hS.2.1 q h8 h9)⟩
    rw [wsO_thr]
    exact hR1.1.kept (fun k2 q hk2 => hq q.1 (vx_lt hR1.1 hk2))
  have hlocks := B.notSynchronized
  rcases hr2 with ⟨e1, e2, e3⟩ | ⟨e1, e2, e3⟩
  · have e1 : v = 0 := e1
    subst e1
    have wl := w_all C at_in0 at_gd0
    rw [e2] at c0
    rw [e3] at c6
    refine gx_throwS (A := va_A (wsO ι ca h) sz) C.1 C.2.1 hl hown (by decide +kernel) (Y1 := exR) (by decide +kernel) (names := exU) (by decide +kernel) (i1 := 7) (b1 := Bundle.six) Bundle.six_0 Bundle.six_1 Bundle.six_2 Bundle.six_5 (wl _ List.mem_cons_self) (wl _ (List.mem_cons_of_mem _ List.mem_cons_self)) g3 (fun w hw => wl w (List.mem_cons_of_mem _ (List.mem_cons_of_mem _ hw))) (List.all_eq_true.mp at_ot0) z3 z4 hS (hR1.lv.1.trans C.2.2.1.symm) (cd_ok c0) (cd_ok c3) (cd_ok c4) (cd_ok c6) (cd_ok c9) (fun x hx => (htb x hx).elim) ?_ ?_ ?_ ?_ hlocks (fun t a b c => hxc t a b c (Or.inl rfl)) hS.2.2 ?_ ?_
    · show 1 + 4 < mV j; omega
    · show 0 + _ ≤ 39 * mV j; rw [hnm.2.1]; decide
    · show _ ≤ kkc (thr hx1).2 - kkc h.2; omega
    · show _ ≤ kks (thr hx1).2 - kks h.2; omega
    · omega
    · omega
  · have e1 : v = 1 := e1
    subst e1
    have wl := w_all C at_in1 at_gd1
    rw [e2] at c0
    rw [e3] at c6
    refine gx_throwS (A := va_A (wsO ι ca h) sz) C.1 C.2.1 hl hown (by decide +kernel) (Y1 := exR) (by decide +kernel) (names := exU) (by decide +kernel) (i1 := 13) (b1 := exB) (by decide +kernel) (by decide +kernel) (by decide +kernel) (by decide +kernel) (wl _ List.mem_cons_self) (wl _ (List.mem_cons_of_mem _ List.mem_cons_self)) g3 (fun w hw => wl w (List.mem_cons_of_mem _ (List.mem_cons_of_mem _ hw))) (List.all_eq_true.mp at_ot1) z3 z4 hS (hR1.lv.1.trans C.2.2.1.symm) (cd_ok c0) (cd_ok c3) (cd_ok c4) (cd_ok c6) (cd_ok c9) (fun x hx => (htb x hx).elim) ?_ ?_ ?_ ?_ hlocks (fun t a b c => hxc t a b c (Or.inr rfl)) hS.2.2 ?_ ?_
    · show 1 + 4 < mV j; omega
    · show 0 + _ ≤ 39 * mV j; rw [hnm.2.1]; decide
    · show _ ≤ kkc (thr hx1).2 - kkc h.2; omega
    · show _ ≤ kks (thr hx1).2 - kks h.2; omega
    · omega
    · omega
end
section
/-! ===== the law's helpers: a call of a method that may throw ===== -/
theorem nxt_helpQ {scr : Option SC} {i pc : Nat} {ls st : List Value} {h : Hp} {q : Fr × Nat × List Value × Nat × Hp} (hn : nxt scr (i, pc, ls, st) h = some (.inr (.inr (.inl q)))) : mC i = 9 ∧ ∃ (k : Nat) (w : Nat × Nat) (o x : Nat) (p1 p0 : Int32) (r : List Value), decode (mB i) pc = .ok (.invokestatic k, 3) ∧ lHT.lookup k = some w ∧ st = .ref o :: .int p1 :: .int p0 :: .ref x :: r ∧ (r.map fun v => v.category).sum ≤ 8 ∧ shp h.2 x = (0, 6) ∧ q = ((i, pc + 3, ls, r), w.1, [.ref x, .int p0, .int p1], o, h) := by
  refine ⟨nxt_help hn, ?_⟩
  have h9 := nxt_help hn
  unfold nxt at hn
  cases hcd : cd i pc with
  | none => simp only [hcd] at hn; cases hn
  | some w =>
    obtain ⟨ins, len⟩ := w
    simp only [hcd] at hn
    by_cases hlen : len = iln ins ∨ iln ins = 0
    case neg => rw [if_neg hlen] at hn; cases hn
    rw [if_pos hlen] at hn
    have hd := cd_ok hcd
    cases ins with
    | invokestatic k =>
      have hlen : len = _ := hlen.elim id (fun z => absurd z (by simp [iln]))
      rw [hlen] at hd
      unfold nx1 at hn
      dsimp only at hn
      rw [if_pos h9] at hn
      split at hn
      · rename_i w o p1 p0 x r hk
        split at hn
        · rename_i hc
          cases hn
          exact ⟨k, w, o, x, p1, p0, r, hd, hk, rfl, hc.1, hc.2, rfl⟩
        · cases hn
      · cases hn
    | _ =>
      exfalso
      unfold nx1 at hn
      simp only [gO, gB, gC] at hn
      revert hn
      repeat' split
      all_goals (intro hn; cases hn)
def hhL : List (Nat × Nat × Nat × Nat) := [(0, 10, 13, 13), (0, 10, 17, 15)]
def hlP : List (Nat × Nat) := [(44, 7), (54, 17), (57, 20), (60, 23)]
def wsH (k : Nat) : List Cond := .codeWith (mY (281 + k)) (mB (281 + k)) 5 (some .int) hhL :: GWl
theorem hfactA : ∀ k, k < 4 → (cd (281 + k) 0 = some (.aload_n 3, 1) ∧ cd (281 + k) 1 = some (.iconst 0, 1) ∧ cd (281 + k) 2 = some (.aload_n 0, 1) ∧ cd (281 + k) 3 = some (.iload_n 1, 1) ∧ cd (281 + k) 4 = some (.iload_n 2, 1)) := by decide +kernel
theorem hfactB : ∀ k, k < 4 → (cd (281 + k) 5 = some (.invokevirtual (hlP.getD k (0, 0)).2, 3) ∧ cd (281 + k) 8 = some (.i2l, 1) ∧ cd (281 + k) 9 = some (.lastore, 1) ∧ cd (281 + k) 10 = some (.goto 11, 3)) := by decide +kernel
theorem hfact (k : Nat) (hk : k < 4) : cd (281 + k) 0 = some (.aload_n 3, 1) ∧ cd (281 + k) 1 = some (.iconst 0, 1) ∧ cd (281 + k) 2 = some (.aload_n 0, 1) ∧ cd (281 + k) 3 = some (.iload_n 1, 1) ∧ cd (281 + k) 4 = some (.iload_n 2, 1) ∧ cd (281 + k) 5 = some (.invokevirtual (hlP.getD k (0, 0)).2, 3) ∧ cd (281 + k) 8 = some (.i2l, 1) ∧ cd (281 + k) 9 = some (.lastore, 1) ∧ cd (281 + k) 10 = some (.goto 11, 3) := ⟨(hfactA k hk).1, (hfactA k hk).2.1, (hfactA k hk).2.2.1, (hfactA k hk).2.2.2.1, (hfactA k hk).2.2.2.2, hfactB k hk⟩
theorem hfact2 : ∀ k, k < 4 → (cd (281 + k) 13 = some (.astore 4, 2) ∧ cd (281 + k) 15 = some (.iconst 1, 1) ∧ cd (281 + k) 16 = some (.ireturn, 1) ∧ cd (281 + k) 17 = some (.astore 4, 2) ∧ cd (281 + k) 19 = some (.iconst 2, 1) ∧ cd (281 + k) 20 = some (.ireturn, 1) ∧ cd (281 + k) 21 = some (.iconst 0, 1) ∧ cd (281 + k) 22 = some (.ireturn, 1)) := by decide +kernel
theorem hfact3 : ∀ k, k < 4 → ((lM 9).lookup (hlP.getD k (0, 0)).2).map (fun q => (q.1, q.2.1)) = some (93 + k, 0) ∧ mC (281 + k) = 9 ∧ mV (281 + k) = 8 ∧ mV (93 + k) = 7 ∧ mR (93 + k) = some .int ∧ mR (281 + k) = some .int ∧ mX (281 + k) = 5 ∧ mN (93 + k) = 2 ∧ mS (93 + k) = false ∧ mC (93 + k) = 6 ∧ (mY (281 + k)).cls = RL ∧ plainName (mY (281 + k)).cls = true ∧ (mY (281 + k)).name ≠ "<init>" ∧ (parseMethodDescriptor (mY (281 + k)).desc).map (fun d => d.parameters.length) = some 4 ∧ mX (93 + k) = 3 := by decide +kernel
theorem hfact4 : ∀ k, k < 4 → (goodWord (Cond.codeWith (mY (281 + k)) (mB (281 + k)) 5 (some .int) hhL) && goodWord (Cond.static (mY (281 + k))) && goodWord (Cond.methodLink RL (hlP.getD k (0, 0)).1 (mY (281 + k))) && decide (Cond.codeWith (mY (281 + k)) (mB (281 + k)) 5 (some .int) hhL ∈ tbC 5) && decide (Cond.static (mY (281 + k)) ∈ tbC 5) && decide (Cond.methodLink RL (hlP.getD k (0, 0)).1 (mY (281 + k)) ∈ tbC 5)) = true := by decide +kernel
theorem hlk13 : Cond.classLink RL 13 (exN 0) ∈ lw_tbl := tbC_mem 5 (List.mem_of_getElem? (i := 77) rfl)
theorem hlk15 : Cond.classLink RL 15 (exN 1) ∈ lw_tbl := tbC_mem 5 (List.mem_of_getElem? (i := 78) rfl)
theorem hinL : Cond.initialized RL ∈ lw_tbl := tbC_mem 1 (List.mem_of_getElem? (i := 0) rfl)
theorem hcs0 : Cond.castable (exN 0) (exN 0) ∈ lw_tbl := tbC_mem 5 (List.mem_of_getElem? (i := 85) rfl)
theorem hcs1 : Cond.castable (exN 1) (exN 1) ∈ lw_tbl := tbC_mem 5 (List.mem_of_getElem? (i := 159) rfl)
theorem hwords {k : Nat} (hk : k < 4) : Cond.codeWith (mY (281 + k)) (mB (281 + k)) 5 (some .int) hhL ∈ GWl ∧ Cond.static (mY (281 + k)) ∈ GWl ∧ Cond.methodLink RL (hlP.getD k (0, 0)).1 (mY (281 + k)) ∈ GWl := by
  have h := hfact4 k hk
  simp only [Bool.and_eq_true, decide_eq_true_eq] at h
  exact ⟨GWl_in (tbC_mem 5 h.1.1.2) h.1.1.1.1.1, GWl_in (tbC_mem 5 h.1.2) h.1.1.1.1.2, GWl_in (tbC_mem 5 h.2) h.1.1.1.2⟩

/-- a helper's body, from its entry -/
theorem hentry {k : Nat} (hk : k < 4) {as : List Value} {h : Hp} (hlen : as.length = 4) (hall : as.all argOk = true) (hfas : fOk (knx h.2) as) (hho : hOk h) {l : Launch} {D : va_G} {ca : Nat → ClassId} {ι : Nat → Nat} {sz mc ms : Nat}
    {p : Program} {e : Env} {s : State} {m : MethodId} {args : Array Value} {below : List Frame} {meth : Method} {c : Code} {s₁ : State} (B : BodyLoose p l (mY (281 + k)) (headSpec (wsH k) (rmM (281 + k) mc ms)) (mB (281 + k)) 5 (some .int) e s m args below meth c s₁) (hml : c.maxLocals = 5) (hv : va_Pc (as.map (vm9 ι 0)) (PcB D ca sz ι h) args s) :
    ∃ ls0, entryFrame m args 5 = F0 m 0 ls0 [] ∧ Ctx p (headSpec (wsH k) (rmM (281 + k) mc ms)).room s m args meth c (281 + k) 0 ca D (va_A (wsO ι ca h) sz) none ∧ RepS s ι 0 ca D (va_A (wsO ι ca h) sz) (mX (281 + k)) (as ++ List.replicate (mX (281 + k) - as.length) (.retAddr 0)) [] h s.heap [] ls0 ∧ s.heap.size = sz := by
  obtain ⟨e1, hsz, hP, hD0, hT, hZ⟩ := hv
  obtain ⟨f1, f2, f3, f4, f5, f6, f7, f8, f9, f10, f11, f12, f13, f14, f15⟩ := hfact3 k hk
  have hown : s.vm.findClass (mY (281 + k)).cls = some m.cls := findClass_of_methodNamed B.named
  have hts := atoms_spec (ws := wsH k) B.pre
  refine ⟨(lg_sl (as.map (vm9 ι 0)) ++ List.replicate (5 - (lg_sl (as.map (vm9 ι 0))).length) Slot.unset).toArray, by rw [e1]; exact lg_entry_eq _ _ _, ⟨B.exec, B.bytes, hml.trans f7.symm, by rw [f2]; rw [f11] at hown; exact hown, fun w hw hg => hts w (List.mem_cons_of_mem _ (GWl_in hw hg)), hT.2.1, hT.2.2, hZ, hT.1, fun q hq => Or.inr (by rw [← hsz]; exact hq), fun sc hs => by (cases hs), (fun z => absurd z f13), Nat.le_refl _, Nat.le_refl _, by rw [f2]; decide⟩, ⟨hP, hD0.self, va_S.rf, ?_, fun v hv a he => ?_, fun v hv => absurd hv List.not_mem_nil, hho⟩, hsz⟩
  · rw [f7]
    exact lvR_entry (argOk_cat hall) (by omega)
  · rcases List.mem_append.mp hv with z | z
    · exact hfas v z a he
    · rw [(List.mem_replicate.mp z).2] at he
      cases he
/-- up to the call -/
theorem hloads {k : Nat} (hk : k < 4) {p : Program} {l : Launch} {e : Env} {R : Room} {s : State} {m : MethodId} {args : Array Value} {below : List Frame} {meth : Method} {c : Code} {H : Heap} {locs : List Loc} {cells slots : Nat} {Q : State → Prop} {b : Nat} {ca : Nat → ClassId} {D : va_G} {A : Nat → Prop} {scr : Option SC} {ι : Nat → Nat} {x o : Nat} {p0 p1 : Int32} {h : Hp} {ls0 : Array Slot}
    (C : Ctx p R s m args meth c (281 + k) b ca D A scr) (hR : RepS s ι b ca D A (mX (281 + k)) [.ref x, .int p0, .int p1, .ref o, .retAddr 0] [] h H locs ls0)
    (kk : W p l e R s m args below meth c H locs cells slots Q (F0 m 5 ls0 (([.int p1, .int p0, .ref x, .int 0, .ref o] : List Value).map (vm9 ι b)))) : W p l e R s m args below meth c H locs cells slots Q (F0 m 0 ls0 []) := by
  obtain ⟨d0, d1, d2, d3, d4, -⟩ := hfact k hk
  refine lv_aload_n C.1 C.2.1 (k := 3) (i := 3) (cd_ok d0) rfl (hR.at (k := 3) (v := .ref o) rfl (fun z => by cases z)) ?_
  refine lv_iconst C.1 C.2.1 (v := 0) (cd_ok d1) rfl ?_
  refine lv_aload_n C.1 C.2.1 (k := 0) (i := 0) (cd_ok d2) rfl (hR.at (k := 0) (v := .ref x) rfl (fun z => by cases z)) ?_
  refine lv_iload_n C.1 C.2.1 (k := 1) (i := 1) (cd_ok d3) rfl (hR.at (k := 1) (v := .int p0) rfl (fun z => by cases z)) ?_
  refine lv_iload_n C.1 C.2.1 (k := 2) (i := 2) (cd_ok d4) rfl (hR.at (k := 2) (v := .int p1) rfl (fun z => by cases z)) ?_
  exact kk
theorem help_ret {k : Nat} (hk : k < 4) {n : Nat} {x o : Nat} {p0 p1 : Int32} {h h2 h3 : Hp} {v : Int32} (hx : exec n none (ent (93 + k) [.ref x, .int p0, .int p1]) h = some ((0, v), h2)) (h3e : sL h2 o 0 v.toInt64 = some h3) (hsx : shp h.2 x = (0, 6)) (hox : o < knx h.2) (hho : hOk h) (l : Launch) (D : va_G) (ca : Nat → ClassId) (ι : Nat → Nat) (sz : Nat) :
    vx_Met l (mY (281 + k)) (wsH k) (rmM (281 + k) (kkc h3.2 - kkc h.2) (kks h3.2 - kks h.2)) (va_Pc (([.ref x, .int p0, .int p1, .ref o] : List Value).map (vm9 ι 0)) (PcB D ca sz ι h)) (va_Qi (fun r u => r = 0 ∧ AgM ι h h3 u) (BM D ca sz ι h h3) (va_A (wsO ι ca h) sz)) (fun _ _ _ => False) (kkc h3.2 - kkc h.2) (kks h3.2 - kks h.2) (va_A (wsO ι ca h) sz) := by
  obtain ⟨f1, f2, f3, f4, f5, f6, f7, f8, f9, f10, f11, f12, f13, f14, f15⟩ := hfact3 k hk
  obtain ⟨d0, d1, d2, d3, d4, d5, d8, d9, d10⟩ := hfact k hk
  obtain ⟨b13, b15, b16, b17, b19, b20, b21, b22⟩ := hfact2 k hk
  have hxl : x < knx h.2 := (shp_0 hsx).1
  refine vx_ofWH (cc := mB (281 + k)) (maxL := 5) (ret := some .int) f12 rfl ?_
  intro p e s m args below meth c s₁ B hml hv
  have hfas : fOk (knx h.2) [.ref x, .int p0, .int p1, .ref o] := fk_r hxl (fk_i (fk_i (fk_r hox (fun v hv => absurd hv List.not_mem_nil))))
  obtain ⟨ls0, he, C, hR, hsz⟩ := hentry hk rfl rfl hfas hho B hml hv
  rw [he]
  rw [f7] at hR
  have hR : RepS s ι 0 ca D (va_A (wsO ι ca h) sz) (mX (281 + k)) [.ref x, .int p0, .int p1, .ref o, .retAddr 0] [] h s.heap [] ls0 := by rw [f7]; exact hR
  refine hloads hk C hR ?_
  have m0 := exec_m _ _ _ _ _ _ hx
  have m1 := sL_m h3e
  have k1 := sL_k h3e
  have a1 := m0.2.1
  have a2 := m0.2.2
  have hfst : fOk (knx h.2) [.int p1, .int p0, .ref x, .int 0, .ref o] := fk_i (fk_i (fk_r hxl (fk_i (fk_r hox (fun v hv => absurd hv List.not_mem_nil)))))
  have hR2 := hR.stk hfst
  obtain ⟨lk, hlk, hlk2⟩ : ∃ lk, (lM 9).lookup (hlP.getD k (0, 0)).2 = some lk ∧ (lk.1, lk.2.1) = (93 + k, 0) := by
    cases hq : (lM 9).lookup (hlP.getD k (0, 0)).2 with
    | none => rw [hq] at f1; cases f1
    | some lk => rw [hq] at f1; exact ⟨lk, rfl, Option.some.inj f1⟩
  have l1 : lk.1 = 93 + k := congrArg Prod.fst hlk2
  have l2 : lk.2.1 = 0 := congrArg Prod.snd hlk2
  rw [← f2] at hlk
  have hM := (met_ok n).1 (93 + k) [.ref x, .int p0, .int p1] h v h2 hx (by omega) (by rw [f5]; rfl) (by rw [f8, f9]; rfl) rfl (fk_r hxl (fk_i (fk_i (fun v hv => absurd hv List.not_mem_nil)))) hho l D ca ι s.heap.size
  have hrm : (headSpec (wsH k) (rmM (281 + k) (kkc h3.2 - kkc h.2) (kks h3.2 - kks h.2))).room = rmM (281 + k) (kkc h3.2 - kkc h.2) (kks h3.2 - kks h.2) := rfl
  obtain ⟨hrun, hFc⟩ := call_run (q := ((281 + k, 8, [.ref x, .int p0, .int p1, .ref o, .retAddr 0], [.int 0, .ref o]), 93 + k, [.ref x, .int p0, .int p1], h)) (r := [.int 0, .ref o]) (p := p) (e := e) (below := below) (cells := 0) (slots := 0) C hlk l1 rfl (show (1 + (1 + 0) : Nat) ≤ 8 by decide) (by rw [f3, f4]; decide) rfl (by unfold rcv; rw [f9, f10]; simp [hsx]) (Or.inl ⟨cd_ok d5, by omega, by rw [f8]; rfl⟩) (fun z => absurd z (by omega)) hM hR2 (by rw [hrm]; show 0 + (kkc h2.2 - kkc h.2) ≤ kkc h3.2 - kkc h.2; omega) (by rw [hrm]; show 0 + (kks h2.2 - kks h.2) ≤ kks h3.2 - kks h.2; omega)
  refine vx_ret (va_calli hrun hR2.2.2.1 (fun q2 _ hq2 => hFc q2 hq2) hFc (fun r2 u t H1 locs1 ht hvm hpost hB hz1 hk1 hS1 => ?_))
  obtain ⟨er, hag, hho2⟩ := hpost
  obtain ⟨g1, g2⟩ := hB
  rw [ht] at g1
  subst er
  have hfst2 : fOk (knx h2.2) [.long r2.toInt64, .int 0, .ref o] := fk_l (fk_i (fk_r (Nat.lt_of_lt_of_le hox m0.1) (fun v hv => absurd hv List.not_mem_nil)))
  have hR3 : RepS s u 0 ca D (va_A (wsO ι ca h) sz) (mX (281 + k)) [.ref x, .int p0, .int p1, .ref o, .retAddr 0] [.long r2.toInt64, .int 0, .ref o] h2 H1 locs1 ls0 := ⟨g1, g2.weaken (fun _ _ _ z => hFc _ z), hS1, hR.lv.ext hag hR.fl, fk_m hR.fl m0.1, hfst2, hho2⟩
  refine lv_i2l C.1 C.2.1 (v := r2.toInt64) (cd_ok d8) rfl ?_
  have hst : (([.long r2.toInt64, .int 0, .ref o] : List Value).map (vm9 u 0)) = .long r2.toInt64 :: ([.int 0, .ref o] : List Value).map (vm9 ι 0) := by
    show _ :: _ :: Value.ref (u o) :: [] = _ :: _ :: Value.ref (ι o) :: []
    rw [hag o hox]
    rfl
  rw [← hst]
  refine g_lst C (cd_ok d9) h3e hR3 (fun H2 locs2 hR4 => ?_)
  refine lv_goto C.1 C.2.1 (off := 11) (tgt := 21) (cd_ok d10) rfl ?_
  refine lv_iconst C.1 C.2.1 (v := 0) (cd_ok b21) rfl ?_
  have hlocks := B.notSynchronized
  have e1 : kkc h3.2 - kkc h.2 = 0 + (kkc h2.2 - kkc h.2) := by rw [k1.1]; omega
  have e2 : kks h3.2 - kks h.2 = 0 + (kks h2.2 - kks h.2) := by rw [k1.2]; omega
  rw [← e1, ← e2]
  exact W.zret (ty := .int) B.exec B.bytes B.returns rfl (fun t ht _ => ⟨⟨0, u, rfl, ⟨rfl, hag, hR4.2.2.2.2.2.2⟩, by rw [ht]; exact hR4.1, hR4.2.1⟩, hR4.2.2.1.F ht⟩) hR4.2.2.1.2.2 (cd_ok b22)

theorem help_thr {k : Nat} (hk : k < 4) {n : Nat} {x o : Nat} {p0 p1 : Int32} {h h2 : Hp} {v : Int32} (hx : exec n none (ent (93 + k) [.ref x, .int p0, .int p1]) h = some ((2, v), h2)) (hsx : shp h.2 x = (0, 6)) (hox : o < knx h.2) (hho : hOk h) (l : Launch) (hl : l.stackTraces = false) (D : va_G) (ca : Nat → ClassId) (ι : Nat → Nat) (sz : Nat) :
    vx_Met l (mY (281 + k)) (wsH k) (rmM (281 + k) (kkc h2.2 - kkc h.2) (kks h2.2 - kks h.2)) (va_Pc (([.ref x, .int p0, .int p1, .ref o] : List Value).map (vm9 ι 0)) (PcB D ca sz ι h)) (va_Qi (fun r u => r = v + 1 ∧ AgM ι h h2 u) (BM D ca sz ι h h2) (va_A (wsO ι ca h) sz)) (fun _ _ _ => False) (kkc h2.2 - kkc h.2) (kks h2.2 - kks h.2) (va_A (wsO ι ca h) sz) := by
  obtain ⟨f1, f2, f3, f4, f5, f6, f7, f8, f9, f10, f11, f12, f13, f14, f15⟩ := hfact3 k hk
  obtain ⟨d0, d1, d2, d3, d4, d5, d8, d9, d10⟩ := hfact k hk
  obtain ⟨b13, b15, b16, b17, b19, b20, b21, b22⟩ := hfact2 k hk
  obtain ⟨y1, y2, y3⟩ := hwords hk
  have hxl : x < knx h.2 := (shp_0 hsx).1
  refine vx_ofWH (cc := mB (281 + k)) (maxL := 5) (ret := some .int) f12 rfl ?_
  intro p e s m args below meth c s₁ B hml hv
  have hfas : fOk (knx h.2) [.ref x, .int p0, .int p1, .ref o] := fk_r hxl (fk_i (fk_i (fk_r hox (fun v hv => absurd hv List.not_mem_nil))))
  obtain ⟨ls0, he, C, hR, hsz⟩ := hentry hk rfl rfl hfas hho B hml hv
  rw [he]
  rw [f7] at hR
  have hR : RepS s ι 0 ca D (va_A (wsO ι ca h) sz) (mX (281 + k)) [.ref x, .int p0, .int p1, .ref o, .retAddr 0] [] h s.heap [] ls0 := by rw [f7]; exact hR
  have hvx := vx_table (x := mY (281 + k)) B (C.ts _ y1)
  refine hloads hk C hR ?_
  have m0 := exec_m _ _ _ _ _ _ hx
  have a1 := m0.2.1
  have a2 := m0.2.2
  obtain ⟨lk, hlk, hlk2⟩ : ∃ lk, (lM 9).lookup (hlP.getD k (0, 0)).2 = some lk ∧ (lk.1, lk.2.1) = (93 + k, 0) := by
    cases hq : (lM 9).lookup (hlP.getD k (0, 0)).2 with
    | none => rw [hq] at f1; cases f1
    | some lk => rw [hq] at f1; exact ⟨lk, rfl, Option.some.inj f1⟩
  have l1 : lk.1 = 93 + k := congrArg Prod.fst hlk2
  have l2 : lk.2.1 = 0 := congrArg Prod.snd hlk2
  obtain ⟨hw, -, -, -⟩ := lM_at (o := 9) (by decide) hlk
  rw [l1, l2] at hw
  have hM := metx_ok n (93 + k) [.ref x, .int p0, .int p1] h v h2 hx (by omega) (by omega) rfl rfl (fk_r hxl (fk_i (fk_i (fun v hv => absurd hv List.not_mem_nil)))) hho l hl D ca ι s.heap.size
  obtain ⟨g1, g2, g3, g4, g5, g6, g7, g8, g9⟩ := mfact (j := 93 + k) (by omega)
  rw [f9] at g1
  have hsel : Cond.selects (mY (93 + k)).cls (mY (93 + k)) (mY (93 + k)) ∈ lw_tbl := by
    rcases g2 with z | z | z
    · rw [f9] at z; cases z
    · exfalso
      have : ∀ k, k < 4 → (mY (93 + k)).name ≠ "<init>" := by decide +kernel
      exact this k hk z
    · exact z
  have hcode := code_in (j := 93 + k) (by omega)
  have S : CallFix p m c (mB (281 + k)) (mX (281 + k)) s args GWl RL := ⟨C.1, C.2.1, C.2.2.1, by have h9 := C.own; rw [f2] at h9; exact h9, C.ts⟩
  have hpay : ∀ w ∈ wsM (93 + k), ∀ (a' : Array Value) (U : State), s.WarmedH U.vm → w.before a' U = true := pay_in (big := GWl) C.ts (fun w hw2 => by
    have hw3 : w ∈ GWl := by
      rcases List.mem_cons.mp hw2 with z | z
      · rw [z]; exact GWl_in hcode rfl
      · exact z
    exact ⟨hw3, good_of_word (List.mem_filter.mp hw3).2⟩)
  have hpar : ∀ sig, parseMethodDescriptor (mY (93 + k)).desc = some sig → mN (93 + k) = sig.parameters.length := by
    intro sig hs
    rw [hs] at g6
    exact (Option.some.inj g6).symm
  have hPcU : ∀ U : State, U.heap = s.heap → s.WarmedH U.vm → PcB D ca s.heap.size ι h U := by
    intro U hU hW
    refine ⟨by rw [hU], by rw [hU]; exact hR.1, hR.2.1.weaken (fun _ _ _ _ => trivial), TabOK.warm hW ⟨C.K, fun w hw2 hn2 => C.nw hw2 hn2, C.ao⟩, ?_⟩
    have hz := C.zk.move (V := U) hW (B := va_A (wsO ι ca h) s.heap.size) (fun q hq1 hq2 => by rw [hU]) (fun q hq => by rw [← hsz]; exact hq)
    exact hz
  have he0 := wsO_get (ι := ι) (ca := ca) hxl
  rw [clE_0 (shp_0 hsx).2] at he0
  have hrcv := va_recv C.K hR.1 (vwCl_get 6 (by decide)) he0
  have hp : PreV s s.heap (mY (93 + k)).cls (ι x) (va_Pc (([.ref x, .int p0, .int p1] : List Value).map (vm9 ι 0)) (PcB D ca s.heap.size ι h)) (([.int p0, .int p1] : List Value).map (vm9 ι 0)) := ⟨PcB.blind, by rw [g4, f10]; exact hrcv, fun U hU hW => ⟨rfl, hPcU U hU hW⟩⟩
  have hrm : (headSpec (wsH k) (rmM (281 + k) (kkc h2.2 - kkc h.2) (kks h2.2 - kks h.2))).room = rmM (281 + k) (kkc h2.2 - kkc h.2) (kks h2.2 - kks h.2) := rfl
  have hFc : ∀ a, va_A (wsO ι ca h) s.heap.size a → va_A (wsO ι ca h) sz a := by rw [hsz]; exact fun a ha => ha
  have hrun := vx_runV (R := rmM (281 + k) (kkc h2.2 - kkc h.2) (kks h2.2 - kks h.2)) (p := p) (e := e) (below := below) (meth := meth) (cells := 0) (slots := 0) (locs := []) (g := F0 m 5 ls0 (([.int p1, .int p0, .ref x, .int 0, .ref o] : List Value).map (vm9 ι 0))) (rest := ([.int 0, .ref o] : List Value).map (vm9 ι 0)) S hM ⟨⟨rfl, rfl, by show mV (93 + k) + 1 ≤ mV (281 + k); omega, by show 8 + (mX (93 + k) + 11) + 39 * mV (93 + k) ≤ 39 * mV (281 + k); omega, hpay, List.mem_cons_self, C.w hcode rfl, C.w g3 rfl, g5, hpar, C.w hw rfl⟩, C.w g1 rfl, C.w hsel rfl⟩ hp rfl (by rw [f8]; rfl) (hR.lv.1) rfl (by show 0 + (1 + (1 + 0)) ≤ 8; decide) (cd_ok d5) ⟨by show 0 + (kkc h2.2 - kkc h.2) ≤ kkc h2.2 - kkc h.2; omega, by show 0 + (kks h2.2 - kks h.2) ≤ kks h2.2 - kks h.2; omega⟩
  intro T hT X
  rcases hrun T hT X with ⟨w, st₀, t, T', L, q0, q1, q2, q3, q4, q5, q6⟩ | ⟨q9, st₀, t, T', L, E, ce, h0, X', hL, e1, e2, ⟨u, hp9, ⟨hE, hv01, hB1, hB2⟩, hF⟩, hce, hcv, hcl, st⟩
  · exact q5.elim
  obtain ⟨k1, k2, k3⟩ := vx_keep h0 e1 hR.2.2.1 (fun q _ hq2 => hFc q hq2) hFc hL hF
  have hlocks := B.notSynchronized
  have hwid : W p l e (headSpec (wsH k) (rmM (281 + k) (kkc h2.2 - kkc h.2) (kks h2.2 - kks h.2))).room s m args below meth c T'.heap ([] ++ L) (0 + (kkc h2.2 - kkc h.2)) (0 + (kks h2.2 - kks h.2)) (vx_MQ below (va_Qi (fun r u => r = v + 1 ∧ AgM ι h h2 u) (BM D ca sz ι h h2) (va_A (wsO ι ca h) sz)) (fun _ _ _ => False) args s (kkc h2.2 - kkc h.2) (kks h2.2 - kks h.2) (va_A (wsO ι ca h) sz)) (F0 m (if v = 0 then 13 else 17) ls0 [.ref q9]) := by
    have hend : ∀ (ls' : Array Slot) (pc9 : Nat) (r9 : Int32), r9 = v + 1 → decode (mB (281 + k)) pc9 = .ok (.ireturn, 1) → W p l e (headSpec (wsH k) (rmM (281 + k) (kkc h2.2 - kkc h.2) (kks h2.2 - kks h.2))).room s m args below meth c T'.heap ([] ++ L) (0 + (kkc h2.2 - kkc h.2)) (0 + (kks h2.2 - kks h.2)) (vx_MQ below (va_Qi (fun r u => r = v + 1 ∧ AgM ι h h2 u) (BM D ca sz ι h h2) (va_A (wsO ι ca h) sz)) (fun _ _ _ => False) args s (kkc h2.2 - kkc h.2) (kks h2.2 - kks h.2) (va_A (wsO ι ca h) sz)) (F0 m pc9 ls' [.int r9]) := by
      intro ls' pc9 r9 hr9 hd9
      rw [Nat.zero_add, Nat.zero_add]
      refine vx_ret ?_
      exact W.zret (ty := .int) B.exec B.bytes B.returns rfl (fun t9 ht9 _ => ⟨⟨r9, u, rfl, ⟨hr9, hp9⟩, by rw [ht9, e1]; exact hB1, by rw [← hsz]; exact hB2⟩, k3.F ht9⟩) k3.2.2 hd9
    have hls := hR.lv.has
    rw [f7] at hls
    rcases hv01 with z | z
    · subst z
      rw [if_pos rfl]
      refine lv_astore C.1 C.2.1 (i := 4) (cd_ok b13) hls (by decide) rfl (fun ls' _ => ?_)
      refine lv_iconst C.1 C.2.1 (v := 1) (cd_ok b15) rfl ?_
      exact hend _ _ _ rfl (cd_ok b16)
    · subst z
      rw [if_neg (by decide)]
      refine lv_astore C.1 C.2.1 (i := 4) (cd_ok b17) hls (by decide) rfl (fun ls' _ => ?_)
      refine lv_iconst C.1 C.2.1 (v := 2) (cd_ok b19) rfl ?_
      exact hend _ _ _ rfl (cd_ok b20)
  have hownL : s.vm.findClass RL = some m.cls := by have h9 := C.own; rw [f2] at h9; exact h9
  have hcat : vx_W p l e (headSpec (wsH k) (rmM (281 + k) (kkc h2.2 - kkc h.2) (kks h2.2 - kks h.2))).room s m args below meth c T'.heap ([] ++ L) (0 + (kkc h2.2 - kkc h.2)) (0 + (kks h2.2 - kks h.2)) (vx_MQ below (va_Qi (fun r u => r = v + 1 ∧ AgM ι h h2 u) (BM D ca sz ι h h2) (va_A (wsO ι ca h) sz)) (fun _ _ _ => False) args s (kkc h2.2 - kkc h.2) (kks h2.2 - kks h.2) (va_A (wsO ι ca h) sz)) (F0 m 5 ls0 (([.int 0, .ref o] : List Value).map (vm9 ι 0))) q9 := by
    rcases hv01 with z | z
    · subst z
      subst hE
      rw [if_pos rfl] at hwid
      exact vx_catch (own := RL) (name := exN 0) (E := exN 0) hownL [] ⟨0, 10, 13, 13⟩ [⟨0, 10, 17, 15⟩] hvx (fun z hz => absurd hz List.not_mem_nil) rfl (by decide) (C.w hlk13 rfl) (va_Nw.use rfl (C.nw hcs0 rfl)) (by rw [e1]; exact hce) hcv hcl hwid
    · subst z
      subst hE
      rw [if_neg (by decide)] at hwid
      exact vx_catch (own := RL) (name := exN 1) (E := exN 1) hownL [⟨0, 10, 13, 13⟩] ⟨0, 10, 17, 15⟩ [] hvx (fun z hz => by
        rw [List.mem_singleton.mp hz]
        exact Or.inr ⟨by decide, exN 0, C.w hlk13 rfl, C.zk.2.2.2.2.1⟩) rfl (by decide) (C.w hlk15 rfl) (va_Nw.use rfl (C.nw hcs1 rfl)) (by rw [e1]; exact hce) hcv hcl hwid
  obtain ⟨t2, c1, c2⟩ := hcat T' rfl X'
  exact ⟨t2, st.trans c1, c2⟩
end
section
/-! THE CLAIM OUT OF ONE WALK OF THE LAW'S BODY. Your part is whole_start (and what it stands on); all else here is the same for every law, but numbers. -/
def R_law : String := "LoanVansLaw"
def lw_P (b : Addr) (xs : List Int32) (args : Array Value) (s : State) : Prop := args = #[.ref b] ∧ s.IntsAt b xs ∧ xs.length ≤ 3072 ∧ (Jvm.Cond.and given_1 narrow_1).before args s = true
def lw_Q (_ : Array Value) (s : State) (o : Outcome) (t : State) : Prop := o = .returned (some (.int 1)) ∧ Framed s o t [] 601024 7293034
def lw_Z (below : List Frame) (a : Array Value) (s : State) : State → Prop := fun t => ∃ o, t.status = .running ∧ Ended t below o ∧ lw_Q a s o t
/-- the law's own end, with 1 on the stack, nothing written that was there before, its room as the claim has it -/
theorem lw_ret {p : Program} {l : Launch} {e : Env} {s : State} {m : MethodId} {below : List Frame} {meth : Method} {c : Code} {b : Nat} (hx : p.tables.exec = Jvm.exec) (hb : c.code = code) (hr : meth.sig.returnType = ret) (hlocks : meth.locks = false) {pc : Nat} {H : Heap} {ls : Array Slot} (hdg : decode code pc = .ok (.ireturn, 1)) : W p l e room_1 s m #[Value.ref b] below meth c H [] 601024 7293034 (lw_Z below #[Value.ref b] s) (F0 m pc ls [.int 1]) := by
  intro T hT X
  obtain ⟨fs, hret, hrun, hended, hW, hframe⟩ := X.leave (v := some (.int 1)) (hlocks := hlocks) (fun h => by rw [hr] at h; cases h)
  have hmeth' : T.vm.method? m = some meth := X.method'
  refine ⟨T.setFrames fs, ?_, .returned (some (.int 1)), hrun, hended, rfl, ⟨_, rfl⟩, hW, hframe⟩
  jvm_step X.here [X.here.top, hx, hb, hdg, hmeth', hr, ret, narrow_b1]
  (try refine ⟨rfl, ?_⟩); (try refine ⟨rfl, ?_⟩)
  first | (intro acts; rw [hret _ acts rfl rfl rfl]) | rw [hret _ _ rfl rfl rfl]
  exact Steps.refl _
/-- what holds at the law's entry: the machine, the code, the tables' words (any of lw_tbl by 'hts w (by decide +kernel)'), the script of L ints xs at the cell b, what the Statement gives of the start (any of its parts by flat_of_before) -/
def lw_At (p : Program) (s : State) (m : MethodId) (meth : Method) (c : Code) (b L : Nat) (xs : Nat → Int32) : Prop :=
  p.tables.exec = Jvm.exec ∧ c.code = code ∧ meth.sig.returnType = ret ∧ c.maxLocals = 7 ∧ s.vm.findClass R_law = some m.cls ∧ (∀ w ∈ lw_tbl, w.before #[Value.ref b] s = true) ∧ va_X b L xs s s.heap ∧ b < s.heap.size ∧ meth.locks = false ∧ (Jvm.Cond.and given_1 narrow_1).before #[Value.ref b] s = true

/-! ===== the law's own frame: its world at the start, its helpers ===== -/
def jtm (i : Nat) : Term := .string (strJ.getD i ("", 0, "", 0)).1 (strJ.getD i ("", 0, "", 0)).2.1
def gvF : List Cond := flatC (Cond.and given_1 narrow_1)
def gvI (i : Nat) : List Cond := [Cond.exactly (jtm i) "java/lang/String", Cond.eq (.field (jtm i) "java/lang/String" "coder" "B") (.int 0), Cond.arrayOf (.field (jtm i) "java/lang/String" "value" "[B") .byte, Cond.eq (.length (.field (jtm i) "java/lang/String" "value" "[B")) (.int (Int32.ofNat (lenJ.getD i 0)))] ++ (List.range (lenJ.getD i 0)).map (fun j => Cond.eq (.elem (.field (jtm i) "java/lang/String" "value" "[B") (.int (Int32.ofNat j))) (.int ((bytJ.getD i []).getD j 0))) ++ (List.range i).map (fun k => Cond.not (Cond.eq (jtm k) (jtm i)))
theorem jf_all : gvF.drop 29 = (List.range 13).flatMap gvI := by decide +kernel
theorem jf_in {w : Cond} {i : Nat} (hi : i < 13) (h : w ∈ gvI i) : w ∈ gvF := by
  have h1 : w ∈ (List.range 13).flatMap gvI := List.mem_flatMap.mpr ⟨i, List.mem_range.mpr hi, h⟩
  rw [← jf_all] at h1
  exact List.mem_of_mem_drop h1
theorem jf_len : ∀ i, i < 13 → lenJ.getD i 0 < 2 ^ 31 := by decide +kernel
theorem jf_nc : Cond.not (.castable "java/util/NoSuchElementException" "java/lang/IndexOutOfBoundsException") ∈ gvF := List.mem_of_getElem? (i := 19) (by decide +kernel)
theorem jf_cs : Cond.eq (.static "java/lang/String" "COMPACT_STRINGS" "Z") (.int 1) ∈ gvF := List.mem_of_getElem? (i := 4) (by decide +kernel)
theorem jf_si : Cond.isRef (.static "jdk/internal/util/Preconditions" "SIOOBE_FORMATTER" "Ljava/util/function/BiFunction;") ∈ gvF := List.mem_of_getElem? (i := 5) (by decide +kernel)
theorem jf_us : Cond.isRef (.static Bundle.tN "UNASSIGNED_STACK" Bundle.steD) ∈ gvF := List.mem_of_getElem? (i := 9) (by decide +kernel)
theorem jf_ss : Cond.isRef (.static Bundle.tN "SUPPRESSED_SENTINEL" Bundle.listD) ∈ gvF := List.mem_of_getElem? (i := 10) (by decide +kernel)
def jrP : List (Nat × Nat) := [(1, 34), (1, 86), (1, 87), (1, 88), (1, 89), (1, 90), (1, 91), (1, 92), (5, 123), (5, 166), (5, 180), (5, 196), (5, 208)]
theorem jr_ok : (List.range 13).all (fun i => decide ((tbC (jrP.getD i (0, 0)).1)[(jrP.getD i (0, 0)).2]? = some (Cond.stringRef (strJ.getD i ("", 0, "", 0)).1 (strJ.getD i ("", 0, "", 0)).2.1 (strJ.getD i ("", 0, "", 0)).2.2.1)) && decide ((strJ.getD i ("", 0, "", 0)).2.2.2 = i)) = true := by decide +kernel
theorem jl_cs : Cond.laysStatic "java/lang/String" "COMPACT_STRINGS" "Z" ∈ lw_tbl := tbC_mem 1 (List.mem_of_getElem? (i := 47) rfl)
theorem jl_si : Cond.laysStatic "jdk/internal/util/Preconditions" "SIOOBE_FORMATTER" "Ljava/util/function/BiFunction;" ∈ lw_tbl := tbC_mem 1 (List.mem_of_getElem? (i := 63) rfl)
theorem jl_us : Cond.laysStatic Bundle.tN "UNASSIGNED_STACK" Bundle.steD ∈ lw_tbl := tbC_mem 5 (List.mem_of_getElem? (i := 110) rfl)
theorem jl_ss : Cond.laysStatic Bundle.tN "SUPPRESSED_SENTINEL" Bundle.listD ∈ lw_tbl := tbC_mem 5 (List.mem_of_getElem? (i := 112) rfl)
theorem ji_cs : Cond.initialized "java/lang/String" ∈ lw_tbl := tbC_mem 1 (List.mem_of_getElem? (i := 3) rfl)
theorem ji_si : Cond.initialized "jdk/internal/util/Preconditions" ∈ lw_tbl := tbC_mem 1 (List.mem_of_getElem? (i := 5) rfl)
theorem ji_th : Cond.initialized Bundle.tN ∈ lw_tbl := tbC_mem 1 (List.mem_of_getElem? (i := 15) rfl)
theorem start_Z {s : State} {args : Array Value} {A : Nat → Prop} (hts : ∀ w ∈ lw_tbl, w.before args s = true) (hgv : (Cond.and given_1 narrow_1).before args s = true) (hA : ∀ a : Nat, a < s.heap.size → ¬ A a) : ZOK A s := by
  have hs : ∀ w ∈ gvF, w.before args s = true := flat_of_before _ hgv
  have f0 : ∀ i, i < 13 → (Cond.exactly (jtm i) "java/lang/String").before args s = true := fun i hi => hs _ (jf_in hi (by simp [gvI]))
  have f1 : ∀ i, i < 13 → (Cond.eq (.field (jtm i) "java/lang/String" "coder" "B") (.int 0)).before args s = true := fun i hi => hs _ (jf_in hi (by simp [gvI]))
  have f2 : ∀ i, i < 13 → (Cond.arrayOf (.field (jtm i) "java/lang/String" "value" "[B") .byte).before args s = true := fun i hi => hs _ (jf_in hi (by simp [gvI]))
  have f3 : ∀ i, i < 13 → (Cond.eq (.length (.field (jtm i) "java/lang/String" "value" "[B")) (.int (Int32.ofNat (lenJ.getD i 0)))).before args s = true := fun i hi => hs _ (jf_in hi (by simp [gvI]))
  have f4 : ∀ i, i < 13 → ∀ j, j < lenJ.getD i 0 → (Cond.eq (.elem (.field (jtm i) "java/lang/String" "value" "[B") (.int (Int32.ofNat j))) (.int ((bytJ.getD i []).getD j 0))).before args s = true := fun i hi j hj => hs _ (jf_in hi (List.mem_append_left _ (List.mem_append_right _ (List.mem_map.mpr ⟨j, List.mem_range.mpr hj, rfl⟩))))
  have f5 : ∀ i j, i < j → j < 13 → (Cond.not (Cond.eq (jtm i) (jtm j))).before args s = true := fun i j hij hj => hs _ (jf_in hj (List.mem_append_right _ (List.mem_map.mpr ⟨i, List.mem_range.mpr hij, rfl⟩)))
  have fn : ∀ i j, i < 13 → j < 13 → i ≠ j → (Cond.not (Cond.eq (jtm i) (jtm j))).before args s = true ∨ (Cond.not (Cond.eq (jtm j) (jtm i))).before args s = true := by
    intro i j hi hj hij
    rcases Nat.lt_or_gt_of_ne hij with h | h
    · exact Or.inl (f5 i j h hj)
    · exact Or.inr (f5 j i h hi)
  obtain ⟨adK, adV, h1, h2⟩ := vk_Sof (args := args) (s := s) (N := 13) (tm := jtm) (len := lenJ) (byt := bytJ) (A := A) jf_len f0 f1 f2 f3 f4 fn hA
  refine ⟨⟨adK, adV, h1, fun q hq => ?_⟩, vx_Zqof (hts _ jl_us) (hts _ ji_th) (hs _ jf_us) hA, vx_Zqof (hts _ jl_ss) (hts _ ji_th) (hs _ jf_ss) hA, va_Zof (hts _ jl_cs) (hts _ ji_cs) (va_eqt (hs _ jf_cs)) hA, va_Nc.of (hs _ jf_nc), va_Zqof (hts _ jl_si) (hts _ ji_si) (hs _ jf_si) hA⟩
  obtain ⟨i, hi, e⟩ := List.getElem_of_mem hq
  have hi13 : i < 13 := hi
  have e2 : strJ.getD i ("", 0, "", 0) = q := by rw [List.getD_eq_getElem?_getD, List.getElem?_eq_getElem hi, e]; rfl
  have h3 := rng_all jr_ok hi13
  simp only [Bool.and_eq_true, decide_eq_true_eq] at h3
  have h4 := h2 i hi13
  unfold jtm at h4
  rw [e2] at h3 h4
  rw [h3.2]
  exact vk_R.of (hts _ (tbC_mem _ (List.mem_of_getElem? h3.1))) h4
theorem start_K {s : State} {args : Array Value} (hts : ∀ w ∈ lw_tbl, w.before args s = true) : ∃ (D : va_G) (ca : Nat → ClassId), va_K D vwCl (tysOf ca) s := by
  have hin : ∀ k, k < 8 → ∃ (cC : ClassId) (iS : Nat → Nat), u_Kn s (rN k) (fT k) (fN k) cC iS := fun k hk => u_known (ws := lw_tbl) hts (fun w hw => (List.mem_filter.mp (lays_in k hk w hw)).1) (hts _ (in_at hk).1)
  have h0 : ∀ k, ∃ q : ClassId × (Nat → Nat), k < 8 → u_Kn s (rN k) (fT k) (fN k) q.1 q.2 := by
    intro k
    by_cases hk : k < 8
    · obtain ⟨a, b, h⟩ := hin k hk
      exact ⟨(a, b), fun _ => h⟩
    · exact ⟨(0, fun _ => 0), fun h => absurd h hk⟩
  obtain ⟨ad, had⟩ := Classical.axiomOfChoice h0
  have hp : ∀ {ty : FieldType}, Cond.arrayClass ty ∈ lw_tbl → (∀ c, s.vm.findClass ("[" ++ ty.toString) = some c → va_RA s c ty) → ∃ c, ArrOfT s c ty ∧ va_RA s c ty := by
    intro ty hw hr
    obtain ⟨c, kA, comp, h1, h2, h3⟩ := Cond.arrayClass_spec (hts _ hw)
    exact ⟨c, fun n z => ⟨fun k h => (by cases h), kA, h2, comp, h3⟩, hr c h1⟩
  obtain ⟨c0, p0⟩ := hp xw_arr_int (fun c h => h)
  obtain ⟨c1, p1⟩ := hp xw_arr_boolean (fun c h => h)
  obtain ⟨c2, p2⟩ := hp xw_arr_byte (fun c h => h)
  obtain ⟨c3, p3⟩ := hp xw_arr_long (fun c h => h)
  obtain ⟨c4, p4⟩ : ∃ c, ArrOfT s c (.object RX3) ∧ va_RA s c (.object RX3) := by
    obtain ⟨comp, c, kA, h1, h2, h3, h4, h5⟩ := Cond.arrayOver_spec (hts _ xw_over_S)
    exact ⟨c, fun n z => ⟨fun k h => (by cases h), kA, h3, comp, h4⟩, kA, comp, h3, h4, h1, h5⟩
  obtain ⟨c5, p5⟩ : ∃ c, ArrOfT s c (.array .int) ∧ va_RA s c (.array .int) := by
    obtain ⟨comp, c, kA, h1, h2, h3, h4⟩ := Cond.arrayOver_specA (hts _ xw_over_I)
    exact ⟨c, fun n z => ⟨fun k h => (by cases h), kA, h2, comp, h3⟩, h4⟩
  refine ⟨(fun k => (ad k).1, fun k => (ad k).2), fun k => match k with | 0 => c0 | 1 => c1 | 2 => c2 | 3 => c3 | 4 => c4 | _ => c5, fun k q hq => ?_, fun k q hq => ?_⟩
  · have hk : k < 8 := (List.getElem?_eq_some_iff.mp hq).1
    have h1 := vwCl_get k hk
    rw [hq] at h1
    cases h1
    exact had k hk
  · have hk : k < 6 := (List.getElem?_eq_some_iff.mp hq).1
    match k, hq with
    | 0, hq => cases hq; exact p0
    | 1, hq => cases hq; exact p1
    | 2, hq => cases hq; exact p2
    | 3, hq => cases hq; exact p3
    | 4, hq => cases hq; exact p4
    | 5, hq => cases hq; exact p5
    | k + 6, hq => omega
theorem start_S {l : Launch} (hflags : l.flags = flags0) : l.stackTraces = false := by
  unfold Launch.stackTraces
  rw [hflags]
  decide +kernel
end
section
/-! ===== the law by the pure machine ===== -/
theorem lHT_at : ∀ q ∈ lHT, (List.range 4).any (fun k => decide (q = ((hlP.getD k (0, 0)).1, 93 + k, 281 + k))) = true := by decide +kernel
theorem m285A : mC 285 = 9 ∧ mV 285 = 9 ∧ mX 285 = 7 ∧ (mY 285).name ≠ "<init>" ∧ mR 285 = some .boolean := by decide +kernel
theorem m285B : mB 285 = code := rfl
theorem m285 : mC 285 = 9 ∧ mV 285 = 9 ∧ mX 285 = 7 ∧ mB 285 = code ∧ (mY 285).name ≠ "<init>" ∧ mR 285 = some .boolean := ⟨m285A.1, m285A.2.1, m285A.2.2.1, m285B, m285A.2.2.2⟩
set_option maxHeartbeats 1000000 in
theorem help_at {N : Nat} {p : Program} {l : Launch} (hl : l.stackTraces = false) {e : Env} {R : Room} {s : State} {m : MethodId} {args : Array Value} {below : List Frame} {meth : Method} {c : Code} {Q : State → Prop} {b : Nat} {ca : Nat → ClassId} {D : va_G} {A : Nat → Prop} {scr : Option SC} (C : Ctx p R s m args meth c 285 b ca D A scr) : HelpAt N p l e R s m args below meth c Q 285 b ca D A scr := by
  intro ι ls st h H locs ls0 cells slots pc q w h2 hn hx hR
  obtain ⟨-, k0, w0, o, x, p1, p0, r, hd, hlk, hst, hsum, hsx, hq⟩ := nxt_helpQ hn
  subst hq
  subst hst
  obtain ⟨n, -, hx⟩ := hx
  dsimp only at hx ⊢
  have hmem : (k0, w0) ∈ lHT := by
    rw [List.lookup_eq_some_iff] at hlk
    obtain ⟨l1, l2, h1, -⟩ := hlk
    rw [h1]
    simp
  obtain ⟨k, hk, hkq⟩ : ∃ k, k < 4 ∧ (k0, w0) = ((hlP.getD k (0, 0)).1, 93 + k, 281 + k) := by
    obtain ⟨k, hk, h9⟩ := List.any_eq_true.mp (lHT_at _ hmem)
    exact ⟨k, List.mem_range.mp hk, of_decide_eq_true h9⟩
  have e0 : k0 = (hlP.getD k (0, 0)).1 := congrArg Prod.fst hkq
  have e1 : w0 = (93 + k, 281 + k) := congrArg Prod.snd hkq
  subst e0
  subst e1
  dsimp only at hx
  obtain ⟨f1, f2, f3, f4, f5, f6, f7, f8, f9, f10, f11, f12, f13, f14, f15⟩ := hfact3 k hk
  obtain ⟨y1, y2, y3⟩ := hwords hk
  have hxl : x < knx h.2 := (shp_0 hsx).1
  have hox : o < knx h.2 := fk_h hR.fs
  have hfr0 : fOk (knx h.2) r := fk_t (fk_t (fk_t (fk_t hR.fs)))
  have hho := hR.2.2.2.2.2.2
  have hfr := C.fr
  have hlo := C.lo
  obtain ⟨z1, z2, z3, z4, z5, z6⟩ := m285
  have hown : s.vm.findClass RL = some m.cls := by have h9 := C.own; rw [z1] at h9; exact h9
  have hclsH : (mY (281 + k)).cls = RL := f11
  have S : CallFix p m c (mB 285) (mX 285) s args GWl RL := ⟨C.1, C.2.1, C.2.2.1, hown, C.ts⟩
  have hpay : ∀ w ∈ wsH k, ∀ (a' : Array Value) (U : State), s.WarmedH U.vm → w.before a' U = true := pay_in (big := GWl) C.ts (fun w hw2 => by
    have hw3 : w ∈ GWl := by
      rcases List.mem_cons.mp hw2 with z | z
      · rw [z]; exact y1
      · exact z
    exact ⟨hw3, good_of_word (List.mem_filter.mp hw3).2⟩)
  have hPcU : ∀ U : State, U.heap = H → s.WarmedH U.vm → PcB D ca H.size ι h U := by
    intro U hU hW
    refine ⟨by rw [hU], by rw [hU]; exact hR.1, hR.2.1.weaken (fun _ _ _ _ => trivial), TabOK.warm hW ⟨C.K, fun w hw2 hn2 => C.nw hw2 hn2, C.ao⟩, C.zk.move hW (fun q hq1 hq2 => by rw [hU]; exact hR.2.2.1.2.1 q hq1 hq2) ?_⟩
    intro a ha
    rcases ha with ⟨k2, e2, h2⟩ | h2
    · exact hR.2.1.2 k2 _ h2
    · exact C.hA a (Nat.le_trans hR.2.2.1.1 h2)
  have hFc : ∀ a, va_A (wsO ι ca h) H.size a → A a := by
    intro a ha
    rcases ha with ⟨k2, e2, h2⟩ | h2
    · exact hR.2.1.2 k2 _ h2
    · exact C.hA a (Nat.le_trans hR.2.2.1.1 h2)
  have go : ∀ (h3 : Hp) (v : Int32), Mono h h3 → vx_Met l (mY (281 + k)) (wsH k) (rmM (281 + k) (kkc h3.2 - kkc h.2) (kks h3.2 - kks h.2)) (va_Pc (([.ref x, .int p0, .int p1, .ref o] : List Value).map (vm9 ι 0)) (PcB D ca H.size ι h)) (va_Qi (fun r u => r = v ∧ AgM ι h h3 u) (BM D ca H.size ι h h3) (va_A (wsO ι ca h) H.size)) (fun _ _ _ => False) (kkc h3.2 - kkc h.2) (kks h3.2 - kks h.2) (va_A (wsO ι ca h) H.size) →
      cells + (kkc h3.2 - kkc h.2) ≤ R.cells → slots + (kks h3.2 - kks h.2) ≤ R.slots → GoK p l e R s m args below meth c cells slots Q 285 b ca D A ι h (psh (285, pc + 3, ls, r) (.int v)) h3 → W p l e R s m args below meth c H locs cells slots Q (F0 m pc ls0 (((.ref o :: .int p1 :: .int p0 :: .ref x :: r) : List Value).map (vm9 ι b))) := by
    intro h3 v m3 hM hcl hsl kk
    have hrun := vx_runSX (hh := hhL) (As := ([.ref x, .int p0, .int p1, .ref o] : List Value).map (vm9 ι 0)) (rest := r.map (vm9 ι b)) (p := p) (e := e) (below := below) (meth := meth) (locs := locs) (cells := cells) (slots := slots) (g := F0 m pc ls0 (((.ref o :: .int p1 :: .int p0 :: .ref x :: r) : List Value).map (vm9 ι b))) S hM ⟨⟨rfl, rfl, by show mV (281 + k) + 1 ≤ R.frames; omega, by show 8 + (5 + 11) + 39 * mV (281 + k) ≤ R.locals; omega, hpay, List.mem_cons_self⟩, C.ts _ y1, by rw [hclsH]; exact C.w hinL rfl, by rw [hclsH]; exact ⟨by decide, by decide⟩, jpar f14, C.ts _ y3, C.ts _ y2⟩ ⟨PcB.blind, fun U hU hW => ⟨rfl, hPcU U hU hW⟩⟩ rfl rfl hR.lv.1 rfl (by rw [cat_vm]; exact lv_room (m := m) (pc := pc) (ls := ls0) (rest := ((.ref o :: .int p1 :: .int p0 :: .ref x :: r) : List Value).map (vm9 ι b)) (st := r) hsum) hd ⟨hcl, hsl⟩
    have hrun2 : vx_Run p l e R s m args below meth c H locs cells slots (kkc h3.2 - kkc h.2) (kks h3.2 - kks h.2) (F0 m pc ls0 (((.ref o :: .int p1 :: .int p0 :: .ref x :: r) : List Value).map (vm9 ι b))) (r.map (vm9 ι b)) (va_Qi (fun r u => r = v ∧ AgM ι h h3 u) (BM D ca H.size ι h h3) (va_A (wsO ι ca h) H.size) (([.ref x, .int p0, .int p1, .ref o] : List Value).map (vm9 ι 0)).toArray) (vx_X (fun (_ : Unit) => False) (fun _ _ _ => False) (fun _ => False)) (va_A (wsO ι ca h) H.size) := by
      intro T hT X
      rcases hrun T hT X with h9 | ⟨q9, st₀, t, T', L, E, ce, h0, X', hL, e1, e2, hf, _⟩
      · exact Or.inl h9
      · exact hf.elim
    refine vx_calli hrun2 hR.2.2.1 (fun q2 _ hq2 => hFc q2 hq2) hFc (fun _ _ hq2 => hq2.elim) (fun _ _ _ _ _ _ _ _ _ hf => hf.elim) (fun r2 u t H1 locs1 ht hvm hpost hB hz1 hk1 hS1 => ?_)
    obtain ⟨er, hag, hho2⟩ := hpost
    obtain ⟨g1, g2⟩ := hB
    rw [ht] at g1
    subst er
    have hR1 : RepS s u b ca D A (mX 285) ls (.int r2 :: r) h3 H1 locs1 ls0 := ⟨g1, g2.weaken (fun _ _ _ z => hFc _ z), hS1, hR.lv.ext hag hR.fl, fk_m hR.fl m3.1, fk_i (fk_m hfr0 m3.1), hho2⟩
    have k9 := kk u H1 locs1 ls0 hag rfl hR1
    have e9 : ((.int r2 :: r : List Value).map (vm9 u b)) = .int r2 :: r.map (vm9 ι b) := by
      rw [List.map_cons, vm9_eq hag hfr0]
      rfl
    have k9 : W p l e R s m args below meth c H1 locs1 (cells + (kkc h3.2 - kkc h.2)) (slots + (kks h3.2 - kks h.2)) Q (F0 m (pc + 3) ls0 ((.int r2 :: r : List Value).map (vm9 u b))) := k9
    rw [e9] at k9
    exact k9
  obtain ⟨w1, w2⟩ := w
  have m0 := exec_m _ _ _ _ _ _ hx
  constructor
  · intro hw h3 hs hcl hsl kk
    have hw : w1 = 0 := hw
    subst hw
    exact go h3 0 (Mono.tr m0 (sL_m hs)) (help_ret hk hx hs hsx hox hho l D ca ι H.size) hcl hsl kk
  · intro hw hcl hsl kk
    have hw : w1 = 2 := hw
    subst hw
    exact go h2 (w2 + 1) m0 (help_thr hk hx hsx hox hho l hl D ca ι H.size) hcl hsl kk
/-- the empty heap -/
def h00 : Hp := ((fun _ _ => 0), ((fun _ _ => 0), (fun _ => (9, 0)), (fun _ _ => none), 0, 0, 0))
def ls00 : List Value := .retAddr 1 :: List.replicate 6 (.retAddr 0)
theorem law_goes {p : Program} {e : Env} {s : State} {m : MethodId} {below : List Frame} {meth : Method} {c : Code} (l : Launch) (hflags : l.flags = flags0) {b L : Nat} {xs : Nat → Int32} (C0 : lw_At p s m meth c b L xs) {N : Nat} {h1 : Hp} (hx : exec N (some (L, xs)) (285, 0, ls00, []) h00 = some ((0, 1), h1)) (hcl : kkc h1.2 ≤ 601024) (hsl : kks h1.2 ≤ 7293034) : W p l e room_1 s m #[Value.ref b] below meth c s.heap [] 0 0 (lw_Z below #[Value.ref b] s) (entryFrame m ([Value.ref b] : List Value).toArray 7) := by
  obtain ⟨hex, hb, hr, hml, hown, hts, hX, hbl, hlocks, hgv⟩ := id C0
  obtain ⟨z1, z2, z3, z4, z5, z6⟩ := m285
  have hA : ∀ q : Nat, s.heap.size ≤ q → (fun q : Nat => s.heap.size ≤ q) q := fun _ h => h
  obtain ⟨D, ca, hK⟩ := start_K hts
  have hl := start_S hflags
  have hnest : ∀ w ∈ lw_tbl, nestW w = true → va_Nw w s := by
    intro w hw hg
    have h9 := hts w hw
    cases w with
    | fieldLinkNest => exact va_Nw.of rfl h9
    | methodLinkNest => exact va_Nw.of rfl h9
    | castable => exact va_Nw.of rfl h9
    | declares => exact va_Nw.of rfl h9
    | _ => cases hg
  have C : Ctx p room_1 s m #[Value.ref b] meth c 285 b ca D (fun q : Nat => s.heap.size ≤ q) (some (L, xs)) := ⟨hex, hb.trans z4.symm, hml.trans z3.symm, by rw [z1]; exact hown, fun w hw _ => hts w hw, hnest, ⟨va_AO.of (hts _ xw_over_S), hts _ xw_over_I⟩, start_Z hts hgv (fun a ha => Nat.not_le.mpr ha), hK, hA, fun sc hs => (by cases hs; exact ⟨hX, hbl, Nat.not_le.mpr hbl⟩), fun z => absurd z z5, by rw [z2]; decide, by rw [z2]; decide, by rw [z1]; decide⟩
  have hlv : lvR (fun _ => 0) b (lg_sl ([.ref b]) ++ List.replicate (7 - (lg_sl ([.ref b])).length) Slot.unset).toArray (mX 285) ls00 := by
    rw [z3]
    refine ⟨rfl, (lv_entry ([.ref b]) (n := 7) (Nat.le_of_ble_eq_true rfl)).2.1, rfl, fun v hv => ?_, fun k v hk hv => ?_⟩
    · simp only [ls00, List.mem_cons, List.mem_replicate] at hv
      rcases hv with z | ⟨-, z⟩ <;> subst z <;> rfl
    · match k, hk with
      | 0, hk => cases hk; rfl
      | k + 1, hk =>
        exfalso
        have h9 : (List.replicate 6 (Value.retAddr 0))[k]? = some v := hk
        rw [List.getElem?_replicate] at h9
        split at h9
        · cases h9; exact hv rfl
        · cases h9
  have hf0 : fOk (knx h00.2) ls00 := by
    intro v hv a e9
    subst e9
    simp [ls00] at hv
  have hR : RepS s (fun _ => 0) b ca D (fun q : Nat => s.heap.size ≤ q) (mX 285) ls00 [] h00 s.heap [] (lg_sl ([.ref b]) ++ List.replicate (7 - (lg_sl ([.ref b])).length) Slot.unset).toArray := ⟨fun k q h => (by cases h), ⟨fun i j p q h => (by cases h), fun k q h => (by cases h)⟩, va_S.rf, hlv, hf0, fun v hv => absurd hv List.not_mem_nil, fun a k b h => (by cases h)⟩
  rw [lg_entry_eq]
  refine body_ok (l := l) (e := e) (below := below) N (fun k _ => (met_ok k).1) (fun k _ => (met_ok k).2) C (code_ok C) N (Nat.le_refl N) (help_at hl C) 0 ls00 [] h00 (0, 1) h1 hx (fun _ => 0) s.heap [] _ 0 0 hR (by show 0 + (kkc h1.2 - 0) ≤ 601024; omega) (by show 0 + (kks h1.2 - 0) ≤ 7293034; omega) ?_
  intro ι1 H1 locs1 ls1 pc1 lsx stx hx1 hι m1 hn1 hR1
  obtain ⟨d1, d2, d3, d4⟩ := nxt_ret0 hn1
  subst d2
  subst d3
  refine va_forget (fun q hq => hR1.2.2.1.2.2 q hq) ?_
  refine W.widen (k := 601024) (n := 7293034) (by show 0 + (kkc h1.2 - 0) ≤ 601024; omega) (by show 0 + (kks h1.2 - 0) ≤ 7293034; omega) ?_
  exact lw_ret hex hb hr hlocks (by rw [← z4]; exact d1)
end
section
/-! ===== equations of runs, an instruction each ===== -/
def ck {α : Type} (b : Bool) (r : Option α) : Option α := if b = true then r else none
def cI (r : Option (Rs × Hp)) (K : Int32 → Hp → Option (Rs × Hp)) : Option (Rs × Hp) := match r with
  | some (w, h) => if w.1 = 0 then K w.2 h else none
  | none => none
def cV (r : Option (Rs × Hp)) (K : Hp → Option (Rs × Hp)) : Option (Rs × Hp) := match r with
  | some (w, h) => if w.1 = 1 then K h else none
  | none => none
theorem cI_s {v : Int32} {h : Hp} {K : Int32 → Hp → Option (Rs × Hp)} : cI (some ((0, v), h)) K = K v h := rfl
theorem cV_s {v : Int32} {h : Hp} {K : Hp → Option (Rs × Hp)} : cV (some ((1, v), h)) K = K h := rfl
theorem ck_t {α : Type} {r : Option α} : ck true r = r := rfl
theorem ck_p {α : Type} {b : Bool} {r : Option α} (h : b = true) : ck b r = r := by rw [h]; rfl
theorem cI_ck {b : Bool} {r : Option (Rs × Hp)} {K : Int32 → Hp → Option (Rs × Hp)} : cI (ck b r) K = ck b (cI r K) := by cases b <;> rfl
theorem cV_ck {b : Bool} {r : Option (Rs × Hp)} {K : Hp → Option (Rs × Hp)} : cV (ck b r) K = ck b (cV r K) := by cases b <;> rfl
theorem cI_if {c : Prop} [Decidable c] {r r' : Option (Rs × Hp)} {K : Int32 → Hp → Option (Rs × Hp)} : cI (if c then r else r') K = if c then cI r K else cI r' K := by split <;> rfl
theorem cV_if {c : Prop} [Decidable c] {r r' : Option (Rs × Hp)} {K : Hp → Option (Rs × Hp)} : cV (if c then r else r') K = if c then cV r K else cV r' K := by split <;> rfl
abbrev tn (x : Int32) : Nat := x.toNatClampNeg
section ST
variable {scr : Option SC} {i pc : Nat} {ls st : List Value} {h : Hp} {m : Mem} {k : Kst} {x y v : Int32} {a b : Nat} {r : List Value}
theorem st_nx {ins : Instr} {len : Nat} {fr1 : Fr} {h1 : Hp} (c : cd i pc = some (ins, len)) (hl : (len == iln ins || iln ins == 0) = true) (hn : nx1 scr i pc ls st h ins = some (.inl (fr1, h1))) : run scr (i, pc, ls, st) h = run scr fr1 h1 := by
  rw [run_step]
  unfold stepf nxt
  have hl2 : len = iln ins ∨ iln ins = 0 := by simpa using hl
  simp only [c, if_pos hl2, hn]
theorem st_no {ins : Instr} {len : Nat} (c : cd i pc = some (ins, len)) (hn : nx1 scr i pc ls st h ins = none) : run scr (i, pc, ls, st) h = none := by
  rw [run_step]
  unfold stepf nxt
  simp only [c, hn, ite_self]
theorem st_go {ins : Instr} {len p2 : Nat} {ls2 st2 : List Value} {h2 : Hp} (c : cd i pc = some (ins, len)) (hl : (len == iln ins || iln ins == 0) = true) (hn : nx1 scr i pc ls st h ins = gO i p2 ls2 st2 h2) : run scr (i, pc, ls, st) h = run scr (i, p2, ls2, st2) h2 := st_nx c hl hn
theorem st_iload_n {q : Fin 4} (c : cd i pc = some (.iload_n q, 1)) (hl : ls[(q : Nat)]? = some (.int x)) : run scr (i, pc, ls, st) h = run scr (i, pc + 1, ls, .int x :: st) h := st_go c rfl (by unfold nx1; simp only [hl])
theorem st_iload {q : Nat} (c : cd i pc = some (.iload q, 2)) (hl : ls[q]? = some (.int x)) : run scr (i, pc, ls, st) h = run scr (i, pc + 2, ls, .int x :: st) h := st_go c rfl (by unfold nx1; simp only [hl])
theorem st_aload_n {q : Fin 4} (c : cd i pc = some (.aload_n q, 1)) (hl : ls[(q : Nat)]? = some (.ref a)) : run scr (i, pc, ls, st) h = run scr (i, pc + 1, ls, .ref a :: st) h := st_go c rfl (by unfold nx1; simp only [hl])
theorem st_aload_s {q : Fin 4} (c : cd i pc = some (.aload_n q, 1)) (hl : ls[(q : Nat)]? = some (.retAddr 1)) : run scr (i, pc, ls, st) h = run scr (i, pc + 1, ls, .retAddr 1 :: st) h := st_go c rfl (by unfold nx1; simp only [hl])
theorem st_aload {q : Nat} (c : cd i pc = some (.aload q, 2)) (hl : ls[q]? = some (.ref a)) : run scr (i, pc, ls, st) h = run scr (i, pc + 2, ls, .ref a :: st) h := st_go c rfl (by unfold nx1; simp only [hl])
theorem st_istore_n {q : Fin 4} {ls2 : List Value} (c : cd i pc = some (.istore_n q, 1)) (hq : Nat.ble ((q : Nat) + 1) ls.length = true) (hl : ls.set (q : Nat) (.int x) = ls2) : run scr (i, pc, ls, .int x :: st) h = run scr (i, pc + 1, ls2, st) h := by subst hl; exact st_go c rfl (by unfold nx1; exact if_pos (Nat.le_of_ble_eq_true hq))
theorem st_istore {q : Nat} {ls2 : List Value} (c : cd i pc = some (.istore q, 2)) (hq : Nat.ble (q + 1) ls.length = true) (hl : ls.set q (.int x) = ls2) : run scr (i, pc, ls, .int x :: st) h = run scr (i, pc + 2, ls2, st) h := by subst hl; exact st_go c rfl (by unfold nx1; exact if_pos (Nat.le_of_ble_eq_true hq))
theorem st_astore_n {q : Fin 4} {ls2 : List Value} (c : cd i pc = some (.astore_n q, 1)) (hq : Nat.ble ((q : Nat) + 1) ls.length = true) (hl : ls.set (q : Nat) (.ref a) = ls2) : run scr (i, pc, ls, .ref a :: st) h = run scr (i, pc + 1, ls2, st) h := by subst hl; exact st_go c rfl (by unfold nx1; exact if_pos (Nat.le_of_ble_eq_true hq))
theorem st_astore {q : Nat} {ls2 : List Value} (c : cd i pc = some (.astore q, 2)) (hq : Nat.ble (q + 1) ls.length = true) (hl : ls.set q (.ref a) = ls2) : run scr (i, pc, ls, .ref a :: st) h = run scr (i, pc + 2, ls2, st) h := by subst hl; exact st_go c rfl (by unfold nx1; exact if_pos (Nat.le_of_ble_eq_true hq))
theorem st_iconst {n : Int} (c : cd i pc = some (.iconst n, 1)) (hv : Int32.ofInt n = v) : run scr (i, pc, ls, st) h = run scr (i, pc + 1, ls, .int v :: st) h := by subst hv; exact st_go c rfl rfl
theorem st_bipush {n : Int} (c : cd i pc = some (.bipush n, 2)) (hv : (Int8.ofInt n).toInt32 = v) : run scr (i, pc, ls, st) h = run scr (i, pc + 2, ls, .int v :: st) h := by subst hv; exact st_go c rfl rfl
theorem st_sipush {n : Int} (c : cd i pc = some (.sipush n, 3)) (hv : (Int16.ofInt n).toInt32 = v) : run scr (i, pc, ls, st) h = run scr (i, pc + 3, ls, .int v :: st) h := by subst hv; exact st_go c rfl rfl
def ldcV (i q : Nat) : Option Int32 := ((lK (mC i)).lookup q).map (fun w => w.1)
theorem st_ldc {q : Nat} (c : cd i pc = some (.ldc q, 2)) (hv : ldcV i q = some v) : run scr (i, pc, ls, st) h = run scr (i, pc + 2, ls, .int v :: st) h := by
  unfold ldcV at hv
  cases hw : (lK (mC i)).lookup q with
  | none => rw [hw] at hv; cases hv
  | some w =>
    rw [hw] at hv
    cases hv
    exact st_go c rfl (by unfold nx1; simp only [hw])
theorem st_iadd (c : cd i pc = some (.iadd, 1)) : run scr (i, pc, ls, .int y :: .int x :: st) h = run scr (i, pc + 1, ls, .int (x + y) :: st) h := st_go c rfl rfl
theorem st_isub (c : cd i pc = some (.isub, 1)) : run scr (i, pc, ls, .int y :: .int x :: st) h = run scr (i, pc + 1, ls, .int (x - y) :: st) h := st_go c rfl rfl
theorem st_imul (c : cd i pc = some (.imul, 1)) : run scr (i, pc, ls, .int y :: .int x :: st) h = run scr (i, pc + 1, ls, .int (x * y) :: st) h := st_go c rfl rfl
theorem st_iand (c : cd i pc = some (.iand, 1)) : run scr (i, pc, ls, .int y :: .int x :: st) h = run scr (i, pc + 1, ls, .int (x &&& y) :: st) h := st_go c rfl rfl
theorem st_ior (c : cd i pc = some (.ior, 1)) : run scr (i, pc, ls, .int y :: .int x :: st) h = run scr (i, pc + 1, ls, .int (x ||| y) :: st) h := st_go c rfl rfl
theorem st_ixor (c : cd i pc = some (.ixor, 1)) : run scr (i, pc, ls, .int y :: .int x :: st) h = run scr (i, pc + 1, ls, .int (x ^^^ y) :: st) h := st_go c rfl rfl
def shl3 (x y : Int32) : Int32 := x <<< (y &&& 31)
def shr3 (x y : Int32) : Int32 := x >>> (y &&& 31)
def ush3 (x y : Int32) : Int32 := (x.toUInt32 >>> (y.toUInt32 &&& Int32.toUInt32 31)).toInt32
def rem3 (x y : Int32) : Int32 := x - x / y * y
theorem st_ishl (c : cd i pc = some (.ishl, 1)) : run scr (i, pc, ls, .int y :: .int x :: st) h = run scr (i, pc + 1, ls, .int (shl3 x y) :: st) h := st_go c rfl rfl
theorem st_ishr (c : cd i pc = some (.ishr, 1)) : run scr (i, pc, ls, .int y :: .int x :: st) h = run scr (i, pc + 1, ls, .int (shr3 x y) :: st) h := st_go c rfl rfl
theorem st_iushr (c : cd i pc = some (.iushr, 1)) : run scr (i, pc, ls, .int y :: .int x :: st) h = run scr (i, pc + 1, ls, .int (ush3 x y) :: st) h := st_go c rfl rfl
theorem st_irem (c : cd i pc = some (.irem, 1)) : run scr (i, pc, ls, .int y :: .int x :: st) h = ck (decide (y ≠ 0)) (run scr (i, pc + 1, ls, .int (rem3 x y) :: st) h) := by
  by_cases q : y = 0
  · subst q; exact st_no c rfl
  · rw [ck_p (decide_eq_true q)]; exact st_go c rfl (by unfold nx1; simp only [if_neg q]; rfl)
theorem st_idiv (c : cd i pc = some (.idiv, 1)) : run scr (i, pc, ls, .int y :: .int x :: st) h = ck (decide (y ≠ 0)) (run scr (i, pc + 1, ls, .int (x / y) :: st) h) := by
  by_cases q : y = 0
  · subst q; exact st_no c rfl
  · rw [ck_p (decide_eq_true q)]; exact st_go c rfl (by unfold nx1; simp only [if_neg q])
/-- by a number that isn't 0 -/
theorem st_iremN (c : cd i pc = some (.irem, 1)) (q : (y == 0) = false) : run scr (i, pc, ls, .int y :: .int x :: st) h = run scr (i, pc + 1, ls, .int (rem3 x y) :: st) h := (st_irem c).trans (ck_p (decide_eq_true (by simpa using q)))
theorem st_idivN (c : cd i pc = some (.idiv, 1)) (q : (y == 0) = false) : run scr (i, pc, ls, .int y :: .int x :: st) h = run scr (i, pc + 1, ls, .int (x / y) :: st) h := (st_idiv c).trans (ck_p (decide_eq_true (by simpa using q)))
theorem st_i2b (c : cd i pc = some (.i2b, 1)) : run scr (i, pc, ls, .int x :: st) h = run scr (i, pc + 1, ls, .int x.toInt8.toInt32 :: st) h := st_go c rfl rfl
theorem st_i2l (c : cd i pc = some (.i2l, 1)) : run scr (i, pc, ls, .int x :: st) h = run scr (i, pc + 1, ls, .long x.toInt64 :: st) h := st_go c rfl rfl
theorem st_lcmp {u w : Int64} (c : cd i pc = some (.lcmp, 1)) : run scr (i, pc, ls, .long w :: .long u :: st) h = run scr (i, pc + 1, ls, .int (lg_cmp u w) :: st) h := st_go c rfl rfl
theorem st_iinc {q : Nat} {n : Int} {ls2 : List Value} (c : cd i pc = some (.iinc q n, 3)) (hl : ls[q]? = some (.int x)) (hv : Int32.ofInt n = v) (h2 : ls.set q (.int (x + v)) = ls2) : run scr (i, pc, ls, st) h = run scr (i, pc + 3, ls2, st) h := by subst hv; subst h2; exact st_go c rfl (by unfold nx1; simp only [hl]; rfl)
theorem st_dup_i (c : cd i pc = some (.dup, 1)) : run scr (i, pc, ls, .int x :: st) h = run scr (i, pc + 1, ls, .int x :: .int x :: st) h := st_go c rfl rfl
theorem st_dup_r (c : cd i pc = some (.dup, 1)) : run scr (i, pc, ls, .ref a :: st) h = run scr (i, pc + 1, ls, .ref a :: .ref a :: st) h := st_go c rfl rfl
theorem st_dup2 (c : cd i pc = some (.dup2, 1)) : run scr (i, pc, ls, .int x :: .ref a :: st) h = run scr (i, pc + 1, ls, .int x :: .ref a :: .int x :: .ref a :: st) h := st_go c rfl rfl
theorem st_pop_i (c : cd i pc = some (.pop, 1)) : run scr (i, pc, ls, .int x :: st) h = run scr (i, pc + 1, ls, st) h := st_go c rfl rfl
theorem st_goto {off : Int} {t : Nat} (c : cd i pc = some (.goto off, 3)) (ht : tgt pc off = some t) : run scr (i, pc, ls, st) h = run scr (i, t, ls, st) h := st_go c rfl (by unfold nx1; simp only [ht])
-- fields
def fdI (i q : Nat) : Option (Nat × Nat) := match (lF (mC i)).lookup q with
  | some w => if fRef w.1 w.2.1 then none else some (w.1, w.2.1)
  | none => none
def fdR (i q : Nat) : Option (Nat × Nat) := match (lF (mC i)).lookup q with
  | some w => if fRef w.1 w.2.1 then some (w.1, w.2.1) else none
  | none => none
/-- may be written: an int's -/
def fdP (i q : Nat) : Option (Nat × Nat) := match (lF (mC i)).lookup q with
  | some w => if fRef w.1 w.2.1 = false ∧ (fT w.1 w.2.1).2.2.2 = false ∧ fY w.1 w.2.1 = .int then some (w.1, w.2.1) else none
  | none => none
/-- may be written: a boolean's -/
def fdZ (i q : Nat) : Option (Nat × Nat) := match (lF (mC i)).lookup q with
  | some w => if fRef w.1 w.2.1 = false ∧ (fT w.1 w.2.1).2.2.2 = false then some (w.1, w.2.1) else none
  | none => none
theorem st_gfi {q ci f : Nat} (c : cd i pc = some (.getfield q, 3)) (hf : fdI i q = some (ci, f)) (hs : shp k a = (0, ci)) : run scr (i, pc, ls, .ref a :: st) (m, k) = run scr (i, pc + 3, ls, .int (m a f) :: st) (m, k) := by
  unfold fdI at hf
  cases hw : (lF (mC i)).lookup q with
  | none => rw [hw] at hf; cases hf
  | some w =>
    rw [hw] at hf
    dsimp only at hf
    split at hf
    · cases hf
    · rename_i hr
      cases hf
      exact st_go c rfl (by unfold nx1; simp only [hw, if_neg hr, gI, hs, if_true])
theorem st_gfr {q ci f : Nat} (c : cd i pc = some (.getfield q, 3)) (hf : fdR i q = some (ci, f)) (hs : shp k a = (0, ci)) (hb : kmr k a f = some b) : run scr (i, pc, ls, .ref a :: st) (m, k) = run scr (i, pc + 3, ls, .ref b :: st) (m, k) := by
  unfold fdR at hf
  cases hw : (lF (mC i)).lookup q with
  | none => rw [hw] at hf; cases hf
  | some w =>
    rw [hw] at hf
    dsimp only at hf
    split at hf
    · rename_i hr
      cases hf
      exact st_go c rfl (by unfold nx1; simp only [hw, hr, gR, hs, if_true, hb])
    · cases hf
theorem st_pfi {q ci f : Nat} (c : cd i pc = some (.putfield q, 3)) (hf : fdP i q = some (ci, f)) (hs : shp k a = (0, ci)) : run scr (i, pc, ls, .int v :: .ref a :: st) (m, k) = run scr (i, pc + 3, ls, st) (up2 m a f v, k) := by
  unfold fdP at hf
  cases hw : (lF (mC i)).lookup q with
  | none => rw [hw] at hf; cases hf
  | some w =>
    rw [hw] at hf
    dsimp only at hf
    split at hf
    · rename_i hr
      cases hf
      have h9 : fRef w.1 w.2.1 = false ∧ (fT w.1 w.2.1).2.2.2 = false ∧ (fY w.1 w.2.1 = .int ∨ v = 0 ∨ v = 1) := ⟨hr.1, hr.2.1, Or.inl hr.2.2⟩
      exact st_go c rfl (by unfold nx1; simp only [hw, if_pos h9, pI, hs, if_true])
    · cases hf
theorem st_pfz {q ci f : Nat} (c : cd i pc = some (.putfield q, 3)) (hf : fdZ i q = some (ci, f)) (hs : shp k a = (0, ci)) (hv : (v == 0 || v == 1) = true) : run scr (i, pc, ls, .int v :: .ref a :: st) (m, k) = run scr (i, pc + 3, ls, st) (up2 m a f v, k) := by
  unfold fdZ at hf
  cases hw : (lF (mC i)).lookup q with
  | none => rw [hw] at hf; cases hf
  | some w =>
    rw [hw] at hf
    dsimp only at hf
    split at hf
    · rename_i hr
      cases hf
      have h9 : fRef w.1 w.2.1 = false ∧ (fT w.1 w.2.1).2.2.2 = false ∧ (fY w.1 w.2.1 = .int ∨ v = 0 ∨ v = 1) := ⟨hr.1, hr.2, Or.inr (by simpa using hv)⟩
      exact st_go c rfl (by unfold nx1; simp only [hw, if_pos h9, pI, hs, if_true])
    · cases hf
-- arrays
theorem st_iald {n : Nat} (c : cd i pc = some (.iaload, 1)) (hs : shp k a = (1, n)) : run scr (i, pc, ls, .int x :: .ref a :: st) (m, k) = ck (inb x n) (run scr (i, pc + 1, ls, .int (m a (tn x)) :: st) (m, k)) := by
  cases q : inb x n with
  | false => exact st_no c (by unfold nx1; simp only [lI, hs, q]; simp)
  | true => exact st_go c rfl (by unfold nx1; simp only [lI, hs, q]; simp)
theorem st_iast {n : Nat} (c : cd i pc = some (.iastore, 1)) (hs : shp k a = (1, n)) : run scr (i, pc, ls, .int v :: .int x :: .ref a :: st) (m, k) = ck (inb x n) (run scr (i, pc + 1, ls, st) (up2 m a (tn x) v, k)) := by
  cases q : inb x n with
  | false => exact st_no c (by unfold nx1; simp only [sI, hs, q]; simp)
  | true => exact st_go c rfl (by unfold nx1; simp only [sI, hs, q]; simp)
theorem st_bald {n : Nat} (c : cd i pc = some (.baload, 1)) (hs : shp k a = (3, n) ∨ shp k a = (2, n)) : run scr (i, pc, ls, .int x :: .ref a :: st) (m, k) = ck (inb x n) (run scr (i, pc + 1, ls, .int (m a (tn x)) :: st) (m, k)) := by
  rcases hs with hs | hs <;>
  · cases q : inb x n with
    | false => exact st_no c (by unfold nx1; simp only [lB, hs, q]; simp)
    | true => exact st_go c rfl (by unfold nx1; simp only [lB, hs, q]; simp)
theorem st_bastB {n : Nat} (c : cd i pc = some (.bastore, 1)) (hs : shp k a = (3, n)) : run scr (i, pc, ls, .int v :: .int x :: .ref a :: st) (m, k) = ck (inb x n) (run scr (i, pc + 1, ls, st) (up2 m a (tn x) (vp_nar .byte v), k)) := by
  cases q : inb x n with
  | false => exact st_no c (by unfold nx1; simp only [sB, hs, q]; simp)
  | true => exact st_go c rfl (by unfold nx1; simp only [sB, hs, q]; simp)
theorem st_bastZ {n : Nat} (c : cd i pc = some (.bastore, 1)) (hs : shp k a = (2, n)) : run scr (i, pc, ls, .int v :: .int x :: .ref a :: st) (m, k) = ck (inb x n) (run scr (i, pc + 1, ls, st) (up2 m a (tn x) (vp_nar .boolean v), k)) := by
  cases q : inb x n with
  | false => exact st_no c (by unfold nx1; simp only [sB, hs, q]; simp)
  | true => exact st_go c rfl (by unfold nx1; simp only [sB, hs, q]; simp)
theorem st_aald {n : Nat} (c : cd i pc = some (.aaload, 1)) (hs : shp k a = (6, n)) (hb : ∀ z, z < n → kmr k a z = some (b + z)) : run scr (i, pc, ls, .int x :: .ref a :: st) (m, k) = ck (inb x n) (run scr (i, pc + 1, ls, .ref (b + tn x) :: st) (m, k)) := by
  cases q : inb x n with
  | false => exact st_no c (by unfold nx1; simp only [lR, hs, q]; simp)
  | true =>
    have h9 : tn x < n := by
      simp only [inb, Bool.and_eq_true, decide_eq_true_eq] at q
      exact q.2
    exact st_go c rfl (by unfold nx1; simp only [lR, hs, q, hb _ h9]; simp [rv])
theorem st_alen {t n : Nat} (c : cd i pc = some (.arraylength, 1)) (hs : shp k a = (t, n)) (ht : (Nat.ble 1 t && Nat.ble t 6) = true) : run scr (i, pc, ls, .ref a :: st) (m, k) = run scr (i, pc + 1, ls, .int (Int32.ofNat n) :: st) (m, k) := by
  have h9 : 1 ≤ t ∧ t ≤ 6 := by
    simp only [Bool.and_eq_true] at ht
    exact ⟨Nat.le_of_ble_eq_true ht.1, Nat.le_of_ble_eq_true ht.2⟩
  exact st_go c rfl (by unfold nx1; simp only [aln, hs, if_pos h9])
theorem st_slen {s : SC} (c : cd i pc = some (.arraylength, 1)) : run (some s) (i, pc, ls, .retAddr 1 :: st) h = run (some s) (i, pc + 1, ls, .int (Int32.ofNat s.1) :: st) h := st_go c rfl rfl
theorem st_sald {s : SC} (c : cd i pc = some (.iaload, 1)) : run (some s) (i, pc, ls, .int x :: .retAddr 1 :: st) h = ck (inb x s.1) (run (some s) (i, pc + 1, ls, .int (s.2 (tn x)) :: st) h) := by
  cases q : inb x s.1 with
  | false => exact st_no c (by unfold nx1; simp [q])
  | true => exact st_go c rfl (by unfold nx1; simp [q])
theorem st_lald {n : Nat} (c : cd i pc = some (.laload, 1)) (hs : shp k a = (4, n)) : run scr (i, pc, ls, .int x :: .ref a :: st) (m, k) = ck (inb x n) (run scr (i, pc + 1, ls, .long (kml k a (tn x)) :: st) (m, k)) := by
  cases q : inb x n with
  | false => exact st_no c (by unfold nx1; simp only [lL, hs, q]; simp)
  | true => exact st_go c rfl (by unfold nx1; simp only [lL, hs, q]; simp)
theorem st_copy {q nA nB : Nat} {sp dp n : Int32} (c : cd i pc = some (.invokestatic q, 3)) (h9 : (mC i == 9) = false) (hm : (lM (mC i)).lookup q = none) (hq : ((lS (mC i)).lookup q).isSome = true) (hv : Nat.ble 1 (mV i) = true) (hsum : Nat.ble (st.map fun v => v.category).sum 8 = true) (ha : shp k a = (1, nA)) (hb : shp k b = (1, nB)) : run scr (i, pc, ls, .int n :: .int dp :: .ref b :: .int sp :: .ref a :: st) (m, k) = ck (decide (¬ sp < 0 ∧ ¬ dp < 0 ∧ ¬ n < 0 ∧ tn sp + tn n ≤ nA ∧ tn dp + tn n ≤ nB)) (run scr (i, pc + 3, ls, st) (up1 m b (va_cpy (m a) (m b) (tn sp) (tn dp) (tn n)), k)) := by
  have h8 : ¬ mC i = 9 := by simpa using h9
  obtain ⟨w, hw⟩ := Option.isSome_iff_exists.mp hq
  have e1 : (st.map fun v => v.category).sum ≤ 8 ∧ 1 ≤ mV i := ⟨Nat.le_of_ble_eq_true hsum, Nat.le_of_ble_eq_true hv⟩
  cases q9 : decide (¬ sp < 0 ∧ ¬ dp < 0 ∧ ¬ n < 0 ∧ tn sp + tn n ≤ nA ∧ tn dp + tn n ≤ nB) with
  | false =>
    have q8 := of_decide_eq_false q9
    exact st_no c (by unfold nx1; simp only [if_neg h8, hm, hw, if_pos e1, acp, ha, hb]; simp only [true_and, if_neg q8])
  | true =>
    have q8 := of_decide_eq_true q9
    exact st_go c rfl (by unfold nx1; simp only [if_neg h8, hm, hw, if_pos e1, acp, ha, hb]; simp only [true_and, if_pos q8])
-- branches
theorem st_b {ins : Instr} {b : Bool} {off : Int} {t : Nat} {st2 : List Value} (c : cd i pc = some (ins, 3)) (hl : iln ins = 3) (hn : nx1 scr i pc ls st h ins = gB b i pc off ls st2 h) (ht : tgt pc off = some t) : run scr (i, pc, ls, st) h = if b = true then run scr (i, t, ls, st2) h else run scr (i, pc + 3, ls, st2) h := by
  unfold gB at hn
  rw [ht] at hn
  dsimp only at hn
  cases b with
  | true => exact st_nx c (by rw [hl]; rfl) hn
  | false => exact st_nx c (by rw [hl]; rfl) hn
theorem ifd {α : Type} {c : Prop} [Decidable c] {r r' : α} : (if decide c = true then r else r') = if c then r else r' := by by_cases q : c <;> simp [q]
theorem st_icmp_eq {off : Int} {t : Nat} (c : cd i pc = some (.if_icmp .eq off, 3)) (ht : tgt pc off = some t) : run scr (i, pc, ls, .int y :: .int x :: st) h = if x = y then run scr (i, t, ls, st) h else run scr (i, pc + 3, ls, st) h := (st_b c rfl rfl ht).trans ifd
theorem st_icmp_ne {off : Int} {t : Nat} (c : cd i pc = some (.if_icmp .ne off, 3)) (ht : tgt pc off = some t) : run scr (i, pc, ls, .int y :: .int x :: st) h = if x = y then run scr (i, pc + 3, ls, st) h else run scr (i, t, ls, st) h := (st_b c rfl rfl ht).trans (by by_cases q : x = y <;> simp [jc, q])
theorem st_icmp_lt {off : Int} {t : Nat} (c : cd i pc = some (.if_icmp .lt off, 3)) (ht : tgt pc off = some t) : run scr (i, pc, ls, .int y :: .int x :: st) h = if x < y then run scr (i, t, ls, st) h else run scr (i, pc + 3, ls, st) h := (st_b c rfl rfl ht).trans ifd
theorem st_icmp_ge {off : Int} {t : Nat} (c : cd i pc = some (.if_icmp .ge off, 3)) (ht : tgt pc off = some t) : run scr (i, pc, ls, .int y :: .int x :: st) h = if x < y then run scr (i, pc + 3, ls, st) h else run scr (i, t, ls, st) h := (st_b c rfl rfl ht).trans (by by_cases q : x < y <;> simp [jc, q, ← Int32.not_lt])
theorem st_icmp_gt {off : Int} {t : Nat} (c : cd i pc = some (.if_icmp .gt off, 3)) (ht : tgt pc off = some t) : run scr (i, pc, ls, .int y :: .int x :: st) h = if y < x then run scr (i, t, ls, st) h else run scr (i, pc + 3, ls, st) h := (st_b c rfl rfl ht).trans ifd
theorem st_icmp_le {off : Int} {t : Nat} (c : cd i pc = some (.if_icmp .le off, 3)) (ht : tgt pc off = some t) : run scr (i, pc, ls, .int y :: .int x :: st) h = if y < x then run scr (i, pc + 3, ls, st) h else run scr (i, t, ls, st) h := (st_b c rfl rfl ht).trans (by by_cases q : y < x <;> simp [jc, q, ← Int32.not_lt])
theorem st_if_eq {off : Int} {t : Nat} (c : cd i pc = some (.ifCond .eq off, 3)) (ht : tgt pc off = some t) : run scr (i, pc, ls, .int x :: st) h = if x = 0 then run scr (i, t, ls, st) h else run scr (i, pc + 3, ls, st) h := (st_b c rfl rfl ht).trans ifd
theorem st_if_ne {off : Int} {t : Nat} (c : cd i pc = some (.ifCond .ne off, 3)) (ht : tgt pc off = some t) : run scr (i, pc, ls, .int x :: st) h = if x = 0 then run scr (i, pc + 3, ls, st) h else run scr (i, t, ls, st) h := (st_b c rfl rfl ht).trans (by by_cases q : x = 0 <;> simp [jc, q])
theorem st_if_lt {off : Int} {t : Nat} (c : cd i pc = some (.ifCond .lt off, 3)) (ht : tgt pc off = some t) : run scr (i, pc, ls, .int x :: st) h = if x < 0 then run scr (i, t, ls, st) h else run scr (i, pc + 3, ls, st) h := (st_b c rfl rfl ht).trans ifd
theorem st_if_ge {off : Int} {t : Nat} (c : cd i pc = some (.ifCond .ge off, 3)) (ht : tgt pc off = some t) : run scr (i, pc, ls, .int x :: st) h = if x < 0 then run scr (i, pc + 3, ls, st) h else run scr (i, t, ls, st) h := (st_b c rfl rfl ht).trans (by by_cases q : x < 0 <;> simp [jc, q, ← Int32.not_lt])
theorem st_if_gt {off : Int} {t : Nat} (c : cd i pc = some (.ifCond .gt off, 3)) (ht : tgt pc off = some t) : run scr (i, pc, ls, .int x :: st) h = if 0 < x then run scr (i, t, ls, st) h else run scr (i, pc + 3, ls, st) h := (st_b c rfl rfl ht).trans ifd
theorem st_if_le {off : Int} {t : Nat} (c : cd i pc = some (.ifCond .le off, 3)) (ht : tgt pc off = some t) : run scr (i, pc, ls, .int x :: st) h = if 0 < x then run scr (i, pc + 3, ls, st) h else run scr (i, t, ls, st) h := (st_b c rfl rfl ht).trans (by by_cases q : 0 < x <;> simp [jc, q, ← Int32.not_lt])
-- switches
def swT (x : Int32) (lo : Int) : List Nat → Nat → Nat
  | [], d => d
  | t :: r, d => if x = Int32.ofInt lo then t else swT x (lo + 1) r d
def swL (x : Int32) : List (Int × Nat) → Nat → Nat
  | [], d => d
  | q :: r, d => if x = Int32.ofInt q.1 then q.2 else swL x r d
theorem int32_eq {x : Int32} {n : Int} (h : -2147483648 ≤ n ∧ n < 2147483648) : (x.toInt = n) ↔ x = Int32.ofInt n := by
  constructor
  · intro e
    rw [← e, Int32.ofInt_toInt]
  · intro e
    rw [e, Int32.toInt_ofInt_of_le (by omega) (by omega)]
theorem swtT_ok {pc : Nat} {x : Int32} {d : Int} {td : Nat} (hd : tgt pc d = some td) : ∀ (offs : List Int) (ts : List Nat) (lo : Int), -2147483648 ≤ lo → lo + offs.length ≤ 2147483647 → offs.map (tgt pc) = ts.map some → tgt pc (swt lo offs x d) = some (swT x lo ts td)
  | [], [], _, _, _, _ => hd
  | [], _ :: _, _, _, _, h => by cases h
  | _ :: _, [], _, _, _, h => by cases h
  | o :: r, t :: ts, lo, h1, h2, h => by
    rw [List.map_cons, List.map_cons, List.cons.injEq] at h
    rw [List.length_cons] at h2
    unfold swt swT
    by_cases q : x.toInt = lo
    · rw [if_pos q, if_pos ((int32_eq (by omega)).mp q), h.1]
    · rw [if_neg q, if_neg (fun z => q ((int32_eq (by omega)).mpr z))]
      exact swtT_ok hd r ts (lo + 1) (by omega) (by omega) h.2
theorem st_tsw {d lo hi : Int} {offs : Array Int} {len td : Nat} {ts : List Nat} (c : cd i pc = some (.tableswitch d lo hi offs, len)) (hh : (hi == lo + (offs.size : Int) - 1 && decide (-2147483648 ≤ lo) && decide (lo + offs.toList.length ≤ 2147483647)) = true) (hd : tgt pc d = some td) (ht : offs.toList.map (tgt pc) = ts.map some) : run scr (i, pc, ls, .int x :: st) h = run scr (i, swT x lo ts td, ls, st) h := by
  simp only [Bool.and_eq_true, beq_iff_eq, decide_eq_true_eq] at hh
  exact st_go c (by rw [show iln (.tableswitch d lo hi offs) = 0 from rfl]; simp) (by unfold nx1; simp only [if_pos hh.1.1, swtT_ok hd offs.toList ts lo hh.1.2 hh.2 ht])
theorem swlL_ok {pc : Nat} {x : Int32} {d : Int} {td : Nat} (hd : tgt pc d = some td) : ∀ (ps : List (Int × Int)) (ts : List (Int × Nat)), ps.all (fun q => decide (-2147483648 ≤ q.1 ∧ q.1 < 2147483648)) = true → ps.map (fun q => (q.1, tgt pc q.2)) = ts.map (fun q => (q.1, some q.2)) → tgt pc (swl ps x d) = some (swL x ts td)
  | [], [], _, _ => hd
  | [], _ :: _, _, h => by cases h
  | _ :: _, [], _, h => by cases h
  | o :: r, t :: ts, h1, h => by
    rw [List.map_cons, List.map_cons, List.cons.injEq, Prod.mk.injEq] at h
    rw [List.all_cons, Bool.and_eq_true] at h1
    have h2 := of_decide_eq_true h1.1
    unfold swl swL
    by_cases q : x.toInt = o.1
    · rw [if_pos q, if_pos (by rw [← h.1.1]; exact (int32_eq h2).mp q), h.1.2]
    · rw [if_neg q, if_neg (fun z => q ((int32_eq h2).mpr (by rw [h.1.1]; exact z)))]
      exact swlL_ok hd r ts h1.2 h.2
theorem st_lsw {d : Int} {ps : Array (Int × Int)} {len td : Nat} {ts : List (Int × Nat)} (c : cd i pc = some (.lookupswitch d ps, len)) (hz : (ps.toList.zip (ps.toList.drop 1)).all (fun (a, next) => a.1 < next.1) = true) (h1 : ps.toList.all (fun q => decide (-2147483648 ≤ q.1 ∧ q.1 < 2147483648)) = true) (hd : tgt pc d = some td) (ht : ps.toList.map (fun q => (q.1, tgt pc q.2)) = ts.map (fun q => (q.1, some q.2))) : run scr (i, pc, ls, .int x :: st) h = run scr (i, swL x ts td, ls, st) h :=
  st_go c (by rw [show iln (.lookupswitch d ps) = 0 from rfl]; simp) (by unfold nx1; simp only [if_pos hz, swlL_ok hd ps.toList ts h1 ht])
-- ends
theorem st_ret {ins : Instr} {len : Nat} {w : Rs × Hp} (c : cd i pc = some (ins, len)) (hl : (len == iln ins || iln ins == 0) = true) (hn : nx1 scr i pc ls st h ins = some (.inr (.inr (.inr w)))) : run scr (i, pc, ls, st) h = some w := by
  rw [run_step]
  unfold stepf nxt
  have hl2 : len = iln ins ∨ iln ins = 0 := by simpa using hl
  simp only [c, if_pos hl2, hn]
theorem st_iret (c : cd i pc = some (.ireturn, 1)) (hr : mR i = some .int) : run scr (i, pc, ls, [.int x]) h = some ((0, x), h) := st_ret c rfl (by unfold nx1; simp only [hr]; simp)
theorem st_zret (c : cd i pc = some (.ireturn, 1)) (hr : mR i = some .boolean) (hx : (x == 0 || x == 1) = true) : run scr (i, pc, ls, [.int x]) h = some ((0, x), h) := st_ret c rfl (by
  have h2 : x = 0 ∨ x = 1 := by simpa using hx
  unfold nx1; simp only [hr]; simp [h2])
theorem st_vret (c : cd i pc = some (.return_, 1)) (hr : mR i = none) : run scr (i, pc, ls, []) h = some ((1, 0), h) := st_ret c rfl (by unfold nx1; simp only [hr]; simp)
theorem st_thr {q : Nat} {w : Int32} (c : cd i pc = some (.new q, 3)) (hw : thT.lookup (i, pc) = some w) : run scr (i, pc, ls, []) h = some ((2, w), thr h) := st_ret c rfl (by unfold nx1; simp only [hw]; simp)
-- calls
theorem st_cl {ins : Instr} {len j : Nat} {fr : Fr} {as : List Value} {h1 : Hp} (c : cd i pc = some (ins, len)) (hl : (len == iln ins || iln ins == 0) = true) (hn : nx1 scr i pc ls st h ins = some (.inr (.inl (fr, j, as, h1)))) : run scr (i, pc, ls, st) h = if (mR j).isSome = true then cI (run none (ent j as) h1) (fun v h2 => run scr (psh fr (.int v)) h2) else cV (run none (ent j as) h1) (fun h2 => run scr fr h2) := by
  rw [run_step]
  unfold stepf nxt
  have hl2 : len = iln ins ∨ iln ins = 0 := by simpa using hl
  simp only [c, if_pos hl2, hn]
  cases hx : run none (ent j as) h1 with
  | none => cases (mR j).isSome <;> rfl
  | some w =>
    obtain ⟨⟨w0, wv⟩, h2⟩ := w
    cases hr : mR j with
    | none =>
      by_cases q : w0 = 1 <;> simp [cV, q]
    | some ty =>
      by_cases q : w0 = 0 <;> simp [cI, q]
def cVf (i q : Nat) : Option (Nat × Nat × Bool) := match (lM (mC i)).lookup q with
  | some w => if w.2.1 ≤ 1 ∧ mV w.1 < mV i then some (w.1, mN w.1 + 1, (mR w.1).isSome) else none
  | none => none
def cSf (i q : Nat) : Option (Nat × Nat × Bool) := match (lM (mC i)).lookup q with
  | some w => if w.2.1 = 2 ∧ mV w.1 < mV i ∧ mC i ≠ 9 then some (w.1, mN w.1, (mR w.1).isSome) else none
  | none => none
theorem st_vi {q j n : Nat} {as : List Value} (c : cd i pc = some (.invokevirtual q, 3)) (hq : cVf i q = some (j, n, true)) (hp : pops n st = some (.ref a :: as, r)) (hs : shp k a = (0, mC j)) (hsum : Nat.ble (r.map fun v => v.category).sum 8 = true) (hall : (Value.ref a :: as).all argOk = true) : run scr (i, pc, ls, st) (m, k) = cI (run none (ent j (.ref a :: as)) (m, k)) (fun v h2 => run scr (i, pc + 3, ls, .int v :: r) h2) := by
  unfold cVf at hq
  cases hw : (lM (mC i)).lookup q with
  | none => rw [hw] at hq; cases hq
  | some w =>
    rw [hw] at hq
    dsimp only at hq
    split at hq
    · rename_i hc
      simp only [Option.some.injEq, Prod.mk.injEq] at hq
      obtain ⟨e1, e2, e3⟩ := hq
      subst e1
      subst e2
      refine (st_cl (fr := (i, pc + 3, ls, r)) (j := w.1) (as := .ref a :: as) (h1 := (m, k)) c rfl ?_).trans (if_pos e3)
      unfold nx1
      simp only [hw, if_pos hc.1, gC, hp]
      rw [if_pos ⟨Nat.le_of_ble_eq_true hsum, hc.2, hall, by unfold rcv; simp [hs]⟩]
    · cases hq
theorem st_vv {q j n : Nat} {as : List Value} (c : cd i pc = some (.invokevirtual q, 3)) (hq : cVf i q = some (j, n, false)) (hp : pops n st = some (.ref a :: as, r)) (hs : shp k a = (0, mC j)) (hsum : Nat.ble (r.map fun v => v.category).sum 8 = true) (hall : (Value.ref a :: as).all argOk = true) : run scr (i, pc, ls, st) (m, k) = cV (run none (ent j (.ref a :: as)) (m, k)) (fun h2 => run scr (i, pc + 3, ls, r) h2) := by
  unfold cVf at hq
  cases hw : (lM (mC i)).lookup q with
  | none => rw [hw] at hq; cases hq
  | some w =>
    rw [hw] at hq
    dsimp only at hq
    split at hq
    · rename_i hc
      simp only [Option.some.injEq, Prod.mk.injEq] at hq
      obtain ⟨e1, e2, e3⟩ := hq
      subst e1
      subst e2
      refine (st_cl (fr := (i, pc + 3, ls, r)) (j := w.1) (as := .ref a :: as) (h1 := (m, k)) c rfl ?_).trans (if_neg (by rw [e3]; decide))
      unfold nx1
      simp only [hw, if_pos hc.1, gC, hp]
      rw [if_pos ⟨Nat.le_of_ble_eq_true hsum, hc.2, hall, by unfold rcv; simp [hs]⟩]
    · cases hq
theorem st_si {q j n : Nat} {as : List Value} (c : cd i pc = some (.invokestatic q, 3)) (hq : cSf i q = some (j, n, true)) (hS : mS j = true) (hp : pops n st = some (as, r)) (hsum : Nat.ble (r.map fun v => v.category).sum 8 = true) (hall : as.all argOk = true) : run scr (i, pc, ls, st) h = cI (run none (ent j as) h) (fun v h2 => run scr (i, pc + 3, ls, .int v :: r) h2) := by
  unfold cSf at hq
  cases hw : (lM (mC i)).lookup q with
  | none => rw [hw] at hq; cases hq
  | some w =>
    rw [hw] at hq
    dsimp only at hq
    split at hq
    · rename_i hc
      simp only [Option.some.injEq, Prod.mk.injEq] at hq
      obtain ⟨e1, e2, e3⟩ := hq
      subst e1
      subst e2
      refine (st_cl (fr := (i, pc + 3, ls, r)) (j := w.1) (as := as) (h1 := h) c rfl ?_).trans (if_pos e3)
      unfold nx1
      simp only [if_neg hc.2.2, hw, if_pos hc.1, gC, hp]
      rw [if_pos ⟨Nat.le_of_ble_eq_true hsum, hc.2.1, hall, by unfold rcv; simp [hS]⟩]
    · cases hq
theorem st_sv {q j n : Nat} {as : List Value} (c : cd i pc = some (.invokestatic q, 3)) (hq : cSf i q = some (j, n, false)) (hS : mS j = true) (hp : pops n st = some (as, r)) (hsum : Nat.ble (r.map fun v => v.category).sum 8 = true) (hall : as.all argOk = true) : run scr (i, pc, ls, st) h = cV (run none (ent j as) h) (fun h2 => run scr (i, pc + 3, ls, r) h2) := by
  unfold cSf at hq
  cases hw : (lM (mC i)).lookup q with
  | none => rw [hw] at hq; cases hq
  | some w =>
    rw [hw] at hq
    dsimp only at hq
    split at hq
    · rename_i hc
      simp only [Option.some.injEq, Prod.mk.injEq] at hq
      obtain ⟨e1, e2, e3⟩ := hq
      subst e1
      subst e2
      refine (st_cl (fr := (i, pc + 3, ls, r)) (j := w.1) (as := as) (h1 := h) c rfl ?_).trans (if_neg (by rw [e3]; decide))
      unfold nx1
      simp only [if_neg hc.2.2, hw, if_pos hc.1, gC, hp]
      rw [if_pos ⟨Nat.le_of_ble_eq_true hsum, hc.2.1, hall, by unfold rcv; simp [hS]⟩]
    · cases hq
end ST
theorem ite_cc {α : Type} {c : Prop} [Decidable c] {a a' b b' : α} (h1 : a = a') (h2 : b = b') : (if c then a else b) = if c then a' else b' := by rw [h1, h2]
theorem ck_cc {α : Type} {c : Bool} {a a' : Option α} (h1 : a = a') : ck c a = ck c a' := by rw [h1]
theorem en_eq {j : Nat} {as ls : List Value} (h : as ++ List.replicate (mX j - as.length) (.retAddr 0) = ls) : ent j as = (j, 0, ls, []) := by unfold ent; rw [h]
end
