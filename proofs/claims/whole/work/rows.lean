section
/-- a private method of a class that the tables say can be made, by its rows of tables_1 -/
def lw_okq (q : MethodName × Nat) : Prop := (q.1.cls ≠ "java/lang/invoke/MethodHandle" ∧ q.1.cls ≠ "java/lang/invoke/VarHandle") ∧ Cond.instantiable q.1.cls q.2 ∈ tables_1 ∧ Cond.privateMethod q.1 ∈ tables_1 ∧ Cond.instanceMethod q.1 ∈ tables_1
theorem lw_p0 : lw_okq (⟨"ClosureHeap$Heap", "isPointer", "(I)Z"⟩, 6) := ⟨⟨by decide +kernel, by decide +kernel⟩, List.mem_of_getElem? (i := 78) (by decide +kernel), List.mem_of_getElem? (i := 217) (by decide +kernel), List.mem_of_getElem? (i := 218) (by decide +kernel)⟩
theorem lw_p1 : lw_okq (⟨"ClosureHeap$Reader", "leaveOutBlanks", "([CI)V"⟩, 6) := ⟨⟨by decide +kernel, by decide +kernel⟩, List.mem_of_getElem? (i := 27) (by decide +kernel), List.mem_of_getElem? (i := 304) (by decide +kernel), List.mem_of_getElem? (i := 305) (by decide +kernel)⟩
theorem lw_p2 : lw_okq (⟨"ClosureHeap$Reader", "expression", "(I)LClosureHeap$Row;"⟩, 6) := ⟨⟨by decide +kernel, by decide +kernel⟩, List.mem_of_getElem? (i := 27) (by decide +kernel), List.mem_of_getElem? (i := 308) (by decide +kernel), List.mem_of_getElem? (i := 309) (by decide +kernel)⟩
theorem lw_p3 : lw_okq (⟨"java/lang/Throwable", "fillInStackTrace", "(I)Ljava/lang/Throwable;"⟩, 6) := ⟨⟨by decide +kernel, by decide +kernel⟩, List.mem_of_getElem? (i := 354) (by decide +kernel), List.mem_of_getElem? (i := 352) (by decide +kernel), List.mem_of_getElem? (i := 353) (by decide +kernel)⟩
theorem lw_p4 : lw_okq (⟨"ClosureHeap$Reader", "beginsHead", "()Z"⟩, 6) := ⟨⟨by decide +kernel, by decide +kernel⟩, List.mem_of_getElem? (i := 27) (by decide +kernel), List.mem_of_getElem? (i := 398) (by decide +kernel), List.mem_of_getElem? (i := 399) (by decide +kernel)⟩
theorem lw_p5 : lw_okq (⟨"ClosureHeap$Reader", "peek", "()C"⟩, 6) := ⟨⟨by decide +kernel, by decide +kernel⟩, List.mem_of_getElem? (i := 27) (by decide +kernel), List.mem_of_getElem? (i := 402) (by decide +kernel), List.mem_of_getElem? (i := 403) (by decide +kernel)⟩
theorem lw_p6 : lw_okq (⟨"ClosureHeap$Reader", "characterAt", "(I)C"⟩, 6) := ⟨⟨by decide +kernel, by decide +kernel⟩, List.mem_of_getElem? (i := 27) (by decide +kernel), List.mem_of_getElem? (i := 406) (by decide +kernel), List.mem_of_getElem? (i := 407) (by decide +kernel)⟩
theorem lw_p7 : lw_okq (⟨"ClosureHeap$Reader", "head", "(LClosureHeap$Row;LClosureHeap$Row;I)V"⟩, 6) := ⟨⟨by decide +kernel, by decide +kernel⟩, List.mem_of_getElem? (i := 27) (by decide +kernel), List.mem_of_getElem? (i := 413) (by decide +kernel), List.mem_of_getElem? (i := 414) (by decide +kernel)⟩
theorem lw_p8 : lw_okq (⟨"ClosureHeap$Reader", "function", "(LClosureHeap$Row;LClosureHeap$Row;)V"⟩, 6) := ⟨⟨by decide +kernel, by decide +kernel⟩, List.mem_of_getElem? (i := 27) (by decide +kernel), List.mem_of_getElem? (i := 417) (by decide +kernel), List.mem_of_getElem? (i := 418) (by decide +kernel)⟩
theorem lw_p9 : lw_okq (⟨"ClosureHeap$Reader", "takeName", "()C"⟩, 6) := ⟨⟨by decide +kernel, by decide +kernel⟩, List.mem_of_getElem? (i := 27) (by decide +kernel), List.mem_of_getElem? (i := 421) (by decide +kernel), List.mem_of_getElem? (i := 422) (by decide +kernel)⟩
theorem lw_p10 : lw_okq (⟨"ClosureHeap$Reader", "bind", "(C)V"⟩, 6) := ⟨⟨by decide +kernel, by decide +kernel⟩, List.mem_of_getElem? (i := 27) (by decide +kernel), List.mem_of_getElem? (i := 425) (by decide +kernel), List.mem_of_getElem? (i := 426) (by decide +kernel)⟩
theorem lw_p11 : lw_okq (⟨"ClosureHeap$Reader", "openFunction", "(LClosureHeap$Row;ILClosureHeap$Step;)V"⟩, 6) := ⟨⟨by decide +kernel, by decide +kernel⟩, List.mem_of_getElem? (i := 27) (by decide +kernel), List.mem_of_getElem? (i := 463) (by decide +kernel), List.mem_of_getElem? (i := 464) (by decide +kernel)⟩
theorem lw_p12 : lw_okq (⟨"ClosureHeap$Reader", "boundFunction", "(LClosureHeap$Row;LClosureHeap$Row;I)V"⟩, 6) := ⟨⟨by decide +kernel, by decide +kernel⟩, List.mem_of_getElem? (i := 27) (by decide +kernel), List.mem_of_getElem? (i := 475) (by decide +kernel), List.mem_of_getElem? (i := 476) (by decide +kernel)⟩
theorem lw_p13 : lw_okq (⟨"ClosureHeap$Reader", "expect", "(C)V"⟩, 6) := ⟨⟨by decide +kernel, by decide +kernel⟩, List.mem_of_getElem? (i := 27) (by decide +kernel), List.mem_of_getElem? (i := 479) (by decide +kernel), List.mem_of_getElem? (i := 480) (by decide +kernel)⟩
theorem lw_p14 : lw_okq (⟨"ClosureHeap$Reader", "boundValue", "(LClosureHeap$Row;LClosureHeap$Row;I)V"⟩, 6) := ⟨⟨by decide +kernel, by decide +kernel⟩, List.mem_of_getElem? (i := 27) (by decide +kernel), List.mem_of_getElem? (i := 494) (by decide +kernel), List.mem_of_getElem? (i := 495) (by decide +kernel)⟩
theorem lw_p15 : lw_okq (⟨"ClosureHeap$Reader", "match", "(I)LClosureHeap$Row;"⟩, 6) := ⟨⟨by decide +kernel, by decide +kernel⟩, List.mem_of_getElem? (i := 27) (by decide +kernel), List.mem_of_getElem? (i := 498) (by decide +kernel), List.mem_of_getElem? (i := 499) (by decide +kernel)⟩
def lw_privs_1 : List (MethodName × Nat) := [(⟨"ClosureHeap$Heap", "isPointer", "(I)Z"⟩, 6), (⟨"ClosureHeap$Reader", "leaveOutBlanks", "([CI)V"⟩, 6), (⟨"ClosureHeap$Reader", "expression", "(I)LClosureHeap$Row;"⟩, 6), (⟨"java/lang/Throwable", "fillInStackTrace", "(I)Ljava/lang/Throwable;"⟩, 6), (⟨"ClosureHeap$Reader", "beginsHead", "()Z"⟩, 6), (⟨"ClosureHeap$Reader", "peek", "()C"⟩, 6), (⟨"ClosureHeap$Reader", "characterAt", "(I)C"⟩, 6), (⟨"ClosureHeap$Reader", "head", "(LClosureHeap$Row;LClosureHeap$Row;I)V"⟩, 6), (⟨"ClosureHeap$Reader", "function", "(LClosureHeap$Row;LClosureHeap$Row;)V"⟩, 6), (⟨"ClosureHeap$Reader", "takeName", "()C"⟩, 6), (⟨"ClosureHeap$Reader", "bind", "(C)V"⟩, 6), (⟨"ClosureHeap$Reader", "openFunction", "(LClosureHeap$Row;ILClosureHeap$Step;)V"⟩, 6), (⟨"ClosureHeap$Reader", "boundFunction", "(LClosureHeap$Row;LClosureHeap$Row;I)V"⟩, 6), (⟨"ClosureHeap$Reader", "expect", "(C)V"⟩, 6), (⟨"ClosureHeap$Reader", "boundValue", "(LClosureHeap$Row;LClosureHeap$Row;I)V"⟩, 6), (⟨"ClosureHeap$Reader", "match", "(I)LClosureHeap$Row;"⟩, 6)]
theorem lw_r1 : ∀ q ∈ lw_privs_1, lw_okq q := List.forall_mem_cons.mpr ⟨lw_p0, List.forall_mem_cons.mpr ⟨lw_p1, List.forall_mem_cons.mpr ⟨lw_p2, List.forall_mem_cons.mpr ⟨lw_p3, List.forall_mem_cons.mpr ⟨lw_p4, List.forall_mem_cons.mpr ⟨lw_p5, List.forall_mem_cons.mpr ⟨lw_p6, List.forall_mem_cons.mpr ⟨lw_p7, List.forall_mem_cons.mpr ⟨lw_p8, List.forall_mem_cons.mpr ⟨lw_p9, List.forall_mem_cons.mpr ⟨lw_p10, List.forall_mem_cons.mpr ⟨lw_p11, List.forall_mem_cons.mpr ⟨lw_p12, List.forall_mem_cons.mpr ⟨lw_p13, List.forall_mem_cons.mpr ⟨lw_p14, List.forall_mem_cons.mpr ⟨lw_p15, fun _ h => absurd h List.not_mem_nil⟩⟩⟩⟩⟩⟩⟩⟩⟩⟩⟩⟩⟩⟩⟩⟩
theorem lw_p16 : lw_okq (⟨"ClosureHeap$Reader", "comparison", "(I)LClosureHeap$Row;"⟩, 6) := ⟨⟨by decide +kernel, by decide +kernel⟩, List.mem_of_getElem? (i := 27) (by decide +kernel), List.mem_of_getElem? (i := 502) (by decide +kernel), List.mem_of_getElem? (i := 503) (by decide +kernel)⟩
theorem lw_p17 : lw_okq (⟨"ClosureHeap$Reader", "sum", "(I)LClosureHeap$Row;"⟩, 6) := ⟨⟨by decide +kernel, by decide +kernel⟩, List.mem_of_getElem? (i := 27) (by decide +kernel), List.mem_of_getElem? (i := 506) (by decide +kernel), List.mem_of_getElem? (i := 507) (by decide +kernel)⟩
theorem lw_p18 : lw_okq (⟨"ClosureHeap$Reader", "product", "(I)LClosureHeap$Row;"⟩, 6) := ⟨⟨by decide +kernel, by decide +kernel⟩, List.mem_of_getElem? (i := 27) (by decide +kernel), List.mem_of_getElem? (i := 510) (by decide +kernel), List.mem_of_getElem? (i := 511) (by decide +kernel)⟩
theorem lw_p19 : lw_okq (⟨"ClosureHeap$Reader", "application", "(I)LClosureHeap$Row;"⟩, 6) := ⟨⟨by decide +kernel, by decide +kernel⟩, List.mem_of_getElem? (i := 27) (by decide +kernel), List.mem_of_getElem? (i := 514) (by decide +kernel), List.mem_of_getElem? (i := 515) (by decide +kernel)⟩
theorem lw_p20 : lw_okq (⟨"ClosureHeap$Reader", "atom", "(I)LClosureHeap$Row;"⟩, 6) := ⟨⟨by decide +kernel, by decide +kernel⟩, List.mem_of_getElem? (i := 27) (by decide +kernel), List.mem_of_getElem? (i := 518) (by decide +kernel), List.mem_of_getElem? (i := 519) (by decide +kernel)⟩
theorem lw_p21 : lw_okq (⟨"ClosureHeap$Reader", "numeral", "()LClosureHeap$Row;"⟩, 6) := ⟨⟨by decide +kernel, by decide +kernel⟩, List.mem_of_getElem? (i := 27) (by decide +kernel), List.mem_of_getElem? (i := 525) (by decide +kernel), List.mem_of_getElem? (i := 526) (by decide +kernel)⟩
theorem lw_p22 : lw_okq (⟨"ClosureHeap$Reader", "access", "()LClosureHeap$Row;"⟩, 6) := ⟨⟨by decide +kernel, by decide +kernel⟩, List.mem_of_getElem? (i := 27) (by decide +kernel), List.mem_of_getElem? (i := 532) (by decide +kernel), List.mem_of_getElem? (i := 533) (by decide +kernel)⟩
theorem lw_p23 : lw_okq (⟨"ClosureHeap$Reader", "furtherOn", "(C)I"⟩, 6) := ⟨⟨by decide +kernel, by decide +kernel⟩, List.mem_of_getElem? (i := 27) (by decide +kernel), List.mem_of_getElem? (i := 536) (by decide +kernel), List.mem_of_getElem? (i := 537) (by decide +kernel)⟩
theorem lw_p24 : lw_okq (⟨"ClosureHeap$Reader", "construction", "(I)LClosureHeap$Row;"⟩, 6) := ⟨⟨by decide +kernel, by decide +kernel⟩, List.mem_of_getElem? (i := 27) (by decide +kernel), List.mem_of_getElem? (i := 543) (by decide +kernel), List.mem_of_getElem? (i := 544) (by decide +kernel)⟩
theorem lw_p25 : lw_okq (⟨"ClosureHeap$Reader", "takeTagNotIn", "(I)I"⟩, 6) := ⟨⟨by decide +kernel, by decide +kernel⟩, List.mem_of_getElem? (i := 27) (by decide +kernel), List.mem_of_getElem? (i := 547) (by decide +kernel), List.mem_of_getElem? (i := 548) (by decide +kernel)⟩
theorem lw_p26 : lw_okq (⟨"ClosureHeap$Reader", "caseBody", "(LClosureHeap$Row;ILClosureHeap$Step;I)V"⟩, 6) := ⟨⟨by decide +kernel, by decide +kernel⟩, List.mem_of_getElem? (i := 27) (by decide +kernel), List.mem_of_getElem? (i := 563) (by decide +kernel), List.mem_of_getElem? (i := 564) (by decide +kernel)⟩
theorem lw_p27 : lw_okq (⟨"ClosureHeap$Code", "store", "(LClosureHeap$Step;)V"⟩, 2) := ⟨⟨by decide +kernel, by decide +kernel⟩, List.mem_of_getElem? (i := 54) (by decide +kernel), List.mem_of_getElem? (i := 575) (by decide +kernel), List.mem_of_getElem? (i := 576) (by decide +kernel)⟩
theorem lw_p28 : lw_okq (⟨"ClosureHeap$Machine", "hindrance", "(II)I"⟩, 9) := ⟨⟨by decide +kernel, by decide +kernel⟩, List.mem_of_getElem? (i := 76) (by decide +kernel), List.mem_of_getElem? (i := 621) (by decide +kernel), List.mem_of_getElem? (i := 622) (by decide +kernel)⟩
theorem lw_p29 : lw_okq (⟨"ClosureHeap$Machine", "isWrong", "(II)Z"⟩, 9) := ⟨⟨by decide +kernel, by decide +kernel⟩, List.mem_of_getElem? (i := 76) (by decide +kernel), List.mem_of_getElem? (i := 625) (by decide +kernel), List.mem_of_getElem? (i := 626) (by decide +kernel)⟩
theorem lw_p30 : lw_okq (⟨"ClosureHeap$Machine", "top", "()I"⟩, 9) := ⟨⟨by decide +kernel, by decide +kernel⟩, List.mem_of_getElem? (i := 76) (by decide +kernel), List.mem_of_getElem? (i := 629) (by decide +kernel), List.mem_of_getElem? (i := 630) (by decide +kernel)⟩
theorem lw_p31 : lw_okq (⟨"ClosureHeap$Machine", "placeOfCase", "(I)I"⟩, 9) := ⟨⟨by decide +kernel, by decide +kernel⟩, List.mem_of_getElem? (i := 76) (by decide +kernel), List.mem_of_getElem? (i := 634) (by decide +kernel), List.mem_of_getElem? (i := 635) (by decide +kernel)⟩
def lw_privs_2 : List (MethodName × Nat) := [(⟨"ClosureHeap$Reader", "comparison", "(I)LClosureHeap$Row;"⟩, 6), (⟨"ClosureHeap$Reader", "sum", "(I)LClosureHeap$Row;"⟩, 6), (⟨"ClosureHeap$Reader", "product", "(I)LClosureHeap$Row;"⟩, 6), (⟨"ClosureHeap$Reader", "application", "(I)LClosureHeap$Row;"⟩, 6), (⟨"ClosureHeap$Reader", "atom", "(I)LClosureHeap$Row;"⟩, 6), (⟨"ClosureHeap$Reader", "numeral", "()LClosureHeap$Row;"⟩, 6), (⟨"ClosureHeap$Reader", "access", "()LClosureHeap$Row;"⟩, 6), (⟨"ClosureHeap$Reader", "furtherOn", "(C)I"⟩, 6), (⟨"ClosureHeap$Reader", "construction", "(I)LClosureHeap$Row;"⟩, 6), (⟨"ClosureHeap$Reader", "takeTagNotIn", "(I)I"⟩, 6), (⟨"ClosureHeap$Reader", "caseBody", "(LClosureHeap$Row;ILClosureHeap$Step;I)V"⟩, 6), (⟨"ClosureHeap$Code", "store", "(LClosureHeap$Step;)V"⟩, 2), (⟨"ClosureHeap$Machine", "hindrance", "(II)I"⟩, 9), (⟨"ClosureHeap$Machine", "isWrong", "(II)Z"⟩, 9), (⟨"ClosureHeap$Machine", "top", "()I"⟩, 9), (⟨"ClosureHeap$Machine", "placeOfCase", "(I)I"⟩, 9)]
theorem lw_r2 : ∀ q ∈ lw_privs_2, lw_okq q := List.forall_mem_cons.mpr ⟨lw_p16, List.forall_mem_cons.mpr ⟨lw_p17, List.forall_mem_cons.mpr ⟨lw_p18, List.forall_mem_cons.mpr ⟨lw_p19, List.forall_mem_cons.mpr ⟨lw_p20, List.forall_mem_cons.mpr ⟨lw_p21, List.forall_mem_cons.mpr ⟨lw_p22, List.forall_mem_cons.mpr ⟨lw_p23, List.forall_mem_cons.mpr ⟨lw_p24, List.forall_mem_cons.mpr ⟨lw_p25, List.forall_mem_cons.mpr ⟨lw_p26, List.forall_mem_cons.mpr ⟨lw_p27, List.forall_mem_cons.mpr ⟨lw_p28, List.forall_mem_cons.mpr ⟨lw_p29, List.forall_mem_cons.mpr ⟨lw_p30, List.forall_mem_cons.mpr ⟨lw_p31, fun _ h => absurd h List.not_mem_nil⟩⟩⟩⟩⟩⟩⟩⟩⟩⟩⟩⟩⟩⟩⟩⟩
theorem lw_p32 : lw_okq (⟨"ClosureHeap$Machine", "wordsMade", "(II)I"⟩, 9) := ⟨⟨by decide +kernel, by decide +kernel⟩, List.mem_of_getElem? (i := 76) (by decide +kernel), List.mem_of_getElem? (i := 643) (by decide +kernel), List.mem_of_getElem? (i := 644) (by decide +kernel)⟩
theorem lw_p33 : lw_okq (⟨"ClosureHeap$Machine", "collect", "()V"⟩, 9) := ⟨⟨by decide +kernel, by decide +kernel⟩, List.mem_of_getElem? (i := 76) (by decide +kernel), List.mem_of_getElem? (i := 653) (by decide +kernel), List.mem_of_getElem? (i := 654) (by decide +kernel)⟩
theorem lw_p34 : lw_okq (⟨"ClosureHeap$Machine", "perform", "(II)V"⟩, 9) := ⟨⟨by decide +kernel, by decide +kernel⟩, List.mem_of_getElem? (i := 76) (by decide +kernel), List.mem_of_getElem? (i := 662) (by decide +kernel), List.mem_of_getElem? (i := 663) (by decide +kernel)⟩
theorem lw_p35 : lw_okq (⟨"ClosureHeap$Machine", "furtherOn", "(I)I"⟩, 9) := ⟨⟨by decide +kernel, by decide +kernel⟩, List.mem_of_getElem? (i := 76) (by decide +kernel), List.mem_of_getElem? (i := 669) (by decide +kernel), List.mem_of_getElem? (i := 670) (by decide +kernel)⟩
theorem lw_p36 : lw_okq (⟨"ClosureHeap$Machine", "push", "(I)V"⟩, 9) := ⟨⟨by decide +kernel, by decide +kernel⟩, List.mem_of_getElem? (i := 76) (by decide +kernel), List.mem_of_getElem? (i := 673) (by decide +kernel), List.mem_of_getElem? (i := 674) (by decide +kernel)⟩
theorem lw_p37 : lw_okq (⟨"ClosureHeap$Machine", "pop", "()I"⟩, 9) := ⟨⟨by decide +kernel, by decide +kernel⟩, List.mem_of_getElem? (i := 76) (by decide +kernel), List.mem_of_getElem? (i := 689) (by decide +kernel), List.mem_of_getElem? (i := 690) (by decide +kernel)⟩
theorem lw_p38 : lw_okq (⟨"ClosureHeap$Machine", "enterFunction", "(I)I"⟩, 9) := ⟨⟨by decide +kernel, by decide +kernel⟩, List.mem_of_getElem? (i := 76) (by decide +kernel), List.mem_of_getElem? (i := 695) (by decide +kernel), List.mem_of_getElem? (i := 696) (by decide +kernel)⟩
theorem lw_p39 : lw_okq (⟨"ClosureHeap$Machine", "bind", "(I)V"⟩, 9) := ⟨⟨by decide +kernel, by decide +kernel⟩, List.mem_of_getElem? (i := 76) (by decide +kernel), List.mem_of_getElem? (i := 699) (by decide +kernel), List.mem_of_getElem? (i := 700) (by decide +kernel)⟩
theorem lw_p40 : lw_okq (⟨"ClosureHeap$Machine", "make", "(I)V"⟩, 9) := ⟨⟨by decide +kernel, by decide +kernel⟩, List.mem_of_getElem? (i := 76) (by decide +kernel), List.mem_of_getElem? (i := 706) (by decide +kernel), List.mem_of_getElem? (i := 707) (by decide +kernel)⟩
theorem lw_p41 : lw_okq (⟨"ClosureHeap$Machine", "open", "(I)V"⟩, 9) := ⟨⟨by decide +kernel, by decide +kernel⟩, List.mem_of_getElem? (i := 76) (by decide +kernel), List.mem_of_getElem? (i := 712) (by decide +kernel), List.mem_of_getElem? (i := 713) (by decide +kernel)⟩
theorem lw_p42 : lw_okq (⟨"ClosureHeap$Machine", "operate", "(I)V"⟩, 9) := ⟨⟨by decide +kernel, by decide +kernel⟩, List.mem_of_getElem? (i := 76) (by decide +kernel), List.mem_of_getElem? (i := 716) (by decide +kernel), List.mem_of_getElem? (i := 717) (by decide +kernel)⟩
theorem lw_p43 : lw_okq (⟨"ClosureHeapModel", "readText", "()V"⟩, 57) := ⟨⟨by decide +kernel, by decide +kernel⟩, List.mem_of_getElem? (i := 739) (by decide +kernel), List.mem_of_getElem? (i := 930) (by decide +kernel), List.mem_of_getElem? (i := 931) (by decide +kernel)⟩
theorem lw_p44 : lw_okq (⟨"ClosureHeapModel", "begin", "(II)V"⟩, 57) := ⟨⟨by decide +kernel, by decide +kernel⟩, List.mem_of_getElem? (i := 739) (by decide +kernel), List.mem_of_getElem? (i := 934) (by decide +kernel), List.mem_of_getElem? (i := 935) (by decide +kernel)⟩
theorem lw_p45 : lw_okq (⟨"ClosureHeapModel", "completed", "(I)V"⟩, 57) := ⟨⟨by decide +kernel, by decide +kernel⟩, List.mem_of_getElem? (i := 739) (by decide +kernel), List.mem_of_getElem? (i := 938) (by decide +kernel), List.mem_of_getElem? (i := 939) (by decide +kernel)⟩
theorem lw_p46 : lw_okq (⟨"ClosureHeapModel", "node", "(II)I"⟩, 57) := ⟨⟨by decide +kernel, by decide +kernel⟩, List.mem_of_getElem? (i := 739) (by decide +kernel), List.mem_of_getElem? (i := 942) (by decide +kernel), List.mem_of_getElem? (i := 943) (by decide +kernel)⟩
theorem lw_p47 : lw_okq (⟨"ClosureHeapModel", "addChild", "(II)V"⟩, 57) := ⟨⟨by decide +kernel, by decide +kernel⟩, List.mem_of_getElem? (i := 739) (by decide +kernel), List.mem_of_getElem? (i := 946) (by decide +kernel), List.mem_of_getElem? (i := 947) (by decide +kernel)⟩
def lw_privs_3 : List (MethodName × Nat) := [(⟨"ClosureHeap$Machine", "wordsMade", "(II)I"⟩, 9), (⟨"ClosureHeap$Machine", "collect", "()V"⟩, 9), (⟨"ClosureHeap$Machine", "perform", "(II)V"⟩, 9), (⟨"ClosureHeap$Machine", "furtherOn", "(I)I"⟩, 9), (⟨"ClosureHeap$Machine", "push", "(I)V"⟩, 9), (⟨"ClosureHeap$Machine", "pop", "()I"⟩, 9), (⟨"ClosureHeap$Machine", "enterFunction", "(I)I"⟩, 9), (⟨"ClosureHeap$Machine", "bind", "(I)V"⟩, 9), (⟨"ClosureHeap$Machine", "make", "(I)V"⟩, 9), (⟨"ClosureHeap$Machine", "open", "(I)V"⟩, 9), (⟨"ClosureHeap$Machine", "operate", "(I)V"⟩, 9), (⟨"ClosureHeapModel", "readText", "()V"⟩, 57), (⟨"ClosureHeapModel", "begin", "(II)V"⟩, 57), (⟨"ClosureHeapModel", "completed", "(I)V"⟩, 57), (⟨"ClosureHeapModel", "node", "(II)I"⟩, 57), (⟨"ClosureHeapModel", "addChild", "(II)V"⟩, 57)]
theorem lw_r3 : ∀ q ∈ lw_privs_3, lw_okq q := List.forall_mem_cons.mpr ⟨lw_p32, List.forall_mem_cons.mpr ⟨lw_p33, List.forall_mem_cons.mpr ⟨lw_p34, List.forall_mem_cons.mpr ⟨lw_p35, List.forall_mem_cons.mpr ⟨lw_p36, List.forall_mem_cons.mpr ⟨lw_p37, List.forall_mem_cons.mpr ⟨lw_p38, List.forall_mem_cons.mpr ⟨lw_p39, List.forall_mem_cons.mpr ⟨lw_p40, List.forall_mem_cons.mpr ⟨lw_p41, List.forall_mem_cons.mpr ⟨lw_p42, List.forall_mem_cons.mpr ⟨lw_p43, List.forall_mem_cons.mpr ⟨lw_p44, List.forall_mem_cons.mpr ⟨lw_p45, List.forall_mem_cons.mpr ⟨lw_p46, List.forall_mem_cons.mpr ⟨lw_p47, fun _ h => absurd h List.not_mem_nil⟩⟩⟩⟩⟩⟩⟩⟩⟩⟩⟩⟩⟩⟩⟩⟩
theorem lw_p48 : lw_okq (⟨"ClosureHeapModel", "want", "(C)V"⟩, 57) := ⟨⟨by decide +kernel, by decide +kernel⟩, List.mem_of_getElem? (i := 739) (by decide +kernel), List.mem_of_getElem? (i := 950) (by decide +kernel), List.mem_of_getElem? (i := 951) (by decide +kernel)⟩
theorem lw_p49 : lw_okq (⟨"ClosureHeapModel", "look", "()C"⟩, 57) := ⟨⟨by decide +kernel, by decide +kernel⟩, List.mem_of_getElem? (i := 739) (by decide +kernel), List.mem_of_getElem? (i := 954) (by decide +kernel), List.mem_of_getElem? (i := 955) (by decide +kernel)⟩
theorem lw_p50 : lw_okq (⟨"ClosureHeapModel", "bind", "(C)V"⟩, 57) := ⟨⟨by decide +kernel, by decide +kernel⟩, List.mem_of_getElem? (i := 739) (by decide +kernel), List.mem_of_getElem? (i := 958) (by decide +kernel), List.mem_of_getElem? (i := 959) (by decide +kernel)⟩
theorem lw_p51 : lw_okq (⟨"ClosureHeapModel", "head", "(II)V"⟩, 57) := ⟨⟨by decide +kernel, by decide +kernel⟩, List.mem_of_getElem? (i := 739) (by decide +kernel), List.mem_of_getElem? (i := 962) (by decide +kernel), List.mem_of_getElem? (i := 963) (by decide +kernel)⟩
theorem lw_p52 : lw_okq (⟨"ClosureHeapModel", "fieldEnds", "(II)V"⟩, 57) := ⟨⟨by decide +kernel, by decide +kernel⟩, List.mem_of_getElem? (i := 739) (by decide +kernel), List.mem_of_getElem? (i := 966) (by decide +kernel), List.mem_of_getElem? (i := 967) (by decide +kernel)⟩
theorem lw_p53 : lw_okq (⟨"ClosureHeapModel", "push", "(I)V"⟩, 57) := ⟨⟨by decide +kernel, by decide +kernel⟩, List.mem_of_getElem? (i := 739) (by decide +kernel), List.mem_of_getElem? (i := 970) (by decide +kernel), List.mem_of_getElem? (i := 971) (by decide +kernel)⟩
theorem lw_p54 : lw_okq (⟨"ClosureHeapModel", "caseEnds", "()V"⟩, 57) := ⟨⟨by decide +kernel, by decide +kernel⟩, List.mem_of_getElem? (i := 739) (by decide +kernel), List.mem_of_getElem? (i := 974) (by decide +kernel), List.mem_of_getElem? (i := 975) (by decide +kernel)⟩
theorem lw_p55 : lw_okq (⟨"ClosureHeapModel", "readHead", "()V"⟩, 57) := ⟨⟨by decide +kernel, by decide +kernel⟩, List.mem_of_getElem? (i := 739) (by decide +kernel), List.mem_of_getElem? (i := 978) (by decide +kernel), List.mem_of_getElem? (i := 979) (by decide +kernel)⟩
theorem lw_p56 : lw_okq (⟨"ClosureHeapModel", "wantName", "()C"⟩, 57) := ⟨⟨by decide +kernel, by decide +kernel⟩, List.mem_of_getElem? (i := 739) (by decide +kernel), List.mem_of_getElem? (i := 982) (by decide +kernel), List.mem_of_getElem? (i := 983) (by decide +kernel)⟩
theorem lw_p57 : lw_okq (⟨"ClosureHeapModel", "behind", "()C"⟩, 57) := ⟨⟨by decide +kernel, by decide +kernel⟩, List.mem_of_getElem? (i := 739) (by decide +kernel), List.mem_of_getElem? (i := 989) (by decide +kernel), List.mem_of_getElem? (i := 990) (by decide +kernel)⟩
theorem lw_p58 : lw_okq (⟨"ClosureHeapModel", "readFix", "()V"⟩, 57) := ⟨⟨by decide +kernel, by decide +kernel⟩, List.mem_of_getElem? (i := 739) (by decide +kernel), List.mem_of_getElem? (i := 993) (by decide +kernel), List.mem_of_getElem? (i := 994) (by decide +kernel)⟩
theorem lw_p59 : lw_okq (⟨"ClosureHeapModel", "readAtom", "()V"⟩, 57) := ⟨⟨by decide +kernel, by decide +kernel⟩, List.mem_of_getElem? (i := 739) (by decide +kernel), List.mem_of_getElem? (i := 997) (by decide +kernel), List.mem_of_getElem? (i := 998) (by decide +kernel)⟩
theorem lw_p60 : lw_okq (⟨"ClosureHeapModel", "readNumeral", "()V"⟩, 57) := ⟨⟨by decide +kernel, by decide +kernel⟩, List.mem_of_getElem? (i := 739) (by decide +kernel), List.mem_of_getElem? (i := 1004) (by decide +kernel), List.mem_of_getElem? (i := 1005) (by decide +kernel)⟩
theorem lw_p61 : lw_okq (⟨"ClosureHeapModel", "readName", "()V"⟩, 57) := ⟨⟨by decide +kernel, by decide +kernel⟩, List.mem_of_getElem? (i := 739) (by decide +kernel), List.mem_of_getElem? (i := 1008) (by decide +kernel), List.mem_of_getElem? (i := 1009) (by decide +kernel)⟩
theorem lw_p62 : lw_okq (⟨"ClosureHeapModel", "readBehind", "()V"⟩, 57) := ⟨⟨by decide +kernel, by decide +kernel⟩, List.mem_of_getElem? (i := 739) (by decide +kernel), List.mem_of_getElem? (i := 1015) (by decide +kernel), List.mem_of_getElem? (i := 1016) (by decide +kernel)⟩
theorem lw_p63 : lw_okq (⟨"ClosureHeapModel", "join", "(CI)V"⟩, 57) := ⟨⟨by decide +kernel, by decide +kernel⟩, List.mem_of_getElem? (i := 739) (by decide +kernel), List.mem_of_getElem? (i := 1022) (by decide +kernel), List.mem_of_getElem? (i := 1023) (by decide +kernel)⟩
def lw_privs_4 : List (MethodName × Nat) := [(⟨"ClosureHeapModel", "want", "(C)V"⟩, 57), (⟨"ClosureHeapModel", "look", "()C"⟩, 57), (⟨"ClosureHeapModel", "bind", "(C)V"⟩, 57), (⟨"ClosureHeapModel", "head", "(II)V"⟩, 57), (⟨"ClosureHeapModel", "fieldEnds", "(II)V"⟩, 57), (⟨"ClosureHeapModel", "push", "(I)V"⟩, 57), (⟨"ClosureHeapModel", "caseEnds", "()V"⟩, 57), (⟨"ClosureHeapModel", "readHead", "()V"⟩, 57), (⟨"ClosureHeapModel", "wantName", "()C"⟩, 57), (⟨"ClosureHeapModel", "behind", "()C"⟩, 57), (⟨"ClosureHeapModel", "readFix", "()V"⟩, 57), (⟨"ClosureHeapModel", "readAtom", "()V"⟩, 57), (⟨"ClosureHeapModel", "readNumeral", "()V"⟩, 57), (⟨"ClosureHeapModel", "readName", "()V"⟩, 57), (⟨"ClosureHeapModel", "readBehind", "()V"⟩, 57), (⟨"ClosureHeapModel", "join", "(CI)V"⟩, 57)]
theorem lw_r4 : ∀ q ∈ lw_privs_4, lw_okq q := List.forall_mem_cons.mpr ⟨lw_p48, List.forall_mem_cons.mpr ⟨lw_p49, List.forall_mem_cons.mpr ⟨lw_p50, List.forall_mem_cons.mpr ⟨lw_p51, List.forall_mem_cons.mpr ⟨lw_p52, List.forall_mem_cons.mpr ⟨lw_p53, List.forall_mem_cons.mpr ⟨lw_p54, List.forall_mem_cons.mpr ⟨lw_p55, List.forall_mem_cons.mpr ⟨lw_p56, List.forall_mem_cons.mpr ⟨lw_p57, List.forall_mem_cons.mpr ⟨lw_p58, List.forall_mem_cons.mpr ⟨lw_p59, List.forall_mem_cons.mpr ⟨lw_p60, List.forall_mem_cons.mpr ⟨lw_p61, List.forall_mem_cons.mpr ⟨lw_p62, List.forall_mem_cons.mpr ⟨lw_p63, fun _ h => absurd h List.not_mem_nil⟩⟩⟩⟩⟩⟩⟩⟩⟩⟩⟩⟩⟩⟩⟩⟩
theorem lw_p64 : lw_okq (⟨"ClosureHeapModel", "settle", "(I)V"⟩, 57) := ⟨⟨by decide +kernel, by decide +kernel⟩, List.mem_of_getElem? (i := 739) (by decide +kernel), List.mem_of_getElem? (i := 1026) (by decide +kernel), List.mem_of_getElem? (i := 1027) (by decide +kernel)⟩
theorem lw_p65 : lw_okq (⟨"ClosureHeapModel", "readCase", "()V"⟩, 57) := ⟨⟨by decide +kernel, by decide +kernel⟩, List.mem_of_getElem? (i := 739) (by decide +kernel), List.mem_of_getElem? (i := 1033) (by decide +kernel), List.mem_of_getElem? (i := 1034) (by decide +kernel)⟩
theorem lw_p66 : lw_okq (⟨"ClosureHeapModel", "childAt", "(II)I"⟩, 57) := ⟨⟨by decide +kernel, by decide +kernel⟩, List.mem_of_getElem? (i := 739) (by decide +kernel), List.mem_of_getElem? (i := 1037) (by decide +kernel), List.mem_of_getElem? (i := 1038) (by decide +kernel)⟩
theorem lw_p67 : lw_okq (⟨"ClosureHeapModel", "makeCode", "()V"⟩, 57) := ⟨⟨by decide +kernel, by decide +kernel⟩, List.mem_of_getElem? (i := 739) (by decide +kernel), List.mem_of_getElem? (i := 1041) (by decide +kernel), List.mem_of_getElem? (i := 1042) (by decide +kernel)⟩
theorem lw_p68 : lw_okq (⟨"ClosureHeapModel", "todoEmit", "(II)V"⟩, 57) := ⟨⟨by decide +kernel, by decide +kernel⟩, List.mem_of_getElem? (i := 739) (by decide +kernel), List.mem_of_getElem? (i := 1045) (by decide +kernel), List.mem_of_getElem? (i := 1046) (by decide +kernel)⟩
theorem lw_p69 : lw_okq (⟨"ClosureHeapModel", "todo", "(III)V"⟩, 57) := ⟨⟨by decide +kernel, by decide +kernel⟩, List.mem_of_getElem? (i := 739) (by decide +kernel), List.mem_of_getElem? (i := 1049) (by decide +kernel), List.mem_of_getElem? (i := 1050) (by decide +kernel)⟩
theorem lw_p70 : lw_okq (⟨"ClosureHeapModel", "todoNode", "(I)V"⟩, 57) := ⟨⟨by decide +kernel, by decide +kernel⟩, List.mem_of_getElem? (i := 739) (by decide +kernel), List.mem_of_getElem? (i := 1053) (by decide +kernel), List.mem_of_getElem? (i := 1054) (by decide +kernel)⟩
theorem lw_p71 : lw_okq (⟨"ClosureHeapModel", "doWork", "()V"⟩, 57) := ⟨⟨by decide +kernel, by decide +kernel⟩, List.mem_of_getElem? (i := 739) (by decide +kernel), List.mem_of_getElem? (i := 1057) (by decide +kernel), List.mem_of_getElem? (i := 1058) (by decide +kernel)⟩
theorem lw_p72 : lw_okq (⟨"ClosureHeapModel", "generate", "(I)V"⟩, 57) := ⟨⟨by decide +kernel, by decide +kernel⟩, List.mem_of_getElem? (i := 739) (by decide +kernel), List.mem_of_getElem? (i := 1061) (by decide +kernel), List.mem_of_getElem? (i := 1062) (by decide +kernel)⟩
theorem lw_p73 : lw_okq (⟨"ClosureHeapModel", "emit", "(III)V"⟩, 57) := ⟨⟨by decide +kernel, by decide +kernel⟩, List.mem_of_getElem? (i := 739) (by decide +kernel), List.mem_of_getElem? (i := 1065) (by decide +kernel), List.mem_of_getElem? (i := 1066) (by decide +kernel)⟩
theorem lw_p74 : lw_okq (⟨"ClosureHeapModel", "generateBuilt", "(I)V"⟩, 57) := ⟨⟨by decide +kernel, by decide +kernel⟩, List.mem_of_getElem? (i := 739) (by decide +kernel), List.mem_of_getElem? (i := 1069) (by decide +kernel), List.mem_of_getElem? (i := 1070) (by decide +kernel)⟩
theorem lw_p75 : lw_okq (⟨"ClosureHeapModel", "set", "(III)V"⟩, 57) := ⟨⟨by decide +kernel, by decide +kernel⟩, List.mem_of_getElem? (i := 739) (by decide +kernel), List.mem_of_getElem? (i := 1073) (by decide +kernel), List.mem_of_getElem? (i := 1074) (by decide +kernel)⟩
theorem lw_p76 : lw_okq (⟨"ClosureHeapModel", "generateSwitch", "(I)V"⟩, 57) := ⟨⟨by decide +kernel, by decide +kernel⟩, List.mem_of_getElem? (i := 739) (by decide +kernel), List.mem_of_getElem? (i := 1077) (by decide +kernel), List.mem_of_getElem? (i := 1078) (by decide +kernel)⟩
theorem lw_p77 : lw_okq (⟨"ClosureHeapModel", "endMatch", "(I)V"⟩, 57) := ⟨⟨by decide +kernel, by decide +kernel⟩, List.mem_of_getElem? (i := 739) (by decide +kernel), List.mem_of_getElem? (i := 1081) (by decide +kernel), List.mem_of_getElem? (i := 1082) (by decide +kernel)⟩
theorem lw_p78 : lw_okq (⟨"ClosureHeapModel", "fail", "(I)I"⟩, 57) := ⟨⟨by decide +kernel, by decide +kernel⟩, List.mem_of_getElem? (i := 739) (by decide +kernel), List.mem_of_getElem? (i := 1085) (by decide +kernel), List.mem_of_getElem? (i := 1086) (by decide +kernel)⟩
theorem lw_p79 : lw_okq (⟨"ClosureHeapModel", "one", "()I"⟩, 57) := ⟨⟨by decide +kernel, by decide +kernel⟩, List.mem_of_getElem? (i := 739) (by decide +kernel), List.mem_of_getElem? (i := 1101) (by decide +kernel), List.mem_of_getElem? (i := 1102) (by decide +kernel)⟩
def lw_privs_5 : List (MethodName × Nat) := [(⟨"ClosureHeapModel", "settle", "(I)V"⟩, 57), (⟨"ClosureHeapModel", "readCase", "()V"⟩, 57), (⟨"ClosureHeapModel", "childAt", "(II)I"⟩, 57), (⟨"ClosureHeapModel", "makeCode", "()V"⟩, 57), (⟨"ClosureHeapModel", "todoEmit", "(II)V"⟩, 57), (⟨"ClosureHeapModel", "todo", "(III)V"⟩, 57), (⟨"ClosureHeapModel", "todoNode", "(I)V"⟩, 57), (⟨"ClosureHeapModel", "doWork", "()V"⟩, 57), (⟨"ClosureHeapModel", "generate", "(I)V"⟩, 57), (⟨"ClosureHeapModel", "emit", "(III)V"⟩, 57), (⟨"ClosureHeapModel", "generateBuilt", "(I)V"⟩, 57), (⟨"ClosureHeapModel", "set", "(III)V"⟩, 57), (⟨"ClosureHeapModel", "generateSwitch", "(I)V"⟩, 57), (⟨"ClosureHeapModel", "endMatch", "(I)V"⟩, 57), (⟨"ClosureHeapModel", "fail", "(I)I"⟩, 57), (⟨"ClosureHeapModel", "one", "()I"⟩, 57)]
theorem lw_r5 : ∀ q ∈ lw_privs_5, lw_okq q := List.forall_mem_cons.mpr ⟨lw_p64, List.forall_mem_cons.mpr ⟨lw_p65, List.forall_mem_cons.mpr ⟨lw_p66, List.forall_mem_cons.mpr ⟨lw_p67, List.forall_mem_cons.mpr ⟨lw_p68, List.forall_mem_cons.mpr ⟨lw_p69, List.forall_mem_cons.mpr ⟨lw_p70, List.forall_mem_cons.mpr ⟨lw_p71, List.forall_mem_cons.mpr ⟨lw_p72, List.forall_mem_cons.mpr ⟨lw_p73, List.forall_mem_cons.mpr ⟨lw_p74, List.forall_mem_cons.mpr ⟨lw_p75, List.forall_mem_cons.mpr ⟨lw_p76, List.forall_mem_cons.mpr ⟨lw_p77, List.forall_mem_cons.mpr ⟨lw_p78, List.forall_mem_cons.mpr ⟨lw_p79, fun _ h => absurd h List.not_mem_nil⟩⟩⟩⟩⟩⟩⟩⟩⟩⟩⟩⟩⟩⟩⟩⟩
theorem lw_p80 : lw_okq (⟨"ClosureHeapModel", "wrong", "(I)I"⟩, 57) := ⟨⟨by decide +kernel, by decide +kernel⟩, List.mem_of_getElem? (i := 739) (by decide +kernel), List.mem_of_getElem? (i := 1105) (by decide +kernel), List.mem_of_getElem? (i := 1106) (by decide +kernel)⟩
theorem lw_p81 : lw_okq (⟨"ClosureHeapModel", "isFunction", "(I)Z"⟩, 57) := ⟨⟨by decide +kernel, by decide +kernel⟩, List.mem_of_getElem? (i := 739) (by decide +kernel), List.mem_of_getElem? (i := 1112) (by decide +kernel), List.mem_of_getElem? (i := 1113) (by decide +kernel)⟩
theorem lw_p82 : lw_okq (⟨"ClosureHeapModel", "blockKind", "(I)I"⟩, 57) := ⟨⟨by decide +kernel, by decide +kernel⟩, List.mem_of_getElem? (i := 739) (by decide +kernel), List.mem_of_getElem? (i := 1119) (by decide +kernel), List.mem_of_getElem? (i := 1120) (by decide +kernel)⟩
theorem lw_p83 : lw_okq (⟨"ClosureHeapModel", "isBuilt", "(I)Z"⟩, 57) := ⟨⟨by decide +kernel, by decide +kernel⟩, List.mem_of_getElem? (i := 739) (by decide +kernel), List.mem_of_getElem? (i := 1123) (by decide +kernel), List.mem_of_getElem? (i := 1124) (by decide +kernel)⟩
theorem lw_p84 : lw_okq (⟨"ClosureHeapModel", "findCase", "()I"⟩, 57) := ⟨⟨by decide +kernel, by decide +kernel⟩, List.mem_of_getElem? (i := 739) (by decide +kernel), List.mem_of_getElem? (i := 1130) (by decide +kernel), List.mem_of_getElem? (i := 1131) (by decide +kernel)⟩
theorem lw_p85 : lw_okq (⟨"ClosureHeapModel", "tagOf", "(I)I"⟩, 57) := ⟨⟨by decide +kernel, by decide +kernel⟩, List.mem_of_getElem? (i := 739) (by decide +kernel), List.mem_of_getElem? (i := 1134) (by decide +kernel), List.mem_of_getElem? (i := 1135) (by decide +kernel)⟩
theorem lw_p86 : lw_okq (⟨"ClosureHeapModel", "a", "()I"⟩, 57) := ⟨⟨by decide +kernel, by decide +kernel⟩, List.mem_of_getElem? (i := 739) (by decide +kernel), List.mem_of_getElem? (i := 1138) (by decide +kernel), List.mem_of_getElem? (i := 1139) (by decide +kernel)⟩
theorem lw_p87 : lw_okq (⟨"ClosureHeapModel", "stop", "(I)I"⟩, 57) := ⟨⟨by decide +kernel, by decide +kernel⟩, List.mem_of_getElem? (i := 739) (by decide +kernel), List.mem_of_getElem? (i := 1142) (by decide +kernel), List.mem_of_getElem? (i := 1143) (by decide +kernel)⟩
theorem lw_p88 : lw_okq (⟨"ClosureHeapModel", "roomFor", "(I)I"⟩, 57) := ⟨⟨by decide +kernel, by decide +kernel⟩, List.mem_of_getElem? (i := 739) (by decide +kernel), List.mem_of_getElem? (i := 1146) (by decide +kernel), List.mem_of_getElem? (i := 1147) (by decide +kernel)⟩
theorem lw_p89 : lw_okq (⟨"ClosureHeapModel", "hasRoom", "(I)Z"⟩, 57) := ⟨⟨by decide +kernel, by decide +kernel⟩, List.mem_of_getElem? (i := 739) (by decide +kernel), List.mem_of_getElem? (i := 1150) (by decide +kernel), List.mem_of_getElem? (i := 1151) (by decide +kernel)⟩
theorem lw_p90 : lw_okq (⟨"ClosureHeapModel", "collect", "()V"⟩, 57) := ⟨⟨by decide +kernel, by decide +kernel⟩, List.mem_of_getElem? (i := 739) (by decide +kernel), List.mem_of_getElem? (i := 1154) (by decide +kernel), List.mem_of_getElem? (i := 1155) (by decide +kernel)⟩
theorem lw_p91 : lw_okq (⟨"ClosureHeapModel", "move", "(II)I"⟩, 57) := ⟨⟨by decide +kernel, by decide +kernel⟩, List.mem_of_getElem? (i := 739) (by decide +kernel), List.mem_of_getElem? (i := 1158) (by decide +kernel), List.mem_of_getElem? (i := 1159) (by decide +kernel)⟩
theorem lw_p92 : lw_okq (⟨"ClosureHeapModel", "blockSize", "(I)I"⟩, 57) := ⟨⟨by decide +kernel, by decide +kernel⟩, List.mem_of_getElem? (i := 739) (by decide +kernel), List.mem_of_getElem? (i := 1162) (by decide +kernel), List.mem_of_getElem? (i := 1163) (by decide +kernel)⟩
theorem lw_p93 : lw_okq (⟨"ClosureHeapModel", "apply", "()V"⟩, 57) := ⟨⟨by decide +kernel, by decide +kernel⟩, List.mem_of_getElem? (i := 739) (by decide +kernel), List.mem_of_getElem? (i := 1166) (by decide +kernel), List.mem_of_getElem? (i := 1167) (by decide +kernel)⟩
theorem lw_p94 : lw_okq (⟨"ClosureHeapModel", "field", "(II)I"⟩, 57) := ⟨⟨by decide +kernel, by decide +kernel⟩, List.mem_of_getElem? (i := 739) (by decide +kernel), List.mem_of_getElem? (i := 1170) (by decide +kernel), List.mem_of_getElem? (i := 1171) (by decide +kernel)⟩
theorem lw_p95 : lw_okq (⟨"ClosureHeapModel", "block", "(III)I"⟩, 57) := ⟨⟨by decide +kernel, by decide +kernel⟩, List.mem_of_getElem? (i := 739) (by decide +kernel), List.mem_of_getElem? (i := 1174) (by decide +kernel), List.mem_of_getElem? (i := 1175) (by decide +kernel)⟩
def lw_privs_6 : List (MethodName × Nat) := [(⟨"ClosureHeapModel", "wrong", "(I)I"⟩, 57), (⟨"ClosureHeapModel", "isFunction", "(I)Z"⟩, 57), (⟨"ClosureHeapModel", "blockKind", "(I)I"⟩, 57), (⟨"ClosureHeapModel", "isBuilt", "(I)Z"⟩, 57), (⟨"ClosureHeapModel", "findCase", "()I"⟩, 57), (⟨"ClosureHeapModel", "tagOf", "(I)I"⟩, 57), (⟨"ClosureHeapModel", "a", "()I"⟩, 57), (⟨"ClosureHeapModel", "stop", "(I)I"⟩, 57), (⟨"ClosureHeapModel", "roomFor", "(I)I"⟩, 57), (⟨"ClosureHeapModel", "hasRoom", "(I)Z"⟩, 57), (⟨"ClosureHeapModel", "collect", "()V"⟩, 57), (⟨"ClosureHeapModel", "move", "(II)I"⟩, 57), (⟨"ClosureHeapModel", "blockSize", "(I)I"⟩, 57), (⟨"ClosureHeapModel", "apply", "()V"⟩, 57), (⟨"ClosureHeapModel", "field", "(II)I"⟩, 57), (⟨"ClosureHeapModel", "block", "(III)I"⟩, 57)]
theorem lw_r6 : ∀ q ∈ lw_privs_6, lw_okq q := List.forall_mem_cons.mpr ⟨lw_p80, List.forall_mem_cons.mpr ⟨lw_p81, List.forall_mem_cons.mpr ⟨lw_p82, List.forall_mem_cons.mpr ⟨lw_p83, List.forall_mem_cons.mpr ⟨lw_p84, List.forall_mem_cons.mpr ⟨lw_p85, List.forall_mem_cons.mpr ⟨lw_p86, List.forall_mem_cons.mpr ⟨lw_p87, List.forall_mem_cons.mpr ⟨lw_p88, List.forall_mem_cons.mpr ⟨lw_p89, List.forall_mem_cons.mpr ⟨lw_p90, List.forall_mem_cons.mpr ⟨lw_p91, List.forall_mem_cons.mpr ⟨lw_p92, List.forall_mem_cons.mpr ⟨lw_p93, List.forall_mem_cons.mpr ⟨lw_p94, List.forall_mem_cons.mpr ⟨lw_p95, fun _ h => absurd h List.not_mem_nil⟩⟩⟩⟩⟩⟩⟩⟩⟩⟩⟩⟩⟩⟩⟩⟩
theorem lw_p96 : lw_okq (⟨"ClosureHeapModel", "simple", "(I)V"⟩, 57) := ⟨⟨by decide +kernel, by decide +kernel⟩, List.mem_of_getElem? (i := 739) (by decide +kernel), List.mem_of_getElem? (i := 1178) (by decide +kernel), List.mem_of_getElem? (i := 1179) (by decide +kernel)⟩
theorem lw_p97 : lw_okq (⟨"ClosureHeapModel", "calculate", "(I)V"⟩, 57) := ⟨⟨by decide +kernel, by decide +kernel⟩, List.mem_of_getElem? (i := 739) (by decide +kernel), List.mem_of_getElem? (i := 1182) (by decide +kernel), List.mem_of_getElem? (i := 1183) (by decide +kernel)⟩
theorem lw_p98 : lw_okq (⟨"ClosureHeapModel", "make", "()V"⟩, 57) := ⟨⟨by decide +kernel, by decide +kernel⟩, List.mem_of_getElem? (i := 739) (by decide +kernel), List.mem_of_getElem? (i := 1186) (by decide +kernel), List.mem_of_getElem? (i := 1187) (by decide +kernel)⟩
theorem lw_p99 : lw_okq (⟨"ClosureHeapModel", "reach", "(I)V"⟩, 57) := ⟨⟨by decide +kernel, by decide +kernel⟩, List.mem_of_getElem? (i := 739) (by decide +kernel), List.mem_of_getElem? (i := 1214) (by decide +kernel), List.mem_of_getElem? (i := 1215) (by decide +kernel)⟩
theorem lw_p100 : lw_okq (⟨"ClosureHeapModel", "ends", "(I)Z"⟩, 57) := ⟨⟨by decide +kernel, by decide +kernel⟩, List.mem_of_getElem? (i := 739) (by decide +kernel), List.mem_of_getElem? (i := 1226) (by decide +kernel), List.mem_of_getElem? (i := 1227) (by decide +kernel)⟩
theorem lw_p101 : lw_okq (⟨"ClosureHeapModel", "kindOf", "(I)I"⟩, 57) := ⟨⟨by decide +kernel, by decide +kernel⟩, List.mem_of_getElem? (i := 739) (by decide +kernel), List.mem_of_getElem? (i := 1230) (by decide +kernel), List.mem_of_getElem? (i := 1231) (by decide +kernel)⟩
theorem lw_p102 : lw_okq (⟨"ClosureHeapModel", "follow", "(I)I"⟩, 57) := ⟨⟨by decide +kernel, by decide +kernel⟩, List.mem_of_getElem? (i := 739) (by decide +kernel), List.mem_of_getElem? (i := 1234) (by decide +kernel), List.mem_of_getElem? (i := 1235) (by decide +kernel)⟩
def lw_privs_7 : List (MethodName × Nat) := [(⟨"ClosureHeapModel", "simple", "(I)V"⟩, 57), (⟨"ClosureHeapModel", "calculate", "(I)V"⟩, 57), (⟨"ClosureHeapModel", "make", "()V"⟩, 57), (⟨"ClosureHeapModel", "reach", "(I)V"⟩, 57), (⟨"ClosureHeapModel", "ends", "(I)Z"⟩, 57), (⟨"ClosureHeapModel", "kindOf", "(I)I"⟩, 57), (⟨"ClosureHeapModel", "follow", "(I)I"⟩, 57)]
theorem lw_r7 : ∀ q ∈ lw_privs_7, lw_okq q := List.forall_mem_cons.mpr ⟨lw_p96, List.forall_mem_cons.mpr ⟨lw_p97, List.forall_mem_cons.mpr ⟨lw_p98, List.forall_mem_cons.mpr ⟨lw_p99, List.forall_mem_cons.mpr ⟨lw_p100, List.forall_mem_cons.mpr ⟨lw_p101, List.forall_mem_cons.mpr ⟨lw_p102, fun _ h => absurd h List.not_mem_nil⟩⟩⟩⟩⟩⟩⟩
def lw_privs : List (MethodName × Nat) := lw_privs_1 ++ (lw_privs_2 ++ (lw_privs_3 ++ (lw_privs_4 ++ (lw_privs_5 ++ (lw_privs_6 ++ (lw_privs_7))))))
def lw_tbl : List Cond := k2_sels lw_privs ++ tables_1
theorem lw_privs_ok : ∀ q ∈ lw_privs, lw_okq q := by
  show ∀ q ∈ lw_privs_1 ++ (lw_privs_2 ++ (lw_privs_3 ++ (lw_privs_4 ++ (lw_privs_5 ++ (lw_privs_6 ++ (lw_privs_7)))))), lw_okq q
  exact List.forall_mem_append.mpr ⟨lw_r1, List.forall_mem_append.mpr ⟨lw_r2, List.forall_mem_append.mpr ⟨lw_r3, List.forall_mem_append.mpr ⟨lw_r4, List.forall_mem_append.mpr ⟨lw_r5, List.forall_mem_append.mpr ⟨lw_r6, lw_r7⟩⟩⟩⟩⟩⟩
end
section
/-! ===== BEGIN words of one list among another's, by their places ===== -/
theorem goodIn_r {big : List Cond} (ws : List Cond) (ps : List Nat) (hp : ws = ps.filterMap (fun i => big[i]?)) (h : ws.all goodWord = true) : GoodIn big ws := by
  intro w hw
  have h1 := List.all_eq_true.mp h w hw
  rw [hp] at hw
  obtain ⟨i, -, hi⟩ := List.mem_filterMap.mp hw
  have hm : w ∈ big := by first | exact List.mem_of_getElem? hi | exact List.getElem?_mem hi
  exact ⟨hm, good_of_word h1⟩
theorem goodIn_app {big a b : List Cond} (ha : GoodIn big a) (hb : GoodIn big b) : GoodIn big (a ++ b) := fun w h => (List.mem_append.mp h).elim (ha w) (hb w)
theorem goodIn_ca {big a b : List Cond} {c : Cond} (ha : GoodIn big (c :: a)) (hb : GoodIn big b) : GoodIn big (c :: (a ++ b)) := fun w h => (List.mem_cons.mp h).elim (fun e => ha w (List.mem_cons.mpr (Or.inl e))) (fun h => (List.mem_append.mp h).elim (fun h => ha w (List.mem_cons.mpr (Or.inr h))) (hb w))
theorem goodIn_sub {big ws : List Cond} (hm : ∀ w ∈ ws, w ∈ big) (h : ws.all goodWord = true) : GoodIn big ws := fun w hw => ⟨hm w hw, good_of_word (List.all_eq_true.mp h w hw)⟩
/-! ===== END ===== -/

/-! ===== BEGIN exceptions that leave a method, and their catching by the caller (launches without stack traces) ===== -/
section VXA
/-! The laws vx_back, vx_callV, vx_callS, vx_callSW, vx_throw0, vx_throwS follow proofs of the library, with one case more: JvmDerived/Free/Laws.lean (Back.of_free), Shelf42/LK1.lean (callV, callS), Shelf/KitTraced.lean (throwNew0V, throwNewS). -/
/-- where a method has thrown q: the class by its name, the cell, what was written, the world -/
def vx_T (XC : String → State → State → Prop) (st : State) (q : Addr) (t : State) (mc ms : Nat) (free : Addr → Prop) : Prop :=
  ∃ (E : String) (ce : Cell) (L : List Loc), XC E st t ∧ t.heap[q]? = some ce ∧ ce.vm = .none ∧ st.vm.findClass E = some ce.cls ∧ st.WarmedH t.vm ∧ st.sameButNew ({ t with vm := st.vm } : State) L mc ms ∧ ∀ z ∈ L, free z.base
def vx_Q (Qc : Array Value → State → Outcome → State → Prop) (XC : String → State → State → Prop) (mc ms : Nat) (free : Addr → Prop) : Array Value → State → Outcome → State → Prop := fun a st o t =>
  (Qc a st o t ∧ ∃ L, FrameEnd st o t L mc ms ∧ ∀ q ∈ L, free q.base) ∨ ∃ q, o = .threw q ∧ vx_T XC st q t mc ms free
/-- a callee that returns or throws -/
def vx_Met (l : Launch) (y : MethodName) (ws : List Cond) (rm : Room) (Pc : Array Value → State → Prop) (Qc : Array Value → State → Outcome → State → Prop) (XC : String → State → State → Prop) (mc ms : Nat) (free : Addr → Prop) : Prop :=
  MetFree l y (headSpec ws rm) Pc (fun _ _ _ _ _ => True) (vx_Q Qc XC mc ms free)
def vx_Post (XC : String → State → State → Prop) (mc ms : Nat) (free : Addr → Prop) : Pt → Array Value → Addr → Pt → Prop := fun A a q B =>
  ∃ (g : JFrame) (mk : MethodId) (t : State) (L : List Loc) (E : String) (ce : Cell), B.U.heap = t.heap ∧ B.U.vm = t.vm ∧ XC E (A.U.calling g mk a) t ∧ t.heap[q]? = some ce ∧ ce.vm = .none ∧ A.U.vm.findClass E = some ce.cls ∧ B.locs = A.locs ++ L ∧ (∀ z ∈ L, free z.base) ∧ B.cells = A.cells + mc ∧ B.slots = A.slots + ms
def vx_Back (l : Launch) (R : Room) (p : Program) (e : Env) (below : List Frame) (s : State) (sargs : Array Value) (y : MethodName) (len W9 : Nat)
    (Pre : Pt → Array Value → Prop) (Post : Pt → Array Value → Option Value → Pt → Prop) (PostX : Pt → Array Value → Addr → Pt → Prop) : Prop :=
  ∀ (m : MethodId) (meth : Method) (c : Code) (A : Pt) (g : JFrame) (ig : Instr) (mk : MethodId) (a : Array Value),
    Stand p l e R s m sargs below meth c A.U A.locs A.cells A.slots → g.method = m → g.locals.size = c.maxLocals → decode c.code g.pc = .ok (ig, len) →
    2 * g.monitorRoom + (g.stack.map fun v => v.category).sum ≤ W9 → A.U.methodNamed? y = some mk → Pre A a →
    (∃ (v : Option Value) (B : Pt), Stand p l e R s m sargs below meth c B.U B.locs B.cells B.slots ∧ Post A a v B ∧
      Steps p.tables e below (doInvoke e (A.U.setTop g) [] mk a).1 (B.U.setTop { g with pc := g.pc + len, stack := v.toList ++ g.stack })) ∨
    (∃ (q : Addr) (B : Pt), Stand p l e R s m sargs below meth c B.U B.locs B.cells B.slots ∧ PostX A a q B ∧
      Steps p.tables e below (doInvoke e (A.U.setTop g) [] mk a).1 ((B.U.setTop g).pushFrame (.throwing q)))
section Payer
variable {l : Launch} {R : Room} {p : Program} {e : Env} {below : List Frame} {s : State} {sargs : Array Value} {y : MethodName} {len W9 : Nat}
theorem vx_back {ws : List Cond} {rm : Room} {Pc : Array Value → State → Prop} {Qc : Array Value → State → Outcome → State → Prop} {XC : String → State → State → Prop} {mc ms : Nat} {free : Addr → Prop} {bytes : ByteArray} {maxL : Nat} {ret : Option FieldType}
    (hM : vx_Met l y ws rm Pc Qc XC mc ms free) (hblind : FrameBlind Pc) (hrc : rm.cells = mc) (hrs : rm.slots = ms)
    (hframes : rm.frames + 1 ≤ R.frames) (hlocals : W9 + (maxL + 11) + rm.locals ≤ R.locals)
    (hws : ∀ w ∈ ws, ∀ a' U, s.WarmedH U.vm → w.before a' U = true) (hcode : Cond.code y bytes maxL ret ∈ ws) (hinit : ∀ a' U, s.WarmedH U.vm → (Cond.initialized y.cls).before a' U = true) :
    vx_Back l R p e below s sargs y len W9 (PreOf R mc ms Pc) (PostOf Qc mc ms free) (vx_Post XC mc ms free) := by
  intro m meth c A g ig mk a X hg hsize hdg hW hn hp
  have h1 : (headSpec ws rm).pre.before a A.U = true := atoms_intro fun w hw => hws w hw _ _ X.warmed
  have h2 : (Cond.code y bytes maxL ret).before a A.U = true := hws _ hcode _ _ X.warmed
  have h3 : (Cond.initialized y.cls).before a A.U = true := hinit _ _ X.warmed
  have h4 : A.cells + (headSpec ws rm).room.cells ≤ R.cells := by rw [show (headSpec ws rm).room.cells = mc from hrc]; exact hp.1
  have h5 : A.slots + (headSpec ws rm).room.slots ≤ R.slots := by rw [show (headSpec ws rm).room.slots = ms from hrs]; exact hp.2.1
  have hPc : Pc a (A.U.calling g mk a) := hblind _ _ _ _ hp.2.2
  obtain ⟨U, Ls, c0, s0⟩ := A
  dsimp only [Pt.U, Pt.locs, Pt.cells, Pt.slots] at h1 h2 h3 h4 h5 X hn hPc ⊢
  obtain ⟨methY, cY, hmY, hcY, -, hlY, -, -, -, -⟩ := Cond.code_spec hn h2
  obtain ⟨kY, hkY, -⟩ := className_of_methodNamed hn
  have hinitY : kY.init = .initialized := Cond.initialized_spec (findClass_of_methodNamed hn) hkY h3
  have h : At U g.method c below := by rw [hg]; exact X.here
  have hlocals9 : W9 + (maxL + 11) + (headSpec ws rm).room.locals ≤ R.locals := hlocals
  have happ : (headSpec ws rm).appliesLoose y e.platform (U.calling g mk a) = true :=
    Spec.appliesLoose_calling (g := g) h hdg hn hkY hinitY
      (X.room_calling (g := g) (R' := (headSpec ws rm).room) hsize hmY hcY hframes (by rw [hlY]; omega) h4 h5) h1
  obtain ⟨mid, hmid⟩ := h.above
  have hfr : (U.setTop g).frames = (.java g :: mid) ++ below := by rw [State.frames_setTop' g h.top, hmid]; rfl
  obtain ⟨o, s₂, hsteps, -, hend, hq⟩ := Steps.callFree hM p X.admits X.cas X.clock (acts := []) hfr happ hPc trivial
  have hq' : vx_Q Qc XC mc ms free a (U.calling g mk a) o s₂ := hq
  rw [State.frames_setTop' g h.top] at hend
  obtain ⟨g₀, hg0⟩ := Option.isSome_iff_exists.mp h.top
  obtain ⟨r, hr⟩ := State.topJava?_eq_some.mp hg0
  have hr' : (({ U with heap := s₂.heap, slotsUsed := s₂.slotsUsed } : State).setVm s₂.vm).frames = .java g₀ :: r := hr
  rcases hq' with ⟨hqc, L, hfe, hL⟩ | ⟨q, rfl, E, ce, L, hx, hce, hcv, hcl, hW₂, hsm, hL⟩
  · obtain ⟨⟨v, rfl⟩, hW₂, e2, q2, q3, q4, q5, q6⟩ := id hfe
    have e3 : s₂ = ({ (U.calling g mk a).setFrames s₂.frames with heap := s₂.heap, slotsUsed := s₂.slotsUsed } : State).setVm s₂.vm := by
      have : s₂ = ({ s₂ with vm := (U.calling g mk a).vm } : State).setVm s₂.vm := rfl
      rw [e2] at this
      exact this
    obtain ⟨c₂, i₂, len₂, hc₂, hd₂, hf₂⟩ := hend
    have hW' : U.WarmedH s₂.vm := hW₂
    have hcc : c₂ = c := by
      have h1 : s₂.code? g.method = U.code? g.method := by
        rw [State.code?_eq, State.code?_eq, hW'.alike.method?]
      exact Option.some.inj (hc₂.symm.trans (h1.trans h.code))
    subst hcc
    have hlen : len₂ = len := by rw [hdg] at hd₂; cases hd₂; rfl
    subst hlen
    have hs₂ : s₂ = (({ U with heap := s₂.heap, slotsUsed := s₂.slotsUsed } : State).setVm s₂.vm).setTop { g with pc := g.pc + len₂, stack := v.toList ++ g.stack } := by
      refine e3.trans ?_
      rw [hf₂, State.calling_eq h.top, State.setFrames_setFrames, State.setTop_of_frames _ hr', hr]
      rfl
    have hsame : U.sameButNew ({ U with heap := s₂.heap, slotsUsed := s₂.slotsUsed } : State) L mc ms := by
      refine ⟨?_, q2, q3, q4, q5, q6⟩
      obtain ⟨t, ht, -⟩ := State.frames_cons hr
      show ({ U with heap := s₂.heap, slotsUsed := s₂.slotsUsed } : State) = { U.setFrames U.frames with heap := s₂.heap, slotsUsed := s₂.slotsUsed }
      rw [State.setFrames_self ht]
    subst hg
    refine Or.inl ⟨v, ⟨(({ U with heap := s₂.heap, slotsUsed := s₂.slotsUsed } : State).setVm s₂.vm), Ls ++ L, c0 + mc, s0 + ms⟩,
      ⟨X.admits, X.cas, X.clock, X.frames, X.room, X.hears, X.method, X.code, (X.here.setHeapUsed s₂.heap s₂.slotsUsed).setVm hW'.alike, X.tail, State.WarmedH.trans X.warmed hW', X.limits, X.bytes, X.same.trans (hsame.setVm s.vm)⟩,
      ⟨g, mk, s₂, L, rfl, rfl, hqc, rfl, hL, rfl, rfl⟩, ?_⟩
    show Steps p.tables e below _ ((({ U with heap := s₂.heap, slotsUsed := s₂.slotsUsed } : State).setVm s₂.vm).setTop { g with pc := g.pc + len₂, stack := v.toList ++ g.stack })
    rw [← hs₂]
    exact hsteps
  · obtain ⟨e2, q2, q3, q4, q5, q6⟩ := id hsm
    have e3 : s₂ = ({ (U.calling g mk a).setFrames s₂.frames with heap := s₂.heap, slotsUsed := s₂.slotsUsed } : State).setVm s₂.vm := by
      have : s₂ = ({ s₂ with vm := (U.calling g mk a).vm } : State).setVm s₂.vm := rfl
      rw [e2] at this
      exact this
    have hf₂ : s₂.frames = .throwing q :: .java g :: U.frames.tail := hend
    have hW' : U.WarmedH s₂.vm := hW₂
    have hs₂ : s₂ = ((({ U with heap := s₂.heap, slotsUsed := s₂.slotsUsed } : State).setVm s₂.vm).setTop g).pushFrame (.throwing q) := by
      refine e3.trans ?_
      rw [hf₂, State.calling_eq h.top, State.setFrames_setFrames, State.pushFrame, State.frames_setTop _ hr', State.setTop_of_frames _ hr', State.setFrames_setFrames, hr]
      rfl
    have hsame : U.sameButNew ({ U with heap := s₂.heap, slotsUsed := s₂.slotsUsed } : State) L mc ms := by
      refine ⟨?_, q2, q3, q4, q5, q6⟩
      obtain ⟨t, ht, -⟩ := State.frames_cons hr
      show ({ U with heap := s₂.heap, slotsUsed := s₂.slotsUsed } : State) = { U.setFrames U.frames with heap := s₂.heap, slotsUsed := s₂.slotsUsed }
      rw [State.setFrames_self ht]
    subst hg
    refine Or.inr ⟨q, ⟨(({ U with heap := s₂.heap, slotsUsed := s₂.slotsUsed } : State).setVm s₂.vm), Ls ++ L, c0 + mc, s0 + ms⟩,
      ⟨X.admits, X.cas, X.clock, X.frames, X.room, X.hears, X.method, X.code, (X.here.setHeapUsed s₂.heap s₂.slotsUsed).setVm hW'.alike, X.tail, State.WarmedH.trans X.warmed hW', X.limits, X.bytes, X.same.trans (hsame.setVm s.vm)⟩,
      ⟨g, mk, s₂, L, E, ce, rfl, rfl, hx, hce, hcv, hcl, rfl, hL, rfl, rfl⟩, ?_⟩
    show Steps p.tables e below _ (((({ U with heap := s₂.heap, slotsUsed := s₂.slotsUsed } : State).setVm s₂.vm).setTop g).pushFrame (.throwing q))
    rw [← hs₂]
    exact hsteps
end Payer
section Calls
variable {p : Program} {l : Launch} {e : Env} {R : Room} {s : State} {m : MethodId} {args : Array Value} {below : List Frame} {meth : Method} {c : Code} {T : State} {locs : List Loc} {cells slots : Nat}
theorem vx_callV (X : Stand p l e R s m args below meth c T locs cells slots) (hexec : p.tables.exec = Jvm.exec) {own C : String} {index : Nat} {y : MethodName} {bytes : ByteArray} {maxL : Nat} {ret : Option FieldType}
    (hown : s.vm.findClass own = some m.cls) (hlink : (Cond.methodLink own index y).before args s = true) (hinst : (Cond.instanceMethod y).before args s = true) (hsel : (Cond.selects C y y).before args s = true)
    (hcode : (Cond.code y bytes maxL ret).before args s = true) (hy : y.cls ≠ "java/lang/invoke/MethodHandle" ∧ y.cls ≠ "java/lang/invoke/VarHandle")
    {W9 : Nat} {Pre : Pt → Array Value → Prop} {Post : Pt → Array Value → Option Value → Pt → Prop} {PostX : Pt → Array Value → Addr → Pt → Prop} (hK : vx_Back l R p e below s args y 3 W9 Pre Post PostX)
    {b : Addr} {cellB : Cell} (hcell : T.heap[b]? = some cellB) (hobj : cellB.vm.isStatics = false) (hcls : s.vm.findClass C = some cellB.cls)
    {g : JFrame} (hg : g.method = m) (hsize : g.locals.size = c.maxLocals) {argsL rest : List Value} (hlen : ∀ sig, parseMethodDescriptor y.desc = some sig → argsL.length = sig.parameters.length)
    (hstack : g.stack = argsL.reverse ++ .ref b :: rest) (hW : 2 * g.monitorRoom + (rest.map fun v => v.category).sum ≤ W9) (hdg : decode c.code g.pc = .ok (.invokevirtual index, 3))
    (hpre : ∀ vm₁, s.WarmedH vm₁ → Pre ⟨T.setVm vm₁, locs, cells, slots⟩ (Value.ref b :: argsL).toArray) :
    (∃ (v : Option Value) (vm₁ : Vm) (B : Pt), s.WarmedH vm₁ ∧ Stand p l e R s m args below meth c B.U B.locs B.cells B.slots ∧ Post ⟨T.setVm vm₁, locs, cells, slots⟩ (Value.ref b :: argsL).toArray v B ∧
      ∀ target, Steps p.tables e below (B.U.setTop { g with pc := g.pc + 3, stack := v.toList ++ rest }) target → Steps p.tables e below (T.setTop g) target) ∨
    (∃ (q : Addr) (vm₁ : Vm) (B : Pt), s.WarmedH vm₁ ∧ Stand p l e R s m args below meth c B.U B.locs B.cells B.slots ∧ PostX ⟨T.setVm vm₁, locs, cells, slots⟩ (Value.ref b :: argsL).toArray q B ∧
      Steps p.tables e below (T.setTop g) ((B.U.setTop { g with stack := rest }).pushFrame (.throwing q))) := by
  obtain ⟨mk, methM, hnamed, hmethM, hstM, habM⟩ := Cond.instanceMethod_spec hinst
  obtain ⟨methM', cM, hmethM', -, -, -, -, -, -, hsigM⟩ := Cond.code_spec hnamed hcode
  cases hmethM.symm.trans hmethM'
  obtain ⟨c2, r2, m2, q1, q2, q3, q4, kP, hkP, hkPi⟩ := Cond.selects_spec hsel
  cases hcls.symm.trans q1
  cases (State.methodFound?_of_named hnamed hy).symm.trans q2
  cases hnamed.symm.trans q3
  have hselP : selectMethod e.platform s.vm cellB.cls mk = .method mk := by rw [Launch.admits_selectMethod X.admits]; exact q4
  obtain ⟨vm₁, X₁, hstep₁⟩ := X.invokevirtual hexec hown hlink hnamed hmethM hstM hkP hkPi hy (a := b) (cell := cellB) hcell
    (fun z h => by rw [h] at hobj; cases hobj) hselP hmethM habM hkP hkPi (g := g) hg (argsL := argsL) (rest := rest) (hlen _ hsigM) hstack hdg
  rcases hK m meth c ⟨T.setVm vm₁, locs, cells, slots⟩ { g with stack := rest } (.invokevirtual index) mk (Value.ref b :: argsL).toArray X₁ hg hsize hdg hW (X₁.named hnamed) (hpre vm₁ X₁.warmed) with ⟨v, B, X', hpost, hsteps⟩ | ⟨q, B, X', hpost, hsteps⟩
  · exact Or.inl ⟨v, vm₁, B, X₁.warmed, X', hpost, fun target h => hstep₁ _ fun acts => by rw [doInvoke_state]; exact hsteps.trans h⟩
  · exact Or.inr ⟨q, vm₁, B, X₁.warmed, X', hpost, hstep₁ _ fun acts => by rw [doInvoke_state]; exact hsteps⟩
theorem vx_callS (X : Stand p l e R s m args below meth c T locs cells slots) (hexec : p.tables.exec = Jvm.exec) {own : String} {index : Nat} {y : MethodName} {bytes : ByteArray} {maxL : Nat} {ret : Option FieldType}
    (hown : s.vm.findClass own = some m.cls) (hlink : (Cond.methodLink own index y).before args s = true) (hstat : (Cond.static y).before args s = true) (hinit : (Cond.initialized y.cls).before args s = true)
    (hcode : (Cond.code y bytes maxL ret).before args s = true) (hy : y.cls ≠ "java/lang/invoke/MethodHandle" ∧ y.cls ≠ "java/lang/invoke/VarHandle")
    {W9 : Nat} {Pre : Pt → Array Value → Prop} {Post : Pt → Array Value → Option Value → Pt → Prop} {PostX : Pt → Array Value → Addr → Pt → Prop} (hK : vx_Back l R p e below s args y 3 W9 Pre Post PostX)
    {g : JFrame} (hg : g.method = m) (hsize : g.locals.size = c.maxLocals) {argsL rest : List Value} (hlen : ∀ sig, parseMethodDescriptor y.desc = some sig → argsL.length = sig.parameters.length)
    (hstack : g.stack = argsL.reverse ++ rest) (hW : 2 * g.monitorRoom + (rest.map fun v => v.category).sum ≤ W9) (hdg : decode c.code g.pc = .ok (.invokestatic index, 3))
    (hpre : ∀ vm₁, s.WarmedH vm₁ → Pre ⟨T.setVm vm₁, locs, cells, slots⟩ argsL.toArray) :
    (∃ (v : Option Value) (vm₁ : Vm) (B : Pt), s.WarmedH vm₁ ∧ Stand p l e R s m args below meth c B.U B.locs B.cells B.slots ∧ Post ⟨T.setVm vm₁, locs, cells, slots⟩ argsL.toArray v B ∧
      ∀ target, Steps p.tables e below (B.U.setTop { g with pc := g.pc + 3, stack := v.toList ++ rest }) target → Steps p.tables e below (T.setTop g) target) ∨
    (∃ (q : Addr) (vm₁ : Vm) (B : Pt), s.WarmedH vm₁ ∧ Stand p l e R s m args below meth c B.U B.locs B.cells B.slots ∧ PostX ⟨T.setVm vm₁, locs, cells, slots⟩ argsL.toArray q B ∧
      Steps p.tables e below (T.setTop g) ((B.U.setTop { g with stack := rest }).pushFrame (.throwing q))) := by
  obtain ⟨mk, hnamed⟩ := Cond.code_named hcode
  obtain ⟨methM, cM, hmethM, -, -, -, -, -, -, hsigM⟩ := Cond.code_spec hnamed hcode
  have hstatic : methM.isStatic = true := Cond.static_spec hnamed hmethM hstat
  obtain ⟨kP, hkP, -⟩ := className_of_methodNamed hnamed
  have hinitP : kP.init = .initialized := Cond.initialized_spec (findClass_of_methodNamed hnamed) hkP hinit
  obtain ⟨vm₁, X₁, hstep₁⟩ := X.invokestatic hexec hown hlink hnamed hmethM hstatic hkP hinitP hy (g := g) hg (argsL := argsL) (rest := rest) (hlen _ hsigM) hstack hdg
  rcases hK m meth c ⟨T.setVm vm₁, locs, cells, slots⟩ { g with stack := rest } (.invokestatic index) mk argsL.toArray X₁ hg hsize hdg hW (X₁.named hnamed) (hpre vm₁ X₁.warmed) with ⟨v, B, X', hpost, hsteps⟩ | ⟨q, B, X', hpost, hsteps⟩
  · exact Or.inl ⟨v, vm₁, B, X₁.warmed, X', hpost, fun target h => hstep₁ _ fun acts => by rw [doInvoke_state]; exact hsteps.trans h⟩
  · exact Or.inr ⟨q, vm₁, B, X₁.warmed, X', hpost, hstep₁ _ fun acts => by rw [doInvoke_state]; exact hsteps⟩
end Calls
theorem vx_cls {s : State} {T : State} {vm₁ : Vm} {E : String} {k : ClassId} (hW : s.WarmedH vm₁) (h : (T.setVm vm₁).vm.findClass E = some k) : s.vm.findClass E = some k := by
  have h1 : vm₁.findClass E = some k := h
  rw [hW.alike.findClass] at h1
  exact h1
/-- the method's frame g, with q thrown over it -/
def vx_W (p : Program) (l : Launch) (e : Env) (R : Room) (s : State) (m : MethodId) (args : Array Value) (below : List Frame) (meth : Method) (c : Code) (H : Heap) (locs : List Loc) (cells slots : Nat) (Q : State → Prop) (g : JFrame) (q : Addr) : Prop :=
  ∀ T : State, T.heap = H → Stand p l e R s m args below meth c T locs cells slots → ∃ t, Steps p.tables e below ((T.setTop g).pushFrame (.throwing q)) t ∧ Q t
def vx_Run (p : Program) (l : Launch) (e : Env) (R : Room) (s : State) (m : MethodId) (args : Array Value) (below : List Frame) (meth : Method) (c : Code) (H : Heap) (locs : List Loc) (cells slots mc ms : Nat) (g : JFrame) (rest : List Value) (Qa : State → Outcome → State → Prop) (XC : String → State → State → Prop) (free : Addr → Prop) : Prop :=
  ∀ T : State, T.heap = H → Stand p l e R s m args below meth c T locs cells slots →
    (∃ (v : Option Value) (st₀ t T' : State) (L : List Loc), st₀.heap = H ∧ Stand p l e R s m args below meth c T' (locs ++ L) (cells + mc) (slots + ms) ∧ (∀ q ∈ L, free q.base) ∧ T'.heap = t.heap ∧ T'.vm = t.vm ∧ Qa st₀ (.returned v) t ∧
      Goes p e below T g T' { g with pc := g.pc + 3, stack := v.toList ++ rest }) ∨
    (∃ (q : Addr) (st₀ t T' : State) (L : List Loc) (E : String) (ce : Cell), st₀.heap = H ∧ Stand p l e R s m args below meth c T' (locs ++ L) (cells + mc) (slots + ms) ∧ (∀ z ∈ L, free z.base) ∧ T'.heap = t.heap ∧ T'.vm = t.vm ∧ XC E st₀ t ∧ t.heap[q]? = some ce ∧ ce.vm = .none ∧ s.vm.findClass E = some ce.cls ∧
      Steps p.tables e below (T.setTop g) ((T'.setTop { g with stack := rest }).pushFrame (.throwing q)))
def vx_X {S : Type} (px : S → Prop) (B : String → S → State → Prop) (A : Nat → Prop) : String → State → State → Prop := fun E st t => ∃ u : S, px u ∧ B E u t ∧ va_F A st t
section Runs
variable {p : Program} {l : Launch} {e : Env} {R : Room} {s : State} {m : MethodId} {args : Array Value} {below : List Frame} {meth : Method} {c : Code} {H : Heap} {locs : List Loc} {cells slots : Nat}
variable {y : MethodName} {bytes cc : ByteArray} {maxL nL mc ms n index : Nat} {ret : Option FieldType} {ws : List Cond} {rm : Room} {Pc : Array Value → State → Prop} {Qc : Array Value → State → Outcome → State → Prop} {XC : String → State → State → Prop} {free : Addr → Prop} {Ts : List Cond} {own C : String} {b : Addr} {As rest : List Value} {g : JFrame}
theorem vx_callBack (cb : CallB R s args own index y bytes maxL ret ws rm mc ms n) (hM : vx_Met l y ws rm Pc Qc XC mc ms free) (hbl : FrameBlind Pc) : vx_Back l R p e below s args y 3 8 (PreOf R mc ms Pc) (PostOf Qc mc ms free) (vx_Post XC mc ms free) := by
  obtain ⟨hrc, hrs, hfr, hlo, hws, hcw, -, hini, -⟩ := cb
  exact vx_back (bytes := bytes) (maxL := maxL) (ret := ret) hM hbl hrc hrs hfr hlo hws hcw (fun a' U hW => word_at hW (Or.inl (by first | rfl | simp [Cond.onTables, Cond.keeps, Cond.steady])) hini)
theorem vx_runV (S : CallFix p m c cc nL s args Ts own) (hM : vx_Met l y ws rm Pc Qc XC mc ms free) (cw : CallW R s args own C index y bytes maxL ret ws rm mc ms n) (hp : PreV s H C b Pc As)
    (hg : g.method = m) (hn : As.length = n) (hsize : g.locals.size = nL) (hstack : g.stack = As.reverse ++ .ref b :: rest) (hW : 2 * g.monitorRoom + (rest.map fun v => v.category).sum ≤ 8) (hdg : decode cc g.pc = .ok (.invokevirtual index, 3)) (hf : cells + mc ≤ R.cells ∧ slots + ms ≤ R.slots) :
    vx_Run p l e R s m args below meth c H locs cells slots mc ms g rest (Qc (Value.ref b :: As).toArray) XC free := by
  have hK : vx_Back l R p e below s args y 3 8 (PreOf R mc ms Pc) (PostOf Qc mc ms free) (vx_Post XC mc ms free) := vx_callBack cw.1 hM hp.1
  obtain ⟨⟨-, -, -, -, -, -, hcode, -, hy, hlen, hl⟩, hin, hse⟩ := cw
  obtain ⟨hx, hb, hml, ho, -⟩ := S
  obtain ⟨-, ⟨cellB, hcB, hoB, hclB⟩, hPc⟩ := hp
  intro T hT X
  rcases vx_callV X hx (C := C) (bytes := bytes) (maxL := maxL) (ret := ret) ho hl hin hse hcode hy hK (by rw [hT]; exact hcB) hoB hclB hg (hsize.trans hml.symm) (argsL := As) (rest := rest) (fun sig h => hn.trans (hlen sig h)) hstack hW (by rw [hb]; exact hdg)
    (fun vm₁ hW₁ => ⟨hf.1, hf.2, hPc (T.setVm vm₁) hT hW₁⟩) with ⟨v, vm₁, ⟨U', l2, c2, s2⟩, hW₁, X', ⟨g', mk, t, L, e1, e2, hq, h1, hL, h2, h3⟩, st⟩ | ⟨q, vm₁, ⟨U', l2, c2, s2⟩, hW₁, X', ⟨g', mk, t, L, E, ce, e1, e2, hq, hce, hcv, hcl, h1, hL, h2, h3⟩, st⟩
  · dsimp only [Pt.U, Pt.locs, Pt.cells, Pt.slots] at X' e1 e2 h1 h2 h3 st
    subst h1; subst h2; subst h3
    exact Or.inl ⟨v, (T.setVm vm₁).calling g' mk (Value.ref b :: As).toArray, t, U', L, hT, X', hL, e1, e2, hq, st⟩
  · dsimp only [Pt.U, Pt.locs, Pt.cells, Pt.slots] at X' e1 e2 h1 h2 h3 st hcl
    subst h1; subst h2; subst h3
    exact Or.inr ⟨q, (T.setVm vm₁).calling g' mk (Value.ref b :: As).toArray, t, U', L, E, ce, hT, X', hL, e1, e2, hq, hce, hcv, vx_cls hW₁ hcl, st⟩
theorem vx_runS (S : CallFix p m c cc nL s args Ts own) (hM : vx_Met l y ws rm Pc Qc XC mc ms free) (cw : CallB R s args own index y bytes maxL ret ws rm mc ms n ∧ (Cond.static y).before args s = true) (hp : PreS s H Pc As)
    (hg : g.method = m) (hn : As.length = n) (hsize : g.locals.size = nL) (hstack : g.stack = As.reverse ++ rest) (hW : 2 * g.monitorRoom + (rest.map fun v => v.category).sum ≤ 8) (hdg : decode cc g.pc = .ok (.invokestatic index, 3)) (hf : cells + mc ≤ R.cells ∧ slots + ms ≤ R.slots) :
    vx_Run p l e R s m args below meth c H locs cells slots mc ms g rest (Qc As.toArray) XC free := by
  have hK : vx_Back l R p e below s args y 3 8 (PreOf R mc ms Pc) (PostOf Qc mc ms free) (vx_Post XC mc ms free) := vx_callBack cw.1 hM hp.1
  obtain ⟨⟨-, -, -, -, -, -, hcode, hini, hy, hlen, hl⟩, hstt⟩ := cw
  obtain ⟨hx, hb, hml, ho, -⟩ := S
  intro T hT X
  rcases vx_callS X hx (bytes := bytes) (maxL := maxL) (ret := ret) ho hl hstt hini hcode hy hK hg (hsize.trans hml.symm) (argsL := As) (rest := rest) (fun sig h => hn.trans (hlen sig h)) hstack hW (by rw [hb]; exact hdg)
    (fun vm₁ hW₁ => ⟨hf.1, hf.2, hp.2 (T.setVm vm₁) hT hW₁⟩) with ⟨v, vm₁, ⟨U', l2, c2, s2⟩, hW₁, X', ⟨g', mk, t, L, e1, e2, hq, h1, hL, h2, h3⟩, st⟩ | ⟨q, vm₁, ⟨U', l2, c2, s2⟩, hW₁, X', ⟨g', mk, t, L, E, ce, e1, e2, hq, hce, hcv, hcl, h1, hL, h2, h3⟩, st⟩
  · dsimp only [Pt.U, Pt.locs, Pt.cells, Pt.slots] at X' e1 e2 h1 h2 h3 st
    subst h1; subst h2; subst h3
    exact Or.inl ⟨v, (T.setVm vm₁).calling g' mk As.toArray, t, U', L, hT, X', hL, e1, e2, hq, st⟩
  · dsimp only [Pt.U, Pt.locs, Pt.cells, Pt.slots] at X' e1 e2 h1 h2 h3 st hcl
    subst h1; subst h2; subst h3
    exact Or.inr ⟨q, (T.setVm vm₁).calling g' mk As.toArray, t, U', L, E, ce, hT, X', hL, e1, e2, hq, hce, hcv, vx_cls hW₁ hcl, st⟩
end Runs
section Rows
variable {p : Program} {l : Launch} {e : Env} {R : Room} {s : State} {m : MethodId} {args : Array Value} {below : List Frame} {meth : Method} {c : Code} {H : Heap} {locs : List Loc} {cells slots : Nat} {Q : State → Prop}
variable {mc ms : Nat} {free : Addr → Prop} {A0 A1 : Nat → Prop} {H0 : Heap} {a : Array Value} {pc : Nat} {ls : Array Slot} {st0 rest : List Value}
theorem vx_keep {st₀ t T' : State} {L : List Loc} (h0 : st₀.heap = H) (e1 : T'.heap = t.heap) (hS : va_S A0 H0 H locs) (hA : ∀ q, q < H.size → A1 q → A0 q) (hf : ∀ q, free q → A0 q) (hL : ∀ q ∈ L, free q.base) (hF : va_F A1 st₀ t) :
    H.size ≤ T'.heap.size ∧ (∀ q : Nat, q < H.size → ¬ A1 q → T'.heap[q]? = H[q]?) ∧ va_S A0 H0 T'.heap (locs ++ L) := by
  obtain ⟨hz, hk⟩ := hF
  rw [h0] at hz hk
  exact ⟨by rw [e1]; exact hz, fun q h1 h2 => by rw [e1]; exact hk q h1 h2,
    ⟨Nat.le_trans hS.1 (by rw [e1]; exact hz), fun q h1 h2 => by rw [e1, hk q (Nat.lt_of_lt_of_le h1 hS.1) (fun z => h2 (hA q (Nat.lt_of_lt_of_le h1 hS.1) z))]; exact hS.2.1 q h1 h2, fun q hq => by
      rcases List.mem_append.mp hq with h | h
      · exact hS.2.2 q h
      · exact hf _ (hL q h)⟩⟩
theorem vx_calli {S SX : Type} {post : Int32 → S → Prop} {px : SX → Prop} {B : S → State → Prop} {BX : String → SX → State → Prop} {AX : Nat → Prop} (hr : vx_Run p l e R s m args below meth c H locs cells slots mc ms (F0 m pc ls st0) rest (va_Qi post B A1 a) (vx_X px BX AX) free) (hS : va_S A0 H0 H locs) (hA : ∀ q, q < H.size → A1 q → A0 q) (hf : ∀ q, free q → A0 q) (hAX : ∀ q, q < H.size → AX q → A0 q)
    (kx : ∀ (E : String) (ce : Cell) (q9 : Addr) (u : SX) (t : State) (H1 : Heap) (locs1 : List Loc), t.heap = H1 → s.vm.Alike t.vm → px u → BX E u t → H.size ≤ H1.size → (∀ q : Nat, q < H.size → ¬ AX q → H1[q]? = H[q]?) → va_S A0 H0 H1 locs1 → H1[q9]? = some ce → ce.vm = .none → s.vm.findClass E = some ce.cls → vx_W p l e R s m args below meth c H1 locs1 (cells + mc) (slots + ms) Q (F0 m pc ls rest) q9)
    (kk : ∀ (r : Int32) (u : S) (t : State) (H1 : Heap) (locs1 : List Loc), t.heap = H1 → s.vm.Alike t.vm → post r u → B u t → H.size ≤ H1.size → (∀ q : Nat, q < H.size → ¬ A1 q → H1[q]? = H[q]?) → va_S A0 H0 H1 locs1 → W p l e R s m args below meth c H1 locs1 (cells + mc) (slots + ms) Q (F0 m (pc + 3) ls (.int r :: rest))) : W p l e R s m args below meth c H locs cells slots Q (F0 m pc ls st0) := by
  intro T hT X
  rcases hr T hT X with ⟨v, st₀, t, T', L, h0, X', hL, e1, e2, ⟨⟨r, u, hv, hp, hb⟩, hF⟩, st⟩ | ⟨q, st₀, t, T', L, E, ce, h0, X', hL, e1, e2, ⟨u, hp, hb, hF⟩, hce, hcv, hcl, st⟩
  · cases hv
    obtain ⟨k1, k2, k3⟩ := vx_keep h0 e1 hS hA hf hL hF
    obtain ⟨t2, a1, b1⟩ := kk r u t T'.heap (locs ++ L) e1.symm (by rw [← e2]; exact X'.warmed.alike) hp hb k1 k2 k3 T' rfl X'
    exact ⟨t2, st t2 a1, b1⟩
  · obtain ⟨k1, k2, k3⟩ := vx_keep h0 e1 hS hAX hf hL hF
    obtain ⟨t2, a1, b1⟩ := kx E ce q u t T'.heap (locs ++ L) e1.symm (by rw [← e2]; exact X'.warmed.alike) hp hb k1 k2 k3 (by rw [e1]; exact hce) hcv hcl T' rfl X'
    exact ⟨t2, st.trans a1, b1⟩
theorem vx_calll {S SX : Type} {post : Int64 → S → Prop} {px : SX → Prop} {B : S → State → Prop} {BX : String → SX → State → Prop} {AX : Nat → Prop} (hr : vx_Run p l e R s m args below meth c H locs cells slots mc ms (F0 m pc ls st0) rest (va_Ql post B A1 a) (vx_X px BX AX) free) (hS : va_S A0 H0 H locs) (hA : ∀ q, q < H.size → A1 q → A0 q) (hf : ∀ q, free q → A0 q) (hAX : ∀ q, q < H.size → AX q → A0 q)
    (kx : ∀ (E : String) (ce : Cell) (q9 : Addr) (u : SX) (t : State) (H1 : Heap) (locs1 : List Loc), t.heap = H1 → s.vm.Alike t.vm → px u → BX E u t → H.size ≤ H1.size → (∀ q : Nat, q < H.size → ¬ AX q → H1[q]? = H[q]?) → va_S A0 H0 H1 locs1 → H1[q9]? = some ce → ce.vm = .none → s.vm.findClass E = some ce.cls → vx_W p l e R s m args below meth c H1 locs1 (cells + mc) (slots + ms) Q (F0 m pc ls rest) q9)
    (kk : ∀ (r : Int64) (u : S) (t : State) (H1 : Heap) (locs1 : List Loc), t.heap = H1 → s.vm.Alike t.vm → post r u → B u t → H.size ≤ H1.size → (∀ q : Nat, q < H.size → ¬ A1 q → H1[q]? = H[q]?) → va_S A0 H0 H1 locs1 → W p l e R s m args below meth c H1 locs1 (cells + mc) (slots + ms) Q (F0 m (pc + 3) ls (.long r :: rest))) : W p l e R s m args below meth c H locs cells slots Q (F0 m pc ls st0) := by
  intro T hT X
  rcases hr T hT X with ⟨v, st₀, t, T', L, h0, X', hL, e1, e2, ⟨⟨r, u, hv, hp, hb⟩, hF⟩, st⟩ | ⟨q, st₀, t, T', L, E, ce, h0, X', hL, e1, e2, ⟨u, hp, hb, hF⟩, hce, hcv, hcl, st⟩
  · cases hv
    obtain ⟨k1, k2, k3⟩ := vx_keep h0 e1 hS hA hf hL hF
    obtain ⟨t2, a1, b1⟩ := kk r u t T'.heap (locs ++ L) e1.symm (by rw [← e2]; exact X'.warmed.alike) hp hb k1 k2 k3 T' rfl X'
    exact ⟨t2, st t2 a1, b1⟩
  · obtain ⟨k1, k2, k3⟩ := vx_keep h0 e1 hS hAX hf hL hF
    obtain ⟨t2, a1, b1⟩ := kx E ce q u t T'.heap (locs ++ L) e1.symm (by rw [← e2]; exact X'.warmed.alike) hp hb k1 k2 k3 (by rw [e1]; exact hce) hcv hcl T' rfl X'
    exact ⟨t2, st.trans a1, b1⟩
theorem vx_callf {S SX : Type} {post : UInt32 → S → Prop} {px : SX → Prop} {B : S → State → Prop} {BX : String → SX → State → Prop} {AX : Nat → Prop} (hr : vx_Run p l e R s m args below meth c H locs cells slots mc ms (F0 m pc ls st0) rest (va_Qf post B A1 a) (vx_X px BX AX) free) (hS : va_S A0 H0 H locs) (hA : ∀ q, q < H.size → A1 q → A0 q) (hf : ∀ q, free q → A0 q) (hAX : ∀ q, q < H.size → AX q → A0 q)
    (kx : ∀ (E : String) (ce : Cell) (q9 : Addr) (u : SX) (t : State) (H1 : Heap) (locs1 : List Loc), t.heap = H1 → s.vm.Alike t.vm → px u → BX E u t → H.size ≤ H1.size → (∀ q : Nat, q < H.size → ¬ AX q → H1[q]? = H[q]?) → va_S A0 H0 H1 locs1 → H1[q9]? = some ce → ce.vm = .none → s.vm.findClass E = some ce.cls → vx_W p l e R s m args below meth c H1 locs1 (cells + mc) (slots + ms) Q (F0 m pc ls rest) q9)
    (kk : ∀ (r : UInt32) (u : S) (t : State) (H1 : Heap) (locs1 : List Loc), t.heap = H1 → s.vm.Alike t.vm → post r u → B u t → H.size ≤ H1.size → (∀ q : Nat, q < H.size → ¬ A1 q → H1[q]? = H[q]?) → va_S A0 H0 H1 locs1 → W p l e R s m args below meth c H1 locs1 (cells + mc) (slots + ms) Q (F0 m (pc + 3) ls (.float r :: rest))) : W p l e R s m args below meth c H locs cells slots Q (F0 m pc ls st0) := by
  intro T hT X
  rcases hr T hT X with ⟨v, st₀, t, T', L, h0, X', hL, e1, e2, ⟨⟨r, u, hv, hp, hb⟩, hF⟩, st⟩ | ⟨q, st₀, t, T', L, E, ce, h0, X', hL, e1, e2, ⟨u, hp, hb, hF⟩, hce, hcv, hcl, st⟩
  · cases hv
    obtain ⟨k1, k2, k3⟩ := vx_keep h0 e1 hS hA hf hL hF
    obtain ⟨t2, a1, b1⟩ := kk r u t T'.heap (locs ++ L) e1.symm (by rw [← e2]; exact X'.warmed.alike) hp hb k1 k2 k3 T' rfl X'
    exact ⟨t2, st t2 a1, b1⟩
  · obtain ⟨k1, k2, k3⟩ := vx_keep h0 e1 hS hAX hf hL hF
    obtain ⟨t2, a1, b1⟩ := kx E ce q u t T'.heap (locs ++ L) e1.symm (by rw [← e2]; exact X'.warmed.alike) hp hb k1 k2 k3 (by rw [e1]; exact hce) hcv hcl T' rfl X'
    exact ⟨t2, st.trans a1, b1⟩
theorem vx_calld {S SX : Type} {post : UInt64 → S → Prop} {px : SX → Prop} {B : S → State → Prop} {BX : String → SX → State → Prop} {AX : Nat → Prop} (hr : vx_Run p l e R s m args below meth c H locs cells slots mc ms (F0 m pc ls st0) rest (va_Qd post B A1 a) (vx_X px BX AX) free) (hS : va_S A0 H0 H locs) (hA : ∀ q, q < H.size → A1 q → A0 q) (hf : ∀ q, free q → A0 q) (hAX : ∀ q, q < H.size → AX q → A0 q)
    (kx : ∀ (E : String) (ce : Cell) (q9 : Addr) (u : SX) (t : State) (H1 : Heap) (locs1 : List Loc), t.heap = H1 → s.vm.Alike t.vm → px u → BX E u t → H.size ≤ H1.size → (∀ q : Nat, q < H.size → ¬ AX q → H1[q]? = H[q]?) → va_S A0 H0 H1 locs1 → H1[q9]? = some ce → ce.vm = .none → s.vm.findClass E = some ce.cls → vx_W p l e R s m args below meth c H1 locs1 (cells + mc) (slots + ms) Q (F0 m pc ls rest) q9)
    (kk : ∀ (r : UInt64) (u : S) (t : State) (H1 : Heap) (locs1 : List Loc), t.heap = H1 → s.vm.Alike t.vm → post r u → B u t → H.size ≤ H1.size → (∀ q : Nat, q < H.size → ¬ A1 q → H1[q]? = H[q]?) → va_S A0 H0 H1 locs1 → W p l e R s m args below meth c H1 locs1 (cells + mc) (slots + ms) Q (F0 m (pc + 3) ls (.double r :: rest))) : W p l e R s m args below meth c H locs cells slots Q (F0 m pc ls st0) := by
  intro T hT X
  rcases hr T hT X with ⟨v, st₀, t, T', L, h0, X', hL, e1, e2, ⟨⟨r, u, hv, hp, hb⟩, hF⟩, st⟩ | ⟨q, st₀, t, T', L, E, ce, h0, X', hL, e1, e2, ⟨u, hp, hb, hF⟩, hce, hcv, hcl, st⟩
  · cases hv
    obtain ⟨k1, k2, k3⟩ := vx_keep h0 e1 hS hA hf hL hF
    obtain ⟨t2, a1, b1⟩ := kk r u t T'.heap (locs ++ L) e1.symm (by rw [← e2]; exact X'.warmed.alike) hp hb k1 k2 k3 T' rfl X'
    exact ⟨t2, st t2 a1, b1⟩
  · obtain ⟨k1, k2, k3⟩ := vx_keep h0 e1 hS hAX hf hL hF
    obtain ⟨t2, a1, b1⟩ := kx E ce q u t T'.heap (locs ++ L) e1.symm (by rw [← e2]; exact X'.warmed.alike) hp hb k1 k2 k3 (by rw [e1]; exact hce) hcv hcl T' rfl X'
    exact ⟨t2, st.trans a1, b1⟩
theorem vx_callv {S SX : Type} {post : S → Prop} {px : SX → Prop} {B : S → State → Prop} {BX : String → SX → State → Prop} {AX : Nat → Prop} (hr : vx_Run p l e R s m args below meth c H locs cells slots mc ms (F0 m pc ls st0) rest (va_Qv post B A1 a) (vx_X px BX AX) free) (hS : va_S A0 H0 H locs) (hA : ∀ q, q < H.size → A1 q → A0 q) (hf : ∀ q, free q → A0 q) (hAX : ∀ q, q < H.size → AX q → A0 q)
    (kx : ∀ (E : String) (ce : Cell) (q9 : Addr) (u : SX) (t : State) (H1 : Heap) (locs1 : List Loc), t.heap = H1 → s.vm.Alike t.vm → px u → BX E u t → H.size ≤ H1.size → (∀ q : Nat, q < H.size → ¬ AX q → H1[q]? = H[q]?) → va_S A0 H0 H1 locs1 → H1[q9]? = some ce → ce.vm = .none → s.vm.findClass E = some ce.cls → vx_W p l e R s m args below meth c H1 locs1 (cells + mc) (slots + ms) Q (F0 m pc ls rest) q9)
    (kk : ∀ (u : S) (t : State) (H1 : Heap) (locs1 : List Loc), t.heap = H1 → s.vm.Alike t.vm → post u → B u t → H.size ≤ H1.size → (∀ q : Nat, q < H.size → ¬ A1 q → H1[q]? = H[q]?) → va_S A0 H0 H1 locs1 → W p l e R s m args below meth c H1 locs1 (cells + mc) (slots + ms) Q (F0 m (pc + 3) ls (rest))) : W p l e R s m args below meth c H locs cells slots Q (F0 m pc ls st0) := by
  intro T hT X
  rcases hr T hT X with ⟨v, st₀, t, T', L, h0, X', hL, e1, e2, ⟨⟨u, hv, hp, hb⟩, hF⟩, st⟩ | ⟨q, st₀, t, T', L, E, ce, h0, X', hL, e1, e2, ⟨u, hp, hb, hF⟩, hce, hcv, hcl, st⟩
  · cases hv
    obtain ⟨k1, k2, k3⟩ := vx_keep h0 e1 hS hA hf hL hF
    obtain ⟨t2, a1, b1⟩ := kk u t T'.heap (locs ++ L) e1.symm (by rw [← e2]; exact X'.warmed.alike) hp hb k1 k2 k3 T' rfl X'
    exact ⟨t2, st t2 a1, b1⟩
  · obtain ⟨k1, k2, k3⟩ := vx_keep h0 e1 hS hAX hf hL hF
    obtain ⟨t2, a1, b1⟩ := kx E ce q u t T'.heap (locs ++ L) e1.symm (by rw [← e2]; exact X'.warmed.alike) hp hb k1 k2 k3 (by rw [e1]; exact hce) hcv hcl T' rfl X'
    exact ⟨t2, st.trans a1, b1⟩
end Rows
section Ends
variable {p : Program} {l : Launch} {e : Env} {R : Room} {s : State} {m : MethodId} {args : Array Value} {below : List Frame} {meth : Method} {c : Code} {H : Heap} {locs : List Loc} {cells slots : Nat} {Q : State → Prop}
variable {mc ms : Nat} {free : Addr → Prop} {A0 A1 : Nat → Prop} {H0 : Heap} {a : Array Value} {ls : Array Slot} {st0 rest : List Value}
variable {Qc : Array Value → State → Outcome → State → Prop} {XC : String → State → State → Prop}
/-- what a body that may throw owes at its end -/
def vx_MQ (below : List Frame) (Qc : Array Value → State → Outcome → State → Prop) (XC : String → State → State → Prop) (a : Array Value) (s : State) (mc ms : Nat) (free : Addr → Prop) : State → Prop := fun t =>
  ∃ o, t.status = .running ∧ Ended t below o ∧ vx_Q Qc XC mc ms free a s o t
theorem vx_ret {g : JFrame} {mc ms : Nat} (k : W p l e R s m args below meth c H locs cells slots (MQ below Qc args s mc ms free) g) : W p l e R s m args below meth c H locs cells slots (vx_MQ below Qc XC args s mc ms free) g := by
  intro T hT X
  obtain ⟨t, a1, o, b1, b2, b3, b4⟩ := k T hT X
  exact ⟨t, a1, o, b1, b2, Or.inl ⟨b3, b4⟩⟩
/-- not caught here: it goes on to the caller -/
theorem vx_widen {g : JFrame} {q : Addr} {k n : Nat} (h1 : cells ≤ k) (h2 : slots ≤ n) (kk : vx_W p l e R s m args below meth c H locs k n Q g q) : vx_W p l e R s m args below meth c H locs cells slots Q g q := fun T hT X => kk T hT (stand_widen X h1 h2)
theorem vx_out {pc : Nat} {E : String} {ce : Cell} {q : Addr} {mc ms : Nat} (hout : ∀ x ∈ c.exceptionTable.toList, covers x pc = false) (hlocks : meth.locks = false) (hcell : H[q]? = some ce) (hv : ce.vm = .none) (hcl : s.vm.findClass E = some ce.cls)
    (hx : ∀ t : State, t.heap = H → s.vm.Alike t.vm → XC E s t) (hf : ∀ z ∈ locs, free z.base) (hc : cells ≤ mc) (hs : slots ≤ ms) :
    vx_W p l e R s m args below meth c H locs cells slots (vx_MQ below Qc XC args s mc ms free) (F0 m pc ls rest) q := by
  intro T hT X
  obtain ⟨st1, hrun, hend, hW, hsm⟩ := X.leaveThrown q (g := F0 m pc ls rest) rfl rfl rfl hout hlocks
  have hcell9 : (T.setFrames (.throwing q :: below)).heap[q]? = some ce := by
    show T.heap[q]? = some ce
    rw [hT]; exact hcell
  exact ⟨_, st1, .threw q, hrun, hend, Or.inr ⟨q, rfl, E, ce, locs, hx _ hT hW.alike, hcell9, hv, hcl, hW, hsm.mono hc hs, hf⟩⟩
theorem vx_frame {U : State} {k n : Nat} (h : s.sameButNew ({ U with vm := s.vm } : State) locs k n) : s.heap.size ≤ U.heap.size ∧ ∀ q : Nat, q < s.heap.size → (∀ z ∈ locs, z.base ≠ q) → U.heap[q]? = s.heap[q]? := by
  obtain ⟨-, h2, -, -, -, h6⟩ := h
  refine ⟨h2, fun q hq hz => ?_⟩
  obtain ⟨c9, e1, e2, e3, e4⟩ := h6 q _ (Array.getElem?_eq_getElem hq)
  have hs : c9.slots = (s.heap[q]).slots := Array.ext_getElem? fun i => e4 i fun hm => hz _ hm rfl
  have h9 : c9 = s.heap[q] := by
    rw [hs] at e2
    exact e2
  have e5 : U.heap[q]? = some c9 := e1
  rw [e5, h9, Array.getElem?_eq_getElem hq]
/-- the words of a throw but the four that speak of the heap -/
def vx_no (w : Cond) : Bool := decide (w ≠ .isRef (.static Bundle.tN "UNASSIGNED_STACK" Bundle.steD)) && decide (w ≠ .isRef (.static Bundle.tN "SUPPRESSED_SENTINEL" Bundle.listD)) && decide (w ≠ .laysStatic Bundle.tN "UNASSIGNED_STACK" Bundle.steD) && decide (w ≠ .laysStatic Bundle.tN "SUPPRESSED_SENTINEL" Bundle.listD)
def vx_at0 (own : String) (ic : Nat) (X : String) (names : List String) : List Cond := (Bundle.ownAtoms0 own ic X names).filter vx_no
def vx_atS (own : String) (ic : Nat) (X : String) (names : List String) : List Cond := (Bundle.ownAtoms own ic X names).filter vx_no
/-- a word that the tables alone decide, or a good one -/
def vx_ot (w : Cond) : Bool := w.onTables || goodWord w
theorem vx_ot_at {args a' : Array Value} {s U : State} {w : Cond} (hW : s.WarmedH U.vm) (hvm : s.vm = U.vm) (hg : vx_ot w = true) (h : w.before args s = true) : w.before a' U = true := by
  simp only [vx_ot, Bool.or_eq_true] at hg
  rcases hg with hg | hg
  · exact va_tabs hg hvm h
  · exact word_at hW (good_of_word hg) h
/-- a list's words: the good ones out of the method's own list, the others by premises of their own -/
theorem vx_hat {args : Array Value} {s : State} {L B : List Cond} (h1 : ∀ w ∈ L.filter goodWord, w.before args s = true) (h2 : ∀ w ∈ L.filter (fun w => !goodWord w), w ∈ B) (h3 : ∀ w ∈ B, w.before args s = true) : ∀ w ∈ L, w.before args s = true := by
  intro w hw
  by_cases g : goodWord w = true
  · exact h1 w (List.mem_filter.mpr ⟨hw, g⟩)
  · refine h3 w (h2 w (List.mem_filter.mpr ⟨hw, ?_⟩))
    show (!goodWord w) = true
    cases hgw : goodWord w
    · rfl
    · exact absurd hgw g
theorem vx_c {args : Array Value} {s : State} {w : Cond} {B : List Cond} (h : w.before args s = true) (t : ∀ w ∈ B, w.before args s = true) : ∀ w' ∈ w :: B, w'.before args s = true := fun w' h' => (List.mem_cons.mp h').elim (fun e => by rw [e]; exact h) (t w')
theorem vx_n {args : Array Value} {s : State} : ∀ w ∈ ([] : List Cond), w.before args s = true := fun _ h => nomatch h
theorem vx_own {args : Array Value} {s : State} {L : List Cond} (h1 : ∀ w ∈ L.filter vx_no, w.before args s = true)
    (hU : (Cond.isRef (.static Bundle.tN "UNASSIGNED_STACK" Bundle.steD)).before args s = true) (hN : (Cond.isRef (.static Bundle.tN "SUPPRESSED_SENTINEL" Bundle.listD)).before args s = true)
    (lU : (Cond.laysStatic Bundle.tN "UNASSIGNED_STACK" Bundle.steD).before args s = true) (lN : (Cond.laysStatic Bundle.tN "SUPPRESSED_SENTINEL" Bundle.listD).before args s = true) : ∀ w ∈ L, w.before args s = true := by
  intro w hw
  by_cases e1 : w = .isRef (.static Bundle.tN "UNASSIGNED_STACK" Bundle.steD)
  · rw [e1]; exact hU
  · by_cases e2 : w = .isRef (.static Bundle.tN "SUPPRESSED_SENTINEL" Bundle.listD)
    · rw [e2]; exact hN
    · by_cases e3 : w = .laysStatic Bundle.tN "UNASSIGNED_STACK" Bundle.steD
      · rw [e3]; exact lU
      · by_cases e4 : w = .laysStatic Bundle.tN "SUPPRESSED_SENTINEL" Bundle.listD
        · rw [e4]; exact lN
        · exact h1 w (List.mem_filter.mpr ⟨hw, by unfold vx_no; rw [decide_eq_true e1, decide_eq_true e2, decide_eq_true e3, decide_eq_true e4]; rfl⟩)
/-- where a static field lies, its class's statics cell in H -/
def vx_L (C n d : String) (A : Nat → Prop) (U : State) (H : Heap) : Prop := ∃ (c : ClassId) (k : Class) (i : Nat) (f : Field) (a : Nat) (cell : Cell), U.vm.findClass C = some c ∧ U.fieldFound? C n d = some (c, k, i, f) ∧ f.isStatic = true ∧ k.statics = some a ∧ H[a]? = some cell ∧ cell.vm.isStatics = true ∧ cell.cls = c ∧ f.slot < cell.slots.size ∧ k.staticTypes[f.slot]? = some f.type ∧ ¬ A a
theorem vx_L.moved {C n d : String} {A : Nat → Prop} {u U : State} {H : Heap} (hvm : u.vm.Alike U.vm) (h : vx_L C n d A u H) : vx_L C n d A U H := by
  obtain ⟨c, k, i, f, a, cell, h1, h2, h3, h4, h5, h6, h7, h8, h9, h10⟩ := h
  obtain ⟨k', hi', he⟩ := State.fieldFound?_setVm hvm h2
  exact ⟨c, k', i, f, a, cell, by rw [hvm.findClass]; exact h1, hi', h3, by rw [he]; exact h4, h5, h6, h7, h8, by rw [he]; exact h9, h10⟩
theorem vx_L.kept {C n d : String} {A : Nat → Prop} {U : State} {H H1 : Heap} (h : vx_L C n d A U H) (hq : ∀ a : Nat, a < H.size → ¬ A a → H1[a]? = H[a]?) : vx_L C n d A U H1 := by
  obtain ⟨c, k, i, f, a, cell, h1, h2, h3, h4, h5, h6, h7, h8, h9, h10⟩ := h
  exact ⟨c, k, i, f, a, cell, h1, h2, h3, h4, by rw [hq a (Array.getElem?_eq_some_iff.mp h5).1 h10]; exact h5, h6, h7, h8, h9, h10⟩
theorem vx_L.narrow {C n d : String} {A B : Nat → Prop} {U : State} {H : Heap} (h : vx_L C n d A U H) (hAB : ∀ q, B q → A q) : vx_L C n d B U H := by
  obtain ⟨c, k, i, f, a, cell, h1, h2, h3, h4, h5, h6, h7, h8, h9, h10⟩ := h
  exact ⟨c, k, i, f, a, cell, h1, h2, h3, h4, h5, h6, h7, h8, h9, fun z => h10 (hAB _ z)⟩
theorem vx_L.word {C n d : String} {A : Nat → Prop} {s : State} {args : Array Value} (h : vx_L C n d A s s.heap) : (Cond.laysStatic C n d).before args s = true := by
  obtain ⟨c, k, i, f, a, cell, h1, h2, h3, h4, h5, h6, h7, h8, h9, -⟩ := h
  show (Cond.laysStatic C n d).holds args s none s [] = true
  exact Cond.laysStatic_of h1 h2 h3 h4 h5 h6 h7 h8 h9
/-- .. and what it holds: null or some reference -/
def vx_Zq (C n d : String) (A : Nat → Prop) (U : State) (H : Heap) : Prop := va_Zq C n d A U H ∧ vx_L C n d A U H
theorem vx_Zq.moved {C n d : String} {A : Nat → Prop} {u U : State} {H : Heap} (hvm : u.vm.Alike U.vm) (h : vx_Zq C n d A u H) : vx_Zq C n d A U H := ⟨va_Zq.moved hvm h.1, vx_L.moved hvm h.2⟩
theorem vx_Zq.kept {C n d : String} {A : Nat → Prop} {U : State} {H H1 : Heap} (h : vx_Zq C n d A U H) (hq : ∀ a : Nat, a < H.size → ¬ A a → H1[a]? = H[a]?) : vx_Zq C n d A U H1 := ⟨va_Zq.kept h.1 hq, vx_L.kept h.2 hq⟩
theorem vx_Zq.narrow {C n d : String} {A B : Nat → Prop} {U : State} {H : Heap} (h : vx_Zq C n d A U H) (hAB : ∀ q, B q → A q) : vx_Zq C n d B U H := ⟨va_Zq.narrow h.1 hAB, vx_L.narrow h.2 hAB⟩
theorem vx_Zqof {args : Array Value} {s : State} {C n d : String} {A : Nat → Prop} (hl : (Cond.laysStatic C n d).before args s = true) (hini : (Cond.initialized C).before args s = true) (h : (Cond.isRef (.static C n d)).before args s = true) (hA : ∀ a : Nat, a < s.heap.size → ¬ A a) : vx_Zq C n d A s s.heap := by
  refine ⟨va_Zqof hl hini h hA, ?_⟩
  obtain ⟨c, k, i, f, a, cell, h1, h2, h3, h4, h5, h6, h7, h8, h9⟩ := Cond.laysStatic_spec hl
  exact ⟨c, k, i, f, a, cell, h1, h2, h3, h4, h5, h6, h7, h8, h9, hA a (Array.getElem?_eq_some_iff.mp h5).1⟩
theorem vx_isRef {C n d : String} {v : Value} {A : Nat → Prop} {s : State} {args : Array Value} (h : va_Z C n d v A s s.heap) (hv : v.isRef = true) : (Cond.isRef (.static C n d)).before args s = true := by
  obtain ⟨cf, kf, fi, f, a, cell, h1, h2, h3, h4, h5, h6, h7, -⟩ := h
  have he : (Term.static C n d).eval args s none [] s = some v := by
    simp [Term.eval, State.fieldNamed?, h1, h2, h4, h5, h6, h7]
  simp only [Cond.before, Cond.holds, Cond.value, he]
  cases v <;> simp_all [Value.isRef]
theorem vx_isRefq {C n d : String} {A : Nat → Prop} {s : State} {args : Array Value} (h : va_Zq C n d A s s.heap) : (Cond.isRef (.static C n d)).before args s = true := by
  rcases h with h | ⟨t, h⟩
  · exact vx_isRef h rfl
  · exact vx_isRef h rfl
/-- the same frame, seen from here: as if the method were called anew in this heap -/
theorem vx_rebase {T : State} (X : Stand p l e R s m args below meth c T locs cells slots) {R' : Room} (hf : R'.frames ≤ R.frames) (hl : R'.locals ≤ R.locals) (hc : cells + R'.cells ≤ R.cells) (hs : slots + R'.slots ≤ R.slots) :
    Stand p l e R' ((T.setVm s.vm).setFrames (.invoking m args :: below)) m args below meth c T [] 0 0 := by
  have htop : (T.setVm s.vm).topJava?.isSome := X.here.top
  have hF : ((T.setVm s.vm).setFrames (.invoking m args :: below)).frames = .invoking m args :: below := State.frames_setFrames _ (State.cur_lt_of_top htop)
  obtain ⟨g₀, hg0⟩ := Option.isSome_iff_exists.mp htop
  obtain ⟨r, hr⟩ := State.topJava?_eq_some.mp hg0
  have hl9 : e.platform.stackLimits (T.setVm s.vm).me = e.platform.stackLimits s.me := X.limits
  have hb9 : (T.setVm s.vm).me.stackBytes = s.me.stackBytes := X.bytes
  refine ⟨X.admits, X.cas, X.clock, hF, ?_, X.hears, X.method, X.code, X.here, X.tail, X.warmed, ?_, ?_, ?_⟩
  · have h := X.room
    have hU : ((T.setVm s.vm).setFrames (.invoking m args :: below)).localsInUse = s.localsInUse := by
      rw [State.localsInUse_invoking hF (meth := meth) (c := c) X.method X.code, State.localsInUse_invoking X.frames X.method X.code]
    simp only [State.hasRoom, Bool.and_eq_true, decide_eq_true_eq] at h ⊢
    obtain ⟨⟨⟨⟨h1, h2, h3, h4, h5, h6⟩, h7⟩, h8⟩, h9⟩ := h
    rw [X.frames, List.length_cons] at h2 h3
    have q1 := X.heapSize
    have q2 := X.used
    simp only [hF, hU, List.length_cons, State.stackLimits_setFrames, State.stackBytes_setFrames, hl9, hb9]
    refine ⟨⟨⟨⟨by omega, by omega, by omega, by omega, by omega, h6⟩, ?_⟩, ?_⟩, X.book⟩
    · show T.heap.size + R'.cells ≤ e.platform.maxCells
      omega
    · show T.slotsUsed + R'.slots ≤ e.platform.maxSlots
      omega
  · rw [State.stackLimits_setFrames]; rfl
  · rw [State.stackBytes_setFrames]; rfl
  · refine ⟨?_, Nat.le_refl _, Nat.le_refl _, ?_, ?_, fun a c9 h9 => ⟨c9, h9, rfl, rfl, fun _ _ => rfl⟩⟩
    · obtain ⟨t, ht, -⟩ := State.frames_cons hr
      show T.setVm s.vm = { ((T.setVm s.vm).setFrames (.invoking m args :: below)).setFrames (T.setVm s.vm).frames with heap := T.heap, slotsUsed := T.slotsUsed }
      rw [State.setFrames_setFrames, State.setFrames_self ht]
      rfl
    · show T.slotsUsed = T.slotsUsed + ((T.heap.toList.drop T.heap.size).map (·.slots.size)).sum
      rw [List.drop_eq_nil_of_le (Nat.le_of_eq Array.length_toList)]
      rfl
    · show ((T.heap.toList.drop T.heap.size).map (·.slots.size)).sum ≤ 0
      rw [List.drop_eq_nil_of_le (Nat.le_of_eq Array.length_toList)]
      exact Nat.le_refl _
/-- 'throw new E()': new; dup; invokespecial; athrow -/
theorem vx_throw0 {cc : ByteArray} {pc : Nat} (hexec : p.tables.exec = Jvm.exec) (hb : c.code = cc) (hl : l.stackTraces = false) {own cls : String} {names : List String} {ik ic mc ms : Nat} {A : Nat → Prop}
    (hown : s.vm.findClass own = some m.cls) (hcls : Bundle.fit cls = true) (hnames : ∀ n ∈ names, Bundle.fit n = true)
    (hk : (Cond.classLink own ik cls).before args s = true) (hini : (Cond.initialized cls).before args s = true) (hat : ∀ w ∈ vx_at0 own ic cls names, w.before args s = true)
    (hgood : ∀ w ∈ Cond.classLink own ik cls :: Cond.initialized cls :: vx_at0 own ic cls names, vx_ot w = true)
    (hU : vx_Zq Bundle.tN "UNASSIGNED_STACK" Bundle.steD A s s.heap) (hN : vx_Zq Bundle.tN "SUPPRESSED_SENTINEL" Bundle.listD A s s.heap) (hS : va_S A s.heap H locs) (hsize : ls.size = c.maxLocals)
    (d0 : decode cc pc = .ok (.new ik, 3)) (d3 : decode cc (pc + 3) = .ok (.dup, 1)) (d4 : decode cc (pc + 4) = .ok (.invokespecial ic, 3)) (d7 : decode cc (pc + 7) = .ok (.athrow, 1))
    (hout : ∀ x ∈ c.exceptionTable.toList, covers x (pc + 7) = false)
    (hRframes : names.length + 3 < R.frames) (hRlocals : (rest.map fun v => v.category).sum + (13 * (names.length + 1) + 42) ≤ R.locals) (hRcells : cells + 1 ≤ R.cells) (hRslots : slots + 6 ≤ R.slots) (hlocks : meth.locks = false)
    (hx : ∀ t : State, s.vm.Alike t.vm → H.size ≤ t.heap.size → (∀ q : Nat, q < H.size → t.heap[q]? = H[q]?) → XC cls s t)
    (hf : ∀ z ∈ locs, free z.base) (hc : cells + 1 ≤ mc) (hs : slots + 6 ≤ ms) :
    W p l e R s m args below meth c H locs cells slots (vx_MQ below Qc XC args s mc ms free) (F0 m pc ls rest) := by
  intro T hT X
  have htr : e.platform.stackTraces = false := (show e.platform.stackTraces = l.stackTraces by rw [X.admits.platform]).trans hl
  have Y := vx_rebase X (R' := { frames := R.frames, locals := R.locals, cells := 1, slots := 6 }) (Nat.le_refl _) (Nat.le_refl _) hRcells hRslots
  obtain ⟨s', hA⟩ : ∃ z, z = (T.setVm s.vm).setFrames (.invoking m args :: below) := ⟨_, rfl⟩
  rw [← hA] at Y
  have hvm : s'.vm = s.vm := by rw [hA]; rfl
  have hhp : s'.heap = H := by rw [hA]; exact hT
  have hW0 : s.WarmedH s'.vm := by rw [hvm]; exact State.WarmedH.refl s
  have hat' : ∀ w ∈ vx_at0 own ic cls names, w.before args s' = true := fun w hw => vx_ot_at hW0 hvm.symm (hgood w (List.mem_cons_of_mem _ (List.mem_cons_of_mem _ hw))) (hat w hw)
  have hk' : (Cond.classLink own ik cls).before args s' = true := vx_ot_at hW0 hvm.symm (hgood _ List.mem_cons_self) hk
  have hini' : (Cond.initialized cls).before args s' = true := vx_ot_at hW0 hvm.symm (hgood _ (List.mem_cons_of_mem _ List.mem_cons_self)) hini
  have hU' : vx_Zq Bundle.tN "UNASSIGNED_STACK" Bundle.steD A s' s'.heap := by rw [hhp]; exact vx_Zq.moved hW0.alike (hU.kept hS.2.1)
  have hN' : vx_Zq Bundle.tN "SUPPRESSED_SENTINEL" Bundle.listD A s' s'.heap := by rw [hhp]; exact vx_Zq.moved hW0.alike (hN.kept hS.2.1)
  have h : ∀ w ∈ Bundle.ownAtoms0 own ic cls names, w.before args s' = true := vx_own hat' (vx_isRefq hU'.1) (vx_isRefq hN'.1) hU'.2.word hN'.2.word
  have hown' : s'.vm.findClass own = some m.cls := by rw [hvm]; exact hown
  have hins : (Cond.instantiable cls 6).before args s' = true := h _ (by simp [Bundle.ownAtoms0])
  obtain ⟨vm₁, cX, kX, hfX, hkX, -, -, X₁, st1⟩ := Y.newCold hexec (own := own) (C := cls) (index := ik) (n := 6) hown' hk' hins hini'
    (g := F0 m pc ls rest) rfl (by rw [hb]; exact d0) (Nat.le_refl _) (Nat.le_refl _)
  generalize hT1 : (T.setVm vm₁).pushCell { cls := cX, slots := kX.instanceTypes.map defaultValue, vm := .none } = T1 at X₁ st1
  have hcat : (Value.ref T.heap.size).category = 1 := rfl
  have hcellA : T1.heap[T.heap.size]? = some (freshCell cX kX) := by rw [← hT1]; exact State.heap_pushCell_size _ _
  have d3' : decode c.code (pc + 3) = .ok (.dup, 1) := by rw [hb]; exact d3
  obtain ⟨U, hsteps, hrun, hend, hW, hsame, ce, hce, hO⟩ := X₁.ctorThrow0 hexec htr (own := own) (cls := cls) (names := names) (ic := ic) hown' hcls hnames h (fun x hx => nomatch hx) hfX hkX hcellA (by rw [hhp, hT]; exact Nat.le_refl _)
    (g := { method := m, pc := pc + 4, locals := ls, stack := .ref T.heap.size :: .ref T.heap.size :: rest, locked := none }) rfl hsize rfl rfl (rest := rest) rfl
    (by rw [hb]; exact d4) (by rw [hb]; exact d7) hout hRframes (by simp only [List.map_cons, List.sum_cons, hcat]; omega) hlocks
  obtain ⟨f1, f2⟩ := vx_frame hsame
  rw [hhp] at f1 f2
  have hWs : s.WarmedH U.vm := State.WarmedH.trans hW0 hW
  have hcl : s.vm.findClass cls = some ce.cls := by
    have h9 := hO.cls
    rw [hvm] at h9
    exact h9
  have hall : s.sameButNew ({ U with vm := s.vm } : State) locs mc ms := by
    subst hA
    obtain ⟨e1, e2⟩ := hsame
    rw [State.setFrames_setFrames] at e1
    have h2 : (T.setVm s.vm).sameButNew ({ U with vm := s.vm } : State) [] (0 + 1) (0 + 6) := ⟨e1, e2⟩
    have h3 := X.same.trans h2
    rw [List.append_nil] at h3
    exact h3.mono hc hs
  refine ⟨U, ?_, .threw T.heap.size, hrun, hend, Or.inr ⟨T.heap.size, rfl, cls, ce, locs, hx U hWs.alike f1 (fun q hq => f2 q hq (fun z hz => nomatch hz)), hce, hO.vm, hcl, hWs, hall, hf⟩⟩
  refine st1 _ ?_
  show Steps p.tables e below (T1.setTop { method := m, pc := pc + 3, locals := ls, stack := .ref T.heap.size :: rest, locked := none }) _
  jvm_step X₁.here [X₁.here.top, hexec, d3', Value.category]
  exact hsteps
/-- 'throw new E("text")': new; dup; ldc; invokespecial; athrow -/
theorem vx_throwS {cc : ByteArray} {pc : Nat} (hexec : p.tables.exec = Jvm.exec) (hb : c.code = cc) (hl : l.stackTraces = false) {own cls text : String} {names : List String} {ik is ic mc ms sa : Nat} {A : Nat → Prop}
    (hown : s.vm.findClass own = some m.cls) (hcls : Bundle.fit cls = true) (hnames : ∀ n ∈ names, Bundle.fit n = true)
    (hk : (Cond.classLink own ik cls).before args s = true) (hini : (Cond.initialized cls).before args s = true) (hstr : vk_R own is text sa s) (hat : ∀ w ∈ vx_atS own ic cls names, w.before args s = true)
    (hgood : ∀ w ∈ Cond.classLink own ik cls :: Cond.initialized cls :: vx_atS own ic cls names, vx_ot w = true)
    (hU : vx_Zq Bundle.tN "UNASSIGNED_STACK" Bundle.steD A s s.heap) (hN : vx_Zq Bundle.tN "SUPPRESSED_SENTINEL" Bundle.listD A s s.heap) (hS : va_S A s.heap H locs) (hsize : ls.size = c.maxLocals)
    (d0 : decode cc pc = .ok (.new ik, 3)) (d3 : decode cc (pc + 3) = .ok (.dup, 1)) (d4 : decode cc (pc + 4) = .ok (.ldc is, 2)) (d6 : decode cc (pc + 6) = .ok (.invokespecial ic, 3)) (d9 : decode cc (pc + 9) = .ok (.athrow, 1))
    (hout : ∀ x ∈ c.exceptionTable.toList, covers x (pc + 9) = false)
    (hRframes : names.length + 3 < R.frames) (hRlocals : (rest.map fun v => v.category).sum + (13 * (names.length + 1) + 43) ≤ R.locals) (hRcells : cells + 1 ≤ R.cells) (hRslots : slots + 6 ≤ R.slots) (hlocks : meth.locks = false)
    (hx : ∀ t : State, s.vm.Alike t.vm → H.size ≤ t.heap.size → (∀ q : Nat, q < H.size → t.heap[q]? = H[q]?) → XC cls s t)
    (hf : ∀ z ∈ locs, free z.base) (hc : cells + 1 ≤ mc) (hs : slots + 6 ≤ ms) :
    W p l e R s m args below meth c H locs cells slots (vx_MQ below Qc XC args s mc ms free) (F0 m pc ls rest) := by
  intro T hT X
  have htr : e.platform.stackTraces = false := (show e.platform.stackTraces = l.stackTraces by rw [X.admits.platform]).trans hl
  have Y := vx_rebase X (R' := { frames := R.frames, locals := R.locals, cells := 1, slots := 6 }) (Nat.le_refl _) (Nat.le_refl _) hRcells hRslots
  obtain ⟨s', hA⟩ : ∃ z, z = (T.setVm s.vm).setFrames (.invoking m args :: below) := ⟨_, rfl⟩
  rw [← hA] at Y
  have hvm : s'.vm = s.vm := by rw [hA]; rfl
  have hhp : s'.heap = H := by rw [hA]; exact hT
  have hW0 : s.WarmedH s'.vm := by rw [hvm]; exact State.WarmedH.refl s
  have hat' : ∀ w ∈ vx_atS own ic cls names, w.before args s' = true := fun w hw => vx_ot_at hW0 hvm.symm (hgood w (List.mem_cons_of_mem _ (List.mem_cons_of_mem _ hw))) (hat w hw)
  have hk' : (Cond.classLink own ik cls).before args s' = true := vx_ot_at hW0 hvm.symm (hgood _ List.mem_cons_self) hk
  have hini' : (Cond.initialized cls).before args s' = true := vx_ot_at hW0 hvm.symm (hgood _ (List.mem_cons_of_mem _ List.mem_cons_self)) hini
  have hU' : vx_Zq Bundle.tN "UNASSIGNED_STACK" Bundle.steD A s' s'.heap := by rw [hhp]; exact vx_Zq.moved hW0.alike (hU.kept hS.2.1)
  have hN' : vx_Zq Bundle.tN "SUPPRESSED_SENTINEL" Bundle.listD A s' s'.heap := by rw [hhp]; exact vx_Zq.moved hW0.alike (hN.kept hS.2.1)
  have h : ∀ w ∈ Bundle.ownAtoms own ic cls names, w.before args s' = true := vx_own hat' (vx_isRefq hU'.1) (vx_isRefq hN'.1) hU'.2.word hN'.2.word
  have hown' : s'.vm.findClass own = some m.cls := by rw [hvm]; exact hown
  have hins : (Cond.instantiable cls 6).before args s' = true := h _ (by simp [Bundle.ownAtoms])
  obtain ⟨vm₁, cX, kX, hfX, hkX, -, -, X₁, st1⟩ := Y.newCold hexec (own := own) (C := cls) (index := ik) (n := 6) hown' hk' hins hini'
    (g := F0 m pc ls rest) rfl (by rw [hb]; exact d0) (Nat.le_refl _) (Nat.le_refl _)
  generalize hT1 : (T.setVm vm₁).pushCell { cls := cX, slots := kX.instanceTypes.map defaultValue, vm := .none } = T1 at X₁ st1
  have hcat : (Value.ref T.heap.size).category = 1 := rfl
  have hcellA : T1.heap[T.heap.size]? = some (freshCell cX kX) := by rw [← hT1]; exact State.heap_pushCell_size _ _
  have d3' : decode c.code (pc + 3) = .ok (.dup, 1) := by rw [hb]; exact d3
  have d4' : decode c.code (pc + 4) = .ok (.ldc is, 2) := by rw [hb]; exact d4
  have hstr' : vk_R own is text sa s' := vk_R.warm hW0 hstr
  obtain ⟨U, hsteps, hrun, hend, hW, hsame, ce, hce, hO⟩ := X₁.ctorThrowS hexec htr (own := own) (cls := cls) (names := names) (ic := ic) hown' hcls hnames h (fun x hx => nomatch hx) hfX hkX hcellA (by rw [hhp, hT]; exact Nat.le_refl _) (msg := .ref sa) rfl
    (g := { method := m, pc := pc + 6, locals := ls, stack := .ref sa :: .ref T.heap.size :: .ref T.heap.size :: rest, locked := none }) rfl hsize rfl rfl (rest := rest) rfl
    (by rw [hb]; exact d6) (by rw [hb]; exact d9) hout hRframes (by simp only [List.map_cons, List.sum_cons, hcat]; omega) hlocks
  obtain ⟨f1, f2⟩ := vx_frame hsame
  rw [hhp] at f1 f2
  have hWs : s.WarmedH U.vm := State.WarmedH.trans hW0 hW
  have hcl : s.vm.findClass cls = some ce.cls := by
    have h9 := hO.cls
    rw [hvm] at h9
    exact h9
  have hall : s.sameButNew ({ U with vm := s.vm } : State) locs mc ms := by
    subst hA
    obtain ⟨e1, e2⟩ := hsame
    rw [State.setFrames_setFrames] at e1
    have h2 : (T.setVm s.vm).sameButNew ({ U with vm := s.vm } : State) [] (0 + 1) (0 + 6) := ⟨e1, e2⟩
    have h3 := X.same.trans h2
    rw [List.append_nil] at h3
    exact h3.mono hc hs
  refine ⟨U, ?_, .threw T.heap.size, hrun, hend, Or.inr ⟨T.heap.size, rfl, cls, ce, locs, hx U hWs.alike f1 (fun q hq => f2 q hq (fun z hz => nomatch hz)), hce, hO.vm, hcl, hWs, hall, hf⟩⟩
  refine st1 _ ?_
  show Steps p.tables e below (T1.setTop { method := m, pc := pc + 3, locals := ls, stack := .ref T.heap.size :: rest, locked := none }) _
  jvm_step X₁.here [X₁.here.top, hexec, d3', Value.category]
  exact X₁.ldcString hexec (own := own) (text := text) (index := is) (a := sa) hown' hstr'.1 hstr'.2
    (g := { method := m, pc := pc + 4, locals := ls, stack := .ref T.heap.size :: .ref T.heap.size :: rest, locked := none }) rfl d4' _ hsteps
/-- 'throw new E("text")', the text by a wide index -/
theorem vx_throwSW {cc : ByteArray} {pc : Nat} (hexec : p.tables.exec = Jvm.exec) (hb : c.code = cc) (hl : l.stackTraces = false) {own cls text : String} {names : List String} {ik is ic mc ms sa : Nat} {A : Nat → Prop}
    (hown : s.vm.findClass own = some m.cls) (hcls : Bundle.fit cls = true) (hnames : ∀ n ∈ names, Bundle.fit n = true)
    (hk : (Cond.classLink own ik cls).before args s = true) (hini : (Cond.initialized cls).before args s = true) (hstr : vk_R own is text sa s) (hat : ∀ w ∈ vx_atS own ic cls names, w.before args s = true)
    (hgood : ∀ w ∈ Cond.classLink own ik cls :: Cond.initialized cls :: vx_atS own ic cls names, vx_ot w = true)
    (hU : vx_Zq Bundle.tN "UNASSIGNED_STACK" Bundle.steD A s s.heap) (hN : vx_Zq Bundle.tN "SUPPRESSED_SENTINEL" Bundle.listD A s s.heap) (hS : va_S A s.heap H locs) (hsize : ls.size = c.maxLocals)
    (d0 : decode cc pc = .ok (.new ik, 3)) (d3 : decode cc (pc + 3) = .ok (.dup, 1)) (d4 : decode cc (pc + 4) = .ok (.ldc_w is, 3)) (d7 : decode cc (pc + 7) = .ok (.invokespecial ic, 3)) (d10 : decode cc (pc + 10) = .ok (.athrow, 1))
    (hout : ∀ x ∈ c.exceptionTable.toList, covers x (pc + 10) = false)
    (hRframes : names.length + 3 < R.frames) (hRlocals : (rest.map fun v => v.category).sum + (13 * (names.length + 1) + 43) ≤ R.locals) (hRcells : cells + 1 ≤ R.cells) (hRslots : slots + 6 ≤ R.slots) (hlocks : meth.locks = false)
    (hx : ∀ t : State, s.vm.Alike t.vm → H.size ≤ t.heap.size → (∀ q : Nat, q < H.size → t.heap[q]? = H[q]?) → XC cls s t)
    (hf : ∀ z ∈ locs, free z.base) (hc : cells + 1 ≤ mc) (hs : slots + 6 ≤ ms) :
    W p l e R s m args below meth c H locs cells slots (vx_MQ below Qc XC args s mc ms free) (F0 m pc ls rest) := by
  intro T hT X
  have htr : e.platform.stackTraces = false := (show e.platform.stackTraces = l.stackTraces by rw [X.admits.platform]).trans hl
  have Y := vx_rebase X (R' := { frames := R.frames, locals := R.locals, cells := 1, slots := 6 }) (Nat.le_refl _) (Nat.le_refl _) hRcells hRslots
  obtain ⟨s', hA⟩ : ∃ z, z = (T.setVm s.vm).setFrames (.invoking m args :: below) := ⟨_, rfl⟩
  rw [← hA] at Y
  have hvm : s'.vm = s.vm := by rw [hA]; rfl
  have hhp : s'.heap = H := by rw [hA]; exact hT
  have hW0 : s.WarmedH s'.vm := by rw [hvm]; exact State.WarmedH.refl s
  have hat' : ∀ w ∈ vx_atS own ic cls names, w.before args s' = true := fun w hw => vx_ot_at hW0 hvm.symm (hgood w (List.mem_cons_of_mem _ (List.mem_cons_of_mem _ hw))) (hat w hw)
  have hk' : (Cond.classLink own ik cls).before args s' = true := vx_ot_at hW0 hvm.symm (hgood _ List.mem_cons_self) hk
  have hini' : (Cond.initialized cls).before args s' = true := vx_ot_at hW0 hvm.symm (hgood _ (List.mem_cons_of_mem _ List.mem_cons_self)) hini
  have hU' : vx_Zq Bundle.tN "UNASSIGNED_STACK" Bundle.steD A s' s'.heap := by rw [hhp]; exact vx_Zq.moved hW0.alike (hU.kept hS.2.1)
  have hN' : vx_Zq Bundle.tN "SUPPRESSED_SENTINEL" Bundle.listD A s' s'.heap := by rw [hhp]; exact vx_Zq.moved hW0.alike (hN.kept hS.2.1)
  have h : ∀ w ∈ Bundle.ownAtoms own ic cls names, w.before args s' = true := vx_own hat' (vx_isRefq hU'.1) (vx_isRefq hN'.1) hU'.2.word hN'.2.word
  have hown' : s'.vm.findClass own = some m.cls := by rw [hvm]; exact hown
  have hins : (Cond.instantiable cls 6).before args s' = true := h _ (by simp [Bundle.ownAtoms])
  obtain ⟨vm₁, cX, kX, hfX, hkX, -, -, X₁, st1⟩ := Y.newCold hexec (own := own) (C := cls) (index := ik) (n := 6) hown' hk' hins hini'
    (g := F0 m pc ls rest) rfl (by rw [hb]; exact d0) (Nat.le_refl _) (Nat.le_refl _)
  generalize hT1 : (T.setVm vm₁).pushCell { cls := cX, slots := kX.instanceTypes.map defaultValue, vm := .none } = T1 at X₁ st1
  have hcat : (Value.ref T.heap.size).category = 1 := rfl
  have hcellA : T1.heap[T.heap.size]? = some (freshCell cX kX) := by rw [← hT1]; exact State.heap_pushCell_size _ _
  have d3' : decode c.code (pc + 3) = .ok (.dup, 1) := by rw [hb]; exact d3
  have d4' : decode c.code (pc + 4) = .ok (.ldc_w is, 3) := by rw [hb]; exact d4
  have hstr' : vk_R own is text sa s' := vk_R.warm hW0 hstr
  obtain ⟨U, hsteps, hrun, hend, hW, hsame, ce, hce, hO⟩ := X₁.ctorThrowS hexec htr (own := own) (cls := cls) (names := names) (ic := ic) hown' hcls hnames h (fun x hx => nomatch hx) hfX hkX hcellA (by rw [hhp, hT]; exact Nat.le_refl _) (msg := .ref sa) rfl
    (g := { method := m, pc := pc + 7, locals := ls, stack := .ref sa :: .ref T.heap.size :: .ref T.heap.size :: rest, locked := none }) rfl hsize rfl rfl (rest := rest) rfl
    (by rw [hb]; exact d7) (by rw [hb]; exact d10) hout hRframes (by simp only [List.map_cons, List.sum_cons, hcat]; omega) hlocks
  obtain ⟨f1, f2⟩ := vx_frame hsame
  rw [hhp] at f1 f2
  have hWs : s.WarmedH U.vm := State.WarmedH.trans hW0 hW
  have hcl : s.vm.findClass cls = some ce.cls := by
    have h9 := hO.cls
    rw [hvm] at h9
    exact h9
  have hall : s.sameButNew ({ U with vm := s.vm } : State) locs mc ms := by
    subst hA
    obtain ⟨e1, e2⟩ := hsame
    rw [State.setFrames_setFrames] at e1
    have h2 : (T.setVm s.vm).sameButNew ({ U with vm := s.vm } : State) [] (0 + 1) (0 + 6) := ⟨e1, e2⟩
    have h3 := X.same.trans h2
    rw [List.append_nil] at h3
    exact h3.mono hc hs
  refine ⟨U, ?_, .threw T.heap.size, hrun, hend, Or.inr ⟨T.heap.size, rfl, cls, ce, locs, hx U hWs.alike f1 (fun q hq => f2 q hq (fun z hz => nomatch hz)), hce, hO.vm, hcl, hWs, hall, hf⟩⟩
  refine st1 _ ?_
  show Steps p.tables e below (T1.setTop { method := m, pc := pc + 3, locals := ls, stack := .ref T.heap.size :: rest, locked := none }) _
  jvm_step X₁.here [X₁.here.top, hexec, d3', Value.category]
  exact X₁.ldcStringW hexec (own := own) (text := text) (index := is) (a := sa) hown' hstr'.1 hstr'.2
    (g := { method := m, pc := pc + 4, locals := ls, stack := .ref T.heap.size :: .ref T.heap.size :: rest, locked := none }) rfl d4' _ hsteps
end Ends
section Bodies
variable {l : Launch}
theorem vx_ofW {y : MethodName} {ws ws' : List Cond} {rm : Room} {Pc : Array Value → State → Prop} {Qc : Array Value → State → Outcome → State → Prop} {XC : String → State → State → Prop} {mc ms : Nat} {free : Addr → Prop} {cc : ByteArray} {maxL : Nat} {ret : Option FieldType}
    (hy : plainName y.cls = true) (hw : ws = Cond.code y cc maxL ret :: ws')
    (body : ∀ p e s m args below meth c s₁, BodyLoose p l y (headSpec ws rm) cc maxL ret e s m args below meth c s₁ → c.maxLocals = maxL → (∀ x ∈ c.exceptionTable.toList, False) → Pc args s →
      W p l e (headSpec ws rm).room s m args below meth c s.heap [] 0 0 (vx_MQ below Qc XC args s mc ms free) (entryFrame m args maxL)) : vx_Met l y ws rm Pc Qc XC mc ms free := by
  refine MetFree.of_bodyS (code := cc) (maxLocals := maxL) (ret := ret) hy ?_ ?_
  · intro args s m h hn
    obtain ⟨meth, c, h1, h2, h3, h4, h5, h6, -, -⟩ := Cond.code_spec hn (atoms_spec (ws := ws) h _ (by rw [hw]; exact List.mem_cons_self))
    exact ⟨meth, c, h1, h2, h3, h4, h5, h6⟩
  · intro p e s m args below meth c s₁ B hml hP _
    have hh0 : s₁.heap = s.heap := by rw [B.state]; rfl
    have ht : ∀ x ∈ c.exceptionTable.toList, False := by
      obtain ⟨meth9, c9, h1, h2, -, -, -, -, h7, -⟩ := Cond.code_spec B.named (atoms_spec (ws := ws) B.pre _ (by rw [hw]; exact List.mem_cons_self))
      cases Option.some.inj (h1.symm.trans B.method)
      cases Option.some.inj (h2.symm.trans (Stand.of_body B).code)
      intro x hx
      rw [Array.isEmpty_iff.mp h7] at hx
      cases hx
    obtain ⟨t, a1, o, b1, b2, b3⟩ := body p e s m args below meth c s₁ B hml ht hP s₁ hh0 (Stand.of_body B)
    exact ⟨t, o, a1, b1, b2, b3⟩
/-- the table of a body with handlers -/
theorem vx_table {p : Program} {x y : MethodName} {S : Spec} {cc bytes : ByteArray} {maxL maxL' : Nat} {ret ret' : Option FieldType} {e : Env} {s s₁ : State} {m : MethodId} {args : Array Value} {below : List Frame} {meth : Method} {c : Code} {hh : List (Nat × Nat × Nat × Nat)}
    (B : BodyLoose p l y S cc maxL ret e s m args below meth c s₁) (h : (Cond.codeWith y bytes maxL' ret' hh).before args s = true) : c.exceptionTable.toList = tableOf hh := by
  obtain ⟨m9, meth9, c9, hn9, h1, h2, -, -, h6, -⟩ := Cond.codeWith_spec h
  cases Option.some.inj (hn9.symm.trans B.named)
  cases Option.some.inj (h1.symm.trans B.method)
  cases Option.some.inj (h2.symm.trans (Stand.of_body B).code)
  rw [← h6, table_eq]
end Bodies
end VXA
/-! ===== END ===== -/
/-! ===== BEGIN a static call of a method with an exception table ===== -/
section VXS
variable {p : Program} {l : Launch} {e : Env} {R : Room} {s : State} {m : MethodId} {args : Array Value} {below : List Frame} {meth : Method} {c : Code} {T : State} {H : Heap} {locs : List Loc} {cells slots : Nat}
abbrev vx_CSW (R : Room) (s : State) (args : Array Value) (own : String) (index : Nat) (y : MethodName) (bytes : ByteArray) (maxL : Nat) (ret : Option FieldType) (hh : List (Nat × Nat × Nat × Nat)) (ws : List Cond) (rm : Room) (mc ms n : Nat) : Prop :=
  (rm.cells = mc ∧ rm.slots = ms ∧ rm.frames + 1 ≤ R.frames ∧ 8 + (maxL + 11) + rm.locals ≤ R.locals ∧ (∀ w ∈ ws, ∀ (a' : Array Value) (U : State), s.WarmedH U.vm → w.before a' U = true) ∧ Cond.codeWith y bytes maxL ret hh ∈ ws) ∧
  (Cond.codeWith y bytes maxL ret hh).before args s = true ∧ (Cond.initialized y.cls).before args s = true ∧ (y.cls ≠ "java/lang/invoke/MethodHandle" ∧ y.cls ≠ "java/lang/invoke/VarHandle") ∧
  (∀ sig, parseMethodDescriptor y.desc = some sig → n = sig.parameters.length) ∧ (Cond.methodLink own index y).before args s = true ∧ (Cond.static y).before args s = true
theorem vx_cwSW {own : String} {index maxL mc ms : Nat} {y : MethodName} {bytes : ByteArray} {ret : Option FieldType} {hh : List (Nat × Nat × Nat × Nat)} {Ts ws ws' : List Cond} {rm : Room} (n : Nat) (ht : ∀ w ∈ Ts, w.before args s = true) (hT : GoodIn Ts (va_wsS own index y ws)) (hw : ws = Cond.codeWith y bytes maxL ret hh :: ws') (hrc : rm.cells = mc) (hrs : rm.slots = ms)
    (hd : y.cls ≠ "java/lang/invoke/MethodHandle" ∧ y.cls ≠ "java/lang/invoke/VarHandle" ∧ (parseMethodDescriptor y.desc).map (fun d => d.parameters.length) = some n) (hR : rm.frames + 1 ≤ R.frames ∧ 8 + (maxL + 11) + rm.locals ≤ R.locals) :
    vx_CSW R s args own index y bytes maxL ret hh ws rm mc ms n := by
  have ok : ∀ w ∈ va_wsS own index y ws, w.before args s = true := fun w h => ht w (hT w h).1
  have hG : GoodIn Ts ws := fun w h => hT w (by unfold va_wsS; exact List.mem_append_right _ h)
  have hc : Cond.codeWith y bytes maxL ret hh ∈ ws := by rw [hw]; exact List.mem_cons_self
  refine ⟨⟨hrc, hrs, hR.1, hR.2, pay_in ht hG, hc⟩, ht _ (hG _ hc).1, ok _ (by simp [va_wsS]), ⟨hd.1, hd.2.1⟩, fun sig h => ?_, ok _ (by simp [va_wsS]), ok _ (by simp [va_wsS])⟩
  have h2 := hd.2.2
  rw [h] at h2
  exact (Option.some.inj h2).symm
theorem vx_callSW (X : Stand p l e R s m args below meth c T locs cells slots) (hexec : p.tables.exec = Jvm.exec) {own : String} {index : Nat} {y : MethodName} {bytes : ByteArray} {maxL : Nat} {ret : Option FieldType} {hh : List (Nat × Nat × Nat × Nat)}
    (hown : s.vm.findClass own = some m.cls) (hlink : (Cond.methodLink own index y).before args s = true) (hstat : (Cond.static y).before args s = true) (hinit : (Cond.initialized y.cls).before args s = true)
    (hcode : (Cond.codeWith y bytes maxL ret hh).before args s = true) (hy : y.cls ≠ "java/lang/invoke/MethodHandle" ∧ y.cls ≠ "java/lang/invoke/VarHandle")
    {W9 : Nat} {Pre : Pt → Array Value → Prop} {Post : Pt → Array Value → Option Value → Pt → Prop} (hK : Back l R p e below s args y 3 W9 Pre Post)
    {g : JFrame} (hg : g.method = m) (hsize : g.locals.size = c.maxLocals) {argsL rest : List Value} (hlen : ∀ sig, parseMethodDescriptor y.desc = some sig → argsL.length = sig.parameters.length)
    (hstack : g.stack = argsL.reverse ++ rest) (hW : 2 * g.monitorRoom + (rest.map fun v => v.category).sum ≤ W9) (hdg : decode c.code g.pc = .ok (.invokestatic index, 3))
    (hpre : ∀ vm₁, s.WarmedH vm₁ → Pre ⟨T.setVm vm₁, locs, cells, slots⟩ argsL.toArray) :
    ∃ (v : Option Value) (vm₁ : Vm) (B : Pt), s.WarmedH vm₁ ∧ Stand p l e R s m args below meth c B.U B.locs B.cells B.slots ∧ Post ⟨T.setVm vm₁, locs, cells, slots⟩ argsL.toArray v B ∧
      ∀ target, Steps p.tables e below (B.U.setTop { g with pc := g.pc + 3, stack := v.toList ++ rest }) target → Steps p.tables e below (T.setTop g) target := by
  obtain ⟨mk, methM, cM, hnamed, hmethM, -, -, -, -, -, -, hsigM⟩ := Cond.codeWith_spec hcode
  have hstatic : methM.isStatic = true := Cond.static_spec hnamed hmethM hstat
  obtain ⟨kP, hkP, -⟩ := className_of_methodNamed hnamed
  have hinitP : kP.init = .initialized := Cond.initialized_spec (findClass_of_methodNamed hnamed) hkP hinit
  obtain ⟨vm₁, X₁, hstep₁⟩ := X.invokestatic hexec hown hlink hnamed hmethM hstatic hkP hinitP hy (g := g) hg (argsL := argsL) (rest := rest) (hlen _ hsigM) hstack hdg
  obtain ⟨v, B, X', hpost, hsteps⟩ := hK m meth c ⟨T.setVm vm₁, locs, cells, slots⟩ { g with stack := rest } (.invokestatic index) mk argsL.toArray X₁ hg hsize hdg hW (X₁.named hnamed) (hpre vm₁ X₁.warmed)
  exact ⟨v, vm₁, B, X₁.warmed, X', hpost, fun target h => hstep₁ _ fun acts => by rw [doInvoke_state]; exact hsteps.trans h⟩
theorem vx_runSW {y : MethodName} {bytes cc : ByteArray} {maxL nL mc ms n index : Nat} {ret : Option FieldType} {hh : List (Nat × Nat × Nat × Nat)} {ws : List Cond} {rm : Room} {Pc : Array Value → State → Prop} {Qc : Array Value → State → Outcome → State → Prop} {free : Addr → Prop} {Ts : List Cond} {own : String} {As rest : List Value} {g : JFrame}
    (S : CallFix p m c cc nL s args Ts own) (hM : Met l y ws rm Pc Qc mc ms free) (cw : vx_CSW R s args own index y bytes maxL ret hh ws rm mc ms n) (hp : PreS s H Pc As)
    (hg : g.method = m) (hn : As.length = n) (hsize : g.locals.size = nL) (hstack : g.stack = As.reverse ++ rest) (hW : 2 * g.monitorRoom + (rest.map fun v => v.category).sum ≤ 8) (hdg : decode cc g.pc = .ok (.invokestatic index, 3)) (hf : cells + mc ≤ R.cells ∧ slots + ms ≤ R.slots) :
    va_Run p l e R s m args below meth c H locs cells slots mc ms g rest (Qc As.toArray) (free) := by
  obtain ⟨⟨hrc, hrs, hfr, hlo, hws, hcw⟩, hcode, hini, hy, hlen, hl, hstt⟩ := cw
  have hK : Back l R p e below s args y 3 8 (PreOf R mc ms Pc) (PostOf Qc mc ms free) := va_backW (hh := hh) (bytes := bytes) (maxL := maxL) (ret := ret) hM hp.1 hrc hrs hfr hlo hws hcw (fun a' U hW => word_at hW (Or.inl (by first | rfl | simp [Cond.onTables, Cond.keeps, Cond.steady])) hini)
  obtain ⟨hx, hb, hml, ho, -⟩ := S
  intro T hT X
  obtain ⟨v, vm₁, ⟨U', l2, c2, s2⟩, hW₁, X', ⟨g', mk, t, L, e1, e2, hq, h1, hL, h2, h3⟩, st⟩ := vx_callSW X hx (hh := hh) (bytes := bytes) (maxL := maxL) (ret := ret) ho hl hstt hini hcode hy hK hg (hsize.trans hml.symm) (argsL := As) (rest := rest) (fun sig h => hn.trans (hlen sig h)) hstack hW (by rw [hb]; exact hdg)
    (fun vm₁ hW₁ => ⟨hf.1, hf.2, hp.2 (T.setVm vm₁) hT hW₁⟩)
  dsimp only [Pt.U, Pt.locs, Pt.cells, Pt.slots] at X' e1 e2 h1 h2 h3 st
  subst h1; subst h2; subst h3
  exact ⟨v, (T.setVm vm₁).calling g' mk As.toArray, t, U', L, hT, X', hL, e1, e2, hq, st⟩
/-- a thing of a world lies in the heap -/
theorem vx_lt {D : va_G} {cl : List vw_C} {ws : va_W} {H1 : Heap} (h : va_P D cl ws H1) {k : Nat} {q : Nat × va_E} (hk : ws[k]? = some q) : q.1 < H1.size := (h k q hk).lt
end VXS
/-! ===== END ===== -/
/-! ===== BEGIN methods with a table of their own: called by a name, returning or throwing ===== -/
section VXH
/-! vx_backW, vx_callVX, vx_callSX, vx_callVW, vx_runVW, vx_runVX, vx_runSX, vx_ofWH follow the same proofs as their sisters above (Free/Laws.lean, Shelf42/LK1.lean); vx_outP calls Shelf42/NT130.lean (outThrough). -/
section
variable {l : Launch} {R : Room} {p : Program} {e : Env} {below : List Frame} {s : State} {sargs : Array Value} {y : MethodName} {len W9 : Nat}
theorem vx_backW {ws : List Cond} {rm : Room} {Pc : Array Value → State → Prop} {Qc : Array Value → State → Outcome → State → Prop} {XC : String → State → State → Prop} {mc ms : Nat} {free : Addr → Prop} {bytes : ByteArray} {maxL : Nat} {ret : Option FieldType} {hh : List (Nat × Nat × Nat × Nat)}
    (hM : vx_Met l y ws rm Pc Qc XC mc ms free) (hblind : FrameBlind Pc) (hrc : rm.cells = mc) (hrs : rm.slots = ms)
    (hframes : rm.frames + 1 ≤ R.frames) (hlocals : W9 + (maxL + 11) + rm.locals ≤ R.locals)
    (hws : ∀ w ∈ ws, ∀ a' U, s.WarmedH U.vm → w.before a' U = true) (hcode : Cond.codeWith y bytes maxL ret hh ∈ ws) (hinit : ∀ a' U, s.WarmedH U.vm → (Cond.initialized y.cls).before a' U = true) :
    vx_Back l R p e below s sargs y len W9 (PreOf R mc ms Pc) (PostOf Qc mc ms free) (vx_Post XC mc ms free) := by
  intro m meth c A g ig mk a X hg hsize hdg hW hn hp
  have h1 : (headSpec ws rm).pre.before a A.U = true := atoms_intro fun w hw => hws w hw _ _ X.warmed
  have h2 : (Cond.codeWith y bytes maxL ret hh).before a A.U = true := hws _ hcode _ _ X.warmed
  have h3 : (Cond.initialized y.cls).before a A.U = true := hinit _ _ X.warmed
  have h4 : A.cells + (headSpec ws rm).room.cells ≤ R.cells := by rw [show (headSpec ws rm).room.cells = mc from hrc]; exact hp.1
  have h5 : A.slots + (headSpec ws rm).room.slots ≤ R.slots := by rw [show (headSpec ws rm).room.slots = ms from hrs]; exact hp.2.1
  have hPc : Pc a (A.U.calling g mk a) := hblind _ _ _ _ hp.2.2
  obtain ⟨U, Ls, c0, s0⟩ := A
  dsimp only [Pt.U, Pt.locs, Pt.cells, Pt.slots] at h1 h2 h3 h4 h5 X hn hPc ⊢
  obtain ⟨m9, methY, cY, hn9, hmY, hcY, -, hlY, -⟩ := Cond.codeWith_spec h2
  cases Option.some.inj (hn9.symm.trans hn)
  obtain ⟨kY, hkY, -⟩ := className_of_methodNamed hn
  have hinitY : kY.init = .initialized := Cond.initialized_spec (findClass_of_methodNamed hn) hkY h3
  have h : At U g.method c below := by rw [hg]; exact X.here
  have hlocals9 : W9 + (maxL + 11) + (headSpec ws rm).room.locals ≤ R.locals := hlocals
  have happ : (headSpec ws rm).appliesLoose y e.platform (U.calling g mk a) = true :=
    Spec.appliesLoose_calling (g := g) h hdg hn hkY hinitY
      (X.room_calling (g := g) (R' := (headSpec ws rm).room) hsize hmY hcY hframes (by rw [hlY]; omega) h4 h5) h1
  obtain ⟨mid, hmid⟩ := h.above
  have hfr : (U.setTop g).frames = (.java g :: mid) ++ below := by rw [State.frames_setTop' g h.top, hmid]; rfl
  obtain ⟨o, s₂, hsteps, -, hend, hq⟩ := Steps.callFree hM p X.admits X.cas X.clock (acts := []) hfr happ hPc trivial
  have hq' : vx_Q Qc XC mc ms free a (U.calling g mk a) o s₂ := hq
  rw [State.frames_setTop' g h.top] at hend
  obtain ⟨g₀, hg0⟩ := Option.isSome_iff_exists.mp h.top
  obtain ⟨r, hr⟩ := State.topJava?_eq_some.mp hg0
  have hr' : (({ U with heap := s₂.heap, slotsUsed := s₂.slotsUsed } : State).setVm s₂.vm).frames = .java g₀ :: r := hr
  rcases hq' with ⟨hqc, L, hfe, hL⟩ | ⟨q, rfl, E, ce, L, hx, hce, hcv, hcl, hW₂, hsm, hL⟩
  · obtain ⟨⟨v, rfl⟩, hW₂, e2, q2, q3, q4, q5, q6⟩ := id hfe
    have e3 : s₂ = ({ (U.calling g mk a).setFrames s₂.frames with heap := s₂.heap, slotsUsed := s₂.slotsUsed } : State).setVm s₂.vm := by
      have : s₂ = ({ s₂ with vm := (U.calling g mk a).vm } : State).setVm s₂.vm := rfl
      rw [e2] at this
      exact this
    obtain ⟨c₂, i₂, len₂, hc₂, hd₂, hf₂⟩ := hend
    have hW' : U.WarmedH s₂.vm := hW₂
    have hcc : c₂ = c := by
      have h1 : s₂.code? g.method = U.code? g.method := by
        rw [State.code?_eq, State.code?_eq, hW'.alike.method?]
      exact Option.some.inj (hc₂.symm.trans (h1.trans h.code))
    subst hcc
    have hlen : len₂ = len := by rw [hdg] at hd₂; cases hd₂; rfl
    subst hlen
    have hs₂ : s₂ = (({ U with heap := s₂.heap, slotsUsed := s₂.slotsUsed } : State).setVm s₂.vm).setTop { g with pc := g.pc + len₂, stack := v.toList ++ g.stack } := by
      refine e3.trans ?_
      rw [hf₂, State.calling_eq h.top, State.setFrames_setFrames, State.setTop_of_frames _ hr', hr]
      rfl
    have hsame : U.sameButNew ({ U with heap := s₂.heap, slotsUsed := s₂.slotsUsed } : State) L mc ms := by
      refine ⟨?_, q2, q3, q4, q5, q6⟩
      obtain ⟨t, ht, -⟩ := State.frames_cons hr
      show ({ U with heap := s₂.heap, slotsUsed := s₂.slotsUsed } : State) = { U.setFrames U.frames with heap := s₂.heap, slotsUsed := s₂.slotsUsed }
      rw [State.setFrames_self ht]
    subst hg
    refine Or.inl ⟨v, ⟨(({ U with heap := s₂.heap, slotsUsed := s₂.slotsUsed } : State).setVm s₂.vm), Ls ++ L, c0 + mc, s0 + ms⟩,
      ⟨X.admits, X.cas, X.clock, X.frames, X.room, X.hears, X.method, X.code, (X.here.setHeapUsed s₂.heap s₂.slotsUsed).setVm hW'.alike, X.tail, State.WarmedH.trans X.warmed hW', X.limits, X.bytes, X.same.trans (hsame.setVm s.vm)⟩,
      ⟨g, mk, s₂, L, rfl, rfl, hqc, rfl, hL, rfl, rfl⟩, ?_⟩
    show Steps p.tables e below _ ((({ U with heap := s₂.heap, slotsUsed := s₂.slotsUsed } : State).setVm s₂.vm).setTop { g with pc := g.pc + len₂, stack := v.toList ++ g.stack })
    rw [← hs₂]
    exact hsteps
  · obtain ⟨e2, q2, q3, q4, q5, q6⟩ := id hsm
    have e3 : s₂ = ({ (U.calling g mk a).setFrames s₂.frames with heap := s₂.heap, slotsUsed := s₂.slotsUsed } : State).setVm s₂.vm := by
      have : s₂ = ({ s₂ with vm := (U.calling g mk a).vm } : State).setVm s₂.vm := rfl
      rw [e2] at this
      exact this
    have hf₂ : s₂.frames = .throwing q :: .java g :: U.frames.tail := hend
    have hW' : U.WarmedH s₂.vm := hW₂
    have hs₂ : s₂ = ((({ U with heap := s₂.heap, slotsUsed := s₂.slotsUsed } : State).setVm s₂.vm).setTop g).pushFrame (.throwing q) := by
      refine e3.trans ?_
      rw [hf₂, State.calling_eq h.top, State.setFrames_setFrames, State.pushFrame, State.frames_setTop _ hr', State.setTop_of_frames _ hr', State.setFrames_setFrames, hr]
      rfl
    have hsame : U.sameButNew ({ U with heap := s₂.heap, slotsUsed := s₂.slotsUsed } : State) L mc ms := by
      refine ⟨?_, q2, q3, q4, q5, q6⟩
      obtain ⟨t, ht, -⟩ := State.frames_cons hr
      show ({ U with heap := s₂.heap, slotsUsed := s₂.slotsUsed } : State) = { U.setFrames U.frames with heap := s₂.heap, slotsUsed := s₂.slotsUsed }
      rw [State.setFrames_self ht]
    subst hg
    refine Or.inr ⟨q, ⟨(({ U with heap := s₂.heap, slotsUsed := s₂.slotsUsed } : State).setVm s₂.vm), Ls ++ L, c0 + mc, s0 + ms⟩,
      ⟨X.admits, X.cas, X.clock, X.frames, X.room, X.hears, X.method, X.code, (X.here.setHeapUsed s₂.heap s₂.slotsUsed).setVm hW'.alike, X.tail, State.WarmedH.trans X.warmed hW', X.limits, X.bytes, X.same.trans (hsame.setVm s.vm)⟩,
      ⟨g, mk, s₂, L, E, ce, rfl, rfl, hx, hce, hcv, hcl, rfl, hL, rfl, rfl⟩, ?_⟩
    show Steps p.tables e below _ (((({ U with heap := s₂.heap, slotsUsed := s₂.slotsUsed } : State).setVm s₂.vm).setTop g).pushFrame (.throwing q))
    rw [← hs₂]
    exact hsteps
end
variable {p : Program} {l : Launch} {e : Env} {R : Room} {s : State} {m : MethodId} {args : Array Value} {below : List Frame} {meth : Method} {c : Code} {T : State} {H : Heap} {locs : List Loc} {cells slots : Nat}
theorem vx_callVX (X : Stand p l e R s m args below meth c T locs cells slots) (hexec : p.tables.exec = Jvm.exec) {own C : String} {index : Nat} {y : MethodName} {bytes : ByteArray} {maxL : Nat} {ret : Option FieldType} {hh : List (Nat × Nat × Nat × Nat)}
    (hown : s.vm.findClass own = some m.cls) (hlink : (Cond.methodLink own index y).before args s = true) (hinst : (Cond.instanceMethod y).before args s = true) (hsel : (Cond.selects C y y).before args s = true)
    (hcode : (Cond.codeWith y bytes maxL ret hh).before args s = true) (hy : y.cls ≠ "java/lang/invoke/MethodHandle" ∧ y.cls ≠ "java/lang/invoke/VarHandle")
    {W9 : Nat} {Pre : Pt → Array Value → Prop} {Post : Pt → Array Value → Option Value → Pt → Prop} {PostX : Pt → Array Value → Addr → Pt → Prop} (hK : vx_Back l R p e below s args y 3 W9 Pre Post PostX)
    {b : Addr} {cellB : Cell} (hcell : T.heap[b]? = some cellB) (hobj : cellB.vm.isStatics = false) (hcls : s.vm.findClass C = some cellB.cls)
    {g : JFrame} (hg : g.method = m) (hsize : g.locals.size = c.maxLocals) {argsL rest : List Value} (hlen : ∀ sig, parseMethodDescriptor y.desc = some sig → argsL.length = sig.parameters.length)
    (hstack : g.stack = argsL.reverse ++ .ref b :: rest) (hW : 2 * g.monitorRoom + (rest.map fun v => v.category).sum ≤ W9) (hdg : decode c.code g.pc = .ok (.invokevirtual index, 3))
    (hpre : ∀ vm₁, s.WarmedH vm₁ → Pre ⟨T.setVm vm₁, locs, cells, slots⟩ (Value.ref b :: argsL).toArray) :
    (∃ (v : Option Value) (vm₁ : Vm) (B : Pt), s.WarmedH vm₁ ∧ Stand p l e R s m args below meth c B.U B.locs B.cells B.slots ∧ Post ⟨T.setVm vm₁, locs, cells, slots⟩ (Value.ref b :: argsL).toArray v B ∧
      ∀ target, Steps p.tables e below (B.U.setTop { g with pc := g.pc + 3, stack := v.toList ++ rest }) target → Steps p.tables e below (T.setTop g) target) ∨
    (∃ (q : Addr) (vm₁ : Vm) (B : Pt), s.WarmedH vm₁ ∧ Stand p l e R s m args below meth c B.U B.locs B.cells B.slots ∧ PostX ⟨T.setVm vm₁, locs, cells, slots⟩ (Value.ref b :: argsL).toArray q B ∧
      Steps p.tables e below (T.setTop g) ((B.U.setTop { g with stack := rest }).pushFrame (.throwing q))) := by
  obtain ⟨mk, methM, hnamed, hmethM, hstM, habM⟩ := Cond.instanceMethod_spec hinst
  obtain ⟨m8, methM', cM, hn8, hmethM', -, -, -, -, -, -, hsigM⟩ := Cond.codeWith_spec hcode
  cases Option.some.inj (hn8.symm.trans hnamed)
  cases hmethM.symm.trans hmethM'
  obtain ⟨c2, r2, m2, q1, q2, q3, q4, kP, hkP, hkPi⟩ := Cond.selects_spec hsel
  cases hcls.symm.trans q1
  cases (State.methodFound?_of_named hnamed hy).symm.trans q2
  cases hnamed.symm.trans q3
  have hselP : selectMethod e.platform s.vm cellB.cls mk = .method mk := by rw [Launch.admits_selectMethod X.admits]; exact q4
  obtain ⟨vm₁, X₁, hstep₁⟩ := X.invokevirtual hexec hown hlink hnamed hmethM hstM hkP hkPi hy (a := b) (cell := cellB) hcell
    (fun z h => by rw [h] at hobj; cases hobj) hselP hmethM habM hkP hkPi (g := g) hg (argsL := argsL) (rest := rest) (hlen _ hsigM) hstack hdg
  rcases hK m meth c ⟨T.setVm vm₁, locs, cells, slots⟩ { g with stack := rest } (.invokevirtual index) mk (Value.ref b :: argsL).toArray X₁ hg hsize hdg hW (X₁.named hnamed) (hpre vm₁ X₁.warmed) with ⟨v, B, X', hpost, hsteps⟩ | ⟨q, B, X', hpost, hsteps⟩
  · exact Or.inl ⟨v, vm₁, B, X₁.warmed, X', hpost, fun target h => hstep₁ _ fun acts => by rw [doInvoke_state]; exact hsteps.trans h⟩
  · exact Or.inr ⟨q, vm₁, B, X₁.warmed, X', hpost, hstep₁ _ fun acts => by rw [doInvoke_state]; exact hsteps⟩
theorem vx_callSX (X : Stand p l e R s m args below meth c T locs cells slots) (hexec : p.tables.exec = Jvm.exec) {own : String} {index : Nat} {y : MethodName} {bytes : ByteArray} {maxL : Nat} {ret : Option FieldType} {hh : List (Nat × Nat × Nat × Nat)}
    (hown : s.vm.findClass own = some m.cls) (hlink : (Cond.methodLink own index y).before args s = true) (hstat : (Cond.static y).before args s = true) (hinit : (Cond.initialized y.cls).before args s = true)
    (hcode : (Cond.codeWith y bytes maxL ret hh).before args s = true) (hy : y.cls ≠ "java/lang/invoke/MethodHandle" ∧ y.cls ≠ "java/lang/invoke/VarHandle")
    {W9 : Nat} {Pre : Pt → Array Value → Prop} {Post : Pt → Array Value → Option Value → Pt → Prop} {PostX : Pt → Array Value → Addr → Pt → Prop} (hK : vx_Back l R p e below s args y 3 W9 Pre Post PostX)
    {g : JFrame} (hg : g.method = m) (hsize : g.locals.size = c.maxLocals) {argsL rest : List Value} (hlen : ∀ sig, parseMethodDescriptor y.desc = some sig → argsL.length = sig.parameters.length)
    (hstack : g.stack = argsL.reverse ++ rest) (hW : 2 * g.monitorRoom + (rest.map fun v => v.category).sum ≤ W9) (hdg : decode c.code g.pc = .ok (.invokestatic index, 3))
    (hpre : ∀ vm₁, s.WarmedH vm₁ → Pre ⟨T.setVm vm₁, locs, cells, slots⟩ argsL.toArray) :
    (∃ (v : Option Value) (vm₁ : Vm) (B : Pt), s.WarmedH vm₁ ∧ Stand p l e R s m args below meth c B.U B.locs B.cells B.slots ∧ Post ⟨T.setVm vm₁, locs, cells, slots⟩ argsL.toArray v B ∧
      ∀ target, Steps p.tables e below (B.U.setTop { g with pc := g.pc + 3, stack := v.toList ++ rest }) target → Steps p.tables e below (T.setTop g) target) ∨
    (∃ (q : Addr) (vm₁ : Vm) (B : Pt), s.WarmedH vm₁ ∧ Stand p l e R s m args below meth c B.U B.locs B.cells B.slots ∧ PostX ⟨T.setVm vm₁, locs, cells, slots⟩ argsL.toArray q B ∧
      Steps p.tables e below (T.setTop g) ((B.U.setTop { g with stack := rest }).pushFrame (.throwing q))) := by
  obtain ⟨mk, methM, cM, hnamed, hmethM, -, -, -, -, -, -, hsigM⟩ := Cond.codeWith_spec hcode
  have hstatic : methM.isStatic = true := Cond.static_spec hnamed hmethM hstat
  obtain ⟨kP, hkP, -⟩ := className_of_methodNamed hnamed
  have hinitP : kP.init = .initialized := Cond.initialized_spec (findClass_of_methodNamed hnamed) hkP hinit
  obtain ⟨vm₁, X₁, hstep₁⟩ := X.invokestatic hexec hown hlink hnamed hmethM hstatic hkP hinitP hy (g := g) hg (argsL := argsL) (rest := rest) (hlen _ hsigM) hstack hdg
  rcases hK m meth c ⟨T.setVm vm₁, locs, cells, slots⟩ { g with stack := rest } (.invokestatic index) mk argsL.toArray X₁ hg hsize hdg hW (X₁.named hnamed) (hpre vm₁ X₁.warmed) with ⟨v, B, X', hpost, hsteps⟩ | ⟨q, B, X', hpost, hsteps⟩
  · exact Or.inl ⟨v, vm₁, B, X₁.warmed, X', hpost, fun target h => hstep₁ _ fun acts => by rw [doInvoke_state]; exact hsteps.trans h⟩
  · exact Or.inr ⟨q, vm₁, B, X₁.warmed, X', hpost, hstep₁ _ fun acts => by rw [doInvoke_state]; exact hsteps⟩
theorem vx_callVW (X : Stand p l e R s m args below meth c T locs cells slots) (hexec : p.tables.exec = Jvm.exec) {own C : String} {index : Nat} {y : MethodName} {bytes : ByteArray} {maxL : Nat} {ret : Option FieldType} {hh : List (Nat × Nat × Nat × Nat)}
    (hown : s.vm.findClass own = some m.cls) (hlink : (Cond.methodLink own index y).before args s = true) (hinst : (Cond.instanceMethod y).before args s = true) (hsel : (Cond.selects C y y).before args s = true)
    (hcode : (Cond.codeWith y bytes maxL ret hh).before args s = true) (hy : y.cls ≠ "java/lang/invoke/MethodHandle" ∧ y.cls ≠ "java/lang/invoke/VarHandle")
    {W9 : Nat} {Pre : Pt → Array Value → Prop} {Post : Pt → Array Value → Option Value → Pt → Prop} (hK : Back l R p e below s args y 3 W9 Pre Post)
    {b : Addr} {cellB : Cell} (hcell : T.heap[b]? = some cellB) (hobj : cellB.vm.isStatics = false) (hcls : s.vm.findClass C = some cellB.cls)
    {g : JFrame} (hg : g.method = m) (hsize : g.locals.size = c.maxLocals) {argsL rest : List Value} (hlen : ∀ sig, parseMethodDescriptor y.desc = some sig → argsL.length = sig.parameters.length)
    (hstack : g.stack = argsL.reverse ++ .ref b :: rest) (hW : 2 * g.monitorRoom + (rest.map fun v => v.category).sum ≤ W9) (hdg : decode c.code g.pc = .ok (.invokevirtual index, 3))
    (hpre : ∀ vm₁, s.WarmedH vm₁ → Pre ⟨T.setVm vm₁, locs, cells, slots⟩ (Value.ref b :: argsL).toArray) :
    ∃ (v : Option Value) (vm₁ : Vm) (B : Pt), s.WarmedH vm₁ ∧ Stand p l e R s m args below meth c B.U B.locs B.cells B.slots ∧ Post ⟨T.setVm vm₁, locs, cells, slots⟩ (Value.ref b :: argsL).toArray v B ∧
      ∀ target, Steps p.tables e below (B.U.setTop { g with pc := g.pc + 3, stack := v.toList ++ rest }) target → Steps p.tables e below (T.setTop g) target := by
  obtain ⟨mk, methM, hnamed, hmethM, hstM, habM⟩ := Cond.instanceMethod_spec hinst
  obtain ⟨m8, methM', cM, hn8, hmethM', -, -, -, -, -, -, hsigM⟩ := Cond.codeWith_spec hcode
  cases Option.some.inj (hn8.symm.trans hnamed)
  cases hmethM.symm.trans hmethM'
  obtain ⟨c2, r2, m2, q1, q2, q3, q4, kP, hkP, hkPi⟩ := Cond.selects_spec hsel
  cases hcls.symm.trans q1
  cases (State.methodFound?_of_named hnamed hy).symm.trans q2
  cases hnamed.symm.trans q3
  have hselP : selectMethod e.platform s.vm cellB.cls mk = .method mk := by rw [Launch.admits_selectMethod X.admits]; exact q4
  obtain ⟨vm₁, X₁, hstep₁⟩ := X.invokevirtual hexec hown hlink hnamed hmethM hstM hkP hkPi hy (a := b) (cell := cellB) hcell
    (fun z h => by rw [h] at hobj; cases hobj) hselP hmethM habM hkP hkPi (g := g) hg (argsL := argsL) (rest := rest) (hlen _ hsigM) hstack hdg
  obtain ⟨v, B, X', hpost, hsteps⟩ := hK m meth c ⟨T.setVm vm₁, locs, cells, slots⟩ { g with stack := rest } (.invokevirtual index) mk (Value.ref b :: argsL).toArray X₁ hg hsize hdg hW (X₁.named hnamed) (hpre vm₁ X₁.warmed)
  exact ⟨v, vm₁, B, X₁.warmed, X', hpost, fun target h => hstep₁ _ fun acts => by rw [doInvoke_state]; exact hsteps.trans h⟩
abbrev vx_CVW (R : Room) (s : State) (args : Array Value) (own C : String) (index : Nat) (y : MethodName) (bytes : ByteArray) (maxL : Nat) (ret : Option FieldType) (hh : List (Nat × Nat × Nat × Nat)) (ws : List Cond) (rm : Room) (mc ms n : Nat) : Prop :=
  (rm.cells = mc ∧ rm.slots = ms ∧ rm.frames + 1 ≤ R.frames ∧ 8 + (maxL + 11) + rm.locals ≤ R.locals ∧ (∀ w ∈ ws, ∀ (a' : Array Value) (U : State), s.WarmedH U.vm → w.before a' U = true) ∧ Cond.codeWith y bytes maxL ret hh ∈ ws) ∧
  (Cond.codeWith y bytes maxL ret hh).before args s = true ∧ (Cond.initialized y.cls).before args s = true ∧ (y.cls ≠ "java/lang/invoke/MethodHandle" ∧ y.cls ≠ "java/lang/invoke/VarHandle") ∧
  (∀ sig, parseMethodDescriptor y.desc = some sig → n = sig.parameters.length) ∧ (Cond.methodLink own index y).before args s = true ∧ (Cond.instanceMethod y).before args s = true ∧ (Cond.selects C y y).before args s = true
theorem vx_cwVW {own C : String} {index maxL mc ms : Nat} {y : MethodName} {bytes : ByteArray} {ret : Option FieldType} {hh : List (Nat × Nat × Nat × Nat)} {Ts ws ws' : List Cond} {rm : Room} (n : Nat) (ht : ∀ w ∈ Ts, w.before args s = true) (hT : GoodIn Ts (wsV own index C y ws)) (hw : ws = Cond.codeWith y bytes maxL ret hh :: ws') (hrc : rm.cells = mc) (hrs : rm.slots = ms)
    (hd : y.cls = C ∧ y.cls ≠ "java/lang/invoke/MethodHandle" ∧ y.cls ≠ "java/lang/invoke/VarHandle" ∧ (parseMethodDescriptor y.desc).map (fun d => d.parameters.length) = some n) (hR : rm.frames + 1 ≤ R.frames ∧ 8 + (maxL + 11) + rm.locals ≤ R.locals) :
    vx_CVW R s args own C index y bytes maxL ret hh ws rm mc ms n := by
  obtain ⟨hC, hd⟩ := hd
  subst hC
  have ok : ∀ w ∈ wsV own index y.cls y ws, w.before args s = true := fun w h => ht w (hT w h).1
  have hG : GoodIn Ts ws := fun w h => hT w (by unfold wsV; exact List.mem_append_right _ h)
  have hc : Cond.codeWith y bytes maxL ret hh ∈ ws := by rw [hw]; exact List.mem_cons_self
  refine ⟨⟨hrc, hrs, hR.1, hR.2, pay_in ht hG, hc⟩, ht _ (hG _ hc).1, ok _ (by simp [wsV]), ⟨hd.1, hd.2.1⟩, fun sig h => ?_, ok _ (by simp [wsV]), ok _ (by simp [wsV]), ok _ (by simp [wsV])⟩
  have h2 := hd.2.2
  rw [h] at h2
  exact (Option.some.inj h2).symm
theorem vx_runVW {y : MethodName} {bytes cc : ByteArray} {maxL nL mc ms n index : Nat} {ret : Option FieldType} {hh : List (Nat × Nat × Nat × Nat)} {ws : List Cond} {rm : Room} {Pc : Array Value → State → Prop} {Qc : Array Value → State → Outcome → State → Prop} {free : Addr → Prop} {Ts : List Cond} {own C : String} {b : Addr} {As rest : List Value} {g : JFrame}
    (S : CallFix p m c cc nL s args Ts own) (hM : Met l y ws rm Pc Qc mc ms free) (cw : vx_CVW R s args own C index y bytes maxL ret hh ws rm mc ms n) (hp : PreV s H C b Pc As)
    (hg : g.method = m) (hn : As.length = n) (hsize : g.locals.size = nL) (hstack : g.stack = As.reverse ++ .ref b :: rest) (hW : 2 * g.monitorRoom + (rest.map fun v => v.category).sum ≤ 8) (hdg : decode cc g.pc = .ok (.invokevirtual index, 3)) (hf : cells + mc ≤ R.cells ∧ slots + ms ≤ R.slots) :
    va_Run p l e R s m args below meth c H locs cells slots mc ms g rest (Qc (Value.ref b :: As).toArray) free := by
  obtain ⟨⟨hrc, hrs, hfr, hlo, hws, hcw⟩, hcode, hini, hy, hlen, hl, hin, hse⟩ := cw
  have hK : Back l R p e below s args y 3 8 (PreOf R mc ms Pc) (PostOf Qc mc ms free) := va_backW (hh := hh) (bytes := bytes) (maxL := maxL) (ret := ret) hM hp.1 hrc hrs hfr hlo hws hcw (fun a' U hW => word_at hW (Or.inl (by first | rfl | simp [Cond.onTables, Cond.keeps, Cond.steady])) hini)
  obtain ⟨hx, hb, hml, ho, -⟩ := S
  obtain ⟨-, ⟨cellB, hcB, hoB, hclB⟩, hPc⟩ := hp
  intro T hT X
  obtain ⟨v, vm₁, ⟨U', l2, c2, s2⟩, hW₁, X', ⟨g', mk, t, L, e1, e2, hq, h1, hL, h2, h3⟩, st⟩ := vx_callVW X hx (C := C) (hh := hh) (bytes := bytes) (maxL := maxL) (ret := ret) ho hl hin hse hcode hy hK (by rw [hT]; exact hcB) hoB hclB hg (hsize.trans hml.symm) (argsL := As) (rest := rest) (fun sig h => hn.trans (hlen sig h)) hstack hW (by rw [hb]; exact hdg)
    (fun vm₁ hW₁ => ⟨hf.1, hf.2, hPc (T.setVm vm₁) hT hW₁⟩)
  dsimp only [Pt.U, Pt.locs, Pt.cells, Pt.slots] at X' e1 e2 h1 h2 h3 st
  subst h1; subst h2; subst h3
  exact ⟨v, (T.setVm vm₁).calling g' mk (Value.ref b :: As).toArray, t, U', L, hT, X', hL, e1, e2, hq, st⟩
section
variable {y : MethodName} {bytes cc : ByteArray} {maxL nL mc ms n index : Nat} {ret : Option FieldType} {ws : List Cond} {rm : Room} {Pc : Array Value → State → Prop} {Qc : Array Value → State → Outcome → State → Prop} {XC : String → State → State → Prop} {free : Addr → Prop} {Ts : List Cond} {own C : String} {b : Addr} {As rest : List Value} {g : JFrame}
theorem vx_runVX {hh : List (Nat × Nat × Nat × Nat)} (S : CallFix p m c cc nL s args Ts own) (hM : vx_Met l y ws rm Pc Qc XC mc ms free) (cw : vx_CVW R s args own C index y bytes maxL ret hh ws rm mc ms n) (hp : PreV s H C b Pc As)
    (hg : g.method = m) (hn : As.length = n) (hsize : g.locals.size = nL) (hstack : g.stack = As.reverse ++ .ref b :: rest) (hW : 2 * g.monitorRoom + (rest.map fun v => v.category).sum ≤ 8) (hdg : decode cc g.pc = .ok (.invokevirtual index, 3)) (hf : cells + mc ≤ R.cells ∧ slots + ms ≤ R.slots) :
    vx_Run p l e R s m args below meth c H locs cells slots mc ms g rest (Qc (Value.ref b :: As).toArray) XC free := by
  obtain ⟨⟨hrc, hrs, hfr, hlo, hws, hcw⟩, hcode, hini, hy, hlen, hl, hin, hse⟩ := cw
  have hK : vx_Back l R p e below s args y 3 8 (PreOf R mc ms Pc) (PostOf Qc mc ms free) (vx_Post XC mc ms free) := vx_backW (hh := hh) (bytes := bytes) (maxL := maxL) (ret := ret) hM hp.1 hrc hrs hfr hlo hws hcw (fun a' U hW => word_at hW (Or.inl (by first | rfl | simp [Cond.onTables, Cond.keeps, Cond.steady])) hini)
  obtain ⟨hx, hb, hml, ho, -⟩ := S
  obtain ⟨-, ⟨cellB, hcB, hoB, hclB⟩, hPc⟩ := hp
  intro T hT X
  rcases vx_callVX X hx (C := C) (hh := hh) (bytes := bytes) (maxL := maxL) (ret := ret) ho hl hin hse hcode hy hK (by rw [hT]; exact hcB) hoB hclB hg (hsize.trans hml.symm) (argsL := As) (rest := rest) (fun sig h => hn.trans (hlen sig h)) hstack hW (by rw [hb]; exact hdg)
    (fun vm₁ hW₁ => ⟨hf.1, hf.2, hPc (T.setVm vm₁) hT hW₁⟩) with ⟨v, vm₁, ⟨U', l2, c2, s2⟩, hW₁, X', ⟨g', mk, t, L, e1, e2, hq, h1, hL, h2, h3⟩, st⟩ | ⟨q, vm₁, ⟨U', l2, c2, s2⟩, hW₁, X', ⟨g', mk, t, L, E, ce, e1, e2, hq, hce, hcv, hcl, h1, hL, h2, h3⟩, st⟩
  · dsimp only [Pt.U, Pt.locs, Pt.cells, Pt.slots] at X' e1 e2 h1 h2 h3 st
    subst h1; subst h2; subst h3
    exact Or.inl ⟨v, (T.setVm vm₁).calling g' mk (Value.ref b :: As).toArray, t, U', L, hT, X', hL, e1, e2, hq, st⟩
  · dsimp only [Pt.U, Pt.locs, Pt.cells, Pt.slots] at X' e1 e2 h1 h2 h3 st hcl
    subst h1; subst h2; subst h3
    exact Or.inr ⟨q, (T.setVm vm₁).calling g' mk (Value.ref b :: As).toArray, t, U', L, E, ce, hT, X', hL, e1, e2, hq, hce, hcv, vx_cls hW₁ hcl, st⟩
theorem vx_runSX {hh : List (Nat × Nat × Nat × Nat)} (S : CallFix p m c cc nL s args Ts own) (hM : vx_Met l y ws rm Pc Qc XC mc ms free) (cw : vx_CSW R s args own index y bytes maxL ret hh ws rm mc ms n) (hp : PreS s H Pc As)
    (hg : g.method = m) (hn : As.length = n) (hsize : g.locals.size = nL) (hstack : g.stack = As.reverse ++ rest) (hW : 2 * g.monitorRoom + (rest.map fun v => v.category).sum ≤ 8) (hdg : decode cc g.pc = .ok (.invokestatic index, 3)) (hf : cells + mc ≤ R.cells ∧ slots + ms ≤ R.slots) :
    vx_Run p l e R s m args below meth c H locs cells slots mc ms g rest (Qc As.toArray) XC free := by
  obtain ⟨⟨hrc, hrs, hfr, hlo, hws, hcw⟩, hcode, hini, hy, hlen, hl, hstt⟩ := cw
  have hK : vx_Back l R p e below s args y 3 8 (PreOf R mc ms Pc) (PostOf Qc mc ms free) (vx_Post XC mc ms free) := vx_backW (hh := hh) (bytes := bytes) (maxL := maxL) (ret := ret) hM hp.1 hrc hrs hfr hlo hws hcw (fun a' U hW => word_at hW (Or.inl (by first | rfl | simp [Cond.onTables, Cond.keeps, Cond.steady])) hini)
  obtain ⟨hx, hb, hml, ho, -⟩ := S
  intro T hT X
  rcases vx_callSX X hx (hh := hh) (bytes := bytes) (maxL := maxL) (ret := ret) ho hl hstt hini hcode hy hK hg (hsize.trans hml.symm) (argsL := As) (rest := rest) (fun sig h => hn.trans (hlen sig h)) hstack hW (by rw [hb]; exact hdg)
    (fun vm₁ hW₁ => ⟨hf.1, hf.2, hp.2 (T.setVm vm₁) hT hW₁⟩) with ⟨v, vm₁, ⟨U', l2, c2, s2⟩, hW₁, X', ⟨g', mk, t, L, e1, e2, hq, h1, hL, h2, h3⟩, st⟩ | ⟨q, vm₁, ⟨U', l2, c2, s2⟩, hW₁, X', ⟨g', mk, t, L, E, ce, e1, e2, hq, hce, hcv, hcl, h1, hL, h2, h3⟩, st⟩
  · dsimp only [Pt.U, Pt.locs, Pt.cells, Pt.slots] at X' e1 e2 h1 h2 h3 st
    subst h1; subst h2; subst h3
    exact Or.inl ⟨v, (T.setVm vm₁).calling g' mk As.toArray, t, U', L, hT, X', hL, e1, e2, hq, st⟩
  · dsimp only [Pt.U, Pt.locs, Pt.cells, Pt.slots] at X' e1 e2 h1 h2 h3 st hcl
    subst h1; subst h2; subst h3
    exact Or.inr ⟨q, (T.setVm vm₁).calling g' mk As.toArray, t, U', L, E, ce, hT, X', hL, e1, e2, hq, hce, hcv, vx_cls hW₁ hcl, st⟩
end
end VXH
theorem vx_ofWH {l : Launch} {y : MethodName} {ws ws' : List Cond} {rm : Room} {Pc : Array Value → State → Prop} {Qc : Array Value → State → Outcome → State → Prop} {XC : String → State → State → Prop} {mc ms : Nat} {free : Addr → Prop} {cc : ByteArray} {maxL : Nat} {ret : Option FieldType} {hh : List (Nat × Nat × Nat × Nat)}
    (hy : plainName y.cls = true) (hw : ws = Cond.codeWith y cc maxL ret hh :: ws')
    (body : ∀ p e s m args below meth c s₁, BodyLoose p l y (headSpec ws rm) cc maxL ret e s m args below meth c s₁ → c.maxLocals = maxL → Pc args s →
      W p l e (headSpec ws rm).room s m args below meth c s.heap [] 0 0 (vx_MQ below Qc XC args s mc ms free) (entryFrame m args maxL)) : vx_Met l y ws rm Pc Qc XC mc ms free := by
  refine MetFree.of_bodyS (code := cc) (maxLocals := maxL) (ret := ret) hy ?_ ?_
  · intro args s m h hn
    obtain ⟨m9, meth, c, hn9, h1, h2, h3, h4, -, h5, h6, -⟩ := Cond.codeWith_spec (atoms_spec (ws := ws) h _ (by rw [hw]; exact List.mem_cons_self))
    cases hn.symm.trans hn9
    exact ⟨meth, c, h1, h2, h3, h4, h5, h6⟩
  · intro p e s m args below meth c s₁ B hml hP _
    have hh0 : s₁.heap = s.heap := by rw [B.state]; rfl
    obtain ⟨t, a1, o, b1, b2, b3⟩ := body p e s m args below meth c s₁ B hml hP s₁ hh0 (Stand.of_body B)
    exact ⟨t, o, a1, b1, b2, b3⟩
/-! ===== END ===== -/
end
section
def RX0 : String := "ClosureHeap$Code"
def TX0 : u_T := fun k => match k with
  | 0 => ("ClosureHeap$Code", "parts", "[I", true)
  | _ => ("ClosureHeap$Code", "length", "I", false)
def tyX0 : Nat → FieldType := fun k => match k with
  | 0 => .array .int
  | _ => .int
abbrev wsX00 : List Cond := u_ws RX0 TX0 2
theorem nmX0 : ∀ a, a < 2 → ∀ b, b < 2 → a ≠ b → (TX0 a).2.1 ≠ (TX0 b).2.1 := by decide +kernel
theorem tyX0_ok : ∀ k, k < 2 → parseFieldDescriptor (TX0 k).2.2.1 = some (tyX0 k) := by decide +kernel
abbrev cX0_init : ByteArray := prog_2_method_1_code
def yX0_init : MethodName := ⟨RX0, "<init>", "()V"⟩
abbrev cX0_replaceBy : ByteArray := prog_2_method_2_code
def yX0_replaceBy : MethodName := ⟨RX0, "replaceBy", "(LClosureHeap$Row;)Z"⟩
abbrev cX0_store : ByteArray := prog_2_method_3_code
def yX0_store : MethodName := ⟨RX0, "store", "(LClosureHeap$Step;)V"⟩
abbrev cX0_part : ByteArray := prog_2_method_4_code
def yX0_part : MethodName := ⟨RX0, "part", "(II)I"⟩
def RX1 : String := "ClosureHeap$Heap"
def TX1 : u_T := fun k => match k with
  | 0 => ("ClosureHeap$Heap", "half", "[I", false)
  | 1 => ("ClosureHeap$Heap", "otherHalf", "[I", false)
  | 2 => ("ClosureHeap$Heap", "movedTo", "[I", true)
  | 3 => ("ClosureHeap$Heap", "taken", "I", false)
  | 4 => ("ClosureHeap$Heap", "copied", "I", false)
  | _ => ("ClosureHeap$Heap", "turns", "I", false)
def tyX1 : Nat → FieldType := fun k => match k with
  | 0 => .array .int
  | 1 => .array .int
  | 2 => .array .int
  | 3 => .int
  | 4 => .int
  | _ => .int
abbrev wsX10 : List Cond := u_ws RX1 TX1 6
theorem nmX1 : ∀ a, a < 6 → ∀ b, b < 6 → a ≠ b → (TX1 a).2.1 ≠ (TX1 b).2.1 := by decide +kernel
theorem tyX1_ok : ∀ k, k < 6 → parseFieldDescriptor (TX1 k).2.2.1 = some (tyX1 k) := by decide +kernel
abbrev cX1_init : ByteArray := prog_3_method_1_code
def yX1_init : MethodName := ⟨RX1, "<init>", "(I)V"⟩
abbrev cX1_clear : ByteArray := prog_3_method_2_code
def yX1_clear : MethodName := ⟨RX1, "clear", "()V"⟩
abbrev cX1_hasRoomFor : ByteArray := prog_3_method_3_code
def yX1_hasRoomFor : MethodName := ⟨RX1, "hasRoomFor", "(I)Z"⟩
abbrev cX1_beginBlock : ByteArray := prog_3_method_4_code
def yX1_beginBlock : MethodName := ⟨RX1, "beginBlock", "(II)I"⟩
abbrev cX1_put : ByteArray := prog_3_method_5_code
def yX1_put : MethodName := ⟨RX1, "put", "(I)V"⟩
abbrev cX1_putPair : ByteArray := prog_3_method_6_code
def yX1_putPair : MethodName := ⟨RX1, "putPair", "(III)I"⟩
abbrev cX1_blockKind : ByteArray := prog_3_method_7_code
def yX1_blockKind : MethodName := ⟨RX1, "blockKind", "(I)I"⟩
abbrev cX1_blockWords : ByteArray := prog_3_method_8_code
def yX1_blockWords : MethodName := ⟨RX1, "blockWords", "(I)I"⟩
abbrev cX1_wordOf : ByteArray := prog_3_method_9_code
def yX1_wordOf : MethodName := ⟨RX1, "wordOf", "(II)I"⟩
abbrev cX1_isPointer : ByteArray := prog_3_method_10_code
def yX1_isPointer : MethodName := ⟨RX1, "isPointer", "(I)Z"⟩
abbrev cX1_isFunction : ByteArray := prog_3_method_11_code
def yX1_isFunction : MethodName := ⟨RX1, "isFunction", "(I)Z"⟩
abbrev cX1_constructorOf : ByteArray := prog_3_method_12_code
def yX1_constructorOf : MethodName := ⟨RX1, "constructorOf", "(I)I"⟩
abbrev cX1_sort : ByteArray := prog_3_method_13_code
def yX1_sort : MethodName := ⟨RX1, "sort", "(I)I"⟩
abbrev cX1_meaning : ByteArray := prog_3_method_14_code
def yX1_meaning : MethodName := ⟨RX1, "meaning", "(I)I"⟩
abbrev cX1_beginCopy : ByteArray := prog_3_method_15_code
def yX1_beginCopy : MethodName := ⟨RX1, "beginCopy", "()V"⟩
abbrev cX1_copy : ByteArray := prog_3_method_16_code
def yX1_copy : MethodName := ⟨RX1, "copy", "(I)I"⟩
abbrev cX1_copyTheRest : ByteArray := prog_3_method_17_code
def yX1_copyTheRest : MethodName := ⟨RX1, "copyTheRest", "()V"⟩
abbrev cX1_useOtherHalf : ByteArray := prog_3_method_18_code
def yX1_useOtherHalf : MethodName := ⟨RX1, "useOtherHalf", "()V"⟩
def RX2 : String := "ClosureHeap$Machine"
def TX2 : u_T := fun k => match k with
  | 0 => ("ClosureHeap$Machine", "code", "LClosureHeap$Code;", true)
  | 1 => ("ClosureHeap$Machine", "heap", "LClosureHeap$Heap;", true)
  | 2 => ("ClosureHeap$Machine", "stack", "[I", true)
  | 3 => ("ClosureHeap$Machine", "height", "I", false)
  | 4 => ("ClosureHeap$Machine", "accumulator", "I", false)
  | 5 => ("ClosureHeap$Machine", "environment", "I", false)
  | 6 => ("ClosureHeap$Machine", "at", "I", false)
  | 7 => ("ClosureHeap$Machine", "halted", "Z", false)
  | _ => ("ClosureHeap$Machine", "reason", "I", false)
def tyX2 : Nat → FieldType := fun k => match k with
  | 0 => .object "ClosureHeap$Code"
  | 1 => .object "ClosureHeap$Heap"
  | 2 => .array .int
  | 3 => .int
  | 4 => .int
  | 5 => .int
  | 6 => .int
  | 7 => .boolean
  | _ => .int
abbrev wsX20 : List Cond := u_ws RX2 TX2 9
theorem nmX2 : ∀ a, a < 9 → ∀ b, b < 9 → a ≠ b → (TX2 a).2.1 ≠ (TX2 b).2.1 := by decide +kernel
theorem tyX2_ok : ∀ k, k < 9 → parseFieldDescriptor (TX2 k).2.2.1 = some (tyX2 k) := by decide +kernel
abbrev cX2_init : ByteArray := prog_4_method_1_code
def yX2_init : MethodName := ⟨RX2, "<init>", "(LClosureHeap$Code;LClosureHeap$Heap;)V"⟩
abbrev cX2_beginAnew : ByteArray := prog_4_method_2_code
def yX2_beginAnew : MethodName := ⟨RX2, "beginAnew", "()V"⟩
abbrev cX2_condition : ByteArray := prog_4_method_3_code
def yX2_condition : MethodName := ⟨RX2, "condition", "()I"⟩
abbrev cX2_doUpTo : ByteArray := prog_4_method_4_code
def yX2_doUpTo : MethodName := ⟨RX2, "doUpTo", "(I)I"⟩
abbrev cX2_hindrance : ByteArray := prog_4_method_5_code
def yX2_hindrance : MethodName := ⟨RX2, "hindrance", "(II)I"⟩
abbrev cX2_isWrong : ByteArray := prog_4_method_6_code
def yX2_isWrong : MethodName := ⟨RX2, "isWrong", "(II)Z"⟩
abbrev cX2_growth : ByteArray := prog_4_method_7_code
def yX2_growth : MethodName := ⟨RX2, "growth", "(I)I"⟩
abbrev cX2_wordsMade : ByteArray := prog_4_method_8_code
def yX2_wordsMade : MethodName := ⟨RX2, "wordsMade", "(II)I"⟩
abbrev cX2_collect : ByteArray := prog_4_method_9_code
def yX2_collect : MethodName := ⟨RX2, "collect", "()V"⟩
abbrev cX2_copyReachable : ByteArray := prog_4_method_10_code
def yX2_copyReachable : MethodName := ⟨RX2, "copyReachable", "()I"⟩
abbrev cX2_perform : ByteArray := prog_4_method_11_code
def yX2_perform : MethodName := ⟨RX2, "perform", "(II)V"⟩
abbrev cX2_operate : ByteArray := prog_4_method_12_code
def yX2_operate : MethodName := ⟨RX2, "operate", "(I)V"⟩
abbrev cX2_wordOfTruth : ByteArray := prog_4_method_13_code
def yX2_wordOfTruth : MethodName := ⟨RX2, "wordOfTruth", "(Z)I"⟩
abbrev cX2_enterFunction : ByteArray := prog_4_method_14_code
def yX2_enterFunction : MethodName := ⟨RX2, "enterFunction", "(I)I"⟩
abbrev cX2_bind : ByteArray := prog_4_method_15_code
def yX2_bind : MethodName := ⟨RX2, "bind", "(I)V"⟩
abbrev cX2_make : ByteArray := prog_4_method_16_code
def yX2_make : MethodName := ⟨RX2, "make", "(I)V"⟩
abbrev cX2_open : ByteArray := prog_4_method_17_code
def yX2_open : MethodName := ⟨RX2, "open", "(I)V"⟩
abbrev cX2_furtherOn : ByteArray := prog_4_method_18_code
def yX2_furtherOn : MethodName := ⟨RX2, "furtherOn", "(I)I"⟩
abbrev cX2_placeOfCase : ByteArray := prog_4_method_19_code
def yX2_placeOfCase : MethodName := ⟨RX2, "placeOfCase", "(I)I"⟩
abbrev cX2_top : ByteArray := prog_4_method_20_code
def yX2_top : MethodName := ⟨RX2, "top", "()I"⟩
abbrev cX2_pop : ByteArray := prog_4_method_21_code
def yX2_pop : MethodName := ⟨RX2, "pop", "()I"⟩
abbrev cX2_push : ByteArray := prog_4_method_22_code
def yX2_push : MethodName := ⟨RX2, "push", "(I)V"⟩
abbrev cX2_wordAt : ByteArray := prog_4_method_23_code
def yX2_wordAt : MethodName := ⟨RX2, "wordAt", "(I)I"⟩
def RX3 : String := "ClosureHeap$Reader"
def TX3 : u_T := fun k => match k with
  | 0 => ("ClosureHeap$Reader", "text", "[C", true)
  | 1 => ("ClosureHeap$Reader", "length", "I", false)
  | 2 => ("ClosureHeap$Reader", "at", "I", false)
  | 3 => ("ClosureHeap$Reader", "names", "[C", true)
  | 4 => ("ClosureHeap$Reader", "bound", "I", false)
  | _ => ("ClosureHeap$Reader", "illPlace", "I", false)
def tyX3 : Nat → FieldType := fun k => match k with
  | 0 => .array .char
  | 1 => .int
  | 2 => .int
  | 3 => .array .char
  | 4 => .int
  | _ => .int
abbrev wsX30 : List Cond := u_ws RX3 TX3 6
theorem nmX3 : ∀ a, a < 6 → ∀ b, b < 6 → a ≠ b → (TX3 a).2.1 ≠ (TX3 b).2.1 := by decide +kernel
theorem tyX3_ok : ∀ k, k < 6 → parseFieldDescriptor (TX3 k).2.2.1 = some (tyX3 k) := by decide +kernel
abbrev cX3_init : ByteArray := prog_5_method_1_code
def yX3_init : MethodName := ⟨RX3, "<init>", "()V"⟩
abbrev cX3_read : ByteArray := prog_5_method_2_code
def yX3_read : MethodName := ⟨RX3, "read", "([CI)LClosureHeap$Row;"⟩
abbrev cX3_refuse : ByteArray := prog_5_method_3_code
def yX3_refuse : MethodName := ⟨RX3, "refuse", "()V"⟩
abbrev cX3_leaveOutBlanks : ByteArray := prog_5_method_4_code
def yX3_leaveOutBlanks : MethodName := ⟨RX3, "leaveOutBlanks", "([CI)V"⟩
abbrev cX3_expression : ByteArray := prog_5_method_5_code
def yX3_expression : MethodName := ⟨RX3, "expression", "(I)LClosureHeap$Row;"⟩
abbrev cX3_beginsHead : ByteArray := prog_5_method_6_code
def yX3_beginsHead : MethodName := ⟨RX3, "beginsHead", "()Z"⟩
abbrev cX3_head : ByteArray := prog_5_method_7_code
def yX3_head : MethodName := ⟨RX3, "head", "(LClosureHeap$Row;LClosureHeap$Row;I)V"⟩
abbrev cX3_function : ByteArray := prog_5_method_8_code
def yX3_function : MethodName := ⟨RX3, "function", "(LClosureHeap$Row;LClosureHeap$Row;)V"⟩
abbrev cX3_boundFunction : ByteArray := prog_5_method_9_code
def yX3_boundFunction : MethodName := ⟨RX3, "boundFunction", "(LClosureHeap$Row;LClosureHeap$Row;I)V"⟩
abbrev cX3_boundValue : ByteArray := prog_5_method_10_code
def yX3_boundValue : MethodName := ⟨RX3, "boundValue", "(LClosureHeap$Row;LClosureHeap$Row;I)V"⟩
abbrev cX3_openFunction : ByteArray := prog_5_method_11_code
def yX3_openFunction : MethodName := ⟨RX3, "openFunction", "(LClosureHeap$Row;ILClosureHeap$Step;)V"⟩
abbrev cX3_match : ByteArray := prog_5_method_12_code
def yX3_match : MethodName := ⟨RX3, "match", "(I)LClosureHeap$Row;"⟩
abbrev cX3_caseBody : ByteArray := prog_5_method_13_code
def yX3_caseBody : MethodName := ⟨RX3, "caseBody", "(LClosureHeap$Row;ILClosureHeap$Step;I)V"⟩
abbrev cX3_comparison : ByteArray := prog_5_method_14_code
def yX3_comparison : MethodName := ⟨RX3, "comparison", "(I)LClosureHeap$Row;"⟩
abbrev cX3_sum : ByteArray := prog_5_method_15_code
def yX3_sum : MethodName := ⟨RX3, "sum", "(I)LClosureHeap$Row;"⟩
abbrev cX3_product : ByteArray := prog_5_method_16_code
def yX3_product : MethodName := ⟨RX3, "product", "(I)LClosureHeap$Row;"⟩
abbrev cX3_application : ByteArray := prog_5_method_17_code
def yX3_application : MethodName := ⟨RX3, "application", "(I)LClosureHeap$Row;"⟩
abbrev cX3_atom : ByteArray := prog_5_method_18_code
def yX3_atom : MethodName := ⟨RX3, "atom", "(I)LClosureHeap$Row;"⟩
abbrev cX3_numeral : ByteArray := prog_5_method_19_code
def yX3_numeral : MethodName := ⟨RX3, "numeral", "()LClosureHeap$Row;"⟩
abbrev cX3_access : ByteArray := prog_5_method_20_code
def yX3_access : MethodName := ⟨RX3, "access", "()LClosureHeap$Row;"⟩
abbrev cX3_construction : ByteArray := prog_5_method_21_code
def yX3_construction : MethodName := ⟨RX3, "construction", "(I)LClosureHeap$Row;"⟩
abbrev cX3_rowOf : ByteArray := prog_5_method_22_code
def yX3_rowOf : MethodName := ⟨RX3, "rowOf", "(II)LClosureHeap$Row;"⟩
abbrev cX3_label : ByteArray := prog_5_method_23_code
def yX3_label : MethodName := ⟨RX3, "label", "()LClosureHeap$Step;"⟩
abbrev cX3_peek : ByteArray := prog_5_method_24_code
def yX3_peek : MethodName := ⟨RX3, "peek", "()C"⟩
abbrev cX3_characterAt : ByteArray := prog_5_method_25_code
def yX3_characterAt : MethodName := ⟨RX3, "characterAt", "(I)C"⟩
abbrev cX3_expect : ByteArray := prog_5_method_26_code
def yX3_expect : MethodName := ⟨RX3, "expect", "(C)V"⟩
abbrev cX3_takeName : ByteArray := prog_5_method_27_code
def yX3_takeName : MethodName := ⟨RX3, "takeName", "()C"⟩
abbrev cX3_takeTagNotIn : ByteArray := prog_5_method_28_code
def yX3_takeTagNotIn : MethodName := ⟨RX3, "takeTagNotIn", "(I)I"⟩
abbrev cX3_bind : ByteArray := prog_5_method_29_code
def yX3_bind : MethodName := ⟨RX3, "bind", "(C)V"⟩
abbrev cX3_furtherOn : ByteArray := prog_5_method_30_code
def yX3_furtherOn : MethodName := ⟨RX3, "furtherOn", "(C)I"⟩
abbrev cX3_beginsAtom : ByteArray := prog_5_method_31_code
def yX3_beginsAtom : MethodName := ⟨RX3, "beginsAtom", "(C)Z"⟩
abbrev cX3_isDigit : ByteArray := prog_5_method_32_code
def yX3_isDigit : MethodName := ⟨RX3, "isDigit", "(C)Z"⟩
abbrev cX3_isName : ByteArray := prog_5_method_33_code
def yX3_isName : MethodName := ⟨RX3, "isName", "(C)Z"⟩
abbrev cX3_isConstructor : ByteArray := prog_5_method_34_code
def yX3_isConstructor : MethodName := ⟨RX3, "isConstructor", "(C)Z"⟩
def RX4 : String := "ClosureHeap$Row"
def TX4 : u_T := fun k => match k with
  | 0 => ("ClosureHeap$Row", "first", "LClosureHeap$Step;", false)
  | _ => ("ClosureHeap$Row", "last", "LClosureHeap$Step;", false)
def tyX4 : Nat → FieldType := fun k => match k with
  | 0 => .object "ClosureHeap$Step"
  | _ => .object "ClosureHeap$Step"
abbrev wsX40 : List Cond := u_ws RX4 TX4 2
theorem nmX4 : ∀ a, a < 2 → ∀ b, b < 2 → a ≠ b → (TX4 a).2.1 ≠ (TX4 b).2.1 := by decide +kernel
theorem tyX4_ok : ∀ k, k < 2 → parseFieldDescriptor (TX4 k).2.2.1 = some (tyX4 k) := by decide +kernel
abbrev cX4_init : ByteArray := prog_6_method_1_code
def yX4_init : MethodName := ⟨RX4, "<init>", "()V"⟩
abbrev cX4_add : ByteArray := prog_6_method_2_code
def yX4_add : MethodName := ⟨RX4, "add", "(LClosureHeap$Step;)V"⟩
abbrev cX4_add_ : ByteArray := prog_6_method_3_code
def yX4_add_ : MethodName := ⟨RX4, "add", "(II)V"⟩
abbrev cX4_addFirst : ByteArray := prog_6_method_4_code
def yX4_addFirst : MethodName := ⟨RX4, "addFirst", "(LClosureHeap$Step;)V"⟩
abbrev cX4_append : ByteArray := prog_6_method_5_code
def yX4_append : MethodName := ⟨RX4, "append", "(LClosureHeap$Row;)V"⟩
abbrev cX4_operate : ByteArray := prog_6_method_6_code
def yX4_operate : MethodName := ⟨RX4, "operate", "(ILClosureHeap$Row;)V"⟩
abbrev cX4_countPlaces : ByteArray := prog_6_method_7_code
def yX4_countPlaces : MethodName := ⟨RX4, "countPlaces", "()I"⟩
def RX5 : String := "ClosureHeap$Step"
def TX5 : u_T := fun k => match k with
  | 0 => ("ClosureHeap$Step", "kind", "I", true)
  | 1 => ("ClosureHeap$Step", "a", "I", false)
  | 2 => ("ClosureHeap$Step", "target", "LClosureHeap$Step;", true)
  | 3 => ("ClosureHeap$Step", "place", "I", false)
  | _ => ("ClosureHeap$Step", "following", "LClosureHeap$Step;", false)
def tyX5 : Nat → FieldType := fun k => match k with
  | 0 => .int
  | 1 => .int
  | 2 => .object "ClosureHeap$Step"
  | 3 => .int
  | _ => .object "ClosureHeap$Step"
abbrev wsX50 : List Cond := u_ws RX5 TX5 5
theorem nmX5 : ∀ a, a < 5 → ∀ b, b < 5 → a ≠ b → (TX5 a).2.1 ≠ (TX5 b).2.1 := by decide +kernel
theorem tyX5_ok : ∀ k, k < 5 → parseFieldDescriptor (TX5 k).2.2.1 = some (tyX5 k) := by decide +kernel
abbrev cX5_init : ByteArray := prog_7_method_1_code
def yX5_init : MethodName := ⟨RX5, "<init>", "(IILClosureHeap$Step;)V"⟩
def RX6 : String := "ClosureHeap"
def TX6 : u_T := fun k => match k with
  | 0 => ("ClosureHeap", "text", "[C", true)
  | 1 => ("ClosureHeap", "length", "I", false)
  | 2 => ("ClosureHeap", "reader", "LClosureHeap$Reader;", true)
  | 3 => ("ClosureHeap", "program", "LClosureHeap$Code;", true)
  | _ => ("ClosureHeap", "machine", "LClosureHeap$Machine;", true)
def tyX6 : Nat → FieldType := fun k => match k with
  | 0 => .array .char
  | 1 => .int
  | 2 => .object "ClosureHeap$Reader"
  | 3 => .object "ClosureHeap$Code"
  | _ => .object "ClosureHeap$Machine"
abbrev wsX60 : List Cond := u_ws RX6 TX6 5
theorem nmX6 : ∀ a, a < 5 → ∀ b, b < 5 → a ≠ b → (TX6 a).2.1 ≠ (TX6 b).2.1 := by decide +kernel
theorem tyX6_ok : ∀ k, k < 5 → parseFieldDescriptor (TX6 k).2.2.1 = some (tyX6 k) := by decide +kernel
abbrev cX6_init : ByteArray := prog_1_method_1_code
def yX6_init : MethodName := ⟨RX6, "<init>", "(I)V"⟩
abbrev cX6_write : ByteArray := prog_1_method_2_code
def yX6_write : MethodName := ⟨RX6, "write", "(C)Z"⟩
abbrev cX6_compile : ByteArray := prog_1_method_3_code
def yX6_compile : MethodName := ⟨RX6, "compile", "()I"⟩
abbrev cX6_place : ByteArray := prog_1_method_4_code
def yX6_place : MethodName := ⟨RX6, "place", "()I"⟩
abbrev cX6_code : ByteArray := prog_1_method_5_code
def yX6_code : MethodName := ⟨RX6, "code", "(II)I"⟩
abbrev cX6_run : ByteArray := prog_1_method_6_code
def yX6_run : MethodName := ⟨RX6, "run", "(I)I"⟩
abbrev cX6_state : ByteArray := prog_1_method_7_code
def yX6_state : MethodName := ⟨RX6, "state", "()I"⟩
abbrev cX6_why : ByteArray := prog_1_method_8_code
def yX6_why : MethodName := ⟨RX6, "why", "()I"⟩
abbrev cX6_next : ByteArray := prog_1_method_9_code
def yX6_next : MethodName := ⟨RX6, "next", "()I"⟩
abbrev cX6_depth : ByteArray := prog_1_method_10_code
def yX6_depth : MethodName := ⟨RX6, "depth", "()I"⟩
abbrev cX6_used : ByteArray := prog_1_method_11_code
def yX6_used : MethodName := ⟨RX6, "used", "()I"⟩
abbrev cX6_live : ByteArray := prog_1_method_12_code
def yX6_live : MethodName := ⟨RX6, "live", "()I"⟩
abbrev cX6_collections : ByteArray := prog_1_method_13_code
def yX6_collections : MethodName := ⟨RX6, "collections", "()I"⟩
abbrev cX6_kind : ByteArray := prog_1_method_14_code
def yX6_kind : MethodName := ⟨RX6, "kind", "(I)I"⟩
abbrev cX6_value : ByteArray := prog_1_method_15_code
def yX6_value : MethodName := ⟨RX6, "value", "(I)I"⟩
abbrev cX6_fieldsOf : ByteArray := prog_1_method_16_code
def yX6_fieldsOf : MethodName := ⟨RX6, "fieldsOf", "(I)I"⟩
abbrev cX6_wordOfInt : ByteArray := prog_1_method_17_code
def yX6_wordOfInt : MethodName := ⟨RX6, "wordOfInt", "(I)I"⟩
abbrev cX6_wordOfTag : ByteArray := prog_1_method_18_code
def yX6_wordOfTag : MethodName := ⟨RX6, "wordOfTag", "(I)I"⟩
abbrev cX6_isInt : ByteArray := prog_1_method_19_code
def yX6_isInt : MethodName := ⟨RX6, "isInt", "(I)Z"⟩
abbrev cX6_isTag : ByteArray := prog_1_method_20_code
def yX6_isTag : MethodName := ⟨RX6, "isTag", "(I)Z"⟩
abbrev cX6_intOf : ByteArray := prog_1_method_21_code
def yX6_intOf : MethodName := ⟨RX6, "intOf", "(I)I"⟩
abbrev cX6_tagOf : ByteArray := prog_1_method_22_code
def yX6_tagOf : MethodName := ⟨RX6, "tagOf", "(I)I"⟩
def RX7 : String := "ClosureHeapModel"
def TX7 : u_T := fun k => match k with
  | 0 => ("ClosureHeapModel", "code", "I", false)
  | 1 => ("ClosureHeapModel", "written", "I", false)
  | 2 => ("ClosureHeapModel", "draft", "[C", true)
  | 3 => ("ClosureHeapModel", "size", "I", false)
  | 4 => ("ClosureHeapModel", "text", "[C", true)
  | 5 => ("ClosureHeapModel", "at", "I", false)
  | 6 => ("ClosureHeapModel", "ill", "Z", false)
  | 7 => ("ClosureHeapModel", "illAt", "I", false)
  | 8 => ("ClosureHeapModel", "nodes", "I", false)
  | 9 => ("ClosureHeapModel", "kind", "[I", true)
  | 10 => ("ClosureHeapModel", "number", "[I", true)
  | 11 => ("ClosureHeapModel", "child", "[I", true)
  | 12 => ("ClosureHeapModel", "next", "[I", true)
  | 13 => ("ClosureHeapModel", "count", "[I", true)
  | 14 => ("ClosureHeapModel", "closed", "[Z", true)
  | 15 => ("ClosureHeapModel", "scope", "I", false)
  | 16 => ("ClosureHeapModel", "bound", "[C", true)
  | 17 => ("ClosureHeapModel", "open", "I", false)
  | 18 => ("ClosureHeapModel", "stands", "[I", true)
  | 19 => ("ClosureHeapModel", "headsAt", "[I", true)
  | 20 => ("ClosureHeapModel", "scopeAt", "[I", true)
  | 21 => ("ClosureHeapModel", "signsAt", "[I", true)
  | 22 => ("ClosureHeapModel", "owner", "[I", true)
  | 23 => ("ClosureHeapModel", "named", "[C", true)
  | 24 => ("ClosureHeapModel", "compared", "[Z", true)
  | 25 => ("ClosureHeapModel", "matching", "[I", true)
  | 26 => ("ClosureHeapModel", "heads", "I", false)
  | 27 => ("ClosureHeapModel", "headKind", "[I", true)
  | 28 => ("ClosureHeapModel", "headNode", "[I", true)
  | 29 => ("ClosureHeapModel", "values", "I", false)
  | 30 => ("ClosureHeapModel", "value", "[I", true)
  | 31 => ("ClosureHeapModel", "signs", "I", false)
  | 32 => ("ClosureHeapModel", "sign", "[C", true)
  | 33 => ("ClosureHeapModel", "mode", "I", false)
  | 34 => ("ClosureHeapModel", "whole", "I", false)
  | 35 => ("ClosureHeapModel", "made", "I", false)
  | 36 => ("ClosureHeapModel", "fresh", "[I", true)
  | 37 => ("ClosureHeapModel", "size0", "I", false)
  | 38 => ("ClosureHeapModel", "program", "[I", true)
  | 39 => ("ClosureHeapModel", "works", "I", false)
  | 40 => ("ClosureHeapModel", "work", "[I", true)
  | 41 => ("ClosureHeapModel", "workA", "[I", true)
  | 42 => ("ClosureHeapModel", "workB", "[I", true)
  | 43 => ("ClosureHeapModel", "half", "I", true)
  | 44 => ("ClosureHeapModel", "heap", "[I", true)
  | 45 => ("ClosureHeapModel", "base", "I", false)
  | 46 => ("ClosureHeapModel", "used", "I", false)
  | 47 => ("ClosureHeapModel", "collections", "I", false)
  | 48 => ("ClosureHeapModel", "moved", "[I", true)
  | 49 => ("ClosureHeapModel", "accumulator", "I", false)
  | 50 => ("ClosureHeapModel", "environment", "I", false)
  | 51 => ("ClosureHeapModel", "depth", "I", false)
  | 52 => ("ClosureHeapModel", "stack", "[I", true)
  | 53 => ("ClosureHeapModel", "pc", "I", false)
  | 54 => ("ClosureHeapModel", "state", "I", false)
  | 55 => ("ClosureHeapModel", "why", "I", false)
  | _ => ("ClosureHeapModel", "ended", "Z", false)
def tyX7 : Nat → FieldType := fun k => match k with
  | 0 => .int
  | 1 => .int
  | 2 => .array .char
  | 3 => .int
  | 4 => .array .char
  | 5 => .int
  | 6 => .boolean
  | 7 => .int
  | 8 => .int
  | 9 => .array .int
  | 10 => .array .int
  | 11 => .array .int
  | 12 => .array .int
  | 13 => .array .int
  | 14 => .array .boolean
  | 15 => .int
  | 16 => .array .char
  | 17 => .int
  | 18 => .array .int
  | 19 => .array .int
  | 20 => .array .int
  | 21 => .array .int
  | 22 => .array .int
  | 23 => .array .char
  | 24 => .array .boolean
  | 25 => .array .int
  | 26 => .int
  | 27 => .array .int
  | 28 => .array .int
  | 29 => .int
  | 30 => .array .int
  | 31 => .int
  | 32 => .array .char
  | 33 => .int
  | 34 => .int
  | 35 => .int
  | 36 => .array .int
  | 37 => .int
  | 38 => .array .int
  | 39 => .int
  | 40 => .array .int
  | 41 => .array .int
  | 42 => .array .int
  | 43 => .int
  | 44 => .array .int
  | 45 => .int
  | 46 => .int
  | 47 => .int
  | 48 => .array .int
  | 49 => .int
  | 50 => .int
  | 51 => .int
  | 52 => .array .int
  | 53 => .int
  | 54 => .int
  | 55 => .int
  | _ => .boolean
abbrev wsX70 : List Cond := u_ws RX7 TX7 57
theorem nmX7 : ∀ a, a < 57 → ∀ b, b < 57 → a ≠ b → (TX7 a).2.1 ≠ (TX7 b).2.1 := by decide +kernel
theorem tyX7_ok : ∀ k, k < 57 → parseFieldDescriptor (TX7 k).2.2.1 = some (tyX7 k) := by decide +kernel
abbrev cX7_init : ByteArray := prog_9_method_1_code
def yX7_init : MethodName := ⟨RX7, "<init>", "(I)V"⟩
abbrev cX7_thrown : ByteArray := prog_9_method_2_code
def yX7_thrown : MethodName := ⟨RX7, "thrown", "()I"⟩
abbrev cX7_fail : ByteArray := prog_9_method_3_code
def yX7_fail : MethodName := ⟨RX7, "fail", "(I)I"⟩
abbrev cX7_write : ByteArray := prog_9_method_4_code
def yX7_write : MethodName := ⟨RX7, "write", "(C)Z"⟩
abbrev cX7_look : ByteArray := prog_9_method_5_code
def yX7_look : MethodName := ⟨RX7, "look", "()C"⟩
abbrev cX7_behind : ByteArray := prog_9_method_6_code
def yX7_behind : MethodName := ⟨RX7, "behind", "()C"⟩
abbrev cX7_isName : ByteArray := prog_9_method_7_code
def yX7_isName : MethodName := ⟨RX7, "isName", "(C)Z"⟩
abbrev cX7_isDigit : ByteArray := prog_9_method_8_code
def yX7_isDigit : MethodName := ⟨RX7, "isDigit", "(C)Z"⟩
abbrev cX7_isConstructor : ByteArray := prog_9_method_9_code
def yX7_isConstructor : MethodName := ⟨RX7, "isConstructor", "(C)Z"⟩
abbrev cX7_beginsAtom : ByteArray := prog_9_method_10_code
def yX7_beginsAtom : MethodName := ⟨RX7, "beginsAtom", "(C)Z"⟩
abbrev cX7_want : ByteArray := prog_9_method_11_code
def yX7_want : MethodName := ⟨RX7, "want", "(C)V"⟩
abbrev cX7_wantName : ByteArray := prog_9_method_12_code
def yX7_wantName : MethodName := ⟨RX7, "wantName", "()C"⟩
abbrev cX7_node : ByteArray := prog_9_method_13_code
def yX7_node : MethodName := ⟨RX7, "node", "(II)I"⟩
abbrev cX7_addChild : ByteArray := prog_9_method_14_code
def yX7_addChild : MethodName := ⟨RX7, "addChild", "(II)V"⟩
abbrev cX7_childAt : ByteArray := prog_9_method_15_code
def yX7_childAt : MethodName := ⟨RX7, "childAt", "(II)I"⟩
abbrev cX7_bind : ByteArray := prog_9_method_16_code
def yX7_bind : MethodName := ⟨RX7, "bind", "(C)V"⟩
abbrev cX7_begin : ByteArray := prog_9_method_17_code
def yX7_begin : MethodName := ⟨RX7, "begin", "(II)V"⟩
abbrev cX7_head : ByteArray := prog_9_method_18_code
def yX7_head : MethodName := ⟨RX7, "head", "(II)V"⟩
abbrev cX7_readHead : ByteArray := prog_9_method_19_code
def yX7_readHead : MethodName := ⟨RX7, "readHead", "()V"⟩
abbrev cX7_readFix : ByteArray := prog_9_method_20_code
def yX7_readFix : MethodName := ⟨RX7, "readFix", "()V"⟩
abbrev cX7_rank : ByteArray := prog_9_method_21_code
def yX7_rank : MethodName := ⟨RX7, "rank", "(C)I"⟩
abbrev cX7_settle : ByteArray := prog_9_method_22_code
def yX7_settle : MethodName := ⟨RX7, "settle", "(I)V"⟩
abbrev cX7_push : ByteArray := prog_9_method_23_code
def yX7_push : MethodName := ⟨RX7, "push", "(I)V"⟩
abbrev cX7_readNumeral : ByteArray := prog_9_method_24_code
def yX7_readNumeral : MethodName := ⟨RX7, "readNumeral", "()V"⟩
abbrev cX7_readName : ByteArray := prog_9_method_25_code
def yX7_readName : MethodName := ⟨RX7, "readName", "()V"⟩
abbrev cX7_readAtom : ByteArray := prog_9_method_26_code
def yX7_readAtom : MethodName := ⟨RX7, "readAtom", "()V"⟩
abbrev cX7_readBehind : ByteArray := prog_9_method_27_code
def yX7_readBehind : MethodName := ⟨RX7, "readBehind", "()V"⟩
abbrev cX7_join : ByteArray := prog_9_method_28_code
def yX7_join : MethodName := ⟨RX7, "join", "(CI)V"⟩
abbrev cX7_readCase : ByteArray := prog_9_method_29_code
def yX7_readCase : MethodName := ⟨RX7, "readCase", "()V"⟩
abbrev cX7_completed : ByteArray := prog_9_method_30_code
def yX7_completed : MethodName := ⟨RX7, "completed", "(I)V"⟩
abbrev cX7_fieldEnds : ByteArray := prog_9_method_31_code
def yX7_fieldEnds : MethodName := ⟨RX7, "fieldEnds", "(II)V"⟩
abbrev cX7_caseEnds : ByteArray := prog_9_method_32_code
def yX7_caseEnds : MethodName := ⟨RX7, "caseEnds", "()V"⟩
abbrev cX7_readText : ByteArray := prog_9_method_33_code
def yX7_readText : MethodName := ⟨RX7, "readText", "()V"⟩
abbrev cX7_emit : ByteArray := prog_9_method_34_code
def yX7_emit : MethodName := ⟨RX7, "emit", "(III)V"⟩
abbrev cX7_set : ByteArray := prog_9_method_35_code
def yX7_set : MethodName := ⟨RX7, "set", "(III)V"⟩
abbrev cX7_todo : ByteArray := prog_9_method_36_code
def yX7_todo : MethodName := ⟨RX7, "todo", "(III)V"⟩
abbrev cX7_todoNode : ByteArray := prog_9_method_37_code
def yX7_todoNode : MethodName := ⟨RX7, "todoNode", "(I)V"⟩
abbrev cX7_todoEmit : ByteArray := prog_9_method_38_code
def yX7_todoEmit : MethodName := ⟨RX7, "todoEmit", "(II)V"⟩
abbrev cX7_generate : ByteArray := prog_9_method_39_code
def yX7_generate : MethodName := ⟨RX7, "generate", "(I)V"⟩
abbrev cX7_generateBuilt : ByteArray := prog_9_method_40_code
def yX7_generateBuilt : MethodName := ⟨RX7, "generateBuilt", "(I)V"⟩
abbrev cX7_generateSwitch : ByteArray := prog_9_method_41_code
def yX7_generateSwitch : MethodName := ⟨RX7, "generateSwitch", "(I)V"⟩
abbrev cX7_doWork : ByteArray := prog_9_method_42_code
def yX7_doWork : MethodName := ⟨RX7, "doWork", "()V"⟩
abbrev cX7_endMatch : ByteArray := prog_9_method_43_code
def yX7_endMatch : MethodName := ⟨RX7, "endMatch", "(I)V"⟩
abbrev cX7_makeCode : ByteArray := prog_9_method_44_code
def yX7_makeCode : MethodName := ⟨RX7, "makeCode", "()V"⟩
abbrev cX7_compile : ByteArray := prog_9_method_45_code
def yX7_compile : MethodName := ⟨RX7, "compile", "()I"⟩
abbrev cX7_place : ByteArray := prog_9_method_46_code
def yX7_place : MethodName := ⟨RX7, "place", "()I"⟩
abbrev cX7_code : ByteArray := prog_9_method_47_code
def yX7_code : MethodName := ⟨RX7, "code", "(II)I"⟩
abbrev cX7_isInt : ByteArray := prog_9_method_48_code
def yX7_isInt : MethodName := ⟨RX7, "isInt", "(I)Z"⟩
abbrev cX7_isPointer : ByteArray := prog_9_method_49_code
def yX7_isPointer : MethodName := ⟨RX7, "isPointer", "(I)Z"⟩
abbrev cX7_isTag : ByteArray := prog_9_method_50_code
def yX7_isTag : MethodName := ⟨RX7, "isTag", "(I)Z"⟩
abbrev cX7_blockKind : ByteArray := prog_9_method_51_code
def yX7_blockKind : MethodName := ⟨RX7, "blockKind", "(I)I"⟩
abbrev cX7_blockSize : ByteArray := prog_9_method_52_code
def yX7_blockSize : MethodName := ⟨RX7, "blockSize", "(I)I"⟩
abbrev cX7_field : ByteArray := prog_9_method_53_code
def yX7_field : MethodName := ⟨RX7, "field", "(II)I"⟩
abbrev cX7_block : ByteArray := prog_9_method_54_code
def yX7_block : MethodName := ⟨RX7, "block", "(III)I"⟩
abbrev cX7_move : ByteArray := prog_9_method_55_code
def yX7_move : MethodName := ⟨RX7, "move", "(II)I"⟩
abbrev cX7_collect : ByteArray := prog_9_method_56_code
def yX7_collect : MethodName := ⟨RX7, "collect", "()V"⟩
abbrev cX7_hasRoom : ByteArray := prog_9_method_57_code
def yX7_hasRoom : MethodName := ⟨RX7, "hasRoom", "(I)Z"⟩
abbrev cX7_a : ByteArray := prog_9_method_58_code
def yX7_a : MethodName := ⟨RX7, "a", "()I"⟩
abbrev cX7_stop : ByteArray := prog_9_method_59_code
def yX7_stop : MethodName := ⟨RX7, "stop", "(I)I"⟩
abbrev cX7_isFunction : ByteArray := prog_9_method_60_code
def yX7_isFunction : MethodName := ⟨RX7, "isFunction", "(I)Z"⟩
abbrev cX7_isBuilt : ByteArray := prog_9_method_61_code
def yX7_isBuilt : MethodName := ⟨RX7, "isBuilt", "(I)Z"⟩
abbrev cX7_tagOf : ByteArray := prog_9_method_62_code
def yX7_tagOf : MethodName := ⟨RX7, "tagOf", "(I)I"⟩
abbrev cX7_calculate : ByteArray := prog_9_method_63_code
def yX7_calculate : MethodName := ⟨RX7, "calculate", "(I)V"⟩
abbrev cX7_findCase : ByteArray := prog_9_method_64_code
def yX7_findCase : MethodName := ⟨RX7, "findCase", "()I"⟩
abbrev cX7_wrong : ByteArray := prog_9_method_65_code
def yX7_wrong : MethodName := ⟨RX7, "wrong", "(I)I"⟩
abbrev cX7_roomFor : ByteArray := prog_9_method_66_code
def yX7_roomFor : MethodName := ⟨RX7, "roomFor", "(I)I"⟩
abbrev cX7_make : ByteArray := prog_9_method_67_code
def yX7_make : MethodName := ⟨RX7, "make", "()V"⟩
abbrev cX7_apply : ByteArray := prog_9_method_68_code
def yX7_apply : MethodName := ⟨RX7, "apply", "()V"⟩
abbrev cX7_simple : ByteArray := prog_9_method_69_code
def yX7_simple : MethodName := ⟨RX7, "simple", "(I)V"⟩
abbrev cX7_one : ByteArray := prog_9_method_70_code
def yX7_one : MethodName := ⟨RX7, "one", "()I"⟩
abbrev cX7_run : ByteArray := prog_9_method_71_code
def yX7_run : MethodName := ⟨RX7, "run", "(I)I"⟩
abbrev cX7_state : ByteArray := prog_9_method_72_code
def yX7_state : MethodName := ⟨RX7, "state", "()I"⟩
abbrev cX7_why : ByteArray := prog_9_method_73_code
def yX7_why : MethodName := ⟨RX7, "why", "()I"⟩
abbrev cX7_next : ByteArray := prog_9_method_74_code
def yX7_next : MethodName := ⟨RX7, "next", "()I"⟩
abbrev cX7_depth : ByteArray := prog_9_method_75_code
def yX7_depth : MethodName := ⟨RX7, "depth", "()I"⟩
abbrev cX7_used : ByteArray := prog_9_method_76_code
def yX7_used : MethodName := ⟨RX7, "used", "()I"⟩
abbrev cX7_reach : ByteArray := prog_9_method_77_code
def yX7_reach : MethodName := ⟨RX7, "reach", "(I)V"⟩
abbrev cX7_live : ByteArray := prog_9_method_78_code
def yX7_live : MethodName := ⟨RX7, "live", "()I"⟩
abbrev cX7_collections : ByteArray := prog_9_method_79_code
def yX7_collections : MethodName := ⟨RX7, "collections", "()I"⟩
abbrev cX7_follow : ByteArray := prog_9_method_80_code
def yX7_follow : MethodName := ⟨RX7, "follow", "(I)I"⟩
abbrev cX7_kindOf : ByteArray := prog_9_method_81_code
def yX7_kindOf : MethodName := ⟨RX7, "kindOf", "(I)I"⟩
abbrev cX7_ends : ByteArray := prog_9_method_82_code
def yX7_ends : MethodName := ⟨RX7, "ends", "(I)Z"⟩
abbrev cX7_kind : ByteArray := prog_9_method_83_code
def yX7_kind : MethodName := ⟨RX7, "kind", "(I)I"⟩
abbrev cX7_value : ByteArray := prog_9_method_84_code
def yX7_value : MethodName := ⟨RX7, "value", "(I)I"⟩
def RJ9 : String := "java/lang/Math"
def TJ9 : u_T := fun k => match k with
  | _ => ("", "", "", false)
def tyJ9 : Nat → FieldType := fun k => match k with
  | _ => .int
theorem nmJ9 : ∀ a, a < 0 → ∀ b, b < 0 → a ≠ b → (TJ9 a).2.1 ≠ (TJ9 b).2.1 := by decide +kernel
theorem tyJ9_ok : ∀ k, k < 0 → parseFieldDescriptor (TJ9 k).2.2.1 = some (tyJ9 k) := by decide +kernel
abbrev cJ9_max_7cf53 : ByteArray := prog_13_method_65_code
def yJ9_max_7cf53 : MethodName := ⟨RJ9, "max", "(II)I"⟩
abbrev cJ9_min_7cf53 : ByteArray := prog_13_method_69_code
def yJ9_min_7cf53 : MethodName := ⟨RJ9, "min", "(II)I"⟩
def RJ0 : String := "java/lang/String"
def TJ0 : u_T := fun k => match k with
  | _ => ("", "", "", false)
def tyJ0 : Nat → FieldType := fun k => match k with
  | _ => .int
theorem nmJ0 : ∀ a, a < 0 → ∀ b, b < 0 → a ≠ b → (TJ0 a).2.1 ≠ (TJ0 b).2.1 := by decide +kernel
theorem tyJ0_ok : ∀ k, k < 0 → parseFieldDescriptor (TJ0 k).2.2.1 = some (tyJ0 k) := by decide +kernel
def RJ10 : String := "java/lang/System"
def TJ10 : u_T := fun k => match k with
  | _ => ("", "", "", false)
def tyJ10 : Nat → FieldType := fun k => match k with
  | _ => .int
theorem nmJ10 : ∀ a, a < 0 → ∀ b, b < 0 → a ≠ b → (TJ10 a).2.1 ≠ (TJ10 b).2.1 := by decide +kernel
theorem tyJ10_ok : ∀ k, k < 0 → parseFieldDescriptor (TJ10 k).2.2.1 = some (tyJ10 k) := by decide +kernel
def RJ7 : String := "java/util/Arrays"
def TJ7 : u_T := fun k => match k with
  | _ => ("", "", "", false)
def tyJ7 : Nat → FieldType := fun k => match k with
  | _ => .int
theorem nmJ7 : ∀ a, a < 0 → ∀ b, b < 0 → a ≠ b → (TJ7 a).2.1 ≠ (TJ7 b).2.1 := by decide +kernel
theorem tyJ7_ok : ∀ k, k < 0 → parseFieldDescriptor (TJ7 k).2.2.1 = some (tyJ7 k) := by decide +kernel
abbrev cJ7_fill_53178 : ByteArray := prog_19_method_103_code
def yJ7_fill_53178 : MethodName := ⟨RJ7, "fill", "([II)V"⟩
def RL : String := "ClosureHeapLaw"
abbrev cL_cell : ByteArray := method_2_code
def yL_cell : MethodName := ⟨RL, "cell", "([II)I"⟩
abbrev cL_compile : ByteArray := method_3_code
def yL_compile : MethodName := ⟨RL, "compile", "(LClosureHeap;[J)I"⟩
abbrev cL_run : ByteArray := method_4_code
def yL_run : MethodName := ⟨RL, "run", "(LClosureHeap;I[J)I"⟩
abbrev cL_law : ByteArray := code
def yL_law : MethodName := ⟨RL, "law", "([I)Z"⟩
abbrev vwCl : List vw_C := [(RX0, TX0, 2), (RX1, TX1, 6), (RX2, TX2, 9), (RX3, TX3, 6), (RX4, TX4, 2), (RX5, TX5, 5), (RX6, TX6, 5), (RX7, TX7, 57)]
end
section
theorem dX0_init_0 : decode cX0_init 0 = .ok (.aload_n 0, 1) := by decide +kernel
theorem dX0_init_1 : decode cX0_init 1 = .ok (.invokespecial 3, 3) := by decide +kernel
theorem dX0_init_4 : decode cX0_init 4 = .ok (.aload_n 0, 1) := by decide +kernel
theorem dX0_init_5 : decode cX0_init 5 = .ok (.sipush 360, 3) := by decide +kernel
theorem dX0_init_8 : decode cX0_init 8 = .ok (.newarray .int, 2) := by decide +kernel
theorem dX0_init_10 : decode cX0_init 10 = .ok (.putfield 11, 3) := by decide +kernel
theorem dX0_init_13 : decode cX0_init 13 = .ok (.aload_n 0, 1) := by decide +kernel
theorem dX0_init_14 : decode cX0_init 14 = .ok (.iconst 0, 1) := by decide +kernel
theorem dX0_init_15 : decode cX0_init 15 = .ok (.putfield 15, 3) := by decide +kernel
theorem dX0_init_18 : decode cX0_init 18 = .ok (.return_, 1) := by decide +kernel
theorem dX0_replaceBy_0 : decode cX0_replaceBy 0 = .ok (.aload_n 1, 1) := by decide +kernel
theorem dX0_replaceBy_1 : decode cX0_replaceBy 1 = .ok (.invokevirtual 19, 3) := by decide +kernel
theorem dX0_replaceBy_4 : decode cX0_replaceBy 4 = .ok (.istore_n 2, 1) := by decide +kernel
theorem dX0_replaceBy_5 : decode cX0_replaceBy 5 = .ok (.iload_n 2, 1) := by decide +kernel
theorem dX0_replaceBy_6 : decode cX0_replaceBy 6 = .ok (.bipush 120, 2) := by decide +kernel
theorem dX0_replaceBy_8 : decode cX0_replaceBy 8 = .ok (.if_icmp .le 5, 3) := by decide +kernel
theorem dX0_replaceBy_11 : decode cX0_replaceBy 11 = .ok (.iconst 0, 1) := by decide +kernel
theorem dX0_replaceBy_12 : decode cX0_replaceBy 12 = .ok (.ireturn, 1) := by decide +kernel
theorem dX0_replaceBy_13 : decode cX0_replaceBy 13 = .ok (.aload_n 0, 1) := by decide +kernel
theorem dX0_replaceBy_14 : decode cX0_replaceBy 14 = .ok (.iload_n 2, 1) := by decide +kernel
theorem dX0_replaceBy_15 : decode cX0_replaceBy 15 = .ok (.putfield 15, 3) := by decide +kernel
theorem dX0_replaceBy_18 : decode cX0_replaceBy 18 = .ok (.aload_n 1, 1) := by decide +kernel
theorem dX0_replaceBy_19 : decode cX0_replaceBy 19 = .ok (.getfield 25, 3) := by decide +kernel
theorem dX0_replaceBy_22 : decode cX0_replaceBy 22 = .ok (.astore_n 3, 1) := by decide +kernel
theorem dX0_replaceBy_23 : decode cX0_replaceBy 23 = .ok (.aload_n 3, 1) := by decide +kernel
theorem dX0_replaceBy_24 : decode cX0_replaceBy 24 = .ok (.ifnull 25, 3) := by decide +kernel
theorem dX0_replaceBy_27 : decode cX0_replaceBy 27 = .ok (.aload_n 3, 1) := by decide +kernel
theorem dX0_replaceBy_28 : decode cX0_replaceBy 28 = .ok (.getfield 29, 3) := by decide +kernel
theorem dX0_replaceBy_31 : decode cX0_replaceBy 31 = .ok (.bipush 21, 2) := by decide +kernel
theorem dX0_replaceBy_33 : decode cX0_replaceBy 33 = .ok (.if_icmp .eq 8, 3) := by decide +kernel
theorem dX0_replaceBy_36 : decode cX0_replaceBy 36 = .ok (.aload_n 0, 1) := by decide +kernel
theorem dX0_replaceBy_37 : decode cX0_replaceBy 37 = .ok (.aload_n 3, 1) := by decide +kernel
theorem dX0_replaceBy_38 : decode cX0_replaceBy 38 = .ok (.invokevirtual 34, 3) := by decide +kernel
theorem dX0_replaceBy_41 : decode cX0_replaceBy 41 = .ok (.aload_n 3, 1) := by decide +kernel
theorem dX0_replaceBy_42 : decode cX0_replaceBy 42 = .ok (.getfield 38, 3) := by decide +kernel
theorem dX0_replaceBy_45 : decode cX0_replaceBy 45 = .ok (.astore_n 3, 1) := by decide +kernel
theorem dX0_replaceBy_46 : decode cX0_replaceBy 46 = .ok (.goto (-23), 3) := by decide +kernel
theorem dX0_replaceBy_49 : decode cX0_replaceBy 49 = .ok (.iconst 1, 1) := by decide +kernel
theorem dX0_replaceBy_50 : decode cX0_replaceBy 50 = .ok (.ireturn, 1) := by decide +kernel
theorem dX0_store_0 : decode cX0_store 0 = .ok (.iconst 3, 1) := by decide +kernel
theorem dX0_store_1 : decode cX0_store 1 = .ok (.aload_n 1, 1) := by decide +kernel
theorem dX0_store_2 : decode cX0_store 2 = .ok (.getfield 41, 3) := by decide +kernel
theorem dX0_store_5 : decode cX0_store 5 = .ok (.imul, 1) := by decide +kernel
theorem dX0_store_6 : decode cX0_store 6 = .ok (.istore_n 2, 1) := by decide +kernel
theorem dX0_store_7 : decode cX0_store 7 = .ok (.iload_n 2, 1) := by decide +kernel
theorem dX0_store_8 : decode cX0_store 8 = .ok (.ifCond .lt 14, 3) := by decide +kernel
theorem dX0_store_11 : decode cX0_store 11 = .ok (.iload_n 2, 1) := by decide +kernel
theorem dX0_store_12 : decode cX0_store 12 = .ok (.iconst 2, 1) := by decide +kernel
theorem dX0_store_13 : decode cX0_store 13 = .ok (.iadd, 1) := by decide +kernel
theorem dX0_store_14 : decode cX0_store 14 = .ok (.aload_n 0, 1) := by decide +kernel
theorem dX0_store_15 : decode cX0_store 15 = .ok (.getfield 11, 3) := by decide +kernel
theorem dX0_store_18 : decode cX0_store 18 = .ok (.arraylength, 1) := by decide +kernel
theorem dX0_store_19 : decode cX0_store 19 = .ok (.if_icmp .lt 4, 3) := by decide +kernel
theorem dX0_store_22 : decode cX0_store 22 = .ok (.return_, 1) := by decide +kernel
theorem dX0_store_23 : decode cX0_store 23 = .ok (.aload_n 1, 1) := by decide +kernel
theorem dX0_store_24 : decode cX0_store 24 = .ok (.getfield 44, 3) := by decide +kernel
theorem dX0_store_27 : decode cX0_store 27 = .ok (.ifnonnull 7, 3) := by decide +kernel
theorem dX0_store_30 : decode cX0_store 30 = .ok (.iconst 0, 1) := by decide +kernel
theorem dX0_store_31 : decode cX0_store 31 = .ok (.goto 10, 3) := by decide +kernel
theorem dX0_store_34 : decode cX0_store 34 = .ok (.aload_n 1, 1) := by decide +kernel
theorem dX0_store_35 : decode cX0_store 35 = .ok (.getfield 44, 3) := by decide +kernel
theorem dX0_store_38 : decode cX0_store 38 = .ok (.getfield 41, 3) := by decide +kernel
theorem dX0_store_41 : decode cX0_store 41 = .ok (.istore_n 3, 1) := by decide +kernel
theorem dX0_store_42 : decode cX0_store 42 = .ok (.aload_n 1, 1) := by decide +kernel
theorem dX0_store_43 : decode cX0_store 43 = .ok (.getfield 29, 3) := by decide +kernel
theorem dX0_store_46 : decode cX0_store 46 = .ok (.bipush 19, 2) := by decide +kernel
theorem dX0_store_48 : decode cX0_store 48 = .ok (.if_icmp .ne 7, 3) := by decide +kernel
theorem dX0_store_51 : decode cX0_store 51 = .ok (.iconst 1, 1) := by decide +kernel
theorem dX0_store_52 : decode cX0_store 52 = .ok (.goto 4, 3) := by decide +kernel
theorem dX0_store_55 : decode cX0_store 55 = .ok (.iconst 0, 1) := by decide +kernel
theorem dX0_store_56 : decode cX0_store 56 = .ok (.istore 4, 2) := by decide +kernel
theorem dX0_store_58 : decode cX0_store 58 = .ok (.aload_n 0, 1) := by decide +kernel
theorem dX0_store_59 : decode cX0_store 59 = .ok (.getfield 11, 3) := by decide +kernel
theorem dX0_store_62 : decode cX0_store 62 = .ok (.iload_n 2, 1) := by decide +kernel
theorem dX0_store_63 : decode cX0_store 63 = .ok (.aload_n 1, 1) := by decide +kernel
theorem dX0_store_64 : decode cX0_store 64 = .ok (.getfield 29, 3) := by decide +kernel
theorem dX0_store_67 : decode cX0_store 67 = .ok (.iastore, 1) := by decide +kernel
theorem dX0_store_68 : decode cX0_store 68 = .ok (.aload_n 0, 1) := by decide +kernel
theorem dX0_store_69 : decode cX0_store 69 = .ok (.getfield 11, 3) := by decide +kernel
theorem dX0_store_72 : decode cX0_store 72 = .ok (.iload_n 2, 1) := by decide +kernel
theorem dX0_store_73 : decode cX0_store 73 = .ok (.iconst 1, 1) := by decide +kernel
theorem dX0_store_74 : decode cX0_store 74 = .ok (.iadd, 1) := by decide +kernel
theorem dX0_store_75 : decode cX0_store 75 = .ok (.aload_n 1, 1) := by decide +kernel
theorem dX0_store_76 : decode cX0_store 76 = .ok (.getfield 44, 3) := by decide +kernel
theorem dX0_store_79 : decode cX0_store 79 = .ok (.ifnull 8, 3) := by decide +kernel
theorem dX0_store_82 : decode cX0_store 82 = .ok (.iload 4, 2) := by decide +kernel
theorem dX0_store_84 : decode cX0_store 84 = .ok (.ifCond .eq 10, 3) := by decide +kernel
theorem dX0_store_87 : decode cX0_store 87 = .ok (.aload_n 1, 1) := by decide +kernel
theorem dX0_store_88 : decode cX0_store 88 = .ok (.getfield 47, 3) := by decide +kernel
theorem dX0_store_91 : decode cX0_store 91 = .ok (.goto 4, 3) := by decide +kernel
theorem dX0_store_94 : decode cX0_store 94 = .ok (.iload_n 3, 1) := by decide +kernel
theorem dX0_store_95 : decode cX0_store 95 = .ok (.iastore, 1) := by decide +kernel
theorem dX0_store_96 : decode cX0_store 96 = .ok (.aload_n 0, 1) := by decide +kernel
theorem dX0_store_97 : decode cX0_store 97 = .ok (.getfield 11, 3) := by decide +kernel
theorem dX0_store_100 : decode cX0_store 100 = .ok (.iload_n 2, 1) := by decide +kernel
theorem dX0_store_101 : decode cX0_store 101 = .ok (.iconst 2, 1) := by decide +kernel
theorem dX0_store_102 : decode cX0_store 102 = .ok (.iadd, 1) := by decide +kernel
theorem dX0_store_103 : decode cX0_store 103 = .ok (.iload 4, 2) := by decide +kernel
theorem dX0_store_105 : decode cX0_store 105 = .ok (.ifCond .eq 7, 3) := by decide +kernel
theorem dX0_store_108 : decode cX0_store 108 = .ok (.iload_n 3, 1) := by decide +kernel
theorem dX0_store_109 : decode cX0_store 109 = .ok (.goto 4, 3) := by decide +kernel
theorem dX0_store_112 : decode cX0_store 112 = .ok (.iconst 0, 1) := by decide +kernel
theorem dX0_store_113 : decode cX0_store 113 = .ok (.iastore, 1) := by decide +kernel
theorem dX0_store_114 : decode cX0_store 114 = .ok (.return_, 1) := by decide +kernel
theorem dX0_part_0 : decode cX0_part 0 = .ok (.iload_n 1, 1) := by decide +kernel
theorem dX0_part_1 : decode cX0_part 1 = .ok (.ifCond .lt 20, 3) := by decide +kernel
theorem dX0_part_4 : decode cX0_part 4 = .ok (.iload_n 1, 1) := by decide +kernel
theorem dX0_part_5 : decode cX0_part 5 = .ok (.aload_n 0, 1) := by decide +kernel
theorem dX0_part_6 : decode cX0_part 6 = .ok (.getfield 15, 3) := by decide +kernel
theorem dX0_part_9 : decode cX0_part 9 = .ok (.if_icmp .ge 12, 3) := by decide +kernel
theorem dX0_part_12 : decode cX0_part 12 = .ok (.iload_n 2, 1) := by decide +kernel
theorem dX0_part_13 : decode cX0_part 13 = .ok (.ifCond .lt 8, 3) := by decide +kernel
theorem dX0_part_16 : decode cX0_part 16 = .ok (.iload_n 2, 1) := by decide +kernel
theorem dX0_part_17 : decode cX0_part 17 = .ok (.iconst 3, 1) := by decide +kernel
theorem dX0_part_18 : decode cX0_part 18 = .ok (.if_icmp .lt 5, 3) := by decide +kernel
theorem dX0_part_21 : decode cX0_part 21 = .ok (.iconst (-1), 1) := by decide +kernel
theorem dX0_part_22 : decode cX0_part 22 = .ok (.ireturn, 1) := by decide +kernel
theorem dX0_part_23 : decode cX0_part 23 = .ok (.aload_n 0, 1) := by decide +kernel
theorem dX0_part_24 : decode cX0_part 24 = .ok (.getfield 11, 3) := by decide +kernel
theorem dX0_part_27 : decode cX0_part 27 = .ok (.iconst 3, 1) := by decide +kernel
theorem dX0_part_28 : decode cX0_part 28 = .ok (.iload_n 1, 1) := by decide +kernel
theorem dX0_part_29 : decode cX0_part 29 = .ok (.imul, 1) := by decide +kernel
theorem dX0_part_30 : decode cX0_part 30 = .ok (.iload_n 2, 1) := by decide +kernel
theorem dX0_part_31 : decode cX0_part 31 = .ok (.iadd, 1) := by decide +kernel
theorem dX0_part_32 : decode cX0_part 32 = .ok (.iaload, 1) := by decide +kernel
theorem dX0_part_33 : decode cX0_part 33 = .ok (.ireturn, 1) := by decide +kernel
theorem dX1_init_0 : decode cX1_init 0 = .ok (.aload_n 0, 1) := by decide +kernel
theorem dX1_init_1 : decode cX1_init 1 = .ok (.invokespecial 3, 3) := by decide +kernel
theorem dX1_init_4 : decode cX1_init 4 = .ok (.aload_n 0, 1) := by decide +kernel
theorem dX1_init_5 : decode cX1_init 5 = .ok (.iconst 0, 1) := by decide +kernel
theorem dX1_init_6 : decode cX1_init 6 = .ok (.putfield 9, 3) := by decide +kernel
theorem dX1_init_9 : decode cX1_init 9 = .ok (.aload_n 0, 1) := by decide +kernel
theorem dX1_init_10 : decode cX1_init 10 = .ok (.iconst 0, 1) := by decide +kernel
theorem dX1_init_11 : decode cX1_init 11 = .ok (.putfield 15, 3) := by decide +kernel
theorem dX1_init_14 : decode cX1_init 14 = .ok (.aload_n 0, 1) := by decide +kernel
theorem dX1_init_15 : decode cX1_init 15 = .ok (.iconst 0, 1) := by decide +kernel
theorem dX1_init_16 : decode cX1_init 16 = .ok (.putfield 18, 3) := by decide +kernel
theorem dX1_init_19 : decode cX1_init 19 = .ok (.aload_n 0, 1) := by decide +kernel
theorem dX1_init_20 : decode cX1_init 20 = .ok (.iload_n 1, 1) := by decide +kernel
theorem dX1_init_21 : decode cX1_init 21 = .ok (.newarray .int, 2) := by decide +kernel
theorem dX1_init_23 : decode cX1_init 23 = .ok (.putfield 21, 3) := by decide +kernel
theorem dX1_init_26 : decode cX1_init 26 = .ok (.aload_n 0, 1) := by decide +kernel
theorem dX1_init_27 : decode cX1_init 27 = .ok (.iload_n 1, 1) := by decide +kernel
theorem dX1_init_28 : decode cX1_init 28 = .ok (.newarray .int, 2) := by decide +kernel
theorem dX1_init_30 : decode cX1_init 30 = .ok (.putfield 25, 3) := by decide +kernel
theorem dX1_init_33 : decode cX1_init 33 = .ok (.aload_n 0, 1) := by decide +kernel
theorem dX1_init_34 : decode cX1_init 34 = .ok (.iload_n 1, 1) := by decide +kernel
theorem dX1_init_35 : decode cX1_init 35 = .ok (.newarray .int, 2) := by decide +kernel
theorem dX1_init_37 : decode cX1_init 37 = .ok (.putfield 28, 3) := by decide +kernel
theorem dX1_init_40 : decode cX1_init 40 = .ok (.return_, 1) := by decide +kernel
theorem dX1_clear_0 : decode cX1_clear 0 = .ok (.aload_n 0, 1) := by decide +kernel
theorem dX1_clear_1 : decode cX1_clear 1 = .ok (.iconst 0, 1) := by decide +kernel
theorem dX1_clear_2 : decode cX1_clear 2 = .ok (.putfield 9, 3) := by decide +kernel
theorem dX1_clear_5 : decode cX1_clear 5 = .ok (.aload_n 0, 1) := by decide +kernel
theorem dX1_clear_6 : decode cX1_clear 6 = .ok (.iconst 0, 1) := by decide +kernel
theorem dX1_clear_7 : decode cX1_clear 7 = .ok (.putfield 18, 3) := by decide +kernel
theorem dX1_clear_10 : decode cX1_clear 10 = .ok (.return_, 1) := by decide +kernel
theorem dX1_hasRoomFor_0 : decode cX1_hasRoomFor 0 = .ok (.iload_n 1, 1) := by decide +kernel
theorem dX1_hasRoomFor_1 : decode cX1_hasRoomFor 1 = .ok (.aload_n 0, 1) := by decide +kernel
theorem dX1_hasRoomFor_2 : decode cX1_hasRoomFor 2 = .ok (.getfield 21, 3) := by decide +kernel
theorem dX1_hasRoomFor_5 : decode cX1_hasRoomFor 5 = .ok (.arraylength, 1) := by decide +kernel
theorem dX1_hasRoomFor_6 : decode cX1_hasRoomFor 6 = .ok (.aload_n 0, 1) := by decide +kernel
theorem dX1_hasRoomFor_7 : decode cX1_hasRoomFor 7 = .ok (.getfield 9, 3) := by decide +kernel
theorem dX1_hasRoomFor_10 : decode cX1_hasRoomFor 10 = .ok (.isub, 1) := by decide +kernel
theorem dX1_hasRoomFor_11 : decode cX1_hasRoomFor 11 = .ok (.if_icmp .gt 7, 3) := by decide +kernel
theorem dX1_hasRoomFor_14 : decode cX1_hasRoomFor 14 = .ok (.iconst 1, 1) := by decide +kernel
theorem dX1_hasRoomFor_15 : decode cX1_hasRoomFor 15 = .ok (.goto 4, 3) := by decide +kernel
theorem dX1_hasRoomFor_18 : decode cX1_hasRoomFor 18 = .ok (.iconst 0, 1) := by decide +kernel
theorem dX1_hasRoomFor_19 : decode cX1_hasRoomFor 19 = .ok (.ireturn, 1) := by decide +kernel
theorem dX1_beginBlock_0 : decode cX1_beginBlock 0 = .ok (.iconst 4, 1) := by decide +kernel
theorem dX1_beginBlock_1 : decode cX1_beginBlock 1 = .ok (.aload_n 0, 1) := by decide +kernel
theorem dX1_beginBlock_2 : decode cX1_beginBlock 2 = .ok (.getfield 9, 3) := by decide +kernel
theorem dX1_beginBlock_5 : decode cX1_beginBlock 5 = .ok (.imul, 1) := by decide +kernel
theorem dX1_beginBlock_6 : decode cX1_beginBlock 6 = .ok (.istore_n 3, 1) := by decide +kernel
theorem dX1_beginBlock_7 : decode cX1_beginBlock 7 = .ok (.aload_n 0, 1) := by decide +kernel
theorem dX1_beginBlock_8 : decode cX1_beginBlock 8 = .ok (.bipush 16, 2) := by decide +kernel
theorem dX1_beginBlock_10 : decode cX1_beginBlock 10 = .ok (.iload_n 2, 1) := by decide +kernel
theorem dX1_beginBlock_11 : decode cX1_beginBlock 11 = .ok (.imul, 1) := by decide +kernel
theorem dX1_beginBlock_12 : decode cX1_beginBlock 12 = .ok (.iload_n 1, 1) := by decide +kernel
theorem dX1_beginBlock_13 : decode cX1_beginBlock 13 = .ok (.iadd, 1) := by decide +kernel
theorem dX1_beginBlock_14 : decode cX1_beginBlock 14 = .ok (.invokevirtual 31, 3) := by decide +kernel
theorem dX1_beginBlock_17 : decode cX1_beginBlock 17 = .ok (.iload_n 3, 1) := by decide +kernel
theorem dX1_beginBlock_18 : decode cX1_beginBlock 18 = .ok (.ireturn, 1) := by decide +kernel
theorem dX1_put_0 : decode cX1_put 0 = .ok (.aload_n 0, 1) := by decide +kernel
theorem dX1_put_1 : decode cX1_put 1 = .ok (.getfield 9, 3) := by decide +kernel
theorem dX1_put_4 : decode cX1_put 4 = .ok (.aload_n 0, 1) := by decide +kernel
theorem dX1_put_5 : decode cX1_put 5 = .ok (.getfield 21, 3) := by decide +kernel
theorem dX1_put_8 : decode cX1_put 8 = .ok (.arraylength, 1) := by decide +kernel
theorem dX1_put_9 : decode cX1_put 9 = .ok (.if_icmp .ge 23, 3) := by decide +kernel
theorem dX1_put_12 : decode cX1_put 12 = .ok (.aload_n 0, 1) := by decide +kernel
theorem dX1_put_13 : decode cX1_put 13 = .ok (.getfield 21, 3) := by decide +kernel
theorem dX1_put_16 : decode cX1_put 16 = .ok (.aload_n 0, 1) := by decide +kernel
theorem dX1_put_17 : decode cX1_put 17 = .ok (.getfield 9, 3) := by decide +kernel
theorem dX1_put_20 : decode cX1_put 20 = .ok (.iload_n 1, 1) := by decide +kernel
theorem dX1_put_21 : decode cX1_put 21 = .ok (.iastore, 1) := by decide +kernel
theorem dX1_put_22 : decode cX1_put 22 = .ok (.aload_n 0, 1) := by decide +kernel
theorem dX1_put_23 : decode cX1_put 23 = .ok (.dup, 1) := by decide +kernel
theorem dX1_put_24 : decode cX1_put 24 = .ok (.getfield 9, 3) := by decide +kernel
theorem dX1_put_27 : decode cX1_put 27 = .ok (.iconst 1, 1) := by decide +kernel
theorem dX1_put_28 : decode cX1_put 28 = .ok (.iadd, 1) := by decide +kernel
theorem dX1_put_29 : decode cX1_put 29 = .ok (.putfield 9, 3) := by decide +kernel
theorem dX1_put_32 : decode cX1_put 32 = .ok (.return_, 1) := by decide +kernel
theorem dX1_putPair_0 : decode cX1_putPair 0 = .ok (.aload_n 0, 1) := by decide +kernel
theorem dX1_putPair_1 : decode cX1_putPair 1 = .ok (.iload_n 1, 1) := by decide +kernel
theorem dX1_putPair_2 : decode cX1_putPair 2 = .ok (.iconst 2, 1) := by decide +kernel
theorem dX1_putPair_3 : decode cX1_putPair 3 = .ok (.invokevirtual 35, 3) := by decide +kernel
theorem dX1_putPair_6 : decode cX1_putPair 6 = .ok (.istore 4, 2) := by decide +kernel
theorem dX1_putPair_8 : decode cX1_putPair 8 = .ok (.aload_n 0, 1) := by decide +kernel
theorem dX1_putPair_9 : decode cX1_putPair 9 = .ok (.iload_n 2, 1) := by decide +kernel
theorem dX1_putPair_10 : decode cX1_putPair 10 = .ok (.invokevirtual 31, 3) := by decide +kernel
theorem dX1_putPair_13 : decode cX1_putPair 13 = .ok (.aload_n 0, 1) := by decide +kernel
theorem dX1_putPair_14 : decode cX1_putPair 14 = .ok (.iload_n 3, 1) := by decide +kernel
theorem dX1_putPair_15 : decode cX1_putPair 15 = .ok (.invokevirtual 31, 3) := by decide +kernel
theorem dX1_putPair_18 : decode cX1_putPair 18 = .ok (.iload 4, 2) := by decide +kernel
theorem dX1_putPair_20 : decode cX1_putPair 20 = .ok (.ireturn, 1) := by decide +kernel
theorem dX1_blockKind_0 : decode cX1_blockKind 0 = .ok (.aload_n 0, 1) := by decide +kernel
theorem dX1_blockKind_1 : decode cX1_blockKind 1 = .ok (.iload_n 1, 1) := by decide +kernel
theorem dX1_blockKind_2 : decode cX1_blockKind 2 = .ok (.invokevirtual 39, 3) := by decide +kernel
theorem dX1_blockKind_5 : decode cX1_blockKind 5 = .ok (.ifCond .eq 17, 3) := by decide +kernel
theorem dX1_blockKind_8 : decode cX1_blockKind 8 = .ok (.aload_n 0, 1) := by decide +kernel
theorem dX1_blockKind_9 : decode cX1_blockKind 9 = .ok (.getfield 21, 3) := by decide +kernel
theorem dX1_blockKind_12 : decode cX1_blockKind 12 = .ok (.iload_n 1, 1) := by decide +kernel
theorem dX1_blockKind_13 : decode cX1_blockKind 13 = .ok (.iconst 2, 1) := by decide +kernel
theorem dX1_blockKind_14 : decode cX1_blockKind 14 = .ok (.ishr, 1) := by decide +kernel
theorem dX1_blockKind_15 : decode cX1_blockKind 15 = .ok (.iaload, 1) := by decide +kernel
theorem dX1_blockKind_16 : decode cX1_blockKind 16 = .ok (.bipush 15, 2) := by decide +kernel
theorem dX1_blockKind_18 : decode cX1_blockKind 18 = .ok (.iand, 1) := by decide +kernel
theorem dX1_blockKind_19 : decode cX1_blockKind 19 = .ok (.goto 4, 3) := by decide +kernel
theorem dX1_blockKind_22 : decode cX1_blockKind 22 = .ok (.iconst (-1), 1) := by decide +kernel
theorem dX1_blockKind_23 : decode cX1_blockKind 23 = .ok (.ireturn, 1) := by decide +kernel
theorem dX1_blockWords_0 : decode cX1_blockWords 0 = .ok (.aload_n 0, 1) := by decide +kernel
theorem dX1_blockWords_1 : decode cX1_blockWords 1 = .ok (.iload_n 1, 1) := by decide +kernel
theorem dX1_blockWords_2 : decode cX1_blockWords 2 = .ok (.invokevirtual 39, 3) := by decide +kernel
theorem dX1_blockWords_5 : decode cX1_blockWords 5 = .ok (.ifCond .eq 16, 3) := by decide +kernel
theorem dX1_blockWords_8 : decode cX1_blockWords 8 = .ok (.aload_n 0, 1) := by decide +kernel
theorem dX1_blockWords_9 : decode cX1_blockWords 9 = .ok (.getfield 21, 3) := by decide +kernel
theorem dX1_blockWords_12 : decode cX1_blockWords 12 = .ok (.iload_n 1, 1) := by decide +kernel
theorem dX1_blockWords_13 : decode cX1_blockWords 13 = .ok (.iconst 2, 1) := by decide +kernel
theorem dX1_blockWords_14 : decode cX1_blockWords 14 = .ok (.ishr, 1) := by decide +kernel
theorem dX1_blockWords_15 : decode cX1_blockWords 15 = .ok (.iaload, 1) := by decide +kernel
theorem dX1_blockWords_16 : decode cX1_blockWords 16 = .ok (.iconst 4, 1) := by decide +kernel
theorem dX1_blockWords_17 : decode cX1_blockWords 17 = .ok (.ishr, 1) := by decide +kernel
theorem dX1_blockWords_18 : decode cX1_blockWords 18 = .ok (.goto 4, 3) := by decide +kernel
theorem dX1_blockWords_21 : decode cX1_blockWords 21 = .ok (.iconst 0, 1) := by decide +kernel
theorem dX1_blockWords_22 : decode cX1_blockWords 22 = .ok (.ireturn, 1) := by decide +kernel
theorem dX1_wordOf_0 : decode cX1_wordOf 0 = .ok (.aload_n 0, 1) := by decide +kernel
theorem dX1_wordOf_1 : decode cX1_wordOf 1 = .ok (.iload_n 1, 1) := by decide +kernel
theorem dX1_wordOf_2 : decode cX1_wordOf 2 = .ok (.invokevirtual 39, 3) := by decide +kernel
theorem dX1_wordOf_5 : decode cX1_wordOf 5 = .ok (.ifCond .eq 17, 3) := by decide +kernel
theorem dX1_wordOf_8 : decode cX1_wordOf 8 = .ok (.iload_n 2, 1) := by decide +kernel
theorem dX1_wordOf_9 : decode cX1_wordOf 9 = .ok (.iconst 1, 1) := by decide +kernel
theorem dX1_wordOf_10 : decode cX1_wordOf 10 = .ok (.if_icmp .lt 12, 3) := by decide +kernel
theorem dX1_wordOf_13 : decode cX1_wordOf 13 = .ok (.iload_n 2, 1) := by decide +kernel
theorem dX1_wordOf_14 : decode cX1_wordOf 14 = .ok (.aload_n 0, 1) := by decide +kernel
theorem dX1_wordOf_15 : decode cX1_wordOf 15 = .ok (.iload_n 1, 1) := by decide +kernel
theorem dX1_wordOf_16 : decode cX1_wordOf 16 = .ok (.invokevirtual 43, 3) := by decide +kernel
theorem dX1_wordOf_19 : decode cX1_wordOf 19 = .ok (.if_icmp .le 6, 3) := by decide +kernel
theorem dX1_wordOf_22 : decode cX1_wordOf 22 = .ok (.bipush (-4), 2) := by decide +kernel
theorem dX1_wordOf_24 : decode cX1_wordOf 24 = .ok (.ireturn, 1) := by decide +kernel
theorem dX1_wordOf_25 : decode cX1_wordOf 25 = .ok (.iload_n 1, 1) := by decide +kernel
theorem dX1_wordOf_26 : decode cX1_wordOf 26 = .ok (.iconst 2, 1) := by decide +kernel
theorem dX1_wordOf_27 : decode cX1_wordOf 27 = .ok (.ishr, 1) := by decide +kernel
theorem dX1_wordOf_28 : decode cX1_wordOf 28 = .ok (.iload_n 2, 1) := by decide +kernel
theorem dX1_wordOf_29 : decode cX1_wordOf 29 = .ok (.iadd, 1) := by decide +kernel
theorem dX1_wordOf_30 : decode cX1_wordOf 30 = .ok (.istore_n 3, 1) := by decide +kernel
theorem dX1_wordOf_31 : decode cX1_wordOf 31 = .ok (.iload_n 3, 1) := by decide +kernel
theorem dX1_wordOf_32 : decode cX1_wordOf 32 = .ok (.aload_n 0, 1) := by decide +kernel
theorem dX1_wordOf_33 : decode cX1_wordOf 33 = .ok (.getfield 9, 3) := by decide +kernel
theorem dX1_wordOf_36 : decode cX1_wordOf 36 = .ok (.if_icmp .ge 12, 3) := by decide +kernel
theorem dX1_wordOf_39 : decode cX1_wordOf 39 = .ok (.aload_n 0, 1) := by decide +kernel
theorem dX1_wordOf_40 : decode cX1_wordOf 40 = .ok (.getfield 21, 3) := by decide +kernel
theorem dX1_wordOf_43 : decode cX1_wordOf 43 = .ok (.iload_n 3, 1) := by decide +kernel
theorem dX1_wordOf_44 : decode cX1_wordOf 44 = .ok (.iaload, 1) := by decide +kernel
theorem dX1_wordOf_45 : decode cX1_wordOf 45 = .ok (.goto 5, 3) := by decide +kernel
theorem dX1_wordOf_48 : decode cX1_wordOf 48 = .ok (.bipush (-4), 2) := by decide +kernel
theorem dX1_wordOf_50 : decode cX1_wordOf 50 = .ok (.ireturn, 1) := by decide +kernel
theorem dX1_isPointer_0 : decode cX1_isPointer 0 = .ok (.iload_n 1, 1) := by decide +kernel
theorem dX1_isPointer_1 : decode cX1_isPointer 1 = .ok (.iconst 3, 1) := by decide +kernel
theorem dX1_isPointer_2 : decode cX1_isPointer 2 = .ok (.iand, 1) := by decide +kernel
theorem dX1_isPointer_3 : decode cX1_isPointer 3 = .ok (.ifCond .ne 21, 3) := by decide +kernel
theorem dX1_isPointer_6 : decode cX1_isPointer 6 = .ok (.iload_n 1, 1) := by decide +kernel
theorem dX1_isPointer_7 : decode cX1_isPointer 7 = .ok (.ifCond .lt 17, 3) := by decide +kernel
theorem dX1_isPointer_10 : decode cX1_isPointer 10 = .ok (.iload_n 1, 1) := by decide +kernel
theorem dX1_isPointer_11 : decode cX1_isPointer 11 = .ok (.iconst 2, 1) := by decide +kernel
theorem dX1_isPointer_12 : decode cX1_isPointer 12 = .ok (.ishr, 1) := by decide +kernel
theorem dX1_isPointer_13 : decode cX1_isPointer 13 = .ok (.aload_n 0, 1) := by decide +kernel
theorem dX1_isPointer_14 : decode cX1_isPointer 14 = .ok (.getfield 9, 3) := by decide +kernel
theorem dX1_isPointer_17 : decode cX1_isPointer 17 = .ok (.if_icmp .ge 7, 3) := by decide +kernel
theorem dX1_isPointer_20 : decode cX1_isPointer 20 = .ok (.iconst 1, 1) := by decide +kernel
theorem dX1_isPointer_21 : decode cX1_isPointer 21 = .ok (.goto 4, 3) := by decide +kernel
theorem dX1_isPointer_24 : decode cX1_isPointer 24 = .ok (.iconst 0, 1) := by decide +kernel
theorem dX1_isPointer_25 : decode cX1_isPointer 25 = .ok (.ireturn, 1) := by decide +kernel
theorem dX1_isFunction_0 : decode cX1_isFunction 0 = .ok (.aload_n 0, 1) := by decide +kernel
theorem dX1_isFunction_1 : decode cX1_isFunction 1 = .ok (.iload_n 1, 1) := by decide +kernel
theorem dX1_isFunction_2 : decode cX1_isFunction 2 = .ok (.invokevirtual 47, 3) := by decide +kernel
theorem dX1_isFunction_5 : decode cX1_isFunction 5 = .ok (.istore_n 2, 1) := by decide +kernel
theorem dX1_isFunction_6 : decode cX1_isFunction 6 = .ok (.iload_n 2, 1) := by decide +kernel
theorem dX1_isFunction_7 : decode cX1_isFunction 7 = .ok (.bipush 8, 2) := by decide +kernel
theorem dX1_isFunction_9 : decode cX1_isFunction 9 = .ok (.if_icmp .eq 9, 3) := by decide +kernel
theorem dX1_isFunction_12 : decode cX1_isFunction 12 = .ok (.iload_n 2, 1) := by decide +kernel
theorem dX1_isFunction_13 : decode cX1_isFunction 13 = .ok (.bipush 9, 2) := by decide +kernel
theorem dX1_isFunction_15 : decode cX1_isFunction 15 = .ok (.if_icmp .ne 7, 3) := by decide +kernel
theorem dX1_isFunction_18 : decode cX1_isFunction 18 = .ok (.iconst 1, 1) := by decide +kernel
theorem dX1_isFunction_19 : decode cX1_isFunction 19 = .ok (.goto 4, 3) := by decide +kernel
theorem dX1_isFunction_22 : decode cX1_isFunction 22 = .ok (.iconst 0, 1) := by decide +kernel
theorem dX1_isFunction_23 : decode cX1_isFunction 23 = .ok (.ireturn, 1) := by decide +kernel
theorem dX1_constructorOf_0 : decode cX1_constructorOf 0 = .ok (.iload_n 1, 1) := by decide +kernel
theorem dX1_constructorOf_1 : decode cX1_constructorOf 1 = .ok (.invokestatic 50, 3) := by decide +kernel
theorem dX1_constructorOf_4 : decode cX1_constructorOf 4 = .ok (.ifCond .eq 8, 3) := by decide +kernel
theorem dX1_constructorOf_7 : decode cX1_constructorOf 7 = .ok (.iload_n 1, 1) := by decide +kernel
theorem dX1_constructorOf_8 : decode cX1_constructorOf 8 = .ok (.invokestatic 53, 3) := by decide +kernel
theorem dX1_constructorOf_11 : decode cX1_constructorOf 11 = .ok (.ireturn, 1) := by decide +kernel
theorem dX1_constructorOf_12 : decode cX1_constructorOf 12 = .ok (.aload_n 0, 1) := by decide +kernel
theorem dX1_constructorOf_13 : decode cX1_constructorOf 13 = .ok (.iload_n 1, 1) := by decide +kernel
theorem dX1_constructorOf_14 : decode cX1_constructorOf 14 = .ok (.invokevirtual 47, 3) := by decide +kernel
theorem dX1_constructorOf_17 : decode cX1_constructorOf 17 = .ok (.istore_n 2, 1) := by decide +kernel
theorem dX1_constructorOf_18 : decode cX1_constructorOf 18 = .ok (.iload_n 2, 1) := by decide +kernel
theorem dX1_constructorOf_19 : decode cX1_constructorOf 19 = .ok (.bipush 8, 2) := by decide +kernel
theorem dX1_constructorOf_21 : decode cX1_constructorOf 21 = .ok (.if_icmp .ge 7, 3) := by decide +kernel
theorem dX1_constructorOf_24 : decode cX1_constructorOf 24 = .ok (.iload_n 2, 1) := by decide +kernel
theorem dX1_constructorOf_25 : decode cX1_constructorOf 25 = .ok (.goto 4, 3) := by decide +kernel
theorem dX1_constructorOf_28 : decode cX1_constructorOf 28 = .ok (.iconst (-1), 1) := by decide +kernel
theorem dX1_constructorOf_29 : decode cX1_constructorOf 29 = .ok (.ireturn, 1) := by decide +kernel
theorem dX1_sort_0 : decode cX1_sort 0 = .ok (.iload_n 1, 1) := by decide +kernel
theorem dX1_sort_1 : decode cX1_sort 1 = .ok (.invokestatic 56, 3) := by decide +kernel
theorem dX1_sort_4 : decode cX1_sort 4 = .ok (.ifCond .eq 5, 3) := by decide +kernel
theorem dX1_sort_7 : decode cX1_sort 7 = .ok (.iconst 1, 1) := by decide +kernel
theorem dX1_sort_8 : decode cX1_sort 8 = .ok (.ireturn, 1) := by decide +kernel
theorem dX1_sort_9 : decode cX1_sort 9 = .ok (.aload_n 0, 1) := by decide +kernel
theorem dX1_sort_10 : decode cX1_sort 10 = .ok (.iload_n 1, 1) := by decide +kernel
theorem dX1_sort_11 : decode cX1_sort 11 = .ok (.invokevirtual 59, 3) := by decide +kernel
theorem dX1_sort_14 : decode cX1_sort 14 = .ok (.iconst (-1), 1) := by decide +kernel
theorem dX1_sort_15 : decode cX1_sort 15 = .ok (.if_icmp .eq 5, 3) := by decide +kernel
theorem dX1_sort_18 : decode cX1_sort 18 = .ok (.iconst 2, 1) := by decide +kernel
theorem dX1_sort_19 : decode cX1_sort 19 = .ok (.ireturn, 1) := by decide +kernel
theorem dX1_sort_20 : decode cX1_sort 20 = .ok (.aload_n 0, 1) := by decide +kernel
theorem dX1_sort_21 : decode cX1_sort 21 = .ok (.iload_n 1, 1) := by decide +kernel
theorem dX1_sort_22 : decode cX1_sort 22 = .ok (.invokevirtual 62, 3) := by decide +kernel
theorem dX1_sort_25 : decode cX1_sort 25 = .ok (.ifCond .eq 7, 3) := by decide +kernel
theorem dX1_sort_28 : decode cX1_sort 28 = .ok (.iconst 3, 1) := by decide +kernel
theorem dX1_sort_29 : decode cX1_sort 29 = .ok (.goto 4, 3) := by decide +kernel
theorem dX1_sort_32 : decode cX1_sort 32 = .ok (.iconst 0, 1) := by decide +kernel
theorem dX1_sort_33 : decode cX1_sort 33 = .ok (.ireturn, 1) := by decide +kernel
theorem dX1_meaning_0 : decode cX1_meaning 0 = .ok (.aload_n 0, 1) := by decide +kernel
theorem dX1_meaning_1 : decode cX1_meaning 1 = .ok (.iload_n 1, 1) := by decide +kernel
theorem dX1_meaning_2 : decode cX1_meaning 2 = .ok (.invokevirtual 65, 3) := by decide +kernel
theorem dX1_meaning_5 : decode cX1_meaning 5 = .ok (.tableswitch 48 1 3 #[27, 32, 38], 27) := by decide +kernel
theorem dX1_meaning_32 : decode cX1_meaning 32 = .ok (.iload_n 1, 1) := by decide +kernel
theorem dX1_meaning_33 : decode cX1_meaning 33 = .ok (.invokestatic 68, 3) := by decide +kernel
theorem dX1_meaning_36 : decode cX1_meaning 36 = .ok (.ireturn, 1) := by decide +kernel
theorem dX1_meaning_37 : decode cX1_meaning 37 = .ok (.aload_n 0, 1) := by decide +kernel
theorem dX1_meaning_38 : decode cX1_meaning 38 = .ok (.iload_n 1, 1) := by decide +kernel
theorem dX1_meaning_39 : decode cX1_meaning 39 = .ok (.invokevirtual 59, 3) := by decide +kernel
theorem dX1_meaning_42 : decode cX1_meaning 42 = .ok (.ireturn, 1) := by decide +kernel
theorem dX1_meaning_43 : decode cX1_meaning 43 = .ok (.aload_n 0, 1) := by decide +kernel
theorem dX1_meaning_44 : decode cX1_meaning 44 = .ok (.iload_n 1, 1) := by decide +kernel
theorem dX1_meaning_45 : decode cX1_meaning 45 = .ok (.iconst 1, 1) := by decide +kernel
theorem dX1_meaning_46 : decode cX1_meaning 46 = .ok (.invokevirtual 71, 3) := by decide +kernel
theorem dX1_meaning_49 : decode cX1_meaning 49 = .ok (.invokestatic 68, 3) := by decide +kernel
theorem dX1_meaning_52 : decode cX1_meaning 52 = .ok (.ireturn, 1) := by decide +kernel
theorem dX1_meaning_53 : decode cX1_meaning 53 = .ok (.iconst 0, 1) := by decide +kernel
theorem dX1_meaning_54 : decode cX1_meaning 54 = .ok (.ireturn, 1) := by decide +kernel
theorem dX1_beginCopy_0 : decode cX1_beginCopy 0 = .ok (.aload_n 0, 1) := by decide +kernel
theorem dX1_beginCopy_1 : decode cX1_beginCopy 1 = .ok (.getfield 28, 3) := by decide +kernel
theorem dX1_beginCopy_4 : decode cX1_beginCopy 4 = .ok (.iconst (-1), 1) := by decide +kernel
theorem dX1_beginCopy_5 : decode cX1_beginCopy 5 = .ok (.invokestatic 74, 3) := by decide +kernel
theorem dX1_beginCopy_8 : decode cX1_beginCopy 8 = .ok (.aload_n 0, 1) := by decide +kernel
theorem dX1_beginCopy_9 : decode cX1_beginCopy 9 = .ok (.iconst 0, 1) := by decide +kernel
theorem dX1_beginCopy_10 : decode cX1_beginCopy 10 = .ok (.putfield 15, 3) := by decide +kernel
theorem dX1_beginCopy_13 : decode cX1_beginCopy 13 = .ok (.return_, 1) := by decide +kernel
theorem dX1_copy_0 : decode cX1_copy 0 = .ok (.aload_n 0, 1) := by decide +kernel
theorem dX1_copy_1 : decode cX1_copy 1 = .ok (.iload_n 1, 1) := by decide +kernel
theorem dX1_copy_2 : decode cX1_copy 2 = .ok (.invokevirtual 39, 3) := by decide +kernel
theorem dX1_copy_5 : decode cX1_copy 5 = .ok (.ifCond .ne 5, 3) := by decide +kernel
theorem dX1_copy_8 : decode cX1_copy 8 = .ok (.iload_n 1, 1) := by decide +kernel
theorem dX1_copy_9 : decode cX1_copy 9 = .ok (.ireturn, 1) := by decide +kernel
theorem dX1_copy_10 : decode cX1_copy 10 = .ok (.iload_n 1, 1) := by decide +kernel
theorem dX1_copy_11 : decode cX1_copy 11 = .ok (.iconst 2, 1) := by decide +kernel
theorem dX1_copy_12 : decode cX1_copy 12 = .ok (.ishr, 1) := by decide +kernel
theorem dX1_copy_13 : decode cX1_copy 13 = .ok (.istore_n 2, 1) := by decide +kernel
theorem dX1_copy_14 : decode cX1_copy 14 = .ok (.aload_n 0, 1) := by decide +kernel
theorem dX1_copy_15 : decode cX1_copy 15 = .ok (.getfield 28, 3) := by decide +kernel
theorem dX1_copy_18 : decode cX1_copy 18 = .ok (.iload_n 2, 1) := by decide +kernel
theorem dX1_copy_19 : decode cX1_copy 19 = .ok (.iaload, 1) := by decide +kernel
theorem dX1_copy_20 : decode cX1_copy 20 = .ok (.iconst (-1), 1) := by decide +kernel
theorem dX1_copy_21 : decode cX1_copy 21 = .ok (.if_icmp .ne 82, 3) := by decide +kernel
theorem dX1_copy_24 : decode cX1_copy 24 = .ok (.iconst 1, 1) := by decide +kernel
theorem dX1_copy_25 : decode cX1_copy 25 = .ok (.aload_n 0, 1) := by decide +kernel
theorem dX1_copy_26 : decode cX1_copy 26 = .ok (.getfield 21, 3) := by decide +kernel
theorem dX1_copy_29 : decode cX1_copy 29 = .ok (.iload_n 2, 1) := by decide +kernel
theorem dX1_copy_30 : decode cX1_copy 30 = .ok (.iaload, 1) := by decide +kernel
theorem dX1_copy_31 : decode cX1_copy 31 = .ok (.iconst 4, 1) := by decide +kernel
theorem dX1_copy_32 : decode cX1_copy 32 = .ok (.ishr, 1) := by decide +kernel
theorem dX1_copy_33 : decode cX1_copy 33 = .ok (.iadd, 1) := by decide +kernel
theorem dX1_copy_34 : decode cX1_copy 34 = .ok (.istore_n 3, 1) := by decide +kernel
theorem dX1_copy_35 : decode cX1_copy 35 = .ok (.iload_n 3, 1) := by decide +kernel
theorem dX1_copy_36 : decode cX1_copy 36 = .ok (.iconst 1, 1) := by decide +kernel
theorem dX1_copy_37 : decode cX1_copy 37 = .ok (.if_icmp .lt 27, 3) := by decide +kernel
theorem dX1_copy_40 : decode cX1_copy 40 = .ok (.iload_n 2, 1) := by decide +kernel
theorem dX1_copy_41 : decode cX1_copy 41 = .ok (.iload_n 3, 1) := by decide +kernel
theorem dX1_copy_42 : decode cX1_copy 42 = .ok (.iadd, 1) := by decide +kernel
theorem dX1_copy_43 : decode cX1_copy 43 = .ok (.aload_n 0, 1) := by decide +kernel
theorem dX1_copy_44 : decode cX1_copy 44 = .ok (.getfield 9, 3) := by decide +kernel
theorem dX1_copy_47 : decode cX1_copy 47 = .ok (.if_icmp .gt 17, 3) := by decide +kernel
theorem dX1_copy_50 : decode cX1_copy 50 = .ok (.aload_n 0, 1) := by decide +kernel
theorem dX1_copy_51 : decode cX1_copy 51 = .ok (.getfield 15, 3) := by decide +kernel
theorem dX1_copy_54 : decode cX1_copy 54 = .ok (.iload_n 3, 1) := by decide +kernel
theorem dX1_copy_55 : decode cX1_copy 55 = .ok (.iadd, 1) := by decide +kernel
theorem dX1_copy_56 : decode cX1_copy 56 = .ok (.aload_n 0, 1) := by decide +kernel
theorem dX1_copy_57 : decode cX1_copy 57 = .ok (.getfield 25, 3) := by decide +kernel
theorem dX1_copy_60 : decode cX1_copy 60 = .ok (.arraylength, 1) := by decide +kernel
theorem dX1_copy_61 : decode cX1_copy 61 = .ok (.if_icmp .le 5, 3) := by decide +kernel
theorem dX1_copy_64 : decode cX1_copy 64 = .ok (.iload_n 1, 1) := by decide +kernel
theorem dX1_copy_65 : decode cX1_copy 65 = .ok (.ireturn, 1) := by decide +kernel
theorem dX1_copy_66 : decode cX1_copy 66 = .ok (.aload_n 0, 1) := by decide +kernel
theorem dX1_copy_67 : decode cX1_copy 67 = .ok (.getfield 21, 3) := by decide +kernel
theorem dX1_copy_70 : decode cX1_copy 70 = .ok (.iload_n 2, 1) := by decide +kernel
theorem dX1_copy_71 : decode cX1_copy 71 = .ok (.aload_n 0, 1) := by decide +kernel
theorem dX1_copy_72 : decode cX1_copy 72 = .ok (.getfield 25, 3) := by decide +kernel
theorem dX1_copy_75 : decode cX1_copy 75 = .ok (.aload_n 0, 1) := by decide +kernel
theorem dX1_copy_76 : decode cX1_copy 76 = .ok (.getfield 15, 3) := by decide +kernel
theorem dX1_copy_79 : decode cX1_copy 79 = .ok (.iload_n 3, 1) := by decide +kernel
theorem dX1_copy_80 : decode cX1_copy 80 = .ok (.invokestatic 80, 3) := by decide +kernel
theorem dX1_copy_83 : decode cX1_copy 83 = .ok (.aload_n 0, 1) := by decide +kernel
theorem dX1_copy_84 : decode cX1_copy 84 = .ok (.getfield 28, 3) := by decide +kernel
theorem dX1_copy_87 : decode cX1_copy 87 = .ok (.iload_n 2, 1) := by decide +kernel
theorem dX1_copy_88 : decode cX1_copy 88 = .ok (.aload_n 0, 1) := by decide +kernel
theorem dX1_copy_89 : decode cX1_copy 89 = .ok (.getfield 15, 3) := by decide +kernel
theorem dX1_copy_92 : decode cX1_copy 92 = .ok (.iastore, 1) := by decide +kernel
theorem dX1_copy_93 : decode cX1_copy 93 = .ok (.aload_n 0, 1) := by decide +kernel
theorem dX1_copy_94 : decode cX1_copy 94 = .ok (.dup, 1) := by decide +kernel
theorem dX1_copy_95 : decode cX1_copy 95 = .ok (.getfield 15, 3) := by decide +kernel
theorem dX1_copy_98 : decode cX1_copy 98 = .ok (.iload_n 3, 1) := by decide +kernel
theorem dX1_copy_99 : decode cX1_copy 99 = .ok (.iadd, 1) := by decide +kernel
theorem dX1_copy_100 : decode cX1_copy 100 = .ok (.putfield 15, 3) := by decide +kernel
theorem dX1_copy_103 : decode cX1_copy 103 = .ok (.iconst 4, 1) := by decide +kernel
theorem dX1_copy_104 : decode cX1_copy 104 = .ok (.aload_n 0, 1) := by decide +kernel
theorem dX1_copy_105 : decode cX1_copy 105 = .ok (.getfield 28, 3) := by decide +kernel
theorem dX1_copy_108 : decode cX1_copy 108 = .ok (.iload_n 2, 1) := by decide +kernel
theorem dX1_copy_109 : decode cX1_copy 109 = .ok (.iaload, 1) := by decide +kernel
theorem dX1_copy_110 : decode cX1_copy 110 = .ok (.imul, 1) := by decide +kernel
theorem dX1_copy_111 : decode cX1_copy 111 = .ok (.ireturn, 1) := by decide +kernel
theorem dX1_copyTheRest_0 : decode cX1_copyTheRest 0 = .ok (.iconst 0, 1) := by decide +kernel
theorem dX1_copyTheRest_1 : decode cX1_copyTheRest 1 = .ok (.istore_n 1, 1) := by decide +kernel
theorem dX1_copyTheRest_2 : decode cX1_copyTheRest 2 = .ok (.iload_n 1, 1) := by decide +kernel
theorem dX1_copyTheRest_3 : decode cX1_copyTheRest 3 = .ok (.aload_n 0, 1) := by decide +kernel
theorem dX1_copyTheRest_4 : decode cX1_copyTheRest 4 = .ok (.getfield 15, 3) := by decide +kernel
theorem dX1_copyTheRest_7 : decode cX1_copyTheRest 7 = .ok (.if_icmp .ge 74, 3) := by decide +kernel
theorem dX1_copyTheRest_10 : decode cX1_copyTheRest 10 = .ok (.iload_n 1, 1) := by decide +kernel
theorem dX1_copyTheRest_11 : decode cX1_copyTheRest 11 = .ok (.aload_n 0, 1) := by decide +kernel
theorem dX1_copyTheRest_12 : decode cX1_copyTheRest 12 = .ok (.getfield 25, 3) := by decide +kernel
theorem dX1_copyTheRest_15 : decode cX1_copyTheRest 15 = .ok (.arraylength, 1) := by decide +kernel
theorem dX1_copyTheRest_16 : decode cX1_copyTheRest 16 = .ok (.if_icmp .ge 65, 3) := by decide +kernel
theorem dX1_copyTheRest_19 : decode cX1_copyTheRest 19 = .ok (.iload_n 1, 1) := by decide +kernel
theorem dX1_copyTheRest_20 : decode cX1_copyTheRest 20 = .ok (.iconst 1, 1) := by decide +kernel
theorem dX1_copyTheRest_21 : decode cX1_copyTheRest 21 = .ok (.iadd, 1) := by decide +kernel
theorem dX1_copyTheRest_22 : decode cX1_copyTheRest 22 = .ok (.iconst 0, 1) := by decide +kernel
theorem dX1_copyTheRest_23 : decode cX1_copyTheRest 23 = .ok (.aload_n 0, 1) := by decide +kernel
theorem dX1_copyTheRest_24 : decode cX1_copyTheRest 24 = .ok (.getfield 25, 3) := by decide +kernel
theorem dX1_copyTheRest_27 : decode cX1_copyTheRest 27 = .ok (.iload_n 1, 1) := by decide +kernel
theorem dX1_copyTheRest_28 : decode cX1_copyTheRest 28 = .ok (.iaload, 1) := by decide +kernel
theorem dX1_copyTheRest_29 : decode cX1_copyTheRest 29 = .ok (.iconst 4, 1) := by decide +kernel
theorem dX1_copyTheRest_30 : decode cX1_copyTheRest 30 = .ok (.ishr, 1) := by decide +kernel
theorem dX1_copyTheRest_31 : decode cX1_copyTheRest 31 = .ok (.invokestatic 86, 3) := by decide +kernel
theorem dX1_copyTheRest_34 : decode cX1_copyTheRest 34 = .ok (.iadd, 1) := by decide +kernel
theorem dX1_copyTheRest_35 : decode cX1_copyTheRest 35 = .ok (.istore_n 2, 1) := by decide +kernel
theorem dX1_copyTheRest_36 : decode cX1_copyTheRest 36 = .ok (.iload_n 1, 1) := by decide +kernel
theorem dX1_copyTheRest_37 : decode cX1_copyTheRest 37 = .ok (.iconst 1, 1) := by decide +kernel
theorem dX1_copyTheRest_38 : decode cX1_copyTheRest 38 = .ok (.iadd, 1) := by decide +kernel
theorem dX1_copyTheRest_39 : decode cX1_copyTheRest 39 = .ok (.istore_n 3, 1) := by decide +kernel
theorem dX1_copyTheRest_40 : decode cX1_copyTheRest 40 = .ok (.iload_n 3, 1) := by decide +kernel
theorem dX1_copyTheRest_41 : decode cX1_copyTheRest 41 = .ok (.iload_n 2, 1) := by decide +kernel
theorem dX1_copyTheRest_42 : decode cX1_copyTheRest 42 = .ok (.if_icmp .ge 34, 3) := by decide +kernel
theorem dX1_copyTheRest_45 : decode cX1_copyTheRest 45 = .ok (.iload_n 3, 1) := by decide +kernel
theorem dX1_copyTheRest_46 : decode cX1_copyTheRest 46 = .ok (.aload_n 0, 1) := by decide +kernel
theorem dX1_copyTheRest_47 : decode cX1_copyTheRest 47 = .ok (.getfield 25, 3) := by decide +kernel
theorem dX1_copyTheRest_50 : decode cX1_copyTheRest 50 = .ok (.arraylength, 1) := by decide +kernel
theorem dX1_copyTheRest_51 : decode cX1_copyTheRest 51 = .ok (.if_icmp .ge 25, 3) := by decide +kernel
theorem dX1_copyTheRest_54 : decode cX1_copyTheRest 54 = .ok (.aload_n 0, 1) := by decide +kernel
theorem dX1_copyTheRest_55 : decode cX1_copyTheRest 55 = .ok (.getfield 25, 3) := by decide +kernel
theorem dX1_copyTheRest_58 : decode cX1_copyTheRest 58 = .ok (.iload_n 3, 1) := by decide +kernel
theorem dX1_copyTheRest_59 : decode cX1_copyTheRest 59 = .ok (.aload_n 0, 1) := by decide +kernel
theorem dX1_copyTheRest_60 : decode cX1_copyTheRest 60 = .ok (.aload_n 0, 1) := by decide +kernel
theorem dX1_copyTheRest_61 : decode cX1_copyTheRest 61 = .ok (.getfield 25, 3) := by decide +kernel
theorem dX1_copyTheRest_64 : decode cX1_copyTheRest 64 = .ok (.iload_n 3, 1) := by decide +kernel
theorem dX1_copyTheRest_65 : decode cX1_copyTheRest 65 = .ok (.iaload, 1) := by decide +kernel
theorem dX1_copyTheRest_66 : decode cX1_copyTheRest 66 = .ok (.invokevirtual 91, 3) := by decide +kernel
theorem dX1_copyTheRest_69 : decode cX1_copyTheRest 69 = .ok (.iastore, 1) := by decide +kernel
theorem dX1_copyTheRest_70 : decode cX1_copyTheRest 70 = .ok (.iinc 3 1, 3) := by decide +kernel
theorem dX1_copyTheRest_73 : decode cX1_copyTheRest 73 = .ok (.goto (-33), 3) := by decide +kernel
theorem dX1_copyTheRest_76 : decode cX1_copyTheRest 76 = .ok (.iload_n 2, 1) := by decide +kernel
theorem dX1_copyTheRest_77 : decode cX1_copyTheRest 77 = .ok (.istore_n 1, 1) := by decide +kernel
theorem dX1_copyTheRest_78 : decode cX1_copyTheRest 78 = .ok (.goto (-76), 3) := by decide +kernel
theorem dX1_copyTheRest_81 : decode cX1_copyTheRest 81 = .ok (.return_, 1) := by decide +kernel
theorem dX1_useOtherHalf_0 : decode cX1_useOtherHalf 0 = .ok (.aload_n 0, 1) := by decide +kernel
theorem dX1_useOtherHalf_1 : decode cX1_useOtherHalf 1 = .ok (.getfield 21, 3) := by decide +kernel
theorem dX1_useOtherHalf_4 : decode cX1_useOtherHalf 4 = .ok (.astore_n 1, 1) := by decide +kernel
theorem dX1_useOtherHalf_5 : decode cX1_useOtherHalf 5 = .ok (.aload_n 0, 1) := by decide +kernel
theorem dX1_useOtherHalf_6 : decode cX1_useOtherHalf 6 = .ok (.aload_n 0, 1) := by decide +kernel
theorem dX1_useOtherHalf_7 : decode cX1_useOtherHalf 7 = .ok (.getfield 25, 3) := by decide +kernel
theorem dX1_useOtherHalf_10 : decode cX1_useOtherHalf 10 = .ok (.putfield 21, 3) := by decide +kernel
theorem dX1_useOtherHalf_13 : decode cX1_useOtherHalf 13 = .ok (.aload_n 0, 1) := by decide +kernel
theorem dX1_useOtherHalf_14 : decode cX1_useOtherHalf 14 = .ok (.aload_n 1, 1) := by decide +kernel
theorem dX1_useOtherHalf_15 : decode cX1_useOtherHalf 15 = .ok (.putfield 25, 3) := by decide +kernel
theorem dX1_useOtherHalf_18 : decode cX1_useOtherHalf 18 = .ok (.aload_n 0, 1) := by decide +kernel
theorem dX1_useOtherHalf_19 : decode cX1_useOtherHalf 19 = .ok (.aload_n 0, 1) := by decide +kernel
theorem dX1_useOtherHalf_20 : decode cX1_useOtherHalf 20 = .ok (.getfield 15, 3) := by decide +kernel
theorem dX1_useOtherHalf_23 : decode cX1_useOtherHalf 23 = .ok (.putfield 9, 3) := by decide +kernel
theorem dX1_useOtherHalf_26 : decode cX1_useOtherHalf 26 = .ok (.aload_n 0, 1) := by decide +kernel
theorem dX1_useOtherHalf_27 : decode cX1_useOtherHalf 27 = .ok (.dup, 1) := by decide +kernel
theorem dX1_useOtherHalf_28 : decode cX1_useOtherHalf 28 = .ok (.getfield 18, 3) := by decide +kernel
theorem dX1_useOtherHalf_31 : decode cX1_useOtherHalf 31 = .ok (.iconst 1, 1) := by decide +kernel
theorem dX1_useOtherHalf_32 : decode cX1_useOtherHalf 32 = .ok (.iadd, 1) := by decide +kernel
theorem dX1_useOtherHalf_33 : decode cX1_useOtherHalf 33 = .ok (.putfield 18, 3) := by decide +kernel
theorem dX1_useOtherHalf_36 : decode cX1_useOtherHalf 36 = .ok (.return_, 1) := by decide +kernel
theorem dX2_init_0 : decode cX2_init 0 = .ok (.aload_n 0, 1) := by decide +kernel
theorem dX2_init_1 : decode cX2_init 1 = .ok (.invokespecial 3, 3) := by decide +kernel
theorem dX2_init_4 : decode cX2_init 4 = .ok (.aload_n 0, 1) := by decide +kernel
theorem dX2_init_5 : decode cX2_init 5 = .ok (.bipush 40, 2) := by decide +kernel
theorem dX2_init_7 : decode cX2_init 7 = .ok (.newarray .int, 2) := by decide +kernel
theorem dX2_init_9 : decode cX2_init 9 = .ok (.putfield 9, 3) := by decide +kernel
theorem dX2_init_12 : decode cX2_init 12 = .ok (.aload_n 0, 1) := by decide +kernel
theorem dX2_init_13 : decode cX2_init 13 = .ok (.iconst 0, 1) := by decide +kernel
theorem dX2_init_14 : decode cX2_init 14 = .ok (.putfield 15, 3) := by decide +kernel
theorem dX2_init_17 : decode cX2_init 17 = .ok (.aload_n 0, 1) := by decide +kernel
theorem dX2_init_18 : decode cX2_init 18 = .ok (.iconst 1, 1) := by decide +kernel
theorem dX2_init_19 : decode cX2_init 19 = .ok (.putfield 19, 3) := by decide +kernel
theorem dX2_init_22 : decode cX2_init 22 = .ok (.aload_n 0, 1) := by decide +kernel
theorem dX2_init_23 : decode cX2_init 23 = .ok (.iconst 1, 1) := by decide +kernel
theorem dX2_init_24 : decode cX2_init 24 = .ok (.putfield 22, 3) := by decide +kernel
theorem dX2_init_27 : decode cX2_init 27 = .ok (.aload_n 0, 1) := by decide +kernel
theorem dX2_init_28 : decode cX2_init 28 = .ok (.iconst 0, 1) := by decide +kernel
theorem dX2_init_29 : decode cX2_init 29 = .ok (.putfield 25, 3) := by decide +kernel
theorem dX2_init_32 : decode cX2_init 32 = .ok (.aload_n 0, 1) := by decide +kernel
theorem dX2_init_33 : decode cX2_init 33 = .ok (.iconst 0, 1) := by decide +kernel
theorem dX2_init_34 : decode cX2_init 34 = .ok (.putfield 28, 3) := by decide +kernel
theorem dX2_init_37 : decode cX2_init 37 = .ok (.aload_n 0, 1) := by decide +kernel
theorem dX2_init_38 : decode cX2_init 38 = .ok (.iconst 0, 1) := by decide +kernel
theorem dX2_init_39 : decode cX2_init 39 = .ok (.putfield 32, 3) := by decide +kernel
theorem dX2_init_42 : decode cX2_init 42 = .ok (.aload_n 0, 1) := by decide +kernel
theorem dX2_init_43 : decode cX2_init 43 = .ok (.aload_n 1, 1) := by decide +kernel
theorem dX2_init_44 : decode cX2_init 44 = .ok (.putfield 35, 3) := by decide +kernel
theorem dX2_init_47 : decode cX2_init 47 = .ok (.aload_n 0, 1) := by decide +kernel
theorem dX2_init_48 : decode cX2_init 48 = .ok (.aload_n 2, 1) := by decide +kernel
theorem dX2_init_49 : decode cX2_init 49 = .ok (.putfield 39, 3) := by decide +kernel
theorem dX2_init_52 : decode cX2_init 52 = .ok (.return_, 1) := by decide +kernel
theorem dX2_beginAnew_0 : decode cX2_beginAnew 0 = .ok (.aload_n 0, 1) := by decide +kernel
theorem dX2_beginAnew_1 : decode cX2_beginAnew 1 = .ok (.getfield 39, 3) := by decide +kernel
theorem dX2_beginAnew_4 : decode cX2_beginAnew 4 = .ok (.invokevirtual 43, 3) := by decide +kernel
theorem dX2_beginAnew_7 : decode cX2_beginAnew 7 = .ok (.aload_n 0, 1) := by decide +kernel
theorem dX2_beginAnew_8 : decode cX2_beginAnew 8 = .ok (.iconst 0, 1) := by decide +kernel
theorem dX2_beginAnew_9 : decode cX2_beginAnew 9 = .ok (.putfield 15, 3) := by decide +kernel
theorem dX2_beginAnew_12 : decode cX2_beginAnew 12 = .ok (.aload_n 0, 1) := by decide +kernel
theorem dX2_beginAnew_13 : decode cX2_beginAnew 13 = .ok (.iconst 1, 1) := by decide +kernel
theorem dX2_beginAnew_14 : decode cX2_beginAnew 14 = .ok (.putfield 19, 3) := by decide +kernel
theorem dX2_beginAnew_17 : decode cX2_beginAnew 17 = .ok (.aload_n 0, 1) := by decide +kernel
theorem dX2_beginAnew_18 : decode cX2_beginAnew 18 = .ok (.iconst 1, 1) := by decide +kernel
theorem dX2_beginAnew_19 : decode cX2_beginAnew 19 = .ok (.putfield 22, 3) := by decide +kernel
theorem dX2_beginAnew_22 : decode cX2_beginAnew 22 = .ok (.aload_n 0, 1) := by decide +kernel
theorem dX2_beginAnew_23 : decode cX2_beginAnew 23 = .ok (.iconst 0, 1) := by decide +kernel
theorem dX2_beginAnew_24 : decode cX2_beginAnew 24 = .ok (.putfield 25, 3) := by decide +kernel
theorem dX2_beginAnew_27 : decode cX2_beginAnew 27 = .ok (.aload_n 0, 1) := by decide +kernel
theorem dX2_beginAnew_28 : decode cX2_beginAnew 28 = .ok (.iconst 0, 1) := by decide +kernel
theorem dX2_beginAnew_29 : decode cX2_beginAnew 29 = .ok (.putfield 28, 3) := by decide +kernel
theorem dX2_beginAnew_32 : decode cX2_beginAnew 32 = .ok (.aload_n 0, 1) := by decide +kernel
theorem dX2_beginAnew_33 : decode cX2_beginAnew 33 = .ok (.iconst 0, 1) := by decide +kernel
theorem dX2_beginAnew_34 : decode cX2_beginAnew 34 = .ok (.putfield 32, 3) := by decide +kernel
theorem dX2_beginAnew_37 : decode cX2_beginAnew 37 = .ok (.return_, 1) := by decide +kernel
theorem dX2_condition_0 : decode cX2_condition 0 = .ok (.aload_n 0, 1) := by decide +kernel
theorem dX2_condition_1 : decode cX2_condition 1 = .ok (.getfield 35, 3) := by decide +kernel
theorem dX2_condition_4 : decode cX2_condition 4 = .ok (.getfield 48, 3) := by decide +kernel
theorem dX2_condition_7 : decode cX2_condition 7 = .ok (.ifCond .ne 5, 3) := by decide +kernel
theorem dX2_condition_10 : decode cX2_condition 10 = .ok (.iconst 0, 1) := by decide +kernel
theorem dX2_condition_11 : decode cX2_condition 11 = .ok (.ireturn, 1) := by decide +kernel
theorem dX2_condition_12 : decode cX2_condition 12 = .ok (.aload_n 0, 1) := by decide +kernel
theorem dX2_condition_13 : decode cX2_condition 13 = .ok (.getfield 28, 3) := by decide +kernel
theorem dX2_condition_16 : decode cX2_condition 16 = .ok (.ifCond .eq 5, 3) := by decide +kernel
theorem dX2_condition_19 : decode cX2_condition 19 = .ok (.iconst 2, 1) := by decide +kernel
theorem dX2_condition_20 : decode cX2_condition 20 = .ok (.ireturn, 1) := by decide +kernel
theorem dX2_condition_21 : decode cX2_condition 21 = .ok (.aload_n 0, 1) := by decide +kernel
theorem dX2_condition_22 : decode cX2_condition 22 = .ok (.getfield 32, 3) := by decide +kernel
theorem dX2_condition_25 : decode cX2_condition 25 = .ok (.ifCond .ne 7, 3) := by decide +kernel
theorem dX2_condition_28 : decode cX2_condition 28 = .ok (.iconst 1, 1) := by decide +kernel
theorem dX2_condition_29 : decode cX2_condition 29 = .ok (.goto 4, 3) := by decide +kernel
theorem dX2_condition_32 : decode cX2_condition 32 = .ok (.iconst 3, 1) := by decide +kernel
theorem dX2_condition_33 : decode cX2_condition 33 = .ok (.ireturn, 1) := by decide +kernel
theorem dX2_doUpTo_0 : decode cX2_doUpTo 0 = .ok (.iconst 0, 1) := by decide +kernel
theorem dX2_doUpTo_1 : decode cX2_doUpTo 1 = .ok (.istore_n 2, 1) := by decide +kernel
theorem dX2_doUpTo_2 : decode cX2_doUpTo 2 = .ok (.iload_n 2, 1) := by decide +kernel
theorem dX2_doUpTo_3 : decode cX2_doUpTo 3 = .ok (.iload_n 1, 1) := by decide +kernel
theorem dX2_doUpTo_4 : decode cX2_doUpTo 4 = .ok (.if_icmp .ge 70, 3) := by decide +kernel
theorem dX2_doUpTo_7 : decode cX2_doUpTo 7 = .ok (.aload_n 0, 1) := by decide +kernel
theorem dX2_doUpTo_8 : decode cX2_doUpTo 8 = .ok (.getfield 28, 3) := by decide +kernel
theorem dX2_doUpTo_11 : decode cX2_doUpTo 11 = .ok (.ifCond .ne 63, 3) := by decide +kernel
theorem dX2_doUpTo_14 : decode cX2_doUpTo 14 = .ok (.aload_n 0, 1) := by decide +kernel
theorem dX2_doUpTo_15 : decode cX2_doUpTo 15 = .ok (.getfield 35, 3) := by decide +kernel
theorem dX2_doUpTo_18 : decode cX2_doUpTo 18 = .ok (.aload_n 0, 1) := by decide +kernel
theorem dX2_doUpTo_19 : decode cX2_doUpTo 19 = .ok (.getfield 25, 3) := by decide +kernel
theorem dX2_doUpTo_22 : decode cX2_doUpTo 22 = .ok (.iconst 0, 1) := by decide +kernel
theorem dX2_doUpTo_23 : decode cX2_doUpTo 23 = .ok (.invokevirtual 53, 3) := by decide +kernel
theorem dX2_doUpTo_26 : decode cX2_doUpTo 26 = .ok (.istore_n 3, 1) := by decide +kernel
theorem dX2_doUpTo_27 : decode cX2_doUpTo 27 = .ok (.aload_n 0, 1) := by decide +kernel
theorem dX2_doUpTo_28 : decode cX2_doUpTo 28 = .ok (.getfield 35, 3) := by decide +kernel
theorem dX2_doUpTo_31 : decode cX2_doUpTo 31 = .ok (.aload_n 0, 1) := by decide +kernel
theorem dX2_doUpTo_32 : decode cX2_doUpTo 32 = .ok (.getfield 25, 3) := by decide +kernel
theorem dX2_doUpTo_35 : decode cX2_doUpTo 35 = .ok (.iconst 1, 1) := by decide +kernel
theorem dX2_doUpTo_36 : decode cX2_doUpTo 36 = .ok (.invokevirtual 53, 3) := by decide +kernel
theorem dX2_doUpTo_39 : decode cX2_doUpTo 39 = .ok (.istore 4, 2) := by decide +kernel
theorem dX2_doUpTo_41 : decode cX2_doUpTo 41 = .ok (.aload_n 0, 1) := by decide +kernel
theorem dX2_doUpTo_42 : decode cX2_doUpTo 42 = .ok (.aload_n 0, 1) := by decide +kernel
theorem dX2_doUpTo_43 : decode cX2_doUpTo 43 = .ok (.iload_n 3, 1) := by decide +kernel
theorem dX2_doUpTo_44 : decode cX2_doUpTo 44 = .ok (.iload 4, 2) := by decide +kernel
theorem dX2_doUpTo_46 : decode cX2_doUpTo 46 = .ok (.invokevirtual 57, 3) := by decide +kernel
theorem dX2_doUpTo_49 : decode cX2_doUpTo 49 = .ok (.putfield 32, 3) := by decide +kernel
theorem dX2_doUpTo_52 : decode cX2_doUpTo 52 = .ok (.aload_n 0, 1) := by decide +kernel
theorem dX2_doUpTo_53 : decode cX2_doUpTo 53 = .ok (.getfield 32, 3) := by decide +kernel
theorem dX2_doUpTo_56 : decode cX2_doUpTo 56 = .ok (.ifCond .eq 5, 3) := by decide +kernel
theorem dX2_doUpTo_59 : decode cX2_doUpTo 59 = .ok (.iload_n 2, 1) := by decide +kernel
theorem dX2_doUpTo_60 : decode cX2_doUpTo 60 = .ok (.ireturn, 1) := by decide +kernel
theorem dX2_doUpTo_61 : decode cX2_doUpTo 61 = .ok (.aload_n 0, 1) := by decide +kernel
theorem dX2_doUpTo_62 : decode cX2_doUpTo 62 = .ok (.iload_n 3, 1) := by decide +kernel
theorem dX2_doUpTo_63 : decode cX2_doUpTo 63 = .ok (.iload 4, 2) := by decide +kernel
theorem dX2_doUpTo_65 : decode cX2_doUpTo 65 = .ok (.invokevirtual 60, 3) := by decide +kernel
theorem dX2_doUpTo_68 : decode cX2_doUpTo 68 = .ok (.iinc 2 1, 3) := by decide +kernel
theorem dX2_doUpTo_71 : decode cX2_doUpTo 71 = .ok (.goto (-69), 3) := by decide +kernel
theorem dX2_doUpTo_74 : decode cX2_doUpTo 74 = .ok (.iload_n 2, 1) := by decide +kernel
theorem dX2_doUpTo_75 : decode cX2_doUpTo 75 = .ok (.ireturn, 1) := by decide +kernel
theorem dX2_hindrance_0 : decode cX2_hindrance 0 = .ok (.aload_n 0, 1) := by decide +kernel
theorem dX2_hindrance_1 : decode cX2_hindrance 1 = .ok (.iload_n 1, 1) := by decide +kernel
theorem dX2_hindrance_2 : decode cX2_hindrance 2 = .ok (.iload_n 2, 1) := by decide +kernel
theorem dX2_hindrance_3 : decode cX2_hindrance 3 = .ok (.invokevirtual 64, 3) := by decide +kernel
theorem dX2_hindrance_6 : decode cX2_hindrance 6 = .ok (.ifCond .eq 5, 3) := by decide +kernel
theorem dX2_hindrance_9 : decode cX2_hindrance 9 = .ok (.iconst 1, 1) := by decide +kernel
theorem dX2_hindrance_10 : decode cX2_hindrance 10 = .ok (.ireturn, 1) := by decide +kernel
theorem dX2_hindrance_11 : decode cX2_hindrance 11 = .ok (.aload_n 0, 1) := by decide +kernel
theorem dX2_hindrance_12 : decode cX2_hindrance 12 = .ok (.getfield 15, 3) := by decide +kernel
theorem dX2_hindrance_15 : decode cX2_hindrance 15 = .ok (.iload_n 1, 1) := by decide +kernel
theorem dX2_hindrance_16 : decode cX2_hindrance 16 = .ok (.invokestatic 68, 3) := by decide +kernel
theorem dX2_hindrance_19 : decode cX2_hindrance 19 = .ok (.iadd, 1) := by decide +kernel
theorem dX2_hindrance_20 : decode cX2_hindrance 20 = .ok (.bipush 40, 2) := by decide +kernel
theorem dX2_hindrance_22 : decode cX2_hindrance 22 = .ok (.if_icmp .le 5, 3) := by decide +kernel
theorem dX2_hindrance_25 : decode cX2_hindrance 25 = .ok (.iconst 3, 1) := by decide +kernel
theorem dX2_hindrance_26 : decode cX2_hindrance 26 = .ok (.ireturn, 1) := by decide +kernel
theorem dX2_hindrance_27 : decode cX2_hindrance 27 = .ok (.aload_n 0, 1) := by decide +kernel
theorem dX2_hindrance_28 : decode cX2_hindrance 28 = .ok (.iload_n 1, 1) := by decide +kernel
theorem dX2_hindrance_29 : decode cX2_hindrance 29 = .ok (.iload_n 2, 1) := by decide +kernel
theorem dX2_hindrance_30 : decode cX2_hindrance 30 = .ok (.invokevirtual 72, 3) := by decide +kernel
theorem dX2_hindrance_33 : decode cX2_hindrance 33 = .ok (.istore_n 3, 1) := by decide +kernel
theorem dX2_hindrance_34 : decode cX2_hindrance 34 = .ok (.aload_n 0, 1) := by decide +kernel
theorem dX2_hindrance_35 : decode cX2_hindrance 35 = .ok (.getfield 39, 3) := by decide +kernel
theorem dX2_hindrance_38 : decode cX2_hindrance 38 = .ok (.iload_n 3, 1) := by decide +kernel
theorem dX2_hindrance_39 : decode cX2_hindrance 39 = .ok (.invokevirtual 75, 3) := by decide +kernel
theorem dX2_hindrance_42 : decode cX2_hindrance 42 = .ok (.ifCond .ne 7, 3) := by decide +kernel
theorem dX2_hindrance_45 : decode cX2_hindrance 45 = .ok (.aload_n 0, 1) := by decide +kernel
theorem dX2_hindrance_46 : decode cX2_hindrance 46 = .ok (.invokevirtual 79, 3) := by decide +kernel
theorem dX2_hindrance_49 : decode cX2_hindrance 49 = .ok (.aload_n 0, 1) := by decide +kernel
theorem dX2_hindrance_50 : decode cX2_hindrance 50 = .ok (.getfield 39, 3) := by decide +kernel
theorem dX2_hindrance_53 : decode cX2_hindrance 53 = .ok (.iload_n 3, 1) := by decide +kernel
theorem dX2_hindrance_54 : decode cX2_hindrance 54 = .ok (.invokevirtual 75, 3) := by decide +kernel
theorem dX2_hindrance_57 : decode cX2_hindrance 57 = .ok (.ifCond .eq 7, 3) := by decide +kernel
theorem dX2_hindrance_60 : decode cX2_hindrance 60 = .ok (.iconst 0, 1) := by decide +kernel
theorem dX2_hindrance_61 : decode cX2_hindrance 61 = .ok (.goto 4, 3) := by decide +kernel
theorem dX2_hindrance_64 : decode cX2_hindrance 64 = .ok (.iconst 2, 1) := by decide +kernel
theorem dX2_hindrance_65 : decode cX2_hindrance 65 = .ok (.ireturn, 1) := by decide +kernel
theorem dX2_isWrong_0 : decode cX2_isWrong 0 = .ok (.iload_n 1, 1) := by decide +kernel
theorem dX2_isWrong_1 : decode cX2_isWrong 1 = .ok (.tableswitch 165 4 20 #[83, 83, 83, 83, 83, 165, 165, 165, 165, 124, 165, 165, 165, 165, 109, 165, 144], 83) := by decide +kernel
theorem dX2_isWrong_84 : decode cX2_isWrong 84 = .ok (.aload_n 0, 1) := by decide +kernel
theorem dX2_isWrong_85 : decode cX2_isWrong 85 = .ok (.invokevirtual 82, 3) := by decide +kernel
theorem dX2_isWrong_88 : decode cX2_isWrong 88 = .ok (.invokestatic 86, 3) := by decide +kernel
theorem dX2_isWrong_91 : decode cX2_isWrong 91 = .ok (.ifCond .eq 13, 3) := by decide +kernel
theorem dX2_isWrong_94 : decode cX2_isWrong 94 = .ok (.aload_n 0, 1) := by decide +kernel
theorem dX2_isWrong_95 : decode cX2_isWrong 95 = .ok (.getfield 19, 3) := by decide +kernel
theorem dX2_isWrong_98 : decode cX2_isWrong 98 = .ok (.invokestatic 86, 3) := by decide +kernel
theorem dX2_isWrong_101 : decode cX2_isWrong 101 = .ok (.ifCond .ne 7, 3) := by decide +kernel
theorem dX2_isWrong_104 : decode cX2_isWrong 104 = .ok (.iconst 1, 1) := by decide +kernel
theorem dX2_isWrong_105 : decode cX2_isWrong 105 = .ok (.goto 4, 3) := by decide +kernel
theorem dX2_isWrong_108 : decode cX2_isWrong 108 = .ok (.iconst 0, 1) := by decide +kernel
theorem dX2_isWrong_109 : decode cX2_isWrong 109 = .ok (.ireturn, 1) := by decide +kernel
theorem dX2_isWrong_110 : decode cX2_isWrong 110 = .ok (.aload_n 0, 1) := by decide +kernel
theorem dX2_isWrong_111 : decode cX2_isWrong 111 = .ok (.iload_n 2, 1) := by decide +kernel
theorem dX2_isWrong_112 : decode cX2_isWrong 112 = .ok (.invokevirtual 89, 3) := by decide +kernel
theorem dX2_isWrong_115 : decode cX2_isWrong 115 = .ok (.iconst (-1), 1) := by decide +kernel
theorem dX2_isWrong_116 : decode cX2_isWrong 116 = .ok (.if_icmp .ne 7, 3) := by decide +kernel
theorem dX2_isWrong_119 : decode cX2_isWrong 119 = .ok (.iconst 1, 1) := by decide +kernel
theorem dX2_isWrong_120 : decode cX2_isWrong 120 = .ok (.goto 4, 3) := by decide +kernel
theorem dX2_isWrong_123 : decode cX2_isWrong 123 = .ok (.iconst 0, 1) := by decide +kernel
theorem dX2_isWrong_124 : decode cX2_isWrong 124 = .ok (.ireturn, 1) := by decide +kernel
theorem dX2_isWrong_125 : decode cX2_isWrong 125 = .ok (.aload_n 0, 1) := by decide +kernel
theorem dX2_isWrong_126 : decode cX2_isWrong 126 = .ok (.getfield 39, 3) := by decide +kernel
theorem dX2_isWrong_129 : decode cX2_isWrong 129 = .ok (.aload_n 0, 1) := by decide +kernel
theorem dX2_isWrong_130 : decode cX2_isWrong 130 = .ok (.getfield 19, 3) := by decide +kernel
theorem dX2_isWrong_133 : decode cX2_isWrong 133 = .ok (.invokevirtual 92, 3) := by decide +kernel
theorem dX2_isWrong_136 : decode cX2_isWrong 136 = .ok (.ifCond .ne 7, 3) := by decide +kernel
theorem dX2_isWrong_139 : decode cX2_isWrong 139 = .ok (.iconst 1, 1) := by decide +kernel
theorem dX2_isWrong_140 : decode cX2_isWrong 140 = .ok (.goto 4, 3) := by decide +kernel
theorem dX2_isWrong_143 : decode cX2_isWrong 143 = .ok (.iconst 0, 1) := by decide +kernel
theorem dX2_isWrong_144 : decode cX2_isWrong 144 = .ok (.ireturn, 1) := by decide +kernel
theorem dX2_isWrong_145 : decode cX2_isWrong 145 = .ok (.aload_n 0, 1) := by decide +kernel
theorem dX2_isWrong_146 : decode cX2_isWrong 146 = .ok (.getfield 39, 3) := by decide +kernel
theorem dX2_isWrong_149 : decode cX2_isWrong 149 = .ok (.aload_n 0, 1) := by decide +kernel
theorem dX2_isWrong_150 : decode cX2_isWrong 150 = .ok (.getfield 19, 3) := by decide +kernel
theorem dX2_isWrong_153 : decode cX2_isWrong 153 = .ok (.invokevirtual 95, 3) := by decide +kernel
theorem dX2_isWrong_156 : decode cX2_isWrong 156 = .ok (.iload_n 2, 1) := by decide +kernel
theorem dX2_isWrong_157 : decode cX2_isWrong 157 = .ok (.if_icmp .eq 7, 3) := by decide +kernel
theorem dX2_isWrong_160 : decode cX2_isWrong 160 = .ok (.iconst 1, 1) := by decide +kernel
theorem dX2_isWrong_161 : decode cX2_isWrong 161 = .ok (.goto 4, 3) := by decide +kernel
theorem dX2_isWrong_164 : decode cX2_isWrong 164 = .ok (.iconst 0, 1) := by decide +kernel
theorem dX2_isWrong_165 : decode cX2_isWrong 165 = .ok (.ireturn, 1) := by decide +kernel
theorem dX2_isWrong_166 : decode cX2_isWrong 166 = .ok (.iload_n 1, 1) := by decide +kernel
theorem dX2_isWrong_167 : decode cX2_isWrong 167 = .ok (.ifCond .lt 9, 3) := by decide +kernel
theorem dX2_isWrong_170 : decode cX2_isWrong 170 = .ok (.iload_n 1, 1) := by decide +kernel
theorem dX2_isWrong_171 : decode cX2_isWrong 171 = .ok (.bipush 20, 2) := by decide +kernel
theorem dX2_isWrong_173 : decode cX2_isWrong 173 = .ok (.if_icmp .le 7, 3) := by decide +kernel
theorem dX2_isWrong_176 : decode cX2_isWrong 176 = .ok (.iconst 1, 1) := by decide +kernel
theorem dX2_isWrong_177 : decode cX2_isWrong 177 = .ok (.goto 4, 3) := by decide +kernel
theorem dX2_isWrong_180 : decode cX2_isWrong 180 = .ok (.iconst 0, 1) := by decide +kernel
theorem dX2_isWrong_181 : decode cX2_isWrong 181 = .ok (.ireturn, 1) := by decide +kernel
theorem dX2_growth_0 : decode cX2_growth 0 = .ok (.iload_n 0, 1) := by decide +kernel
theorem dX2_growth_1 : decode cX2_growth 1 = .ok (.iconst 3, 1) := by decide +kernel
theorem dX2_growth_2 : decode cX2_growth 2 = .ok (.if_icmp .eq 9, 3) := by decide +kernel
theorem dX2_growth_5 : decode cX2_growth 5 = .ok (.iload_n 0, 1) := by decide +kernel
theorem dX2_growth_6 : decode cX2_growth 6 = .ok (.bipush 13, 2) := by decide +kernel
theorem dX2_growth_8 : decode cX2_growth 8 = .ok (.if_icmp .ne 7, 3) := by decide +kernel
theorem dX2_growth_11 : decode cX2_growth 11 = .ok (.iconst 1, 1) := by decide +kernel
theorem dX2_growth_12 : decode cX2_growth 12 = .ok (.goto 4, 3) := by decide +kernel
theorem dX2_growth_15 : decode cX2_growth 15 = .ok (.iconst 0, 1) := by decide +kernel
theorem dX2_growth_16 : decode cX2_growth 16 = .ok (.ireturn, 1) := by decide +kernel
theorem dX2_wordsMade_0 : decode cX2_wordsMade 0 = .ok (.iload_n 1, 1) := by decide +kernel
theorem dX2_wordsMade_1 : decode cX2_wordsMade 1 = .ok (.tableswitch 99 9 20 #[63, 63, 99, 99, 76, 63, 99, 99, 65, 99, 99, 72], 63) := by decide +kernel
theorem dX2_wordsMade_64 : decode cX2_wordsMade 64 = .ok (.iconst 3, 1) := by decide +kernel
theorem dX2_wordsMade_65 : decode cX2_wordsMade 65 = .ok (.ireturn, 1) := by decide +kernel
theorem dX2_wordsMade_66 : decode cX2_wordsMade 66 = .ok (.iconst 1, 1) := by decide +kernel
theorem dX2_wordsMade_67 : decode cX2_wordsMade 67 = .ok (.iload_n 2, 1) := by decide +kernel
theorem dX2_wordsMade_68 : decode cX2_wordsMade 68 = .ok (.invokestatic 98, 3) := by decide +kernel
theorem dX2_wordsMade_71 : decode cX2_wordsMade 71 = .ok (.iadd, 1) := by decide +kernel
theorem dX2_wordsMade_72 : decode cX2_wordsMade 72 = .ok (.ireturn, 1) := by decide +kernel
theorem dX2_wordsMade_73 : decode cX2_wordsMade 73 = .ok (.iconst 3, 1) := by decide +kernel
theorem dX2_wordsMade_74 : decode cX2_wordsMade 74 = .ok (.iload_n 2, 1) := by decide +kernel
theorem dX2_wordsMade_75 : decode cX2_wordsMade 75 = .ok (.imul, 1) := by decide +kernel
theorem dX2_wordsMade_76 : decode cX2_wordsMade 76 = .ok (.ireturn, 1) := by decide +kernel
theorem dX2_wordsMade_77 : decode cX2_wordsMade 77 = .ok (.aload_n 0, 1) := by decide +kernel
theorem dX2_wordsMade_78 : decode cX2_wordsMade 78 = .ok (.getfield 39, 3) := by decide +kernel
theorem dX2_wordsMade_81 : decode cX2_wordsMade 81 = .ok (.aload_n 0, 1) := by decide +kernel
theorem dX2_wordsMade_82 : decode cX2_wordsMade 82 = .ok (.getfield 19, 3) := by decide +kernel
theorem dX2_wordsMade_85 : decode cX2_wordsMade 85 = .ok (.invokevirtual 101, 3) := by decide +kernel
theorem dX2_wordsMade_88 : decode cX2_wordsMade 88 = .ok (.bipush 9, 2) := by decide +kernel
theorem dX2_wordsMade_90 : decode cX2_wordsMade 90 = .ok (.if_icmp .ne 8, 3) := by decide +kernel
theorem dX2_wordsMade_93 : decode cX2_wordsMade 93 = .ok (.bipush 6, 2) := by decide +kernel
theorem dX2_wordsMade_95 : decode cX2_wordsMade 95 = .ok (.goto 4, 3) := by decide +kernel
theorem dX2_wordsMade_98 : decode cX2_wordsMade 98 = .ok (.iconst 3, 1) := by decide +kernel
theorem dX2_wordsMade_99 : decode cX2_wordsMade 99 = .ok (.ireturn, 1) := by decide +kernel
theorem dX2_wordsMade_100 : decode cX2_wordsMade 100 = .ok (.iconst 0, 1) := by decide +kernel
theorem dX2_wordsMade_101 : decode cX2_wordsMade 101 = .ok (.ireturn, 1) := by decide +kernel
theorem dX2_collect_0 : decode cX2_collect 0 = .ok (.aload_n 0, 1) := by decide +kernel
theorem dX2_collect_1 : decode cX2_collect 1 = .ok (.invokevirtual 104, 3) := by decide +kernel
theorem dX2_collect_4 : decode cX2_collect 4 = .ok (.pop, 1) := by decide +kernel
theorem dX2_collect_5 : decode cX2_collect 5 = .ok (.aload_n 0, 1) := by decide +kernel
theorem dX2_collect_6 : decode cX2_collect 6 = .ok (.aload_n 0, 1) := by decide +kernel
theorem dX2_collect_7 : decode cX2_collect 7 = .ok (.getfield 39, 3) := by decide +kernel
theorem dX2_collect_10 : decode cX2_collect 10 = .ok (.aload_n 0, 1) := by decide +kernel
theorem dX2_collect_11 : decode cX2_collect 11 = .ok (.getfield 19, 3) := by decide +kernel
theorem dX2_collect_14 : decode cX2_collect 14 = .ok (.invokevirtual 107, 3) := by decide +kernel
theorem dX2_collect_17 : decode cX2_collect 17 = .ok (.putfield 19, 3) := by decide +kernel
theorem dX2_collect_20 : decode cX2_collect 20 = .ok (.aload_n 0, 1) := by decide +kernel
theorem dX2_collect_21 : decode cX2_collect 21 = .ok (.aload_n 0, 1) := by decide +kernel
theorem dX2_collect_22 : decode cX2_collect 22 = .ok (.getfield 39, 3) := by decide +kernel
theorem dX2_collect_25 : decode cX2_collect 25 = .ok (.aload_n 0, 1) := by decide +kernel
theorem dX2_collect_26 : decode cX2_collect 26 = .ok (.getfield 22, 3) := by decide +kernel
theorem dX2_collect_29 : decode cX2_collect 29 = .ok (.invokevirtual 107, 3) := by decide +kernel
theorem dX2_collect_32 : decode cX2_collect 32 = .ok (.putfield 22, 3) := by decide +kernel
theorem dX2_collect_35 : decode cX2_collect 35 = .ok (.iconst 0, 1) := by decide +kernel
theorem dX2_collect_36 : decode cX2_collect 36 = .ok (.istore_n 1, 1) := by decide +kernel
theorem dX2_collect_37 : decode cX2_collect 37 = .ok (.iload_n 1, 1) := by decide +kernel
theorem dX2_collect_38 : decode cX2_collect 38 = .ok (.aload_n 0, 1) := by decide +kernel
theorem dX2_collect_39 : decode cX2_collect 39 = .ok (.getfield 15, 3) := by decide +kernel
theorem dX2_collect_42 : decode cX2_collect 42 = .ok (.if_icmp .ge 37, 3) := by decide +kernel
theorem dX2_collect_45 : decode cX2_collect 45 = .ok (.iload_n 1, 1) := by decide +kernel
theorem dX2_collect_46 : decode cX2_collect 46 = .ok (.aload_n 0, 1) := by decide +kernel
theorem dX2_collect_47 : decode cX2_collect 47 = .ok (.getfield 9, 3) := by decide +kernel
theorem dX2_collect_50 : decode cX2_collect 50 = .ok (.arraylength, 1) := by decide +kernel
theorem dX2_collect_51 : decode cX2_collect 51 = .ok (.if_icmp .ge 28, 3) := by decide +kernel
theorem dX2_collect_54 : decode cX2_collect 54 = .ok (.aload_n 0, 1) := by decide +kernel
theorem dX2_collect_55 : decode cX2_collect 55 = .ok (.getfield 9, 3) := by decide +kernel
theorem dX2_collect_58 : decode cX2_collect 58 = .ok (.iload_n 1, 1) := by decide +kernel
theorem dX2_collect_59 : decode cX2_collect 59 = .ok (.aload_n 0, 1) := by decide +kernel
theorem dX2_collect_60 : decode cX2_collect 60 = .ok (.getfield 39, 3) := by decide +kernel
theorem dX2_collect_63 : decode cX2_collect 63 = .ok (.aload_n 0, 1) := by decide +kernel
theorem dX2_collect_64 : decode cX2_collect 64 = .ok (.getfield 9, 3) := by decide +kernel
theorem dX2_collect_67 : decode cX2_collect 67 = .ok (.iload_n 1, 1) := by decide +kernel
theorem dX2_collect_68 : decode cX2_collect 68 = .ok (.iaload, 1) := by decide +kernel
theorem dX2_collect_69 : decode cX2_collect 69 = .ok (.invokevirtual 107, 3) := by decide +kernel
theorem dX2_collect_72 : decode cX2_collect 72 = .ok (.iastore, 1) := by decide +kernel
theorem dX2_collect_73 : decode cX2_collect 73 = .ok (.iinc 1 1, 3) := by decide +kernel
theorem dX2_collect_76 : decode cX2_collect 76 = .ok (.goto (-39), 3) := by decide +kernel
theorem dX2_collect_79 : decode cX2_collect 79 = .ok (.aload_n 0, 1) := by decide +kernel
theorem dX2_collect_80 : decode cX2_collect 80 = .ok (.getfield 39, 3) := by decide +kernel
theorem dX2_collect_83 : decode cX2_collect 83 = .ok (.invokevirtual 110, 3) := by decide +kernel
theorem dX2_collect_86 : decode cX2_collect 86 = .ok (.return_, 1) := by decide +kernel
theorem dX2_copyReachable_0 : decode cX2_copyReachable 0 = .ok (.aload_n 0, 1) := by decide +kernel
theorem dX2_copyReachable_1 : decode cX2_copyReachable 1 = .ok (.getfield 39, 3) := by decide +kernel
theorem dX2_copyReachable_4 : decode cX2_copyReachable 4 = .ok (.invokevirtual 113, 3) := by decide +kernel
theorem dX2_copyReachable_7 : decode cX2_copyReachable 7 = .ok (.aload_n 0, 1) := by decide +kernel
theorem dX2_copyReachable_8 : decode cX2_copyReachable 8 = .ok (.getfield 39, 3) := by decide +kernel
theorem dX2_copyReachable_11 : decode cX2_copyReachable 11 = .ok (.aload_n 0, 1) := by decide +kernel
theorem dX2_copyReachable_12 : decode cX2_copyReachable 12 = .ok (.getfield 19, 3) := by decide +kernel
theorem dX2_copyReachable_15 : decode cX2_copyReachable 15 = .ok (.invokevirtual 107, 3) := by decide +kernel
theorem dX2_copyReachable_18 : decode cX2_copyReachable 18 = .ok (.pop, 1) := by decide +kernel
theorem dX2_copyReachable_19 : decode cX2_copyReachable 19 = .ok (.aload_n 0, 1) := by decide +kernel
theorem dX2_copyReachable_20 : decode cX2_copyReachable 20 = .ok (.getfield 39, 3) := by decide +kernel
theorem dX2_copyReachable_23 : decode cX2_copyReachable 23 = .ok (.aload_n 0, 1) := by decide +kernel
theorem dX2_copyReachable_24 : decode cX2_copyReachable 24 = .ok (.getfield 22, 3) := by decide +kernel
theorem dX2_copyReachable_27 : decode cX2_copyReachable 27 = .ok (.invokevirtual 107, 3) := by decide +kernel
theorem dX2_copyReachable_30 : decode cX2_copyReachable 30 = .ok (.pop, 1) := by decide +kernel
theorem dX2_copyReachable_31 : decode cX2_copyReachable 31 = .ok (.iconst 0, 1) := by decide +kernel
theorem dX2_copyReachable_32 : decode cX2_copyReachable 32 = .ok (.istore_n 1, 1) := by decide +kernel
theorem dX2_copyReachable_33 : decode cX2_copyReachable 33 = .ok (.iload_n 1, 1) := by decide +kernel
theorem dX2_copyReachable_34 : decode cX2_copyReachable 34 = .ok (.aload_n 0, 1) := by decide +kernel
theorem dX2_copyReachable_35 : decode cX2_copyReachable 35 = .ok (.getfield 15, 3) := by decide +kernel
theorem dX2_copyReachable_38 : decode cX2_copyReachable 38 = .ok (.if_icmp .ge 32, 3) := by decide +kernel
theorem dX2_copyReachable_41 : decode cX2_copyReachable 41 = .ok (.iload_n 1, 1) := by decide +kernel
theorem dX2_copyReachable_42 : decode cX2_copyReachable 42 = .ok (.aload_n 0, 1) := by decide +kernel
theorem dX2_copyReachable_43 : decode cX2_copyReachable 43 = .ok (.getfield 9, 3) := by decide +kernel
theorem dX2_copyReachable_46 : decode cX2_copyReachable 46 = .ok (.arraylength, 1) := by decide +kernel
theorem dX2_copyReachable_47 : decode cX2_copyReachable 47 = .ok (.if_icmp .ge 23, 3) := by decide +kernel
theorem dX2_copyReachable_50 : decode cX2_copyReachable 50 = .ok (.aload_n 0, 1) := by decide +kernel
theorem dX2_copyReachable_51 : decode cX2_copyReachable 51 = .ok (.getfield 39, 3) := by decide +kernel
theorem dX2_copyReachable_54 : decode cX2_copyReachable 54 = .ok (.aload_n 0, 1) := by decide +kernel
theorem dX2_copyReachable_55 : decode cX2_copyReachable 55 = .ok (.getfield 9, 3) := by decide +kernel
theorem dX2_copyReachable_58 : decode cX2_copyReachable 58 = .ok (.iload_n 1, 1) := by decide +kernel
theorem dX2_copyReachable_59 : decode cX2_copyReachable 59 = .ok (.iaload, 1) := by decide +kernel
theorem dX2_copyReachable_60 : decode cX2_copyReachable 60 = .ok (.invokevirtual 107, 3) := by decide +kernel
theorem dX2_copyReachable_63 : decode cX2_copyReachable 63 = .ok (.pop, 1) := by decide +kernel
theorem dX2_copyReachable_64 : decode cX2_copyReachable 64 = .ok (.iinc 1 1, 3) := by decide +kernel
theorem dX2_copyReachable_67 : decode cX2_copyReachable 67 = .ok (.goto (-34), 3) := by decide +kernel
theorem dX2_copyReachable_70 : decode cX2_copyReachable 70 = .ok (.aload_n 0, 1) := by decide +kernel
theorem dX2_copyReachable_71 : decode cX2_copyReachable 71 = .ok (.getfield 39, 3) := by decide +kernel
theorem dX2_copyReachable_74 : decode cX2_copyReachable 74 = .ok (.invokevirtual 116, 3) := by decide +kernel
theorem dX2_copyReachable_77 : decode cX2_copyReachable 77 = .ok (.aload_n 0, 1) := by decide +kernel
theorem dX2_copyReachable_78 : decode cX2_copyReachable 78 = .ok (.getfield 39, 3) := by decide +kernel
theorem dX2_copyReachable_81 : decode cX2_copyReachable 81 = .ok (.getfield 119, 3) := by decide +kernel
theorem dX2_copyReachable_84 : decode cX2_copyReachable 84 = .ok (.ireturn, 1) := by decide +kernel
theorem dX2_perform_0 : decode cX2_perform 0 = .ok (.aload_n 0, 1) := by decide +kernel
theorem dX2_perform_1 : decode cX2_perform 1 = .ok (.getfield 25, 3) := by decide +kernel
theorem dX2_perform_4 : decode cX2_perform 4 = .ok (.iconst 1, 1) := by decide +kernel
theorem dX2_perform_5 : decode cX2_perform 5 = .ok (.iadd, 1) := by decide +kernel
theorem dX2_perform_6 : decode cX2_perform 6 = .ok (.istore_n 3, 1) := by decide +kernel
theorem dX2_perform_7 : decode cX2_perform 7 = .ok (.iload_n 1, 1) := by decide +kernel
theorem dX2_perform_8 : decode cX2_perform 8 = .ok (.tableswitch 295 0 20 #[100, 113, 124, 144, 295, 295, 295, 295, 295, 155, 179, 203, 208, 227, 236, 247, 259, 270, 278, 295, 287], 100) := by decide +kernel
theorem dX2_perform_108 : decode cX2_perform 108 = .ok (.aload_n 0, 1) := by decide +kernel
theorem dX2_perform_109 : decode cX2_perform 109 = .ok (.iconst 1, 1) := by decide +kernel
theorem dX2_perform_110 : decode cX2_perform 110 = .ok (.putfield 28, 3) := by decide +kernel
theorem dX2_perform_113 : decode cX2_perform 113 = .ok (.aload_n 0, 1) := by decide +kernel
theorem dX2_perform_114 : decode cX2_perform 114 = .ok (.getfield 25, 3) := by decide +kernel
theorem dX2_perform_117 : decode cX2_perform 117 = .ok (.istore_n 3, 1) := by decide +kernel
theorem dX2_perform_118 : decode cX2_perform 118 = .ok (.goto 190, 3) := by decide +kernel
theorem dX2_perform_121 : decode cX2_perform 121 = .ok (.aload_n 0, 1) := by decide +kernel
theorem dX2_perform_122 : decode cX2_perform 122 = .ok (.iload_n 2, 1) := by decide +kernel
theorem dX2_perform_123 : decode cX2_perform 123 = .ok (.invokestatic 122, 3) := by decide +kernel
theorem dX2_perform_126 : decode cX2_perform 126 = .ok (.putfield 19, 3) := by decide +kernel
theorem dX2_perform_129 : decode cX2_perform 129 = .ok (.goto 179, 3) := by decide +kernel
theorem dX2_perform_132 : decode cX2_perform 132 = .ok (.aload_n 0, 1) := by decide +kernel
theorem dX2_perform_133 : decode cX2_perform 133 = .ok (.aload_n 0, 1) := by decide +kernel
theorem dX2_perform_134 : decode cX2_perform 134 = .ok (.getfield 39, 3) := by decide +kernel
theorem dX2_perform_137 : decode cX2_perform 137 = .ok (.aload_n 0, 1) := by decide +kernel
theorem dX2_perform_138 : decode cX2_perform 138 = .ok (.iload_n 2, 1) := by decide +kernel
theorem dX2_perform_139 : decode cX2_perform 139 = .ok (.invokevirtual 125, 3) := by decide +kernel
theorem dX2_perform_142 : decode cX2_perform 142 = .ok (.iconst 1, 1) := by decide +kernel
theorem dX2_perform_143 : decode cX2_perform 143 = .ok (.invokevirtual 128, 3) := by decide +kernel
theorem dX2_perform_146 : decode cX2_perform 146 = .ok (.putfield 19, 3) := by decide +kernel
theorem dX2_perform_149 : decode cX2_perform 149 = .ok (.goto 159, 3) := by decide +kernel
theorem dX2_perform_152 : decode cX2_perform 152 = .ok (.aload_n 0, 1) := by decide +kernel
theorem dX2_perform_153 : decode cX2_perform 153 = .ok (.aload_n 0, 1) := by decide +kernel
theorem dX2_perform_154 : decode cX2_perform 154 = .ok (.getfield 19, 3) := by decide +kernel
theorem dX2_perform_157 : decode cX2_perform 157 = .ok (.invokevirtual 131, 3) := by decide +kernel
theorem dX2_perform_160 : decode cX2_perform 160 = .ok (.goto 148, 3) := by decide +kernel
theorem dX2_perform_163 : decode cX2_perform 163 = .ok (.aload_n 0, 1) := by decide +kernel
theorem dX2_perform_164 : decode cX2_perform 164 = .ok (.aload_n 0, 1) := by decide +kernel
theorem dX2_perform_165 : decode cX2_perform 165 = .ok (.getfield 39, 3) := by decide +kernel
theorem dX2_perform_168 : decode cX2_perform 168 = .ok (.bipush 8, 2) := by decide +kernel
theorem dX2_perform_170 : decode cX2_perform 170 = .ok (.iload_n 2, 1) := by decide +kernel
theorem dX2_perform_171 : decode cX2_perform 171 = .ok (.invokestatic 122, 3) := by decide +kernel
theorem dX2_perform_174 : decode cX2_perform 174 = .ok (.aload_n 0, 1) := by decide +kernel
theorem dX2_perform_175 : decode cX2_perform 175 = .ok (.getfield 22, 3) := by decide +kernel
theorem dX2_perform_178 : decode cX2_perform 178 = .ok (.invokevirtual 135, 3) := by decide +kernel
theorem dX2_perform_181 : decode cX2_perform 181 = .ok (.putfield 19, 3) := by decide +kernel
theorem dX2_perform_184 : decode cX2_perform 184 = .ok (.goto 124, 3) := by decide +kernel
theorem dX2_perform_187 : decode cX2_perform 187 = .ok (.aload_n 0, 1) := by decide +kernel
theorem dX2_perform_188 : decode cX2_perform 188 = .ok (.aload_n 0, 1) := by decide +kernel
theorem dX2_perform_189 : decode cX2_perform 189 = .ok (.getfield 39, 3) := by decide +kernel
theorem dX2_perform_192 : decode cX2_perform 192 = .ok (.bipush 9, 2) := by decide +kernel
theorem dX2_perform_194 : decode cX2_perform 194 = .ok (.iload_n 2, 1) := by decide +kernel
theorem dX2_perform_195 : decode cX2_perform 195 = .ok (.invokestatic 122, 3) := by decide +kernel
theorem dX2_perform_198 : decode cX2_perform 198 = .ok (.aload_n 0, 1) := by decide +kernel
theorem dX2_perform_199 : decode cX2_perform 199 = .ok (.getfield 22, 3) := by decide +kernel
theorem dX2_perform_202 : decode cX2_perform 202 = .ok (.invokevirtual 135, 3) := by decide +kernel
theorem dX2_perform_205 : decode cX2_perform 205 = .ok (.putfield 19, 3) := by decide +kernel
theorem dX2_perform_208 : decode cX2_perform 208 = .ok (.goto 100, 3) := by decide +kernel
theorem dX2_perform_211 : decode cX2_perform 211 = .ok (.iload_n 2, 1) := by decide +kernel
theorem dX2_perform_212 : decode cX2_perform 212 = .ok (.istore_n 3, 1) := by decide +kernel
theorem dX2_perform_213 : decode cX2_perform 213 = .ok (.goto 95, 3) := by decide +kernel
theorem dX2_perform_216 : decode cX2_perform 216 = .ok (.aload_n 0, 1) := by decide +kernel
theorem dX2_perform_217 : decode cX2_perform 217 = .ok (.invokevirtual 139, 3) := by decide +kernel
theorem dX2_perform_220 : decode cX2_perform 220 = .ok (.invokestatic 142, 3) := by decide +kernel
theorem dX2_perform_223 : decode cX2_perform 223 = .ok (.istore_n 3, 1) := by decide +kernel
theorem dX2_perform_224 : decode cX2_perform 224 = .ok (.aload_n 0, 1) := by decide +kernel
theorem dX2_perform_225 : decode cX2_perform 225 = .ok (.aload_n 0, 1) := by decide +kernel
theorem dX2_perform_226 : decode cX2_perform 226 = .ok (.invokevirtual 139, 3) := by decide +kernel
theorem dX2_perform_229 : decode cX2_perform 229 = .ok (.putfield 22, 3) := by decide +kernel
theorem dX2_perform_232 : decode cX2_perform 232 = .ok (.goto 76, 3) := by decide +kernel
theorem dX2_perform_235 : decode cX2_perform 235 = .ok (.aload_n 0, 1) := by decide +kernel
theorem dX2_perform_236 : decode cX2_perform 236 = .ok (.iload_n 3, 1) := by decide +kernel
theorem dX2_perform_237 : decode cX2_perform 237 = .ok (.invokevirtual 145, 3) := by decide +kernel
theorem dX2_perform_240 : decode cX2_perform 240 = .ok (.istore_n 3, 1) := by decide +kernel
theorem dX2_perform_241 : decode cX2_perform 241 = .ok (.goto 67, 3) := by decide +kernel
theorem dX2_perform_244 : decode cX2_perform 244 = .ok (.aload_n 0, 1) := by decide +kernel
theorem dX2_perform_245 : decode cX2_perform 245 = .ok (.aload_n 0, 1) := by decide +kernel
theorem dX2_perform_246 : decode cX2_perform 246 = .ok (.getfield 19, 3) := by decide +kernel
theorem dX2_perform_249 : decode cX2_perform 249 = .ok (.invokevirtual 148, 3) := by decide +kernel
theorem dX2_perform_252 : decode cX2_perform 252 = .ok (.goto 56, 3) := by decide +kernel
theorem dX2_perform_255 : decode cX2_perform 255 = .ok (.aload_n 0, 1) := by decide +kernel
theorem dX2_perform_256 : decode cX2_perform 256 = .ok (.aload_n 0, 1) := by decide +kernel
theorem dX2_perform_257 : decode cX2_perform 257 = .ok (.iload_n 2, 1) := by decide +kernel
theorem dX2_perform_258 : decode cX2_perform 258 = .ok (.invokevirtual 125, 3) := by decide +kernel
theorem dX2_perform_261 : decode cX2_perform 261 = .ok (.putfield 22, 3) := by decide +kernel
theorem dX2_perform_264 : decode cX2_perform 264 = .ok (.goto 44, 3) := by decide +kernel
theorem dX2_perform_267 : decode cX2_perform 267 = .ok (.aload_n 0, 1) := by decide +kernel
theorem dX2_perform_268 : decode cX2_perform 268 = .ok (.iload_n 2, 1) := by decide +kernel
theorem dX2_perform_269 : decode cX2_perform 269 = .ok (.invokestatic 151, 3) := by decide +kernel
theorem dX2_perform_272 : decode cX2_perform 272 = .ok (.putfield 19, 3) := by decide +kernel
theorem dX2_perform_275 : decode cX2_perform 275 = .ok (.goto 33, 3) := by decide +kernel
theorem dX2_perform_278 : decode cX2_perform 278 = .ok (.aload_n 0, 1) := by decide +kernel
theorem dX2_perform_279 : decode cX2_perform 279 = .ok (.iload_n 2, 1) := by decide +kernel
theorem dX2_perform_280 : decode cX2_perform 280 = .ok (.invokevirtual 154, 3) := by decide +kernel
theorem dX2_perform_283 : decode cX2_perform 283 = .ok (.goto 25, 3) := by decide +kernel
theorem dX2_perform_286 : decode cX2_perform 286 = .ok (.aload_n 0, 1) := by decide +kernel
theorem dX2_perform_287 : decode cX2_perform 287 = .ok (.iload_n 2, 1) := by decide +kernel
theorem dX2_perform_288 : decode cX2_perform 288 = .ok (.invokevirtual 89, 3) := by decide +kernel
theorem dX2_perform_291 : decode cX2_perform 291 = .ok (.istore_n 3, 1) := by decide +kernel
theorem dX2_perform_292 : decode cX2_perform 292 = .ok (.goto 16, 3) := by decide +kernel
theorem dX2_perform_295 : decode cX2_perform 295 = .ok (.aload_n 0, 1) := by decide +kernel
theorem dX2_perform_296 : decode cX2_perform 296 = .ok (.iload_n 2, 1) := by decide +kernel
theorem dX2_perform_297 : decode cX2_perform 297 = .ok (.invokevirtual 157, 3) := by decide +kernel
theorem dX2_perform_300 : decode cX2_perform 300 = .ok (.goto 8, 3) := by decide +kernel
theorem dX2_perform_303 : decode cX2_perform 303 = .ok (.aload_n 0, 1) := by decide +kernel
theorem dX2_perform_304 : decode cX2_perform 304 = .ok (.iload_n 1, 1) := by decide +kernel
theorem dX2_perform_305 : decode cX2_perform 305 = .ok (.invokevirtual 160, 3) := by decide +kernel
theorem dX2_perform_308 : decode cX2_perform 308 = .ok (.aload_n 0, 1) := by decide +kernel
theorem dX2_perform_309 : decode cX2_perform 309 = .ok (.iload_n 3, 1) := by decide +kernel
theorem dX2_perform_310 : decode cX2_perform 310 = .ok (.putfield 25, 3) := by decide +kernel
theorem dX2_perform_313 : decode cX2_perform 313 = .ok (.return_, 1) := by decide +kernel
theorem dX2_operate_0 : decode cX2_operate 0 = .ok (.aload_n 0, 1) := by decide +kernel
theorem dX2_operate_1 : decode cX2_operate 1 = .ok (.invokevirtual 139, 3) := by decide +kernel
theorem dX2_operate_4 : decode cX2_operate 4 = .ok (.invokestatic 142, 3) := by decide +kernel
theorem dX2_operate_7 : decode cX2_operate 7 = .ok (.istore_n 2, 1) := by decide +kernel
theorem dX2_operate_8 : decode cX2_operate 8 = .ok (.aload_n 0, 1) := by decide +kernel
theorem dX2_operate_9 : decode cX2_operate 9 = .ok (.getfield 19, 3) := by decide +kernel
theorem dX2_operate_12 : decode cX2_operate 12 = .ok (.invokestatic 142, 3) := by decide +kernel
theorem dX2_operate_15 : decode cX2_operate 15 = .ok (.istore_n 3, 1) := by decide +kernel
theorem dX2_operate_16 : decode cX2_operate 16 = .ok (.iload_n 1, 1) := by decide +kernel
theorem dX2_operate_17 : decode cX2_operate 17 = .ok (.tableswitch 90 4 7 #[31, 44, 57, 70], 31) := by decide +kernel
theorem dX2_operate_48 : decode cX2_operate 48 = .ok (.aload_n 0, 1) := by decide +kernel
theorem dX2_operate_49 : decode cX2_operate 49 = .ok (.iload_n 2, 1) := by decide +kernel
theorem dX2_operate_50 : decode cX2_operate 50 = .ok (.iload_n 3, 1) := by decide +kernel
theorem dX2_operate_51 : decode cX2_operate 51 = .ok (.iadd, 1) := by decide +kernel
theorem dX2_operate_52 : decode cX2_operate 52 = .ok (.invokestatic 122, 3) := by decide +kernel
theorem dX2_operate_55 : decode cX2_operate 55 = .ok (.putfield 19, 3) := by decide +kernel
theorem dX2_operate_58 : decode cX2_operate 58 = .ok (.goto 66, 3) := by decide +kernel
theorem dX2_operate_61 : decode cX2_operate 61 = .ok (.aload_n 0, 1) := by decide +kernel
theorem dX2_operate_62 : decode cX2_operate 62 = .ok (.iload_n 2, 1) := by decide +kernel
theorem dX2_operate_63 : decode cX2_operate 63 = .ok (.iload_n 3, 1) := by decide +kernel
theorem dX2_operate_64 : decode cX2_operate 64 = .ok (.isub, 1) := by decide +kernel
theorem dX2_operate_65 : decode cX2_operate 65 = .ok (.invokestatic 122, 3) := by decide +kernel
theorem dX2_operate_68 : decode cX2_operate 68 = .ok (.putfield 19, 3) := by decide +kernel
theorem dX2_operate_71 : decode cX2_operate 71 = .ok (.goto 53, 3) := by decide +kernel
theorem dX2_operate_74 : decode cX2_operate 74 = .ok (.aload_n 0, 1) := by decide +kernel
theorem dX2_operate_75 : decode cX2_operate 75 = .ok (.iload_n 2, 1) := by decide +kernel
theorem dX2_operate_76 : decode cX2_operate 76 = .ok (.iload_n 3, 1) := by decide +kernel
theorem dX2_operate_77 : decode cX2_operate 77 = .ok (.imul, 1) := by decide +kernel
theorem dX2_operate_78 : decode cX2_operate 78 = .ok (.invokestatic 122, 3) := by decide +kernel
theorem dX2_operate_81 : decode cX2_operate 81 = .ok (.putfield 19, 3) := by decide +kernel
theorem dX2_operate_84 : decode cX2_operate 84 = .ok (.goto 40, 3) := by decide +kernel
theorem dX2_operate_87 : decode cX2_operate 87 = .ok (.aload_n 0, 1) := by decide +kernel
theorem dX2_operate_88 : decode cX2_operate 88 = .ok (.iload_n 2, 1) := by decide +kernel
theorem dX2_operate_89 : decode cX2_operate 89 = .ok (.iload_n 3, 1) := by decide +kernel
theorem dX2_operate_90 : decode cX2_operate 90 = .ok (.if_icmp .ge 7, 3) := by decide +kernel
theorem dX2_operate_93 : decode cX2_operate 93 = .ok (.iconst 1, 1) := by decide +kernel
theorem dX2_operate_94 : decode cX2_operate 94 = .ok (.goto 4, 3) := by decide +kernel
theorem dX2_operate_97 : decode cX2_operate 97 = .ok (.iconst 0, 1) := by decide +kernel
theorem dX2_operate_98 : decode cX2_operate 98 = .ok (.invokestatic 163, 3) := by decide +kernel
theorem dX2_operate_101 : decode cX2_operate 101 = .ok (.putfield 19, 3) := by decide +kernel
theorem dX2_operate_104 : decode cX2_operate 104 = .ok (.goto 20, 3) := by decide +kernel
theorem dX2_operate_107 : decode cX2_operate 107 = .ok (.aload_n 0, 1) := by decide +kernel
theorem dX2_operate_108 : decode cX2_operate 108 = .ok (.iload_n 2, 1) := by decide +kernel
theorem dX2_operate_109 : decode cX2_operate 109 = .ok (.iload_n 3, 1) := by decide +kernel
theorem dX2_operate_110 : decode cX2_operate 110 = .ok (.if_icmp .ne 7, 3) := by decide +kernel
theorem dX2_operate_113 : decode cX2_operate 113 = .ok (.iconst 1, 1) := by decide +kernel
theorem dX2_operate_114 : decode cX2_operate 114 = .ok (.goto 4, 3) := by decide +kernel
theorem dX2_operate_117 : decode cX2_operate 117 = .ok (.iconst 0, 1) := by decide +kernel
theorem dX2_operate_118 : decode cX2_operate 118 = .ok (.invokestatic 163, 3) := by decide +kernel
theorem dX2_operate_121 : decode cX2_operate 121 = .ok (.putfield 19, 3) := by decide +kernel
theorem dX2_operate_124 : decode cX2_operate 124 = .ok (.return_, 1) := by decide +kernel
theorem dX2_wordOfTruth_0 : decode cX2_wordOfTruth 0 = .ok (.iload_n 0, 1) := by decide +kernel
theorem dX2_wordOfTruth_1 : decode cX2_wordOfTruth 1 = .ok (.ifCond .eq 7, 3) := by decide +kernel
theorem dX2_wordOfTruth_4 : decode cX2_wordOfTruth 4 = .ok (.iconst 4, 1) := by decide +kernel
theorem dX2_wordOfTruth_5 : decode cX2_wordOfTruth 5 = .ok (.goto 4, 3) := by decide +kernel
theorem dX2_wordOfTruth_8 : decode cX2_wordOfTruth 8 = .ok (.iconst 0, 1) := by decide +kernel
theorem dX2_wordOfTruth_9 : decode cX2_wordOfTruth 9 = .ok (.invokestatic 151, 3) := by decide +kernel
theorem dX2_wordOfTruth_12 : decode cX2_wordOfTruth 12 = .ok (.ireturn, 1) := by decide +kernel
theorem dX2_enterFunction_0 : decode cX2_enterFunction 0 = .ok (.aload_n 0, 1) := by decide +kernel
theorem dX2_enterFunction_1 : decode cX2_enterFunction 1 = .ok (.invokevirtual 139, 3) := by decide +kernel
theorem dX2_enterFunction_4 : decode cX2_enterFunction 4 = .ok (.istore_n 2, 1) := by decide +kernel
theorem dX2_enterFunction_5 : decode cX2_enterFunction 5 = .ok (.aload_n 0, 1) := by decide +kernel
theorem dX2_enterFunction_6 : decode cX2_enterFunction 6 = .ok (.aload_n 0, 1) := by decide +kernel
theorem dX2_enterFunction_7 : decode cX2_enterFunction 7 = .ok (.getfield 22, 3) := by decide +kernel
theorem dX2_enterFunction_10 : decode cX2_enterFunction 10 = .ok (.invokevirtual 131, 3) := by decide +kernel
theorem dX2_enterFunction_13 : decode cX2_enterFunction 13 = .ok (.aload_n 0, 1) := by decide +kernel
theorem dX2_enterFunction_14 : decode cX2_enterFunction 14 = .ok (.iload_n 1, 1) := by decide +kernel
theorem dX2_enterFunction_15 : decode cX2_enterFunction 15 = .ok (.invokestatic 122, 3) := by decide +kernel
theorem dX2_enterFunction_18 : decode cX2_enterFunction 18 = .ok (.invokevirtual 131, 3) := by decide +kernel
theorem dX2_enterFunction_21 : decode cX2_enterFunction 21 = .ok (.aload_n 0, 1) := by decide +kernel
theorem dX2_enterFunction_22 : decode cX2_enterFunction 22 = .ok (.aload_n 0, 1) := by decide +kernel
theorem dX2_enterFunction_23 : decode cX2_enterFunction 23 = .ok (.getfield 39, 3) := by decide +kernel
theorem dX2_enterFunction_26 : decode cX2_enterFunction 26 = .ok (.aload_n 0, 1) := by decide +kernel
theorem dX2_enterFunction_27 : decode cX2_enterFunction 27 = .ok (.getfield 19, 3) := by decide +kernel
theorem dX2_enterFunction_30 : decode cX2_enterFunction 30 = .ok (.iconst 2, 1) := by decide +kernel
theorem dX2_enterFunction_31 : decode cX2_enterFunction 31 = .ok (.invokevirtual 128, 3) := by decide +kernel
theorem dX2_enterFunction_34 : decode cX2_enterFunction 34 = .ok (.putfield 22, 3) := by decide +kernel
theorem dX2_enterFunction_37 : decode cX2_enterFunction 37 = .ok (.aload_n 0, 1) := by decide +kernel
theorem dX2_enterFunction_38 : decode cX2_enterFunction 38 = .ok (.getfield 39, 3) := by decide +kernel
theorem dX2_enterFunction_41 : decode cX2_enterFunction 41 = .ok (.aload_n 0, 1) := by decide +kernel
theorem dX2_enterFunction_42 : decode cX2_enterFunction 42 = .ok (.getfield 19, 3) := by decide +kernel
theorem dX2_enterFunction_45 : decode cX2_enterFunction 45 = .ok (.invokevirtual 101, 3) := by decide +kernel
theorem dX2_enterFunction_48 : decode cX2_enterFunction 48 = .ok (.bipush 9, 2) := by decide +kernel
theorem dX2_enterFunction_50 : decode cX2_enterFunction 50 = .ok (.if_icmp .ne 11, 3) := by decide +kernel
theorem dX2_enterFunction_53 : decode cX2_enterFunction 53 = .ok (.aload_n 0, 1) := by decide +kernel
theorem dX2_enterFunction_54 : decode cX2_enterFunction 54 = .ok (.aload_n 0, 1) := by decide +kernel
theorem dX2_enterFunction_55 : decode cX2_enterFunction 55 = .ok (.getfield 19, 3) := by decide +kernel
theorem dX2_enterFunction_58 : decode cX2_enterFunction 58 = .ok (.invokevirtual 148, 3) := by decide +kernel
theorem dX2_enterFunction_61 : decode cX2_enterFunction 61 = .ok (.aload_n 0, 1) := by decide +kernel
theorem dX2_enterFunction_62 : decode cX2_enterFunction 62 = .ok (.iload_n 2, 1) := by decide +kernel
theorem dX2_enterFunction_63 : decode cX2_enterFunction 63 = .ok (.invokevirtual 148, 3) := by decide +kernel
theorem dX2_enterFunction_66 : decode cX2_enterFunction 66 = .ok (.aload_n 0, 1) := by decide +kernel
theorem dX2_enterFunction_67 : decode cX2_enterFunction 67 = .ok (.getfield 39, 3) := by decide +kernel
theorem dX2_enterFunction_70 : decode cX2_enterFunction 70 = .ok (.aload_n 0, 1) := by decide +kernel
theorem dX2_enterFunction_71 : decode cX2_enterFunction 71 = .ok (.getfield 19, 3) := by decide +kernel
theorem dX2_enterFunction_74 : decode cX2_enterFunction 74 = .ok (.iconst 1, 1) := by decide +kernel
theorem dX2_enterFunction_75 : decode cX2_enterFunction 75 = .ok (.invokevirtual 128, 3) := by decide +kernel
theorem dX2_enterFunction_78 : decode cX2_enterFunction 78 = .ok (.invokestatic 142, 3) := by decide +kernel
theorem dX2_enterFunction_81 : decode cX2_enterFunction 81 = .ok (.ireturn, 1) := by decide +kernel
theorem dX2_bind_0 : decode cX2_bind 0 = .ok (.aload_n 0, 1) := by decide +kernel
theorem dX2_bind_1 : decode cX2_bind 1 = .ok (.aload_n 0, 1) := by decide +kernel
theorem dX2_bind_2 : decode cX2_bind 2 = .ok (.getfield 39, 3) := by decide +kernel
theorem dX2_bind_5 : decode cX2_bind 5 = .ok (.bipush 10, 2) := by decide +kernel
theorem dX2_bind_7 : decode cX2_bind 7 = .ok (.iload_n 1, 1) := by decide +kernel
theorem dX2_bind_8 : decode cX2_bind 8 = .ok (.aload_n 0, 1) := by decide +kernel
theorem dX2_bind_9 : decode cX2_bind 9 = .ok (.getfield 22, 3) := by decide +kernel
theorem dX2_bind_12 : decode cX2_bind 12 = .ok (.invokevirtual 135, 3) := by decide +kernel
theorem dX2_bind_15 : decode cX2_bind 15 = .ok (.putfield 22, 3) := by decide +kernel
theorem dX2_bind_18 : decode cX2_bind 18 = .ok (.return_, 1) := by decide +kernel
theorem dX2_make_0 : decode cX2_make 0 = .ok (.iload_n 1, 1) := by decide +kernel
theorem dX2_make_1 : decode cX2_make 1 = .ok (.invokestatic 98, 3) := by decide +kernel
theorem dX2_make_4 : decode cX2_make 4 = .ok (.istore_n 2, 1) := by decide +kernel
theorem dX2_make_5 : decode cX2_make 5 = .ok (.iconst 0, 1) := by decide +kernel
theorem dX2_make_6 : decode cX2_make 6 = .ok (.aload_n 0, 1) := by decide +kernel
theorem dX2_make_7 : decode cX2_make 7 = .ok (.getfield 15, 3) := by decide +kernel
theorem dX2_make_10 : decode cX2_make 10 = .ok (.iload_n 2, 1) := by decide +kernel
theorem dX2_make_11 : decode cX2_make 11 = .ok (.iconst 1, 1) := by decide +kernel
theorem dX2_make_12 : decode cX2_make 12 = .ok (.isub, 1) := by decide +kernel
theorem dX2_make_13 : decode cX2_make 13 = .ok (.isub, 1) := by decide +kernel
theorem dX2_make_14 : decode cX2_make 14 = .ok (.invokestatic 167, 3) := by decide +kernel
theorem dX2_make_17 : decode cX2_make 17 = .ok (.istore_n 3, 1) := by decide +kernel
theorem dX2_make_18 : decode cX2_make 18 = .ok (.aload_n 0, 1) := by decide +kernel
theorem dX2_make_19 : decode cX2_make 19 = .ok (.getfield 39, 3) := by decide +kernel
theorem dX2_make_22 : decode cX2_make 22 = .ok (.iload_n 1, 1) := by decide +kernel
theorem dX2_make_23 : decode cX2_make 23 = .ok (.iload_n 2, 1) := by decide +kernel
theorem dX2_make_24 : decode cX2_make 24 = .ok (.invokevirtual 172, 3) := by decide +kernel
theorem dX2_make_27 : decode cX2_make 27 = .ok (.istore 4, 2) := by decide +kernel
theorem dX2_make_29 : decode cX2_make 29 = .ok (.iload_n 3, 1) := by decide +kernel
theorem dX2_make_30 : decode cX2_make 30 = .ok (.istore 5, 2) := by decide +kernel
theorem dX2_make_32 : decode cX2_make 32 = .ok (.iload 5, 2) := by decide +kernel
theorem dX2_make_34 : decode cX2_make 34 = .ok (.aload_n 0, 1) := by decide +kernel
theorem dX2_make_35 : decode cX2_make 35 = .ok (.getfield 15, 3) := by decide +kernel
theorem dX2_make_38 : decode cX2_make 38 = .ok (.if_icmp .ge 33, 3) := by decide +kernel
theorem dX2_make_41 : decode cX2_make 41 = .ok (.iload 5, 2) := by decide +kernel
theorem dX2_make_43 : decode cX2_make 43 = .ok (.aload_n 0, 1) := by decide +kernel
theorem dX2_make_44 : decode cX2_make 44 = .ok (.getfield 9, 3) := by decide +kernel
theorem dX2_make_47 : decode cX2_make 47 = .ok (.arraylength, 1) := by decide +kernel
theorem dX2_make_48 : decode cX2_make 48 = .ok (.if_icmp .ge 23, 3) := by decide +kernel
theorem dX2_make_51 : decode cX2_make 51 = .ok (.aload_n 0, 1) := by decide +kernel
theorem dX2_make_52 : decode cX2_make 52 = .ok (.getfield 39, 3) := by decide +kernel
theorem dX2_make_55 : decode cX2_make 55 = .ok (.aload_n 0, 1) := by decide +kernel
theorem dX2_make_56 : decode cX2_make 56 = .ok (.getfield 9, 3) := by decide +kernel
theorem dX2_make_59 : decode cX2_make 59 = .ok (.iload 5, 2) := by decide +kernel
theorem dX2_make_61 : decode cX2_make 61 = .ok (.iaload, 1) := by decide +kernel
theorem dX2_make_62 : decode cX2_make 62 = .ok (.invokevirtual 175, 3) := by decide +kernel
theorem dX2_make_65 : decode cX2_make 65 = .ok (.iinc 5 1, 3) := by decide +kernel
theorem dX2_make_68 : decode cX2_make 68 = .ok (.goto (-36), 3) := by decide +kernel
theorem dX2_make_71 : decode cX2_make 71 = .ok (.aload_n 0, 1) := by decide +kernel
theorem dX2_make_72 : decode cX2_make 72 = .ok (.getfield 39, 3) := by decide +kernel
theorem dX2_make_75 : decode cX2_make 75 = .ok (.aload_n 0, 1) := by decide +kernel
theorem dX2_make_76 : decode cX2_make 76 = .ok (.getfield 19, 3) := by decide +kernel
theorem dX2_make_79 : decode cX2_make 79 = .ok (.invokevirtual 175, 3) := by decide +kernel
theorem dX2_make_82 : decode cX2_make 82 = .ok (.aload_n 0, 1) := by decide +kernel
theorem dX2_make_83 : decode cX2_make 83 = .ok (.iload_n 3, 1) := by decide +kernel
theorem dX2_make_84 : decode cX2_make 84 = .ok (.putfield 15, 3) := by decide +kernel
theorem dX2_make_87 : decode cX2_make 87 = .ok (.aload_n 0, 1) := by decide +kernel
theorem dX2_make_88 : decode cX2_make 88 = .ok (.iload 4, 2) := by decide +kernel
theorem dX2_make_90 : decode cX2_make 90 = .ok (.putfield 19, 3) := by decide +kernel
theorem dX2_make_93 : decode cX2_make 93 = .ok (.return_, 1) := by decide +kernel
theorem dX2_open_0 : decode cX2_open 0 = .ok (.iconst 1, 1) := by decide +kernel
theorem dX2_open_1 : decode cX2_open 1 = .ok (.istore_n 2, 1) := by decide +kernel
theorem dX2_open_2 : decode cX2_open 2 = .ok (.iload_n 2, 1) := by decide +kernel
theorem dX2_open_3 : decode cX2_open 3 = .ok (.iload_n 1, 1) := by decide +kernel
theorem dX2_open_4 : decode cX2_open 4 = .ok (.if_icmp .gt 25, 3) := by decide +kernel
theorem dX2_open_7 : decode cX2_open 7 = .ok (.aload_n 0, 1) := by decide +kernel
theorem dX2_open_8 : decode cX2_open 8 = .ok (.aload_n 0, 1) := by decide +kernel
theorem dX2_open_9 : decode cX2_open 9 = .ok (.getfield 39, 3) := by decide +kernel
theorem dX2_open_12 : decode cX2_open 12 = .ok (.aload_n 0, 1) := by decide +kernel
theorem dX2_open_13 : decode cX2_open 13 = .ok (.getfield 19, 3) := by decide +kernel
theorem dX2_open_16 : decode cX2_open 16 = .ok (.iload_n 2, 1) := by decide +kernel
theorem dX2_open_17 : decode cX2_open 17 = .ok (.invokevirtual 128, 3) := by decide +kernel
theorem dX2_open_20 : decode cX2_open 20 = .ok (.invokevirtual 148, 3) := by decide +kernel
theorem dX2_open_23 : decode cX2_open 23 = .ok (.iinc 2 1, 3) := by decide +kernel
theorem dX2_open_26 : decode cX2_open 26 = .ok (.goto (-24), 3) := by decide +kernel
theorem dX2_open_29 : decode cX2_open 29 = .ok (.return_, 1) := by decide +kernel
theorem dX2_furtherOn_0 : decode cX2_furtherOn 0 = .ok (.aload_n 0, 1) := by decide +kernel
theorem dX2_furtherOn_1 : decode cX2_furtherOn 1 = .ok (.getfield 22, 3) := by decide +kernel
theorem dX2_furtherOn_4 : decode cX2_furtherOn 4 = .ok (.istore_n 2, 1) := by decide +kernel
theorem dX2_furtherOn_5 : decode cX2_furtherOn 5 = .ok (.iconst 0, 1) := by decide +kernel
theorem dX2_furtherOn_6 : decode cX2_furtherOn 6 = .ok (.istore_n 3, 1) := by decide +kernel
theorem dX2_furtherOn_7 : decode cX2_furtherOn 7 = .ok (.iload_n 3, 1) := by decide +kernel
theorem dX2_furtherOn_8 : decode cX2_furtherOn 8 = .ok (.iload_n 1, 1) := by decide +kernel
theorem dX2_furtherOn_9 : decode cX2_furtherOn 9 = .ok (.if_icmp .ge 19, 3) := by decide +kernel
theorem dX2_furtherOn_12 : decode cX2_furtherOn 12 = .ok (.aload_n 0, 1) := by decide +kernel
theorem dX2_furtherOn_13 : decode cX2_furtherOn 13 = .ok (.getfield 39, 3) := by decide +kernel
theorem dX2_furtherOn_16 : decode cX2_furtherOn 16 = .ok (.iload_n 2, 1) := by decide +kernel
theorem dX2_furtherOn_17 : decode cX2_furtherOn 17 = .ok (.iconst 2, 1) := by decide +kernel
theorem dX2_furtherOn_18 : decode cX2_furtherOn 18 = .ok (.invokevirtual 128, 3) := by decide +kernel
theorem dX2_furtherOn_21 : decode cX2_furtherOn 21 = .ok (.istore_n 2, 1) := by decide +kernel
theorem dX2_furtherOn_22 : decode cX2_furtherOn 22 = .ok (.iinc 3 1, 3) := by decide +kernel
theorem dX2_furtherOn_25 : decode cX2_furtherOn 25 = .ok (.goto (-18), 3) := by decide +kernel
theorem dX2_furtherOn_28 : decode cX2_furtherOn 28 = .ok (.iload_n 2, 1) := by decide +kernel
theorem dX2_furtherOn_29 : decode cX2_furtherOn 29 = .ok (.ireturn, 1) := by decide +kernel
theorem dX2_placeOfCase_0 : decode cX2_placeOfCase 0 = .ok (.aload_n 0, 1) := by decide +kernel
theorem dX2_placeOfCase_1 : decode cX2_placeOfCase 1 = .ok (.getfield 39, 3) := by decide +kernel
theorem dX2_placeOfCase_4 : decode cX2_placeOfCase 4 = .ok (.aload_n 0, 1) := by decide +kernel
theorem dX2_placeOfCase_5 : decode cX2_placeOfCase 5 = .ok (.getfield 19, 3) := by decide +kernel
theorem dX2_placeOfCase_8 : decode cX2_placeOfCase 8 = .ok (.invokevirtual 178, 3) := by decide +kernel
theorem dX2_placeOfCase_11 : decode cX2_placeOfCase 11 = .ok (.istore_n 2, 1) := by decide +kernel
theorem dX2_placeOfCase_12 : decode cX2_placeOfCase 12 = .ok (.iconst 1, 1) := by decide +kernel
theorem dX2_placeOfCase_13 : decode cX2_placeOfCase 13 = .ok (.istore_n 3, 1) := by decide +kernel
theorem dX2_placeOfCase_14 : decode cX2_placeOfCase 14 = .ok (.iload_n 3, 1) := by decide +kernel
theorem dX2_placeOfCase_15 : decode cX2_placeOfCase 15 = .ok (.iload_n 1, 1) := by decide +kernel
theorem dX2_placeOfCase_16 : decode cX2_placeOfCase 16 = .ok (.if_icmp .gt 47, 3) := by decide +kernel
theorem dX2_placeOfCase_19 : decode cX2_placeOfCase 19 = .ok (.iload_n 2, 1) := by decide +kernel
theorem dX2_placeOfCase_20 : decode cX2_placeOfCase 20 = .ok (.iconst (-1), 1) := by decide +kernel
theorem dX2_placeOfCase_21 : decode cX2_placeOfCase 21 = .ok (.if_icmp .eq 42, 3) := by decide +kernel
theorem dX2_placeOfCase_24 : decode cX2_placeOfCase 24 = .ok (.aload_n 0, 1) := by decide +kernel
theorem dX2_placeOfCase_25 : decode cX2_placeOfCase 25 = .ok (.getfield 35, 3) := by decide +kernel
theorem dX2_placeOfCase_28 : decode cX2_placeOfCase 28 = .ok (.aload_n 0, 1) := by decide +kernel
theorem dX2_placeOfCase_29 : decode cX2_placeOfCase 29 = .ok (.getfield 25, 3) := by decide +kernel
theorem dX2_placeOfCase_32 : decode cX2_placeOfCase 32 = .ok (.iload_n 3, 1) := by decide +kernel
theorem dX2_placeOfCase_33 : decode cX2_placeOfCase 33 = .ok (.iadd, 1) := by decide +kernel
theorem dX2_placeOfCase_34 : decode cX2_placeOfCase 34 = .ok (.iconst 1, 1) := by decide +kernel
theorem dX2_placeOfCase_35 : decode cX2_placeOfCase 35 = .ok (.invokevirtual 53, 3) := by decide +kernel
theorem dX2_placeOfCase_38 : decode cX2_placeOfCase 38 = .ok (.iload_n 2, 1) := by decide +kernel
theorem dX2_placeOfCase_39 : decode cX2_placeOfCase 39 = .ok (.if_icmp .ne 18, 3) := by decide +kernel
theorem dX2_placeOfCase_42 : decode cX2_placeOfCase 42 = .ok (.aload_n 0, 1) := by decide +kernel
theorem dX2_placeOfCase_43 : decode cX2_placeOfCase 43 = .ok (.getfield 35, 3) := by decide +kernel
theorem dX2_placeOfCase_46 : decode cX2_placeOfCase 46 = .ok (.aload_n 0, 1) := by decide +kernel
theorem dX2_placeOfCase_47 : decode cX2_placeOfCase 47 = .ok (.getfield 25, 3) := by decide +kernel
theorem dX2_placeOfCase_50 : decode cX2_placeOfCase 50 = .ok (.iload_n 3, 1) := by decide +kernel
theorem dX2_placeOfCase_51 : decode cX2_placeOfCase 51 = .ok (.iadd, 1) := by decide +kernel
theorem dX2_placeOfCase_52 : decode cX2_placeOfCase 52 = .ok (.iconst 2, 1) := by decide +kernel
theorem dX2_placeOfCase_53 : decode cX2_placeOfCase 53 = .ok (.invokevirtual 53, 3) := by decide +kernel
theorem dX2_placeOfCase_56 : decode cX2_placeOfCase 56 = .ok (.ireturn, 1) := by decide +kernel
theorem dX2_placeOfCase_57 : decode cX2_placeOfCase 57 = .ok (.iinc 3 1, 3) := by decide +kernel
theorem dX2_placeOfCase_60 : decode cX2_placeOfCase 60 = .ok (.goto (-46), 3) := by decide +kernel
theorem dX2_placeOfCase_63 : decode cX2_placeOfCase 63 = .ok (.iconst (-1), 1) := by decide +kernel
theorem dX2_placeOfCase_64 : decode cX2_placeOfCase 64 = .ok (.ireturn, 1) := by decide +kernel
theorem dX2_top_0 : decode cX2_top 0 = .ok (.aload_n 0, 1) := by decide +kernel
theorem dX2_top_1 : decode cX2_top 1 = .ok (.getfield 15, 3) := by decide +kernel
theorem dX2_top_4 : decode cX2_top 4 = .ok (.ifCond .le 29, 3) := by decide +kernel
theorem dX2_top_7 : decode cX2_top 7 = .ok (.aload_n 0, 1) := by decide +kernel
theorem dX2_top_8 : decode cX2_top 8 = .ok (.getfield 15, 3) := by decide +kernel
theorem dX2_top_11 : decode cX2_top 11 = .ok (.aload_n 0, 1) := by decide +kernel
theorem dX2_top_12 : decode cX2_top 12 = .ok (.getfield 9, 3) := by decide +kernel
theorem dX2_top_15 : decode cX2_top 15 = .ok (.arraylength, 1) := by decide +kernel
theorem dX2_top_16 : decode cX2_top 16 = .ok (.if_icmp .gt 17, 3) := by decide +kernel
theorem dX2_top_19 : decode cX2_top 19 = .ok (.aload_n 0, 1) := by decide +kernel
theorem dX2_top_20 : decode cX2_top 20 = .ok (.getfield 9, 3) := by decide +kernel
theorem dX2_top_23 : decode cX2_top 23 = .ok (.aload_n 0, 1) := by decide +kernel
theorem dX2_top_24 : decode cX2_top 24 = .ok (.getfield 15, 3) := by decide +kernel
theorem dX2_top_27 : decode cX2_top 27 = .ok (.iconst 1, 1) := by decide +kernel
theorem dX2_top_28 : decode cX2_top 28 = .ok (.isub, 1) := by decide +kernel
theorem dX2_top_29 : decode cX2_top 29 = .ok (.iaload, 1) := by decide +kernel
theorem dX2_top_30 : decode cX2_top 30 = .ok (.goto 5, 3) := by decide +kernel
theorem dX2_top_33 : decode cX2_top 33 = .ok (.bipush (-4), 2) := by decide +kernel
theorem dX2_top_35 : decode cX2_top 35 = .ok (.ireturn, 1) := by decide +kernel
theorem dX2_pop_0 : decode cX2_pop 0 = .ok (.aload_n 0, 1) := by decide +kernel
theorem dX2_pop_1 : decode cX2_pop 1 = .ok (.invokevirtual 82, 3) := by decide +kernel
theorem dX2_pop_4 : decode cX2_pop 4 = .ok (.istore_n 1, 1) := by decide +kernel
theorem dX2_pop_5 : decode cX2_pop 5 = .ok (.aload_n 0, 1) := by decide +kernel
theorem dX2_pop_6 : decode cX2_pop 6 = .ok (.iconst 0, 1) := by decide +kernel
theorem dX2_pop_7 : decode cX2_pop 7 = .ok (.aload_n 0, 1) := by decide +kernel
theorem dX2_pop_8 : decode cX2_pop 8 = .ok (.getfield 15, 3) := by decide +kernel
theorem dX2_pop_11 : decode cX2_pop 11 = .ok (.iconst 1, 1) := by decide +kernel
theorem dX2_pop_12 : decode cX2_pop 12 = .ok (.isub, 1) := by decide +kernel
theorem dX2_pop_13 : decode cX2_pop 13 = .ok (.invokestatic 167, 3) := by decide +kernel
theorem dX2_pop_16 : decode cX2_pop 16 = .ok (.putfield 15, 3) := by decide +kernel
theorem dX2_pop_19 : decode cX2_pop 19 = .ok (.iload_n 1, 1) := by decide +kernel
theorem dX2_pop_20 : decode cX2_pop 20 = .ok (.ireturn, 1) := by decide +kernel
theorem dX2_push_0 : decode cX2_push 0 = .ok (.aload_n 0, 1) := by decide +kernel
theorem dX2_push_1 : decode cX2_push 1 = .ok (.getfield 15, 3) := by decide +kernel
theorem dX2_push_4 : decode cX2_push 4 = .ok (.ifCond .lt 35, 3) := by decide +kernel
theorem dX2_push_7 : decode cX2_push 7 = .ok (.aload_n 0, 1) := by decide +kernel
theorem dX2_push_8 : decode cX2_push 8 = .ok (.getfield 15, 3) := by decide +kernel
theorem dX2_push_11 : decode cX2_push 11 = .ok (.aload_n 0, 1) := by decide +kernel
theorem dX2_push_12 : decode cX2_push 12 = .ok (.getfield 9, 3) := by decide +kernel
theorem dX2_push_15 : decode cX2_push 15 = .ok (.arraylength, 1) := by decide +kernel
theorem dX2_push_16 : decode cX2_push 16 = .ok (.if_icmp .ge 23, 3) := by decide +kernel
theorem dX2_push_19 : decode cX2_push 19 = .ok (.aload_n 0, 1) := by decide +kernel
theorem dX2_push_20 : decode cX2_push 20 = .ok (.getfield 9, 3) := by decide +kernel
theorem dX2_push_23 : decode cX2_push 23 = .ok (.aload_n 0, 1) := by decide +kernel
theorem dX2_push_24 : decode cX2_push 24 = .ok (.getfield 15, 3) := by decide +kernel
theorem dX2_push_27 : decode cX2_push 27 = .ok (.iload_n 1, 1) := by decide +kernel
theorem dX2_push_28 : decode cX2_push 28 = .ok (.iastore, 1) := by decide +kernel
theorem dX2_push_29 : decode cX2_push 29 = .ok (.aload_n 0, 1) := by decide +kernel
theorem dX2_push_30 : decode cX2_push 30 = .ok (.dup, 1) := by decide +kernel
theorem dX2_push_31 : decode cX2_push 31 = .ok (.getfield 15, 3) := by decide +kernel
theorem dX2_push_34 : decode cX2_push 34 = .ok (.iconst 1, 1) := by decide +kernel
theorem dX2_push_35 : decode cX2_push 35 = .ok (.iadd, 1) := by decide +kernel
theorem dX2_push_36 : decode cX2_push 36 = .ok (.putfield 15, 3) := by decide +kernel
theorem dX2_push_39 : decode cX2_push 39 = .ok (.return_, 1) := by decide +kernel
theorem dX2_wordAt_0 : decode cX2_wordAt 0 = .ok (.aload_n 0, 1) := by decide +kernel
theorem dX2_wordAt_1 : decode cX2_wordAt 1 = .ok (.getfield 19, 3) := by decide +kernel
theorem dX2_wordAt_4 : decode cX2_wordAt 4 = .ok (.istore_n 2, 1) := by decide +kernel
theorem dX2_wordAt_5 : decode cX2_wordAt 5 = .ok (.iload_n 1, 1) := by decide +kernel
theorem dX2_wordAt_6 : decode cX2_wordAt 6 = .ok (.istore_n 3, 1) := by decide +kernel
theorem dX2_wordAt_7 : decode cX2_wordAt 7 = .ok (.iconst 0, 1) := by decide +kernel
theorem dX2_wordAt_8 : decode cX2_wordAt 8 = .ok (.istore 4, 2) := by decide +kernel
theorem dX2_wordAt_10 : decode cX2_wordAt 10 = .ok (.iload 4, 2) := by decide +kernel
theorem dX2_wordAt_12 : decode cX2_wordAt 12 = .ok (.bipush 16, 2) := by decide +kernel
theorem dX2_wordAt_14 : decode cX2_wordAt 14 = .ok (.if_icmp .ge 46, 3) := by decide +kernel
theorem dX2_wordAt_17 : decode cX2_wordAt 17 = .ok (.iload_n 3, 1) := by decide +kernel
theorem dX2_wordAt_18 : decode cX2_wordAt 18 = .ok (.iconst 3, 1) := by decide +kernel
theorem dX2_wordAt_19 : decode cX2_wordAt 19 = .ok (.iand, 1) := by decide +kernel
theorem dX2_wordAt_20 : decode cX2_wordAt 20 = .ok (.ifCond .eq 40, 3) := by decide +kernel
theorem dX2_wordAt_23 : decode cX2_wordAt 23 = .ok (.aload_n 0, 1) := by decide +kernel
theorem dX2_wordAt_24 : decode cX2_wordAt 24 = .ok (.getfield 39, 3) := by decide +kernel
theorem dX2_wordAt_27 : decode cX2_wordAt 27 = .ok (.iload_n 2, 1) := by decide +kernel
theorem dX2_wordAt_28 : decode cX2_wordAt 28 = .ok (.invokevirtual 178, 3) := by decide +kernel
theorem dX2_wordAt_31 : decode cX2_wordAt 31 = .ok (.iconst (-1), 1) := by decide +kernel
theorem dX2_wordAt_32 : decode cX2_wordAt 32 = .ok (.if_icmp .ne 6, 3) := by decide +kernel
theorem dX2_wordAt_35 : decode cX2_wordAt 35 = .ok (.bipush (-4), 2) := by decide +kernel
theorem dX2_wordAt_37 : decode cX2_wordAt 37 = .ok (.ireturn, 1) := by decide +kernel
theorem dX2_wordAt_38 : decode cX2_wordAt 38 = .ok (.aload_n 0, 1) := by decide +kernel
theorem dX2_wordAt_39 : decode cX2_wordAt 39 = .ok (.getfield 39, 3) := by decide +kernel
theorem dX2_wordAt_42 : decode cX2_wordAt 42 = .ok (.iload_n 2, 1) := by decide +kernel
theorem dX2_wordAt_43 : decode cX2_wordAt 43 = .ok (.iload_n 3, 1) := by decide +kernel
theorem dX2_wordAt_44 : decode cX2_wordAt 44 = .ok (.iconst 3, 1) := by decide +kernel
theorem dX2_wordAt_45 : decode cX2_wordAt 45 = .ok (.iand, 1) := by decide +kernel
theorem dX2_wordAt_46 : decode cX2_wordAt 46 = .ok (.invokevirtual 128, 3) := by decide +kernel
theorem dX2_wordAt_49 : decode cX2_wordAt 49 = .ok (.istore_n 2, 1) := by decide +kernel
theorem dX2_wordAt_50 : decode cX2_wordAt 50 = .ok (.iload_n 3, 1) := by decide +kernel
theorem dX2_wordAt_51 : decode cX2_wordAt 51 = .ok (.iconst 2, 1) := by decide +kernel
theorem dX2_wordAt_52 : decode cX2_wordAt 52 = .ok (.iushr, 1) := by decide +kernel
theorem dX2_wordAt_53 : decode cX2_wordAt 53 = .ok (.istore_n 3, 1) := by decide +kernel
theorem dX2_wordAt_54 : decode cX2_wordAt 54 = .ok (.iinc 4 1, 3) := by decide +kernel
theorem dX2_wordAt_57 : decode cX2_wordAt 57 = .ok (.goto (-47), 3) := by decide +kernel
theorem dX2_wordAt_60 : decode cX2_wordAt 60 = .ok (.iload_n 2, 1) := by decide +kernel
theorem dX2_wordAt_61 : decode cX2_wordAt 61 = .ok (.ireturn, 1) := by decide +kernel
theorem dX3_init_0 : decode cX3_init 0 = .ok (.aload_n 0, 1) := by decide +kernel
theorem dX3_init_1 : decode cX3_init 1 = .ok (.invokespecial 3, 3) := by decide +kernel
theorem dX3_init_4 : decode cX3_init 4 = .ok (.aload_n 0, 1) := by decide +kernel
theorem dX3_init_5 : decode cX3_init 5 = .ok (.bipush 90, 2) := by decide +kernel
theorem dX3_init_7 : decode cX3_init 7 = .ok (.newarray .char, 2) := by decide +kernel
theorem dX3_init_9 : decode cX3_init 9 = .ok (.putfield 9, 3) := by decide +kernel
theorem dX3_init_12 : decode cX3_init 12 = .ok (.aload_n 0, 1) := by decide +kernel
theorem dX3_init_13 : decode cX3_init 13 = .ok (.iconst 0, 1) := by decide +kernel
theorem dX3_init_14 : decode cX3_init 14 = .ok (.putfield 15, 3) := by decide +kernel
theorem dX3_init_17 : decode cX3_init 17 = .ok (.aload_n 0, 1) := by decide +kernel
theorem dX3_init_18 : decode cX3_init 18 = .ok (.iconst 0, 1) := by decide +kernel
theorem dX3_init_19 : decode cX3_init 19 = .ok (.putfield 19, 3) := by decide +kernel
theorem dX3_init_22 : decode cX3_init 22 = .ok (.aload_n 0, 1) := by decide +kernel
theorem dX3_init_23 : decode cX3_init 23 = .ok (.bipush 90, 2) := by decide +kernel
theorem dX3_init_25 : decode cX3_init 25 = .ok (.newarray .char, 2) := by decide +kernel
theorem dX3_init_27 : decode cX3_init 27 = .ok (.putfield 22, 3) := by decide +kernel
theorem dX3_init_30 : decode cX3_init 30 = .ok (.aload_n 0, 1) := by decide +kernel
theorem dX3_init_31 : decode cX3_init 31 = .ok (.iconst 0, 1) := by decide +kernel
theorem dX3_init_32 : decode cX3_init 32 = .ok (.putfield 25, 3) := by decide +kernel
theorem dX3_init_35 : decode cX3_init 35 = .ok (.aload_n 0, 1) := by decide +kernel
theorem dX3_init_36 : decode cX3_init 36 = .ok (.iconst (-1), 1) := by decide +kernel
theorem dX3_init_37 : decode cX3_init 37 = .ok (.putfield 28, 3) := by decide +kernel
theorem dX3_init_40 : decode cX3_init 40 = .ok (.return_, 1) := by decide +kernel
theorem dX3_read_0 : decode cX3_read 0 = .ok (.aload_n 0, 1) := by decide +kernel
theorem dX3_read_1 : decode cX3_read 1 = .ok (.aload_n 1, 1) := by decide +kernel
theorem dX3_read_2 : decode cX3_read 2 = .ok (.iload_n 2, 1) := by decide +kernel
theorem dX3_read_3 : decode cX3_read 3 = .ok (.invokevirtual 31, 3) := by decide +kernel
theorem dX3_read_6 : decode cX3_read 6 = .ok (.aload_n 0, 1) := by decide +kernel
theorem dX3_read_7 : decode cX3_read 7 = .ok (.iconst 0, 1) := by decide +kernel
theorem dX3_read_8 : decode cX3_read 8 = .ok (.putfield 19, 3) := by decide +kernel
theorem dX3_read_11 : decode cX3_read 11 = .ok (.aload_n 0, 1) := by decide +kernel
theorem dX3_read_12 : decode cX3_read 12 = .ok (.iconst 0, 1) := by decide +kernel
theorem dX3_read_13 : decode cX3_read 13 = .ok (.putfield 25, 3) := by decide +kernel
theorem dX3_read_16 : decode cX3_read 16 = .ok (.aload_n 0, 1) := by decide +kernel
theorem dX3_read_17 : decode cX3_read 17 = .ok (.iconst (-1), 1) := by decide +kernel
theorem dX3_read_18 : decode cX3_read 18 = .ok (.putfield 28, 3) := by decide +kernel
theorem dX3_read_21 : decode cX3_read 21 = .ok (.aload_n 0, 1) := by decide +kernel
theorem dX3_read_22 : decode cX3_read 22 = .ok (.iconst 0, 1) := by decide +kernel
theorem dX3_read_23 : decode cX3_read 23 = .ok (.invokevirtual 35, 3) := by decide +kernel
theorem dX3_read_26 : decode cX3_read 26 = .ok (.astore_n 3, 1) := by decide +kernel
theorem dX3_read_27 : decode cX3_read 27 = .ok (.aload_n 0, 1) := by decide +kernel
theorem dX3_read_28 : decode cX3_read 28 = .ok (.getfield 19, 3) := by decide +kernel
theorem dX3_read_31 : decode cX3_read 31 = .ok (.aload_n 0, 1) := by decide +kernel
theorem dX3_read_32 : decode cX3_read 32 = .ok (.getfield 15, 3) := by decide +kernel
theorem dX3_read_35 : decode cX3_read 35 = .ok (.if_icmp .ge 7, 3) := by decide +kernel
theorem dX3_read_38 : decode cX3_read 38 = .ok (.aload_n 0, 1) := by decide +kernel
theorem dX3_read_39 : decode cX3_read 39 = .ok (.invokevirtual 39, 3) := by decide +kernel
theorem dX3_read_42 : decode cX3_read 42 = .ok (.aload_n 3, 1) := by decide +kernel
theorem dX3_read_43 : decode cX3_read 43 = .ok (.iconst 0, 1) := by decide +kernel
theorem dX3_read_44 : decode cX3_read 44 = .ok (.iconst 0, 1) := by decide +kernel
theorem dX3_read_45 : decode cX3_read 45 = .ok (.invokevirtual 42, 3) := by decide +kernel
theorem dX3_read_48 : decode cX3_read 48 = .ok (.aload_n 3, 1) := by decide +kernel
theorem dX3_read_49 : decode cX3_read 49 = .ok (.areturn, 1) := by decide +kernel
theorem dX3_refuse_0 : decode cX3_refuse 0 = .ok (.aload_n 0, 1) := by decide +kernel
theorem dX3_refuse_1 : decode cX3_refuse 1 = .ok (.aload_n 0, 1) := by decide +kernel
theorem dX3_refuse_2 : decode cX3_refuse 2 = .ok (.getfield 19, 3) := by decide +kernel
theorem dX3_refuse_5 : decode cX3_refuse 5 = .ok (.putfield 28, 3) := by decide +kernel
theorem dX3_refuse_8 : decode cX3_refuse 8 = .ok (.new 48, 3) := by decide +kernel
theorem dX3_refuse_11 : decode cX3_refuse 11 = .ok (.dup, 1) := by decide +kernel
theorem dX3_refuse_12 : decode cX3_refuse 12 = .ok (.ldc 50, 2) := by decide +kernel
theorem dX3_refuse_14 : decode cX3_refuse 14 = .ok (.invokespecial 52, 3) := by decide +kernel
theorem dX3_refuse_17 : decode cX3_refuse 17 = .ok (.athrow, 1) := by decide +kernel
theorem dX3_leaveOutBlanks_0 : decode cX3_leaveOutBlanks 0 = .ok (.aload_n 0, 1) := by decide +kernel
theorem dX3_leaveOutBlanks_1 : decode cX3_leaveOutBlanks 1 = .ok (.iconst 0, 1) := by decide +kernel
theorem dX3_leaveOutBlanks_2 : decode cX3_leaveOutBlanks 2 = .ok (.putfield 15, 3) := by decide +kernel
theorem dX3_leaveOutBlanks_5 : decode cX3_leaveOutBlanks 5 = .ok (.iconst 0, 1) := by decide +kernel
theorem dX3_leaveOutBlanks_6 : decode cX3_leaveOutBlanks 6 = .ok (.istore_n 3, 1) := by decide +kernel
theorem dX3_leaveOutBlanks_7 : decode cX3_leaveOutBlanks 7 = .ok (.iload_n 3, 1) := by decide +kernel
theorem dX3_leaveOutBlanks_8 : decode cX3_leaveOutBlanks 8 = .ok (.iload_n 2, 1) := by decide +kernel
theorem dX3_leaveOutBlanks_9 : decode cX3_leaveOutBlanks 9 = .ok (.if_icmp .ge 57, 3) := by decide +kernel
theorem dX3_leaveOutBlanks_12 : decode cX3_leaveOutBlanks 12 = .ok (.iload_n 3, 1) := by decide +kernel
theorem dX3_leaveOutBlanks_13 : decode cX3_leaveOutBlanks 13 = .ok (.aload_n 1, 1) := by decide +kernel
theorem dX3_leaveOutBlanks_14 : decode cX3_leaveOutBlanks 14 = .ok (.arraylength, 1) := by decide +kernel
theorem dX3_leaveOutBlanks_15 : decode cX3_leaveOutBlanks 15 = .ok (.if_icmp .ge 51, 3) := by decide +kernel
theorem dX3_leaveOutBlanks_18 : decode cX3_leaveOutBlanks 18 = .ok (.aload_n 1, 1) := by decide +kernel
theorem dX3_leaveOutBlanks_19 : decode cX3_leaveOutBlanks 19 = .ok (.iload_n 3, 1) := by decide +kernel
theorem dX3_leaveOutBlanks_20 : decode cX3_leaveOutBlanks 20 = .ok (.caload, 1) := by decide +kernel
theorem dX3_leaveOutBlanks_21 : decode cX3_leaveOutBlanks 21 = .ok (.bipush 32, 2) := by decide +kernel
theorem dX3_leaveOutBlanks_23 : decode cX3_leaveOutBlanks 23 = .ok (.if_icmp .eq 37, 3) := by decide +kernel
theorem dX3_leaveOutBlanks_26 : decode cX3_leaveOutBlanks 26 = .ok (.aload_n 0, 1) := by decide +kernel
theorem dX3_leaveOutBlanks_27 : decode cX3_leaveOutBlanks 27 = .ok (.getfield 15, 3) := by decide +kernel
theorem dX3_leaveOutBlanks_30 : decode cX3_leaveOutBlanks 30 = .ok (.aload_n 0, 1) := by decide +kernel
theorem dX3_leaveOutBlanks_31 : decode cX3_leaveOutBlanks 31 = .ok (.getfield 9, 3) := by decide +kernel
theorem dX3_leaveOutBlanks_34 : decode cX3_leaveOutBlanks 34 = .ok (.arraylength, 1) := by decide +kernel
theorem dX3_leaveOutBlanks_35 : decode cX3_leaveOutBlanks 35 = .ok (.if_icmp .ge 25, 3) := by decide +kernel
theorem dX3_leaveOutBlanks_38 : decode cX3_leaveOutBlanks 38 = .ok (.aload_n 0, 1) := by decide +kernel
theorem dX3_leaveOutBlanks_39 : decode cX3_leaveOutBlanks 39 = .ok (.getfield 9, 3) := by decide +kernel
theorem dX3_leaveOutBlanks_42 : decode cX3_leaveOutBlanks 42 = .ok (.aload_n 0, 1) := by decide +kernel
theorem dX3_leaveOutBlanks_43 : decode cX3_leaveOutBlanks 43 = .ok (.getfield 15, 3) := by decide +kernel
theorem dX3_leaveOutBlanks_46 : decode cX3_leaveOutBlanks 46 = .ok (.aload_n 1, 1) := by decide +kernel
theorem dX3_leaveOutBlanks_47 : decode cX3_leaveOutBlanks 47 = .ok (.iload_n 3, 1) := by decide +kernel
theorem dX3_leaveOutBlanks_48 : decode cX3_leaveOutBlanks 48 = .ok (.caload, 1) := by decide +kernel
theorem dX3_leaveOutBlanks_49 : decode cX3_leaveOutBlanks 49 = .ok (.castore, 1) := by decide +kernel
theorem dX3_leaveOutBlanks_50 : decode cX3_leaveOutBlanks 50 = .ok (.aload_n 0, 1) := by decide +kernel
theorem dX3_leaveOutBlanks_51 : decode cX3_leaveOutBlanks 51 = .ok (.dup, 1) := by decide +kernel
theorem dX3_leaveOutBlanks_52 : decode cX3_leaveOutBlanks 52 = .ok (.getfield 15, 3) := by decide +kernel
theorem dX3_leaveOutBlanks_55 : decode cX3_leaveOutBlanks 55 = .ok (.iconst 1, 1) := by decide +kernel
theorem dX3_leaveOutBlanks_56 : decode cX3_leaveOutBlanks 56 = .ok (.iadd, 1) := by decide +kernel
theorem dX3_leaveOutBlanks_57 : decode cX3_leaveOutBlanks 57 = .ok (.putfield 15, 3) := by decide +kernel
theorem dX3_leaveOutBlanks_60 : decode cX3_leaveOutBlanks 60 = .ok (.iinc 3 1, 3) := by decide +kernel
theorem dX3_leaveOutBlanks_63 : decode cX3_leaveOutBlanks 63 = .ok (.goto (-56), 3) := by decide +kernel
theorem dX3_leaveOutBlanks_66 : decode cX3_leaveOutBlanks 66 = .ok (.return_, 1) := by decide +kernel
theorem dX3_expression_0 : decode cX3_expression 0 = .ok (.iload_n 1, 1) := by decide +kernel
theorem dX3_expression_1 : decode cX3_expression 1 = .ok (.iconst 5, 1) := by decide +kernel
theorem dX3_expression_2 : decode cX3_expression 2 = .ok (.if_icmp .le 7, 3) := by decide +kernel
theorem dX3_expression_5 : decode cX3_expression 5 = .ok (.aload_n 0, 1) := by decide +kernel
theorem dX3_expression_6 : decode cX3_expression 6 = .ok (.invokevirtual 39, 3) := by decide +kernel
theorem dX3_expression_9 : decode cX3_expression 9 = .ok (.aload_n 0, 1) := by decide +kernel
theorem dX3_expression_10 : decode cX3_expression 10 = .ok (.getfield 25, 3) := by decide +kernel
theorem dX3_expression_13 : decode cX3_expression 13 = .ok (.istore_n 2, 1) := by decide +kernel
theorem dX3_expression_14 : decode cX3_expression 14 = .ok (.new 43, 3) := by decide +kernel
theorem dX3_expression_17 : decode cX3_expression 17 = .ok (.dup, 1) := by decide +kernel
theorem dX3_expression_18 : decode cX3_expression 18 = .ok (.invokespecial 55, 3) := by decide +kernel
theorem dX3_expression_21 : decode cX3_expression 21 = .ok (.astore_n 3, 1) := by decide +kernel
theorem dX3_expression_22 : decode cX3_expression 22 = .ok (.new 43, 3) := by decide +kernel
theorem dX3_expression_25 : decode cX3_expression 25 = .ok (.dup, 1) := by decide +kernel
theorem dX3_expression_26 : decode cX3_expression 26 = .ok (.invokespecial 55, 3) := by decide +kernel
theorem dX3_expression_29 : decode cX3_expression 29 = .ok (.astore 4, 2) := by decide +kernel
theorem dX3_expression_31 : decode cX3_expression 31 = .ok (.iconst 0, 1) := by decide +kernel
theorem dX3_expression_32 : decode cX3_expression 32 = .ok (.istore 5, 2) := by decide +kernel
theorem dX3_expression_34 : decode cX3_expression 34 = .ok (.iload 5, 2) := by decide +kernel
theorem dX3_expression_36 : decode cX3_expression 36 = .ok (.aload_n 0, 1) := by decide +kernel
theorem dX3_expression_37 : decode cX3_expression 37 = .ok (.getfield 15, 3) := by decide +kernel
theorem dX3_expression_40 : decode cX3_expression 40 = .ok (.if_icmp .ge 24, 3) := by decide +kernel
theorem dX3_expression_43 : decode cX3_expression 43 = .ok (.aload_n 0, 1) := by decide +kernel
theorem dX3_expression_44 : decode cX3_expression 44 = .ok (.invokevirtual 56, 3) := by decide +kernel
theorem dX3_expression_47 : decode cX3_expression 47 = .ok (.ifCond .eq 17, 3) := by decide +kernel
theorem dX3_expression_50 : decode cX3_expression 50 = .ok (.aload_n 0, 1) := by decide +kernel
theorem dX3_expression_51 : decode cX3_expression 51 = .ok (.aload_n 3, 1) := by decide +kernel
theorem dX3_expression_52 : decode cX3_expression 52 = .ok (.aload 4, 2) := by decide +kernel
theorem dX3_expression_54 : decode cX3_expression 54 = .ok (.iload_n 1, 1) := by decide +kernel
theorem dX3_expression_55 : decode cX3_expression 55 = .ok (.invokevirtual 60, 3) := by decide +kernel
theorem dX3_expression_58 : decode cX3_expression 58 = .ok (.iinc 5 1, 3) := by decide +kernel
theorem dX3_expression_61 : decode cX3_expression 61 = .ok (.goto (-27), 3) := by decide +kernel
theorem dX3_expression_64 : decode cX3_expression 64 = .ok (.aload_n 3, 1) := by decide +kernel
theorem dX3_expression_65 : decode cX3_expression 65 = .ok (.aload_n 0, 1) := by decide +kernel
theorem dX3_expression_66 : decode cX3_expression 66 = .ok (.invokevirtual 64, 3) := by decide +kernel
theorem dX3_expression_69 : decode cX3_expression 69 = .ok (.bipush 63, 2) := by decide +kernel
theorem dX3_expression_71 : decode cX3_expression 71 = .ok (.if_icmp .ne 11, 3) := by decide +kernel
theorem dX3_expression_74 : decode cX3_expression 74 = .ok (.aload_n 0, 1) := by decide +kernel
theorem dX3_expression_75 : decode cX3_expression 75 = .ok (.iload_n 1, 1) := by decide +kernel
theorem dX3_expression_76 : decode cX3_expression 76 = .ok (.invokevirtual 68, 3) := by decide +kernel
theorem dX3_expression_79 : decode cX3_expression 79 = .ok (.goto 8, 3) := by decide +kernel
theorem dX3_expression_82 : decode cX3_expression 82 = .ok (.aload_n 0, 1) := by decide +kernel
theorem dX3_expression_83 : decode cX3_expression 83 = .ok (.iload_n 1, 1) := by decide +kernel
theorem dX3_expression_84 : decode cX3_expression 84 = .ok (.invokevirtual 71, 3) := by decide +kernel
theorem dX3_expression_87 : decode cX3_expression 87 = .ok (.invokevirtual 74, 3) := by decide +kernel
theorem dX3_expression_90 : decode cX3_expression 90 = .ok (.aload_n 3, 1) := by decide +kernel
theorem dX3_expression_91 : decode cX3_expression 91 = .ok (.aload 4, 2) := by decide +kernel
theorem dX3_expression_93 : decode cX3_expression 93 = .ok (.invokevirtual 74, 3) := by decide +kernel
theorem dX3_expression_96 : decode cX3_expression 96 = .ok (.aload_n 0, 1) := by decide +kernel
theorem dX3_expression_97 : decode cX3_expression 97 = .ok (.iload_n 2, 1) := by decide +kernel
theorem dX3_expression_98 : decode cX3_expression 98 = .ok (.putfield 25, 3) := by decide +kernel
theorem dX3_expression_101 : decode cX3_expression 101 = .ok (.aload_n 3, 1) := by decide +kernel
theorem dX3_expression_102 : decode cX3_expression 102 = .ok (.areturn, 1) := by decide +kernel
theorem dX3_beginsHead_0 : decode cX3_beginsHead 0 = .ok (.aload_n 0, 1) := by decide +kernel
theorem dX3_beginsHead_1 : decode cX3_beginsHead 1 = .ok (.invokevirtual 64, 3) := by decide +kernel
theorem dX3_beginsHead_4 : decode cX3_beginsHead 4 = .ok (.istore_n 1, 1) := by decide +kernel
theorem dX3_beginsHead_5 : decode cX3_beginsHead 5 = .ok (.iload_n 1, 1) := by decide +kernel
theorem dX3_beginsHead_6 : decode cX3_beginsHead 6 = .ok (.bipush 92, 2) := by decide +kernel
theorem dX3_beginsHead_8 : decode cX3_beginsHead 8 = .ok (.if_icmp .eq 31, 3) := by decide +kernel
theorem dX3_beginsHead_11 : decode cX3_beginsHead 11 = .ok (.iload_n 1, 1) := by decide +kernel
theorem dX3_beginsHead_12 : decode cX3_beginsHead 12 = .ok (.bipush 64, 2) := by decide +kernel
theorem dX3_beginsHead_14 : decode cX3_beginsHead 14 = .ok (.if_icmp .eq 25, 3) := by decide +kernel
theorem dX3_beginsHead_17 : decode cX3_beginsHead 17 = .ok (.iload_n 1, 1) := by decide +kernel
theorem dX3_beginsHead_18 : decode cX3_beginsHead 18 = .ok (.invokestatic 78, 3) := by decide +kernel
theorem dX3_beginsHead_21 : decode cX3_beginsHead 21 = .ok (.ifCond .eq 22, 3) := by decide +kernel
theorem dX3_beginsHead_24 : decode cX3_beginsHead 24 = .ok (.aload_n 0, 1) := by decide +kernel
theorem dX3_beginsHead_25 : decode cX3_beginsHead 25 = .ok (.aload_n 0, 1) := by decide +kernel
theorem dX3_beginsHead_26 : decode cX3_beginsHead 26 = .ok (.getfield 19, 3) := by decide +kernel
theorem dX3_beginsHead_29 : decode cX3_beginsHead 29 = .ok (.iconst 1, 1) := by decide +kernel
theorem dX3_beginsHead_30 : decode cX3_beginsHead 30 = .ok (.iadd, 1) := by decide +kernel
theorem dX3_beginsHead_31 : decode cX3_beginsHead 31 = .ok (.invokevirtual 82, 3) := by decide +kernel
theorem dX3_beginsHead_34 : decode cX3_beginsHead 34 = .ok (.bipush 61, 2) := by decide +kernel
theorem dX3_beginsHead_36 : decode cX3_beginsHead 36 = .ok (.if_icmp .ne 7, 3) := by decide +kernel
theorem dX3_beginsHead_39 : decode cX3_beginsHead 39 = .ok (.iconst 1, 1) := by decide +kernel
theorem dX3_beginsHead_40 : decode cX3_beginsHead 40 = .ok (.goto 4, 3) := by decide +kernel
theorem dX3_beginsHead_43 : decode cX3_beginsHead 43 = .ok (.iconst 0, 1) := by decide +kernel
theorem dX3_beginsHead_44 : decode cX3_beginsHead 44 = .ok (.ireturn, 1) := by decide +kernel
theorem dX3_head_0 : decode cX3_head 0 = .ok (.aload_n 0, 1) := by decide +kernel
theorem dX3_head_1 : decode cX3_head 1 = .ok (.invokevirtual 64, 3) := by decide +kernel
theorem dX3_head_4 : decode cX3_head 4 = .ok (.istore 4, 2) := by decide +kernel
theorem dX3_head_6 : decode cX3_head 6 = .ok (.iload 4, 2) := by decide +kernel
theorem dX3_head_8 : decode cX3_head 8 = .ok (.bipush 92, 2) := by decide +kernel
theorem dX3_head_10 : decode cX3_head 10 = .ok (.if_icmp .ne 12, 3) := by decide +kernel
theorem dX3_head_13 : decode cX3_head 13 = .ok (.aload_n 0, 1) := by decide +kernel
theorem dX3_head_14 : decode cX3_head 14 = .ok (.aload_n 1, 1) := by decide +kernel
theorem dX3_head_15 : decode cX3_head 15 = .ok (.aload_n 2, 1) := by decide +kernel
theorem dX3_head_16 : decode cX3_head 16 = .ok (.invokevirtual 86, 3) := by decide +kernel
theorem dX3_head_19 : decode cX3_head 19 = .ok (.goto 27, 3) := by decide +kernel
theorem dX3_head_22 : decode cX3_head 22 = .ok (.iload 4, 2) := by decide +kernel
theorem dX3_head_24 : decode cX3_head 24 = .ok (.bipush 64, 2) := by decide +kernel
theorem dX3_head_26 : decode cX3_head 26 = .ok (.if_icmp .ne 13, 3) := by decide +kernel
theorem dX3_head_29 : decode cX3_head 29 = .ok (.aload_n 0, 1) := by decide +kernel
theorem dX3_head_30 : decode cX3_head 30 = .ok (.aload_n 1, 1) := by decide +kernel
theorem dX3_head_31 : decode cX3_head 31 = .ok (.aload_n 2, 1) := by decide +kernel
theorem dX3_head_32 : decode cX3_head 32 = .ok (.iload_n 3, 1) := by decide +kernel
theorem dX3_head_33 : decode cX3_head 33 = .ok (.invokevirtual 90, 3) := by decide +kernel
theorem dX3_head_36 : decode cX3_head 36 = .ok (.goto 10, 3) := by decide +kernel
theorem dX3_head_39 : decode cX3_head 39 = .ok (.aload_n 0, 1) := by decide +kernel
theorem dX3_head_40 : decode cX3_head 40 = .ok (.aload_n 1, 1) := by decide +kernel
theorem dX3_head_41 : decode cX3_head 41 = .ok (.aload_n 2, 1) := by decide +kernel
theorem dX3_head_42 : decode cX3_head 42 = .ok (.iload_n 3, 1) := by decide +kernel
theorem dX3_head_43 : decode cX3_head 43 = .ok (.invokevirtual 93, 3) := by decide +kernel
theorem dX3_head_46 : decode cX3_head 46 = .ok (.return_, 1) := by decide +kernel
theorem dX3_function_0 : decode cX3_function 0 = .ok (.aload_n 0, 1) := by decide +kernel
theorem dX3_function_1 : decode cX3_function 1 = .ok (.dup, 1) := by decide +kernel
theorem dX3_function_2 : decode cX3_function 2 = .ok (.getfield 19, 3) := by decide +kernel
theorem dX3_function_5 : decode cX3_function 5 = .ok (.iconst 1, 1) := by decide +kernel
theorem dX3_function_6 : decode cX3_function 6 = .ok (.iadd, 1) := by decide +kernel
theorem dX3_function_7 : decode cX3_function 7 = .ok (.putfield 19, 3) := by decide +kernel
theorem dX3_function_10 : decode cX3_function 10 = .ok (.aload_n 0, 1) := by decide +kernel
theorem dX3_function_11 : decode cX3_function 11 = .ok (.aload_n 0, 1) := by decide +kernel
theorem dX3_function_12 : decode cX3_function 12 = .ok (.invokevirtual 96, 3) := by decide +kernel
theorem dX3_function_15 : decode cX3_function 15 = .ok (.invokevirtual 99, 3) := by decide +kernel
theorem dX3_function_18 : decode cX3_function 18 = .ok (.invokestatic 103, 3) := by decide +kernel
theorem dX3_function_21 : decode cX3_function 21 = .ok (.astore_n 3, 1) := by decide +kernel
theorem dX3_function_22 : decode cX3_function 22 = .ok (.aload_n 0, 1) := by decide +kernel
theorem dX3_function_23 : decode cX3_function 23 = .ok (.aload_n 1, 1) := by decide +kernel
theorem dX3_function_24 : decode cX3_function 24 = .ok (.bipush 9, 2) := by decide +kernel
theorem dX3_function_26 : decode cX3_function 26 = .ok (.aload_n 3, 1) := by decide +kernel
theorem dX3_function_27 : decode cX3_function 27 = .ok (.invokevirtual 107, 3) := by decide +kernel
theorem dX3_function_30 : decode cX3_function 30 = .ok (.aload_n 2, 1) := by decide +kernel
theorem dX3_function_31 : decode cX3_function 31 = .ok (.aload_n 3, 1) := by decide +kernel
theorem dX3_function_32 : decode cX3_function 32 = .ok (.invokevirtual 111, 3) := by decide +kernel
theorem dX3_function_35 : decode cX3_function 35 = .ok (.aload_n 2, 1) := by decide +kernel
theorem dX3_function_36 : decode cX3_function 36 = .ok (.new 115, 3) := by decide +kernel
theorem dX3_function_39 : decode cX3_function 39 = .ok (.dup, 1) := by decide +kernel
theorem dX3_function_40 : decode cX3_function 40 = .ok (.bipush 12, 2) := by decide +kernel
theorem dX3_function_42 : decode cX3_function 42 = .ok (.iconst 0, 1) := by decide +kernel
theorem dX3_function_43 : decode cX3_function 43 = .ok (.aconst_null, 1) := by decide +kernel
theorem dX3_function_44 : decode cX3_function 44 = .ok (.invokespecial 117, 3) := by decide +kernel
theorem dX3_function_47 : decode cX3_function 47 = .ok (.invokevirtual 111, 3) := by decide +kernel
theorem dX3_function_50 : decode cX3_function 50 = .ok (.return_, 1) := by decide +kernel
theorem dX3_boundFunction_0 : decode cX3_boundFunction 0 = .ok (.aload_n 0, 1) := by decide +kernel
theorem dX3_boundFunction_1 : decode cX3_boundFunction 1 = .ok (.dup, 1) := by decide +kernel
theorem dX3_boundFunction_2 : decode cX3_boundFunction 2 = .ok (.getfield 19, 3) := by decide +kernel
theorem dX3_boundFunction_5 : decode cX3_boundFunction 5 = .ok (.iconst 1, 1) := by decide +kernel
theorem dX3_boundFunction_6 : decode cX3_boundFunction 6 = .ok (.iadd, 1) := by decide +kernel
theorem dX3_boundFunction_7 : decode cX3_boundFunction 7 = .ok (.putfield 19, 3) := by decide +kernel
theorem dX3_boundFunction_10 : decode cX3_boundFunction 10 = .ok (.aload_n 0, 1) := by decide +kernel
theorem dX3_boundFunction_11 : decode cX3_boundFunction 11 = .ok (.invokevirtual 96, 3) := by decide +kernel
theorem dX3_boundFunction_14 : decode cX3_boundFunction 14 = .ok (.istore 4, 2) := by decide +kernel
theorem dX3_boundFunction_16 : decode cX3_boundFunction 16 = .ok (.aload_n 0, 1) := by decide +kernel
theorem dX3_boundFunction_17 : decode cX3_boundFunction 17 = .ok (.invokevirtual 64, 3) := by decide +kernel
theorem dX3_boundFunction_20 : decode cX3_boundFunction 20 = .ok (.iload 4, 2) := by decide +kernel
theorem dX3_boundFunction_22 : decode cX3_boundFunction 22 = .ok (.if_icmp .ne 7, 3) := by decide +kernel
theorem dX3_boundFunction_25 : decode cX3_boundFunction 25 = .ok (.aload_n 0, 1) := by decide +kernel
theorem dX3_boundFunction_26 : decode cX3_boundFunction 26 = .ok (.invokevirtual 39, 3) := by decide +kernel
theorem dX3_boundFunction_29 : decode cX3_boundFunction 29 = .ok (.aload_n 0, 1) := by decide +kernel
theorem dX3_boundFunction_30 : decode cX3_boundFunction 30 = .ok (.invokevirtual 96, 3) := by decide +kernel
theorem dX3_boundFunction_33 : decode cX3_boundFunction 33 = .ok (.istore 5, 2) := by decide +kernel
theorem dX3_boundFunction_35 : decode cX3_boundFunction 35 = .ok (.aload_n 0, 1) := by decide +kernel
theorem dX3_boundFunction_36 : decode cX3_boundFunction 36 = .ok (.bipush 61, 2) := by decide +kernel
theorem dX3_boundFunction_38 : decode cX3_boundFunction 38 = .ok (.invokevirtual 120, 3) := by decide +kernel
theorem dX3_boundFunction_41 : decode cX3_boundFunction 41 = .ok (.aload_n 0, 1) := by decide +kernel
theorem dX3_boundFunction_42 : decode cX3_boundFunction 42 = .ok (.iload 4, 2) := by decide +kernel
theorem dX3_boundFunction_44 : decode cX3_boundFunction 44 = .ok (.invokevirtual 99, 3) := by decide +kernel
theorem dX3_boundFunction_47 : decode cX3_boundFunction 47 = .ok (.aload_n 0, 1) := by decide +kernel
theorem dX3_boundFunction_48 : decode cX3_boundFunction 48 = .ok (.iload 5, 2) := by decide +kernel
theorem dX3_boundFunction_50 : decode cX3_boundFunction 50 = .ok (.invokevirtual 99, 3) := by decide +kernel
theorem dX3_boundFunction_53 : decode cX3_boundFunction 53 = .ok (.invokestatic 103, 3) := by decide +kernel
theorem dX3_boundFunction_56 : decode cX3_boundFunction 56 = .ok (.astore 6, 2) := by decide +kernel
theorem dX3_boundFunction_58 : decode cX3_boundFunction 58 = .ok (.aload_n 0, 1) := by decide +kernel
theorem dX3_boundFunction_59 : decode cX3_boundFunction 59 = .ok (.aload_n 1, 1) := by decide +kernel
theorem dX3_boundFunction_60 : decode cX3_boundFunction 60 = .ok (.bipush 10, 2) := by decide +kernel
theorem dX3_boundFunction_62 : decode cX3_boundFunction 62 = .ok (.aload 6, 2) := by decide +kernel
theorem dX3_boundFunction_64 : decode cX3_boundFunction 64 = .ok (.invokevirtual 107, 3) := by decide +kernel
theorem dX3_boundFunction_67 : decode cX3_boundFunction 67 = .ok (.aload_n 1, 1) := by decide +kernel
theorem dX3_boundFunction_68 : decode cX3_boundFunction 68 = .ok (.aload_n 0, 1) := by decide +kernel
theorem dX3_boundFunction_69 : decode cX3_boundFunction 69 = .ok (.iload_n 3, 1) := by decide +kernel
theorem dX3_boundFunction_70 : decode cX3_boundFunction 70 = .ok (.iconst 1, 1) := by decide +kernel
theorem dX3_boundFunction_71 : decode cX3_boundFunction 71 = .ok (.iadd, 1) := by decide +kernel
theorem dX3_boundFunction_72 : decode cX3_boundFunction 72 = .ok (.invokevirtual 35, 3) := by decide +kernel
theorem dX3_boundFunction_75 : decode cX3_boundFunction 75 = .ok (.invokevirtual 74, 3) := by decide +kernel
theorem dX3_boundFunction_78 : decode cX3_boundFunction 78 = .ok (.aload_n 1, 1) := by decide +kernel
theorem dX3_boundFunction_79 : decode cX3_boundFunction 79 = .ok (.bipush 12, 2) := by decide +kernel
theorem dX3_boundFunction_81 : decode cX3_boundFunction 81 = .ok (.iconst 0, 1) := by decide +kernel
theorem dX3_boundFunction_82 : decode cX3_boundFunction 82 = .ok (.invokevirtual 42, 3) := by decide +kernel
theorem dX3_boundFunction_85 : decode cX3_boundFunction 85 = .ok (.aload_n 1, 1) := by decide +kernel
theorem dX3_boundFunction_86 : decode cX3_boundFunction 86 = .ok (.aload 6, 2) := by decide +kernel
theorem dX3_boundFunction_88 : decode cX3_boundFunction 88 = .ok (.invokevirtual 123, 3) := by decide +kernel
theorem dX3_boundFunction_91 : decode cX3_boundFunction 91 = .ok (.aload_n 0, 1) := by decide +kernel
theorem dX3_boundFunction_92 : decode cX3_boundFunction 92 = .ok (.bipush 59, 2) := by decide +kernel
theorem dX3_boundFunction_94 : decode cX3_boundFunction 94 = .ok (.invokevirtual 120, 3) := by decide +kernel
theorem dX3_boundFunction_97 : decode cX3_boundFunction 97 = .ok (.aload_n 0, 1) := by decide +kernel
theorem dX3_boundFunction_98 : decode cX3_boundFunction 98 = .ok (.dup, 1) := by decide +kernel
theorem dX3_boundFunction_99 : decode cX3_boundFunction 99 = .ok (.getfield 25, 3) := by decide +kernel
theorem dX3_boundFunction_102 : decode cX3_boundFunction 102 = .ok (.iconst 1, 1) := by decide +kernel
theorem dX3_boundFunction_103 : decode cX3_boundFunction 103 = .ok (.isub, 1) := by decide +kernel
theorem dX3_boundFunction_104 : decode cX3_boundFunction 104 = .ok (.putfield 25, 3) := by decide +kernel
theorem dX3_boundFunction_107 : decode cX3_boundFunction 107 = .ok (.aload_n 1, 1) := by decide +kernel
theorem dX3_boundFunction_108 : decode cX3_boundFunction 108 = .ok (.bipush 14, 2) := by decide +kernel
theorem dX3_boundFunction_110 : decode cX3_boundFunction 110 = .ok (.iconst 0, 1) := by decide +kernel
theorem dX3_boundFunction_111 : decode cX3_boundFunction 111 = .ok (.invokevirtual 42, 3) := by decide +kernel
theorem dX3_boundFunction_114 : decode cX3_boundFunction 114 = .ok (.aload_n 2, 1) := by decide +kernel
theorem dX3_boundFunction_115 : decode cX3_boundFunction 115 = .ok (.new 115, 3) := by decide +kernel
theorem dX3_boundFunction_118 : decode cX3_boundFunction 118 = .ok (.dup, 1) := by decide +kernel
theorem dX3_boundFunction_119 : decode cX3_boundFunction 119 = .ok (.bipush 15, 2) := by decide +kernel
theorem dX3_boundFunction_121 : decode cX3_boundFunction 121 = .ok (.iconst 1, 1) := by decide +kernel
theorem dX3_boundFunction_122 : decode cX3_boundFunction 122 = .ok (.aconst_null, 1) := by decide +kernel
theorem dX3_boundFunction_123 : decode cX3_boundFunction 123 = .ok (.invokespecial 117, 3) := by decide +kernel
theorem dX3_boundFunction_126 : decode cX3_boundFunction 126 = .ok (.invokevirtual 111, 3) := by decide +kernel
theorem dX3_boundFunction_129 : decode cX3_boundFunction 129 = .ok (.return_, 1) := by decide +kernel
theorem dX3_boundValue_0 : decode cX3_boundValue 0 = .ok (.aload_n 0, 1) := by decide +kernel
theorem dX3_boundValue_1 : decode cX3_boundValue 1 = .ok (.invokevirtual 96, 3) := by decide +kernel
theorem dX3_boundValue_4 : decode cX3_boundValue 4 = .ok (.istore 4, 2) := by decide +kernel
theorem dX3_boundValue_6 : decode cX3_boundValue 6 = .ok (.aload_n 0, 1) := by decide +kernel
theorem dX3_boundValue_7 : decode cX3_boundValue 7 = .ok (.bipush 61, 2) := by decide +kernel
theorem dX3_boundValue_9 : decode cX3_boundValue 9 = .ok (.invokevirtual 120, 3) := by decide +kernel
theorem dX3_boundValue_12 : decode cX3_boundValue 12 = .ok (.aload_n 1, 1) := by decide +kernel
theorem dX3_boundValue_13 : decode cX3_boundValue 13 = .ok (.aload_n 0, 1) := by decide +kernel
theorem dX3_boundValue_14 : decode cX3_boundValue 14 = .ok (.iload_n 3, 1) := by decide +kernel
theorem dX3_boundValue_15 : decode cX3_boundValue 15 = .ok (.iconst 1, 1) := by decide +kernel
theorem dX3_boundValue_16 : decode cX3_boundValue 16 = .ok (.iadd, 1) := by decide +kernel
theorem dX3_boundValue_17 : decode cX3_boundValue 17 = .ok (.invokevirtual 35, 3) := by decide +kernel
theorem dX3_boundValue_20 : decode cX3_boundValue 20 = .ok (.invokevirtual 74, 3) := by decide +kernel
theorem dX3_boundValue_23 : decode cX3_boundValue 23 = .ok (.aload_n 0, 1) := by decide +kernel
theorem dX3_boundValue_24 : decode cX3_boundValue 24 = .ok (.bipush 59, 2) := by decide +kernel
theorem dX3_boundValue_26 : decode cX3_boundValue 26 = .ok (.invokevirtual 120, 3) := by decide +kernel
theorem dX3_boundValue_29 : decode cX3_boundValue 29 = .ok (.aload_n 0, 1) := by decide +kernel
theorem dX3_boundValue_30 : decode cX3_boundValue 30 = .ok (.iload 4, 2) := by decide +kernel
theorem dX3_boundValue_32 : decode cX3_boundValue 32 = .ok (.invokevirtual 99, 3) := by decide +kernel
theorem dX3_boundValue_35 : decode cX3_boundValue 35 = .ok (.aload_n 1, 1) := by decide +kernel
theorem dX3_boundValue_36 : decode cX3_boundValue 36 = .ok (.bipush 14, 2) := by decide +kernel
theorem dX3_boundValue_38 : decode cX3_boundValue 38 = .ok (.iconst 0, 1) := by decide +kernel
theorem dX3_boundValue_39 : decode cX3_boundValue 39 = .ok (.invokevirtual 42, 3) := by decide +kernel
theorem dX3_boundValue_42 : decode cX3_boundValue 42 = .ok (.aload_n 2, 1) := by decide +kernel
theorem dX3_boundValue_43 : decode cX3_boundValue 43 = .ok (.new 115, 3) := by decide +kernel
theorem dX3_boundValue_46 : decode cX3_boundValue 46 = .ok (.dup, 1) := by decide +kernel
theorem dX3_boundValue_47 : decode cX3_boundValue 47 = .ok (.bipush 15, 2) := by decide +kernel
theorem dX3_boundValue_49 : decode cX3_boundValue 49 = .ok (.iconst 1, 1) := by decide +kernel
theorem dX3_boundValue_50 : decode cX3_boundValue 50 = .ok (.aconst_null, 1) := by decide +kernel
theorem dX3_boundValue_51 : decode cX3_boundValue 51 = .ok (.invokespecial 117, 3) := by decide +kernel
theorem dX3_boundValue_54 : decode cX3_boundValue 54 = .ok (.invokevirtual 111, 3) := by decide +kernel
theorem dX3_boundValue_57 : decode cX3_boundValue 57 = .ok (.return_, 1) := by decide +kernel
theorem dX3_openFunction_0 : decode cX3_openFunction 0 = .ok (.invokestatic 103, 3) := by decide +kernel
theorem dX3_openFunction_3 : decode cX3_openFunction 3 = .ok (.astore 4, 2) := by decide +kernel
theorem dX3_openFunction_5 : decode cX3_openFunction 5 = .ok (.aload_n 1, 1) := by decide +kernel
theorem dX3_openFunction_6 : decode cX3_openFunction 6 = .ok (.new 115, 3) := by decide +kernel
theorem dX3_openFunction_9 : decode cX3_openFunction 9 = .ok (.dup, 1) := by decide +kernel
theorem dX3_openFunction_10 : decode cX3_openFunction 10 = .ok (.iload_n 2, 1) := by decide +kernel
theorem dX3_openFunction_11 : decode cX3_openFunction 11 = .ok (.iconst 0, 1) := by decide +kernel
theorem dX3_openFunction_12 : decode cX3_openFunction 12 = .ok (.aload 4, 2) := by decide +kernel
theorem dX3_openFunction_14 : decode cX3_openFunction 14 = .ok (.invokespecial 117, 3) := by decide +kernel
theorem dX3_openFunction_17 : decode cX3_openFunction 17 = .ok (.invokevirtual 123, 3) := by decide +kernel
theorem dX3_openFunction_20 : decode cX3_openFunction 20 = .ok (.aload_n 1, 1) := by decide +kernel
theorem dX3_openFunction_21 : decode cX3_openFunction 21 = .ok (.new 115, 3) := by decide +kernel
theorem dX3_openFunction_24 : decode cX3_openFunction 24 = .ok (.dup, 1) := by decide +kernel
theorem dX3_openFunction_25 : decode cX3_openFunction 25 = .ok (.bipush 11, 2) := by decide +kernel
theorem dX3_openFunction_27 : decode cX3_openFunction 27 = .ok (.iconst 0, 1) := by decide +kernel
theorem dX3_openFunction_28 : decode cX3_openFunction 28 = .ok (.aload_n 3, 1) := by decide +kernel
theorem dX3_openFunction_29 : decode cX3_openFunction 29 = .ok (.invokespecial 117, 3) := by decide +kernel
theorem dX3_openFunction_32 : decode cX3_openFunction 32 = .ok (.invokevirtual 123, 3) := by decide +kernel
theorem dX3_openFunction_35 : decode cX3_openFunction 35 = .ok (.aload_n 1, 1) := by decide +kernel
theorem dX3_openFunction_36 : decode cX3_openFunction 36 = .ok (.aload 4, 2) := by decide +kernel
theorem dX3_openFunction_38 : decode cX3_openFunction 38 = .ok (.invokevirtual 123, 3) := by decide +kernel
theorem dX3_openFunction_41 : decode cX3_openFunction 41 = .ok (.return_, 1) := by decide +kernel
theorem dX3_match_0 : decode cX3_match 0 = .ok (.aload_n 0, 1) := by decide +kernel
theorem dX3_match_1 : decode cX3_match 1 = .ok (.dup, 1) := by decide +kernel
theorem dX3_match_2 : decode cX3_match 2 = .ok (.getfield 19, 3) := by decide +kernel
theorem dX3_match_5 : decode cX3_match 5 = .ok (.iconst 1, 1) := by decide +kernel
theorem dX3_match_6 : decode cX3_match 6 = .ok (.iadd, 1) := by decide +kernel
theorem dX3_match_7 : decode cX3_match 7 = .ok (.putfield 19, 3) := by decide +kernel
theorem dX3_match_10 : decode cX3_match 10 = .ok (.aload_n 0, 1) := by decide +kernel
theorem dX3_match_11 : decode cX3_match 11 = .ok (.iload_n 1, 1) := by decide +kernel
theorem dX3_match_12 : decode cX3_match 12 = .ok (.invokevirtual 71, 3) := by decide +kernel
theorem dX3_match_15 : decode cX3_match 15 = .ok (.astore_n 2, 1) := by decide +kernel
theorem dX3_match_16 : decode cX3_match 16 = .ok (.aload_n 0, 1) := by decide +kernel
theorem dX3_match_17 : decode cX3_match 17 = .ok (.bipush 123, 2) := by decide +kernel
theorem dX3_match_19 : decode cX3_match 19 = .ok (.invokevirtual 120, 3) := by decide +kernel
theorem dX3_match_22 : decode cX3_match 22 = .ok (.new 115, 3) := by decide +kernel
theorem dX3_match_25 : decode cX3_match 25 = .ok (.dup, 1) := by decide +kernel
theorem dX3_match_26 : decode cX3_match 26 = .ok (.bipush 18, 2) := by decide +kernel
theorem dX3_match_28 : decode cX3_match 28 = .ok (.iconst 0, 1) := by decide +kernel
theorem dX3_match_29 : decode cX3_match 29 = .ok (.aconst_null, 1) := by decide +kernel
theorem dX3_match_30 : decode cX3_match 30 = .ok (.invokespecial 117, 3) := by decide +kernel
theorem dX3_match_33 : decode cX3_match 33 = .ok (.astore_n 3, 1) := by decide +kernel
theorem dX3_match_34 : decode cX3_match 34 = .ok (.aload_n 2, 1) := by decide +kernel
theorem dX3_match_35 : decode cX3_match 35 = .ok (.aload_n 3, 1) := by decide +kernel
theorem dX3_match_36 : decode cX3_match 36 = .ok (.invokevirtual 123, 3) := by decide +kernel
theorem dX3_match_39 : decode cX3_match 39 = .ok (.new 43, 3) := by decide +kernel
theorem dX3_match_42 : decode cX3_match 42 = .ok (.dup, 1) := by decide +kernel
theorem dX3_match_43 : decode cX3_match 43 = .ok (.invokespecial 55, 3) := by decide +kernel
theorem dX3_match_46 : decode cX3_match 46 = .ok (.astore 4, 2) := by decide +kernel
theorem dX3_match_48 : decode cX3_match 48 = .ok (.invokestatic 103, 3) := by decide +kernel
theorem dX3_match_51 : decode cX3_match 51 = .ok (.astore 5, 2) := by decide +kernel
theorem dX3_match_53 : decode cX3_match 53 = .ok (.iconst 0, 1) := by decide +kernel
theorem dX3_match_54 : decode cX3_match 54 = .ok (.istore 6, 2) := by decide +kernel
theorem dX3_match_56 : decode cX3_match 56 = .ok (.iconst 0, 1) := by decide +kernel
theorem dX3_match_57 : decode cX3_match 57 = .ok (.istore 7, 2) := by decide +kernel
theorem dX3_match_59 : decode cX3_match 59 = .ok (.iload 7, 2) := by decide +kernel
theorem dX3_match_61 : decode cX3_match 61 = .ok (.bipush 8, 2) := by decide +kernel
theorem dX3_match_63 : decode cX3_match 63 = .ok (.if_icmp .ge 80, 3) := by decide +kernel
theorem dX3_match_66 : decode cX3_match 66 = .ok (.iload 7, 2) := by decide +kernel
theorem dX3_match_68 : decode cX3_match 68 = .ok (.ifCond .eq 12, 3) := by decide +kernel
theorem dX3_match_71 : decode cX3_match 71 = .ok (.aload_n 0, 1) := by decide +kernel
theorem dX3_match_72 : decode cX3_match 72 = .ok (.invokevirtual 64, 3) := by decide +kernel
theorem dX3_match_75 : decode cX3_match 75 = .ok (.bipush 125, 2) := by decide +kernel
theorem dX3_match_77 : decode cX3_match 77 = .ok (.if_icmp .eq 66, 3) := by decide +kernel
theorem dX3_match_80 : decode cX3_match 80 = .ok (.aload_n 0, 1) := by decide +kernel
theorem dX3_match_81 : decode cX3_match 81 = .ok (.iload 6, 2) := by decide +kernel
theorem dX3_match_83 : decode cX3_match 83 = .ok (.invokevirtual 125, 3) := by decide +kernel
theorem dX3_match_86 : decode cX3_match 86 = .ok (.istore 8, 2) := by decide +kernel
theorem dX3_match_88 : decode cX3_match 88 = .ok (.iload 6, 2) := by decide +kernel
theorem dX3_match_90 : decode cX3_match 90 = .ok (.iconst 1, 1) := by decide +kernel
theorem dX3_match_91 : decode cX3_match 91 = .ok (.iload 8, 2) := by decide +kernel
theorem dX3_match_93 : decode cX3_match 93 = .ok (.ishl, 1) := by decide +kernel
theorem dX3_match_94 : decode cX3_match 94 = .ok (.ior, 1) := by decide +kernel
theorem dX3_match_95 : decode cX3_match 95 = .ok (.istore 6, 2) := by decide +kernel
theorem dX3_match_97 : decode cX3_match 97 = .ok (.iinc 7 1, 3) := by decide +kernel
theorem dX3_match_100 : decode cX3_match 100 = .ok (.invokestatic 103, 3) := by decide +kernel
theorem dX3_match_103 : decode cX3_match 103 = .ok (.astore 9, 2) := by decide +kernel
theorem dX3_match_105 : decode cX3_match 105 = .ok (.aload_n 2, 1) := by decide +kernel
theorem dX3_match_106 : decode cX3_match 106 = .ok (.new 115, 3) := by decide +kernel
theorem dX3_match_109 : decode cX3_match 109 = .ok (.dup, 1) := by decide +kernel
theorem dX3_match_110 : decode cX3_match 110 = .ok (.bipush 19, 2) := by decide +kernel
theorem dX3_match_112 : decode cX3_match 112 = .ok (.iload 8, 2) := by decide +kernel
theorem dX3_match_114 : decode cX3_match 114 = .ok (.aload 9, 2) := by decide +kernel
theorem dX3_match_116 : decode cX3_match 116 = .ok (.invokespecial 117, 3) := by decide +kernel
theorem dX3_match_119 : decode cX3_match 119 = .ok (.invokevirtual 123, 3) := by decide +kernel
theorem dX3_match_122 : decode cX3_match 122 = .ok (.aload 4, 2) := by decide +kernel
theorem dX3_match_124 : decode cX3_match 124 = .ok (.aload 9, 2) := by decide +kernel
theorem dX3_match_126 : decode cX3_match 126 = .ok (.invokevirtual 123, 3) := by decide +kernel
theorem dX3_match_129 : decode cX3_match 129 = .ok (.aload_n 0, 1) := by decide +kernel
theorem dX3_match_130 : decode cX3_match 130 = .ok (.aload 4, 2) := by decide +kernel
theorem dX3_match_132 : decode cX3_match 132 = .ok (.iload 8, 2) := by decide +kernel
theorem dX3_match_134 : decode cX3_match 134 = .ok (.aload 5, 2) := by decide +kernel
theorem dX3_match_136 : decode cX3_match 136 = .ok (.iload_n 1, 1) := by decide +kernel
theorem dX3_match_137 : decode cX3_match 137 = .ok (.invokevirtual 129, 3) := by decide +kernel
theorem dX3_match_140 : decode cX3_match 140 = .ok (.goto (-81), 3) := by decide +kernel
theorem dX3_match_143 : decode cX3_match 143 = .ok (.aload_n 0, 1) := by decide +kernel
theorem dX3_match_144 : decode cX3_match 144 = .ok (.bipush 125, 2) := by decide +kernel
theorem dX3_match_146 : decode cX3_match 146 = .ok (.invokevirtual 120, 3) := by decide +kernel
theorem dX3_match_149 : decode cX3_match 149 = .ok (.aload_n 3, 1) := by decide +kernel
theorem dX3_match_150 : decode cX3_match 150 = .ok (.iload 7, 2) := by decide +kernel
theorem dX3_match_152 : decode cX3_match 152 = .ok (.putfield 133, 3) := by decide +kernel
theorem dX3_match_155 : decode cX3_match 155 = .ok (.aload_n 2, 1) := by decide +kernel
theorem dX3_match_156 : decode cX3_match 156 = .ok (.aload 4, 2) := by decide +kernel
theorem dX3_match_158 : decode cX3_match 158 = .ok (.invokevirtual 74, 3) := by decide +kernel
theorem dX3_match_161 : decode cX3_match 161 = .ok (.aload_n 2, 1) := by decide +kernel
theorem dX3_match_162 : decode cX3_match 162 = .ok (.aload 5, 2) := by decide +kernel
theorem dX3_match_164 : decode cX3_match 164 = .ok (.invokevirtual 123, 3) := by decide +kernel
theorem dX3_match_167 : decode cX3_match 167 = .ok (.aload_n 2, 1) := by decide +kernel
theorem dX3_match_168 : decode cX3_match 168 = .ok (.areturn, 1) := by decide +kernel
theorem dX3_caseBody_0 : decode cX3_caseBody 0 = .ok (.iload_n 2, 1) := by decide +kernel
theorem dX3_caseBody_1 : decode cX3_caseBody 1 = .ok (.invokestatic 136, 3) := by decide +kernel
theorem dX3_caseBody_4 : decode cX3_caseBody 4 = .ok (.istore 5, 2) := by decide +kernel
theorem dX3_caseBody_6 : decode cX3_caseBody 6 = .ok (.aload_n 0, 1) := by decide +kernel
theorem dX3_caseBody_7 : decode cX3_caseBody 7 = .ok (.getfield 25, 3) := by decide +kernel
theorem dX3_caseBody_10 : decode cX3_caseBody 10 = .ok (.istore 6, 2) := by decide +kernel
theorem dX3_caseBody_12 : decode cX3_caseBody 12 = .ok (.iconst 0, 1) := by decide +kernel
theorem dX3_caseBody_13 : decode cX3_caseBody 13 = .ok (.istore 7, 2) := by decide +kernel
theorem dX3_caseBody_15 : decode cX3_caseBody 15 = .ok (.iload 7, 2) := by decide +kernel
theorem dX3_caseBody_17 : decode cX3_caseBody 17 = .ok (.iload 5, 2) := by decide +kernel
theorem dX3_caseBody_19 : decode cX3_caseBody 19 = .ok (.if_icmp .ge 49, 3) := by decide +kernel
theorem dX3_caseBody_22 : decode cX3_caseBody 22 = .ok (.aload_n 0, 1) := by decide +kernel
theorem dX3_caseBody_23 : decode cX3_caseBody 23 = .ok (.aload_n 0, 1) := by decide +kernel
theorem dX3_caseBody_24 : decode cX3_caseBody 24 = .ok (.invokevirtual 64, 3) := by decide +kernel
theorem dX3_caseBody_27 : decode cX3_caseBody 27 = .ok (.invokevirtual 139, 3) := by decide +kernel
theorem dX3_caseBody_30 : decode cX3_caseBody 30 = .ok (.istore 8, 2) := by decide +kernel
theorem dX3_caseBody_32 : decode cX3_caseBody 32 = .ok (.iload 8, 2) := by decide +kernel
theorem dX3_caseBody_34 : decode cX3_caseBody 34 = .ok (.iconst (-1), 1) := by decide +kernel
theorem dX3_caseBody_35 : decode cX3_caseBody 35 = .ok (.if_icmp .eq 19, 3) := by decide +kernel
theorem dX3_caseBody_38 : decode cX3_caseBody 38 = .ok (.iload 8, 2) := by decide +kernel
theorem dX3_caseBody_40 : decode cX3_caseBody 40 = .ok (.aload_n 0, 1) := by decide +kernel
theorem dX3_caseBody_41 : decode cX3_caseBody 41 = .ok (.getfield 25, 3) := by decide +kernel
theorem dX3_caseBody_44 : decode cX3_caseBody 44 = .ok (.iload 6, 2) := by decide +kernel
theorem dX3_caseBody_46 : decode cX3_caseBody 46 = .ok (.isub, 1) := by decide +kernel
theorem dX3_caseBody_47 : decode cX3_caseBody 47 = .ok (.if_icmp .ge 7, 3) := by decide +kernel
theorem dX3_caseBody_50 : decode cX3_caseBody 50 = .ok (.aload_n 0, 1) := by decide +kernel
theorem dX3_caseBody_51 : decode cX3_caseBody 51 = .ok (.invokevirtual 39, 3) := by decide +kernel
theorem dX3_caseBody_54 : decode cX3_caseBody 54 = .ok (.aload_n 0, 1) := by decide +kernel
theorem dX3_caseBody_55 : decode cX3_caseBody 55 = .ok (.aload_n 0, 1) := by decide +kernel
theorem dX3_caseBody_56 : decode cX3_caseBody 56 = .ok (.invokevirtual 96, 3) := by decide +kernel
theorem dX3_caseBody_59 : decode cX3_caseBody 59 = .ok (.invokevirtual 99, 3) := by decide +kernel
theorem dX3_caseBody_62 : decode cX3_caseBody 62 = .ok (.iinc 7 1, 3) := by decide +kernel
theorem dX3_caseBody_65 : decode cX3_caseBody 65 = .ok (.goto (-50), 3) := by decide +kernel
theorem dX3_caseBody_68 : decode cX3_caseBody 68 = .ok (.aload_n 0, 1) := by decide +kernel
theorem dX3_caseBody_69 : decode cX3_caseBody 69 = .ok (.bipush 58, 2) := by decide +kernel
theorem dX3_caseBody_71 : decode cX3_caseBody 71 = .ok (.invokevirtual 120, 3) := by decide +kernel
theorem dX3_caseBody_74 : decode cX3_caseBody 74 = .ok (.iload 5, 2) := by decide +kernel
theorem dX3_caseBody_76 : decode cX3_caseBody 76 = .ok (.ifCond .le 11, 3) := by decide +kernel
theorem dX3_caseBody_79 : decode cX3_caseBody 79 = .ok (.aload_n 1, 1) := by decide +kernel
theorem dX3_caseBody_80 : decode cX3_caseBody 80 = .ok (.bipush 20, 2) := by decide +kernel
theorem dX3_caseBody_82 : decode cX3_caseBody 82 = .ok (.iload 5, 2) := by decide +kernel
theorem dX3_caseBody_84 : decode cX3_caseBody 84 = .ok (.invokevirtual 42, 3) := by decide +kernel
theorem dX3_caseBody_87 : decode cX3_caseBody 87 = .ok (.aload_n 1, 1) := by decide +kernel
theorem dX3_caseBody_88 : decode cX3_caseBody 88 = .ok (.aload_n 0, 1) := by decide +kernel
theorem dX3_caseBody_89 : decode cX3_caseBody 89 = .ok (.iload 4, 2) := by decide +kernel
theorem dX3_caseBody_91 : decode cX3_caseBody 91 = .ok (.iconst 1, 1) := by decide +kernel
theorem dX3_caseBody_92 : decode cX3_caseBody 92 = .ok (.iadd, 1) := by decide +kernel
theorem dX3_caseBody_93 : decode cX3_caseBody 93 = .ok (.invokevirtual 35, 3) := by decide +kernel
theorem dX3_caseBody_96 : decode cX3_caseBody 96 = .ok (.invokevirtual 74, 3) := by decide +kernel
theorem dX3_caseBody_99 : decode cX3_caseBody 99 = .ok (.iload 5, 2) := by decide +kernel
theorem dX3_caseBody_101 : decode cX3_caseBody 101 = .ok (.ifCond .le 11, 3) := by decide +kernel
theorem dX3_caseBody_104 : decode cX3_caseBody 104 = .ok (.aload_n 1, 1) := by decide +kernel
theorem dX3_caseBody_105 : decode cX3_caseBody 105 = .ok (.bipush 15, 2) := by decide +kernel
theorem dX3_caseBody_107 : decode cX3_caseBody 107 = .ok (.iload 5, 2) := by decide +kernel
theorem dX3_caseBody_109 : decode cX3_caseBody 109 = .ok (.invokevirtual 42, 3) := by decide +kernel
theorem dX3_caseBody_112 : decode cX3_caseBody 112 = .ok (.aload_n 1, 1) := by decide +kernel
theorem dX3_caseBody_113 : decode cX3_caseBody 113 = .ok (.new 115, 3) := by decide +kernel
theorem dX3_caseBody_116 : decode cX3_caseBody 116 = .ok (.dup, 1) := by decide +kernel
theorem dX3_caseBody_117 : decode cX3_caseBody 117 = .ok (.bipush 11, 2) := by decide +kernel
theorem dX3_caseBody_119 : decode cX3_caseBody 119 = .ok (.iconst 0, 1) := by decide +kernel
theorem dX3_caseBody_120 : decode cX3_caseBody 120 = .ok (.aload_n 3, 1) := by decide +kernel
theorem dX3_caseBody_121 : decode cX3_caseBody 121 = .ok (.invokespecial 117, 3) := by decide +kernel
theorem dX3_caseBody_124 : decode cX3_caseBody 124 = .ok (.invokevirtual 123, 3) := by decide +kernel
theorem dX3_caseBody_127 : decode cX3_caseBody 127 = .ok (.aload_n 0, 1) := by decide +kernel
theorem dX3_caseBody_128 : decode cX3_caseBody 128 = .ok (.bipush 59, 2) := by decide +kernel
theorem dX3_caseBody_130 : decode cX3_caseBody 130 = .ok (.invokevirtual 120, 3) := by decide +kernel
theorem dX3_caseBody_133 : decode cX3_caseBody 133 = .ok (.aload_n 0, 1) := by decide +kernel
theorem dX3_caseBody_134 : decode cX3_caseBody 134 = .ok (.iload 6, 2) := by decide +kernel
theorem dX3_caseBody_136 : decode cX3_caseBody 136 = .ok (.putfield 25, 3) := by decide +kernel
theorem dX3_caseBody_139 : decode cX3_caseBody 139 = .ok (.return_, 1) := by decide +kernel
theorem dX3_comparison_0 : decode cX3_comparison 0 = .ok (.aload_n 0, 1) := by decide +kernel
theorem dX3_comparison_1 : decode cX3_comparison 1 = .ok (.iload_n 1, 1) := by decide +kernel
theorem dX3_comparison_2 : decode cX3_comparison 2 = .ok (.invokevirtual 143, 3) := by decide +kernel
theorem dX3_comparison_5 : decode cX3_comparison 5 = .ok (.astore_n 2, 1) := by decide +kernel
theorem dX3_comparison_6 : decode cX3_comparison 6 = .ok (.aload_n 0, 1) := by decide +kernel
theorem dX3_comparison_7 : decode cX3_comparison 7 = .ok (.invokevirtual 64, 3) := by decide +kernel
theorem dX3_comparison_10 : decode cX3_comparison 10 = .ok (.istore_n 3, 1) := by decide +kernel
theorem dX3_comparison_11 : decode cX3_comparison 11 = .ok (.iload_n 3, 1) := by decide +kernel
theorem dX3_comparison_12 : decode cX3_comparison 12 = .ok (.bipush 60, 2) := by decide +kernel
theorem dX3_comparison_14 : decode cX3_comparison 14 = .ok (.if_icmp .eq 9, 3) := by decide +kernel
theorem dX3_comparison_17 : decode cX3_comparison 17 = .ok (.iload_n 3, 1) := by decide +kernel
theorem dX3_comparison_18 : decode cX3_comparison 18 = .ok (.bipush 126, 2) := by decide +kernel
theorem dX3_comparison_20 : decode cX3_comparison 20 = .ok (.if_icmp .ne 35, 3) := by decide +kernel
theorem dX3_comparison_23 : decode cX3_comparison 23 = .ok (.aload_n 0, 1) := by decide +kernel
theorem dX3_comparison_24 : decode cX3_comparison 24 = .ok (.dup, 1) := by decide +kernel
theorem dX3_comparison_25 : decode cX3_comparison 25 = .ok (.getfield 19, 3) := by decide +kernel
theorem dX3_comparison_28 : decode cX3_comparison 28 = .ok (.iconst 1, 1) := by decide +kernel
theorem dX3_comparison_29 : decode cX3_comparison 29 = .ok (.iadd, 1) := by decide +kernel
theorem dX3_comparison_30 : decode cX3_comparison 30 = .ok (.putfield 19, 3) := by decide +kernel
theorem dX3_comparison_33 : decode cX3_comparison 33 = .ok (.aload_n 2, 1) := by decide +kernel
theorem dX3_comparison_34 : decode cX3_comparison 34 = .ok (.iload_n 3, 1) := by decide +kernel
theorem dX3_comparison_35 : decode cX3_comparison 35 = .ok (.bipush 60, 2) := by decide +kernel
theorem dX3_comparison_37 : decode cX3_comparison 37 = .ok (.if_icmp .ne 8, 3) := by decide +kernel
theorem dX3_comparison_40 : decode cX3_comparison 40 = .ok (.bipush 7, 2) := by decide +kernel
theorem dX3_comparison_42 : decode cX3_comparison 42 = .ok (.goto 5, 3) := by decide +kernel
theorem dX3_comparison_45 : decode cX3_comparison 45 = .ok (.bipush 8, 2) := by decide +kernel
theorem dX3_comparison_47 : decode cX3_comparison 47 = .ok (.aload_n 0, 1) := by decide +kernel
theorem dX3_comparison_48 : decode cX3_comparison 48 = .ok (.iload_n 1, 1) := by decide +kernel
theorem dX3_comparison_49 : decode cX3_comparison 49 = .ok (.invokevirtual 143, 3) := by decide +kernel
theorem dX3_comparison_52 : decode cX3_comparison 52 = .ok (.invokevirtual 146, 3) := by decide +kernel
theorem dX3_comparison_55 : decode cX3_comparison 55 = .ok (.aload_n 2, 1) := by decide +kernel
theorem dX3_comparison_56 : decode cX3_comparison 56 = .ok (.areturn, 1) := by decide +kernel
theorem dX3_sum_0 : decode cX3_sum 0 = .ok (.aload_n 0, 1) := by decide +kernel
theorem dX3_sum_1 : decode cX3_sum 1 = .ok (.iload_n 1, 1) := by decide +kernel
theorem dX3_sum_2 : decode cX3_sum 2 = .ok (.invokevirtual 150, 3) := by decide +kernel
theorem dX3_sum_5 : decode cX3_sum 5 = .ok (.astore_n 2, 1) := by decide +kernel
theorem dX3_sum_6 : decode cX3_sum 6 = .ok (.aload_n 0, 1) := by decide +kernel
theorem dX3_sum_7 : decode cX3_sum 7 = .ok (.getfield 19, 3) := by decide +kernel
theorem dX3_sum_10 : decode cX3_sum 10 = .ok (.aload_n 0, 1) := by decide +kernel
theorem dX3_sum_11 : decode cX3_sum 11 = .ok (.getfield 15, 3) := by decide +kernel
theorem dX3_sum_14 : decode cX3_sum 14 = .ok (.if_icmp .ge 59, 3) := by decide +kernel
theorem dX3_sum_17 : decode cX3_sum 17 = .ok (.aload_n 0, 1) := by decide +kernel
theorem dX3_sum_18 : decode cX3_sum 18 = .ok (.invokevirtual 64, 3) := by decide +kernel
theorem dX3_sum_21 : decode cX3_sum 21 = .ok (.bipush 43, 2) := by decide +kernel
theorem dX3_sum_23 : decode cX3_sum 23 = .ok (.if_icmp .eq 12, 3) := by decide +kernel
theorem dX3_sum_26 : decode cX3_sum 26 = .ok (.aload_n 0, 1) := by decide +kernel
theorem dX3_sum_27 : decode cX3_sum 27 = .ok (.invokevirtual 64, 3) := by decide +kernel
theorem dX3_sum_30 : decode cX3_sum 30 = .ok (.bipush 45, 2) := by decide +kernel
theorem dX3_sum_32 : decode cX3_sum 32 = .ok (.if_icmp .ne 41, 3) := by decide +kernel
theorem dX3_sum_35 : decode cX3_sum 35 = .ok (.aload_n 0, 1) := by decide +kernel
theorem dX3_sum_36 : decode cX3_sum 36 = .ok (.invokevirtual 64, 3) := by decide +kernel
theorem dX3_sum_39 : decode cX3_sum 39 = .ok (.bipush 43, 2) := by decide +kernel
theorem dX3_sum_41 : decode cX3_sum 41 = .ok (.if_icmp .ne 7, 3) := by decide +kernel
theorem dX3_sum_44 : decode cX3_sum 44 = .ok (.iconst 4, 1) := by decide +kernel
theorem dX3_sum_45 : decode cX3_sum 45 = .ok (.goto 4, 3) := by decide +kernel
theorem dX3_sum_48 : decode cX3_sum 48 = .ok (.iconst 5, 1) := by decide +kernel
theorem dX3_sum_49 : decode cX3_sum 49 = .ok (.istore_n 3, 1) := by decide +kernel
theorem dX3_sum_50 : decode cX3_sum 50 = .ok (.aload_n 0, 1) := by decide +kernel
theorem dX3_sum_51 : decode cX3_sum 51 = .ok (.dup, 1) := by decide +kernel
theorem dX3_sum_52 : decode cX3_sum 52 = .ok (.getfield 19, 3) := by decide +kernel
theorem dX3_sum_55 : decode cX3_sum 55 = .ok (.iconst 1, 1) := by decide +kernel
theorem dX3_sum_56 : decode cX3_sum 56 = .ok (.iadd, 1) := by decide +kernel
theorem dX3_sum_57 : decode cX3_sum 57 = .ok (.putfield 19, 3) := by decide +kernel
theorem dX3_sum_60 : decode cX3_sum 60 = .ok (.aload_n 2, 1) := by decide +kernel
theorem dX3_sum_61 : decode cX3_sum 61 = .ok (.iload_n 3, 1) := by decide +kernel
theorem dX3_sum_62 : decode cX3_sum 62 = .ok (.aload_n 0, 1) := by decide +kernel
theorem dX3_sum_63 : decode cX3_sum 63 = .ok (.iload_n 1, 1) := by decide +kernel
theorem dX3_sum_64 : decode cX3_sum 64 = .ok (.invokevirtual 150, 3) := by decide +kernel
theorem dX3_sum_67 : decode cX3_sum 67 = .ok (.invokevirtual 146, 3) := by decide +kernel
theorem dX3_sum_70 : decode cX3_sum 70 = .ok (.goto (-64), 3) := by decide +kernel
theorem dX3_sum_73 : decode cX3_sum 73 = .ok (.aload_n 2, 1) := by decide +kernel
theorem dX3_sum_74 : decode cX3_sum 74 = .ok (.areturn, 1) := by decide +kernel
theorem dX3_product_0 : decode cX3_product 0 = .ok (.aload_n 0, 1) := by decide +kernel
theorem dX3_product_1 : decode cX3_product 1 = .ok (.iload_n 1, 1) := by decide +kernel
theorem dX3_product_2 : decode cX3_product 2 = .ok (.invokevirtual 153, 3) := by decide +kernel
theorem dX3_product_5 : decode cX3_product 5 = .ok (.astore_n 2, 1) := by decide +kernel
theorem dX3_product_6 : decode cX3_product 6 = .ok (.aload_n 0, 1) := by decide +kernel
theorem dX3_product_7 : decode cX3_product 7 = .ok (.getfield 19, 3) := by decide +kernel
theorem dX3_product_10 : decode cX3_product 10 = .ok (.aload_n 0, 1) := by decide +kernel
theorem dX3_product_11 : decode cX3_product 11 = .ok (.getfield 15, 3) := by decide +kernel
theorem dX3_product_14 : decode cX3_product 14 = .ok (.if_icmp .ge 36, 3) := by decide +kernel
theorem dX3_product_17 : decode cX3_product 17 = .ok (.aload_n 0, 1) := by decide +kernel
theorem dX3_product_18 : decode cX3_product 18 = .ok (.invokevirtual 64, 3) := by decide +kernel
theorem dX3_product_21 : decode cX3_product 21 = .ok (.bipush 42, 2) := by decide +kernel
theorem dX3_product_23 : decode cX3_product 23 = .ok (.if_icmp .ne 27, 3) := by decide +kernel
theorem dX3_product_26 : decode cX3_product 26 = .ok (.aload_n 0, 1) := by decide +kernel
theorem dX3_product_27 : decode cX3_product 27 = .ok (.dup, 1) := by decide +kernel
theorem dX3_product_28 : decode cX3_product 28 = .ok (.getfield 19, 3) := by decide +kernel
theorem dX3_product_31 : decode cX3_product 31 = .ok (.iconst 1, 1) := by decide +kernel
theorem dX3_product_32 : decode cX3_product 32 = .ok (.iadd, 1) := by decide +kernel
theorem dX3_product_33 : decode cX3_product 33 = .ok (.putfield 19, 3) := by decide +kernel
theorem dX3_product_36 : decode cX3_product 36 = .ok (.aload_n 2, 1) := by decide +kernel
theorem dX3_product_37 : decode cX3_product 37 = .ok (.bipush 6, 2) := by decide +kernel
theorem dX3_product_39 : decode cX3_product 39 = .ok (.aload_n 0, 1) := by decide +kernel
theorem dX3_product_40 : decode cX3_product 40 = .ok (.iload_n 1, 1) := by decide +kernel
theorem dX3_product_41 : decode cX3_product 41 = .ok (.invokevirtual 153, 3) := by decide +kernel
theorem dX3_product_44 : decode cX3_product 44 = .ok (.invokevirtual 146, 3) := by decide +kernel
theorem dX3_product_47 : decode cX3_product 47 = .ok (.goto (-41), 3) := by decide +kernel
theorem dX3_product_50 : decode cX3_product 50 = .ok (.aload_n 2, 1) := by decide +kernel
theorem dX3_product_51 : decode cX3_product 51 = .ok (.areturn, 1) := by decide +kernel
theorem dX3_application_0 : decode cX3_application 0 = .ok (.aload_n 0, 1) := by decide +kernel
theorem dX3_application_1 : decode cX3_application 1 = .ok (.iload_n 1, 1) := by decide +kernel
theorem dX3_application_2 : decode cX3_application 2 = .ok (.invokevirtual 156, 3) := by decide +kernel
theorem dX3_application_5 : decode cX3_application 5 = .ok (.astore_n 2, 1) := by decide +kernel
theorem dX3_application_6 : decode cX3_application 6 = .ok (.new 43, 3) := by decide +kernel
theorem dX3_application_9 : decode cX3_application 9 = .ok (.dup, 1) := by decide +kernel
theorem dX3_application_10 : decode cX3_application 10 = .ok (.invokespecial 55, 3) := by decide +kernel
theorem dX3_application_13 : decode cX3_application 13 = .ok (.astore_n 3, 1) := by decide +kernel
theorem dX3_application_14 : decode cX3_application 14 = .ok (.iconst 0, 1) := by decide +kernel
theorem dX3_application_15 : decode cX3_application 15 = .ok (.istore 4, 2) := by decide +kernel
theorem dX3_application_17 : decode cX3_application 17 = .ok (.iload 4, 2) := by decide +kernel
theorem dX3_application_19 : decode cX3_application 19 = .ok (.aload_n 0, 1) := by decide +kernel
theorem dX3_application_20 : decode cX3_application 20 = .ok (.getfield 15, 3) := by decide +kernel
theorem dX3_application_23 : decode cX3_application 23 = .ok (.if_icmp .ge 42, 3) := by decide +kernel
theorem dX3_application_26 : decode cX3_application 26 = .ok (.aload_n 0, 1) := by decide +kernel
theorem dX3_application_27 : decode cX3_application 27 = .ok (.invokevirtual 64, 3) := by decide +kernel
theorem dX3_application_30 : decode cX3_application 30 = .ok (.invokestatic 159, 3) := by decide +kernel
theorem dX3_application_33 : decode cX3_application 33 = .ok (.ifCond .eq 32, 3) := by decide +kernel
theorem dX3_application_36 : decode cX3_application 36 = .ok (.aload_n 0, 1) := by decide +kernel
theorem dX3_application_37 : decode cX3_application 37 = .ok (.iload_n 1, 1) := by decide +kernel
theorem dX3_application_38 : decode cX3_application 38 = .ok (.invokevirtual 156, 3) := by decide +kernel
theorem dX3_application_41 : decode cX3_application 41 = .ok (.astore 5, 2) := by decide +kernel
theorem dX3_application_43 : decode cX3_application 43 = .ok (.aload 5, 2) := by decide +kernel
theorem dX3_application_45 : decode cX3_application 45 = .ok (.iconst 3, 1) := by decide +kernel
theorem dX3_application_46 : decode cX3_application 46 = .ok (.iconst 0, 1) := by decide +kernel
theorem dX3_application_47 : decode cX3_application 47 = .ok (.invokevirtual 42, 3) := by decide +kernel
theorem dX3_application_50 : decode cX3_application 50 = .ok (.aload 5, 2) := by decide +kernel
theorem dX3_application_52 : decode cX3_application 52 = .ok (.aload_n 3, 1) := by decide +kernel
theorem dX3_application_53 : decode cX3_application 53 = .ok (.invokevirtual 74, 3) := by decide +kernel
theorem dX3_application_56 : decode cX3_application 56 = .ok (.aload 5, 2) := by decide +kernel
theorem dX3_application_58 : decode cX3_application 58 = .ok (.astore_n 3, 1) := by decide +kernel
theorem dX3_application_59 : decode cX3_application 59 = .ok (.iinc 4 1, 3) := by decide +kernel
theorem dX3_application_62 : decode cX3_application 62 = .ok (.goto (-45), 3) := by decide +kernel
theorem dX3_application_65 : decode cX3_application 65 = .ok (.aload_n 3, 1) := by decide +kernel
theorem dX3_application_66 : decode cX3_application 66 = .ok (.aload_n 2, 1) := by decide +kernel
theorem dX3_application_67 : decode cX3_application 67 = .ok (.invokevirtual 74, 3) := by decide +kernel
theorem dX3_application_70 : decode cX3_application 70 = .ok (.iconst 0, 1) := by decide +kernel
theorem dX3_application_71 : decode cX3_application 71 = .ok (.istore 5, 2) := by decide +kernel
theorem dX3_application_73 : decode cX3_application 73 = .ok (.iload 5, 2) := by decide +kernel
theorem dX3_application_75 : decode cX3_application 75 = .ok (.iload 4, 2) := by decide +kernel
theorem dX3_application_77 : decode cX3_application 77 = .ok (.if_icmp .ge 16, 3) := by decide +kernel
theorem dX3_application_80 : decode cX3_application 80 = .ok (.aload_n 3, 1) := by decide +kernel
theorem dX3_application_81 : decode cX3_application 81 = .ok (.bipush 13, 2) := by decide +kernel
theorem dX3_application_83 : decode cX3_application 83 = .ok (.iconst 0, 1) := by decide +kernel
theorem dX3_application_84 : decode cX3_application 84 = .ok (.invokevirtual 42, 3) := by decide +kernel
theorem dX3_application_87 : decode cX3_application 87 = .ok (.iinc 5 1, 3) := by decide +kernel
theorem dX3_application_90 : decode cX3_application 90 = .ok (.goto (-17), 3) := by decide +kernel
theorem dX3_application_93 : decode cX3_application 93 = .ok (.aload_n 3, 1) := by decide +kernel
theorem dX3_application_94 : decode cX3_application 94 = .ok (.areturn, 1) := by decide +kernel
theorem dX3_atom_0 : decode cX3_atom 0 = .ok (.aload_n 0, 1) := by decide +kernel
theorem dX3_atom_1 : decode cX3_atom 1 = .ok (.invokevirtual 64, 3) := by decide +kernel
theorem dX3_atom_4 : decode cX3_atom 4 = .ok (.istore_n 2, 1) := by decide +kernel
theorem dX3_atom_5 : decode cX3_atom 5 = .ok (.iload_n 2, 1) := by decide +kernel
theorem dX3_atom_6 : decode cX3_atom 6 = .ok (.invokestatic 162, 3) := by decide +kernel
theorem dX3_atom_9 : decode cX3_atom 9 = .ok (.ifCond .eq 8, 3) := by decide +kernel
theorem dX3_atom_12 : decode cX3_atom 12 = .ok (.aload_n 0, 1) := by decide +kernel
theorem dX3_atom_13 : decode cX3_atom 13 = .ok (.invokevirtual 165, 3) := by decide +kernel
theorem dX3_atom_16 : decode cX3_atom 16 = .ok (.areturn, 1) := by decide +kernel
theorem dX3_atom_17 : decode cX3_atom 17 = .ok (.iload_n 2, 1) := by decide +kernel
theorem dX3_atom_18 : decode cX3_atom 18 = .ok (.invokestatic 78, 3) := by decide +kernel
theorem dX3_atom_21 : decode cX3_atom 21 = .ok (.ifCond .eq 8, 3) := by decide +kernel
theorem dX3_atom_24 : decode cX3_atom 24 = .ok (.aload_n 0, 1) := by decide +kernel
theorem dX3_atom_25 : decode cX3_atom 25 = .ok (.invokevirtual 169, 3) := by decide +kernel
theorem dX3_atom_28 : decode cX3_atom 28 = .ok (.areturn, 1) := by decide +kernel
theorem dX3_atom_29 : decode cX3_atom 29 = .ok (.iload_n 2, 1) := by decide +kernel
theorem dX3_atom_30 : decode cX3_atom 30 = .ok (.invokestatic 172, 3) := by decide +kernel
theorem dX3_atom_33 : decode cX3_atom 33 = .ok (.ifCond .eq 9, 3) := by decide +kernel
theorem dX3_atom_36 : decode cX3_atom 36 = .ok (.aload_n 0, 1) := by decide +kernel
theorem dX3_atom_37 : decode cX3_atom 37 = .ok (.iload_n 1, 1) := by decide +kernel
theorem dX3_atom_38 : decode cX3_atom 38 = .ok (.invokevirtual 175, 3) := by decide +kernel
theorem dX3_atom_41 : decode cX3_atom 41 = .ok (.areturn, 1) := by decide +kernel
theorem dX3_atom_42 : decode cX3_atom 42 = .ok (.aload_n 0, 1) := by decide +kernel
theorem dX3_atom_43 : decode cX3_atom 43 = .ok (.bipush 40, 2) := by decide +kernel
theorem dX3_atom_45 : decode cX3_atom 45 = .ok (.invokevirtual 120, 3) := by decide +kernel
theorem dX3_atom_48 : decode cX3_atom 48 = .ok (.aload_n 0, 1) := by decide +kernel
theorem dX3_atom_49 : decode cX3_atom 49 = .ok (.iload_n 1, 1) := by decide +kernel
theorem dX3_atom_50 : decode cX3_atom 50 = .ok (.iconst 1, 1) := by decide +kernel
theorem dX3_atom_51 : decode cX3_atom 51 = .ok (.iadd, 1) := by decide +kernel
theorem dX3_atom_52 : decode cX3_atom 52 = .ok (.invokevirtual 35, 3) := by decide +kernel
theorem dX3_atom_55 : decode cX3_atom 55 = .ok (.astore_n 3, 1) := by decide +kernel
theorem dX3_atom_56 : decode cX3_atom 56 = .ok (.aload_n 0, 1) := by decide +kernel
theorem dX3_atom_57 : decode cX3_atom 57 = .ok (.bipush 41, 2) := by decide +kernel
theorem dX3_atom_59 : decode cX3_atom 59 = .ok (.invokevirtual 120, 3) := by decide +kernel
theorem dX3_atom_62 : decode cX3_atom 62 = .ok (.aload_n 3, 1) := by decide +kernel
theorem dX3_atom_63 : decode cX3_atom 63 = .ok (.areturn, 1) := by decide +kernel
theorem dX3_numeral_0 : decode cX3_numeral 0 = .ok (.iconst 0, 1) := by decide +kernel
theorem dX3_numeral_1 : decode cX3_numeral 1 = .ok (.istore_n 1, 1) := by decide +kernel
theorem dX3_numeral_2 : decode cX3_numeral 2 = .ok (.iconst 0, 1) := by decide +kernel
theorem dX3_numeral_3 : decode cX3_numeral 3 = .ok (.istore_n 2, 1) := by decide +kernel
theorem dX3_numeral_4 : decode cX3_numeral 4 = .ok (.iload_n 2, 1) := by decide +kernel
theorem dX3_numeral_5 : decode cX3_numeral 5 = .ok (.iconst 4, 1) := by decide +kernel
theorem dX3_numeral_6 : decode cX3_numeral 6 = .ok (.if_icmp .ge 42, 3) := by decide +kernel
theorem dX3_numeral_9 : decode cX3_numeral 9 = .ok (.aload_n 0, 1) := by decide +kernel
theorem dX3_numeral_10 : decode cX3_numeral 10 = .ok (.invokevirtual 64, 3) := by decide +kernel
theorem dX3_numeral_13 : decode cX3_numeral 13 = .ok (.invokestatic 162, 3) := by decide +kernel
theorem dX3_numeral_16 : decode cX3_numeral 16 = .ok (.ifCond .eq 32, 3) := by decide +kernel
theorem dX3_numeral_19 : decode cX3_numeral 19 = .ok (.bipush 10, 2) := by decide +kernel
theorem dX3_numeral_21 : decode cX3_numeral 21 = .ok (.iload_n 1, 1) := by decide +kernel
theorem dX3_numeral_22 : decode cX3_numeral 22 = .ok (.imul, 1) := by decide +kernel
theorem dX3_numeral_23 : decode cX3_numeral 23 = .ok (.aload_n 0, 1) := by decide +kernel
theorem dX3_numeral_24 : decode cX3_numeral 24 = .ok (.invokevirtual 64, 3) := by decide +kernel
theorem dX3_numeral_27 : decode cX3_numeral 27 = .ok (.bipush 48, 2) := by decide +kernel
theorem dX3_numeral_29 : decode cX3_numeral 29 = .ok (.isub, 1) := by decide +kernel
theorem dX3_numeral_30 : decode cX3_numeral 30 = .ok (.iadd, 1) := by decide +kernel
theorem dX3_numeral_31 : decode cX3_numeral 31 = .ok (.istore_n 1, 1) := by decide +kernel
theorem dX3_numeral_32 : decode cX3_numeral 32 = .ok (.aload_n 0, 1) := by decide +kernel
theorem dX3_numeral_33 : decode cX3_numeral 33 = .ok (.dup, 1) := by decide +kernel
theorem dX3_numeral_34 : decode cX3_numeral 34 = .ok (.getfield 19, 3) := by decide +kernel
theorem dX3_numeral_37 : decode cX3_numeral 37 = .ok (.iconst 1, 1) := by decide +kernel
theorem dX3_numeral_38 : decode cX3_numeral 38 = .ok (.iadd, 1) := by decide +kernel
theorem dX3_numeral_39 : decode cX3_numeral 39 = .ok (.putfield 19, 3) := by decide +kernel
theorem dX3_numeral_42 : decode cX3_numeral 42 = .ok (.iinc 2 1, 3) := by decide +kernel
theorem dX3_numeral_45 : decode cX3_numeral 45 = .ok (.goto (-41), 3) := by decide +kernel
theorem dX3_numeral_48 : decode cX3_numeral 48 = .ok (.iconst 1, 1) := by decide +kernel
theorem dX3_numeral_49 : decode cX3_numeral 49 = .ok (.iload_n 1, 1) := by decide +kernel
theorem dX3_numeral_50 : decode cX3_numeral 50 = .ok (.invokestatic 178, 3) := by decide +kernel
theorem dX3_numeral_53 : decode cX3_numeral 53 = .ok (.areturn, 1) := by decide +kernel
theorem dX3_access_0 : decode cX3_access 0 = .ok (.aload_n 0, 1) := by decide +kernel
theorem dX3_access_1 : decode cX3_access 1 = .ok (.aload_n 0, 1) := by decide +kernel
theorem dX3_access_2 : decode cX3_access 2 = .ok (.invokevirtual 64, 3) := by decide +kernel
theorem dX3_access_5 : decode cX3_access 5 = .ok (.invokevirtual 139, 3) := by decide +kernel
theorem dX3_access_8 : decode cX3_access 8 = .ok (.istore_n 1, 1) := by decide +kernel
theorem dX3_access_9 : decode cX3_access 9 = .ok (.iload_n 1, 1) := by decide +kernel
theorem dX3_access_10 : decode cX3_access 10 = .ok (.iconst (-1), 1) := by decide +kernel
theorem dX3_access_11 : decode cX3_access 11 = .ok (.if_icmp .ne 7, 3) := by decide +kernel
theorem dX3_access_14 : decode cX3_access 14 = .ok (.aload_n 0, 1) := by decide +kernel
theorem dX3_access_15 : decode cX3_access 15 = .ok (.invokevirtual 39, 3) := by decide +kernel
theorem dX3_access_18 : decode cX3_access 18 = .ok (.aload_n 0, 1) := by decide +kernel
theorem dX3_access_19 : decode cX3_access 19 = .ok (.dup, 1) := by decide +kernel
theorem dX3_access_20 : decode cX3_access 20 = .ok (.getfield 19, 3) := by decide +kernel
theorem dX3_access_23 : decode cX3_access 23 = .ok (.iconst 1, 1) := by decide +kernel
theorem dX3_access_24 : decode cX3_access 24 = .ok (.iadd, 1) := by decide +kernel
theorem dX3_access_25 : decode cX3_access 25 = .ok (.putfield 19, 3) := by decide +kernel
theorem dX3_access_28 : decode cX3_access 28 = .ok (.iconst 2, 1) := by decide +kernel
theorem dX3_access_29 : decode cX3_access 29 = .ok (.iload_n 1, 1) := by decide +kernel
theorem dX3_access_30 : decode cX3_access 30 = .ok (.invokestatic 178, 3) := by decide +kernel
theorem dX3_access_33 : decode cX3_access 33 = .ok (.areturn, 1) := by decide +kernel
theorem dX3_construction_0 : decode cX3_construction 0 = .ok (.aload_n 0, 1) := by decide +kernel
theorem dX3_construction_1 : decode cX3_construction 1 = .ok (.iconst 0, 1) := by decide +kernel
theorem dX3_construction_2 : decode cX3_construction 2 = .ok (.invokevirtual 125, 3) := by decide +kernel
theorem dX3_construction_5 : decode cX3_construction 5 = .ok (.istore_n 2, 1) := by decide +kernel
theorem dX3_construction_6 : decode cX3_construction 6 = .ok (.iload_n 2, 1) := by decide +kernel
theorem dX3_construction_7 : decode cX3_construction 7 = .ok (.invokestatic 136, 3) := by decide +kernel
theorem dX3_construction_10 : decode cX3_construction 10 = .ok (.istore_n 3, 1) := by decide +kernel
theorem dX3_construction_11 : decode cX3_construction 11 = .ok (.iload_n 3, 1) := by decide +kernel
theorem dX3_construction_12 : decode cX3_construction 12 = .ok (.ifCond .ne 10, 3) := by decide +kernel
theorem dX3_construction_15 : decode cX3_construction 15 = .ok (.bipush 16, 2) := by decide +kernel
theorem dX3_construction_17 : decode cX3_construction 17 = .ok (.iload_n 2, 1) := by decide +kernel
theorem dX3_construction_18 : decode cX3_construction 18 = .ok (.invokestatic 178, 3) := by decide +kernel
theorem dX3_construction_21 : decode cX3_construction 21 = .ok (.areturn, 1) := by decide +kernel
theorem dX3_construction_22 : decode cX3_construction 22 = .ok (.new 43, 3) := by decide +kernel
theorem dX3_construction_25 : decode cX3_construction 25 = .ok (.dup, 1) := by decide +kernel
theorem dX3_construction_26 : decode cX3_construction 26 = .ok (.invokespecial 55, 3) := by decide +kernel
theorem dX3_construction_29 : decode cX3_construction 29 = .ok (.astore 4, 2) := by decide +kernel
theorem dX3_construction_31 : decode cX3_construction 31 = .ok (.iconst 0, 1) := by decide +kernel
theorem dX3_construction_32 : decode cX3_construction 32 = .ok (.istore 5, 2) := by decide +kernel
theorem dX3_construction_34 : decode cX3_construction 34 = .ok (.iload 5, 2) := by decide +kernel
theorem dX3_construction_36 : decode cX3_construction 36 = .ok (.iload_n 3, 1) := by decide +kernel
theorem dX3_construction_37 : decode cX3_construction 37 = .ok (.if_icmp .ge 49, 3) := by decide +kernel
theorem dX3_construction_40 : decode cX3_construction 40 = .ok (.iload 5, 2) := by decide +kernel
theorem dX3_construction_42 : decode cX3_construction 42 = .ok (.ifCond .le 10, 3) := by decide +kernel
theorem dX3_construction_45 : decode cX3_construction 45 = .ok (.aload 4, 2) := by decide +kernel
theorem dX3_construction_47 : decode cX3_construction 47 = .ok (.iconst 3, 1) := by decide +kernel
theorem dX3_construction_48 : decode cX3_construction 48 = .ok (.iconst 0, 1) := by decide +kernel
theorem dX3_construction_49 : decode cX3_construction 49 = .ok (.invokevirtual 42, 3) := by decide +kernel
theorem dX3_construction_52 : decode cX3_construction 52 = .ok (.aload_n 0, 1) := by decide +kernel
theorem dX3_construction_53 : decode cX3_construction 53 = .ok (.iload 5, 2) := by decide +kernel
theorem dX3_construction_55 : decode cX3_construction 55 = .ok (.ifCond .ne 8, 3) := by decide +kernel
theorem dX3_construction_58 : decode cX3_construction 58 = .ok (.bipush 40, 2) := by decide +kernel
theorem dX3_construction_60 : decode cX3_construction 60 = .ok (.goto 5, 3) := by decide +kernel
theorem dX3_construction_63 : decode cX3_construction 63 = .ok (.bipush 44, 2) := by decide +kernel
theorem dX3_construction_65 : decode cX3_construction 65 = .ok (.invokevirtual 120, 3) := by decide +kernel
theorem dX3_construction_68 : decode cX3_construction 68 = .ok (.aload 4, 2) := by decide +kernel
theorem dX3_construction_70 : decode cX3_construction 70 = .ok (.aload_n 0, 1) := by decide +kernel
theorem dX3_construction_71 : decode cX3_construction 71 = .ok (.iload_n 1, 1) := by decide +kernel
theorem dX3_construction_72 : decode cX3_construction 72 = .ok (.iconst 1, 1) := by decide +kernel
theorem dX3_construction_73 : decode cX3_construction 73 = .ok (.iadd, 1) := by decide +kernel
theorem dX3_construction_74 : decode cX3_construction 74 = .ok (.invokevirtual 35, 3) := by decide +kernel
theorem dX3_construction_77 : decode cX3_construction 77 = .ok (.invokevirtual 74, 3) := by decide +kernel
theorem dX3_construction_80 : decode cX3_construction 80 = .ok (.iinc 5 1, 3) := by decide +kernel
theorem dX3_construction_83 : decode cX3_construction 83 = .ok (.goto (-49), 3) := by decide +kernel
theorem dX3_construction_86 : decode cX3_construction 86 = .ok (.aload_n 0, 1) := by decide +kernel
theorem dX3_construction_87 : decode cX3_construction 87 = .ok (.bipush 41, 2) := by decide +kernel
theorem dX3_construction_89 : decode cX3_construction 89 = .ok (.invokevirtual 120, 3) := by decide +kernel
theorem dX3_construction_92 : decode cX3_construction 92 = .ok (.aload 4, 2) := by decide +kernel
theorem dX3_construction_94 : decode cX3_construction 94 = .ok (.bipush 17, 2) := by decide +kernel
theorem dX3_construction_96 : decode cX3_construction 96 = .ok (.iload_n 2, 1) := by decide +kernel
theorem dX3_construction_97 : decode cX3_construction 97 = .ok (.invokevirtual 42, 3) := by decide +kernel
theorem dX3_construction_100 : decode cX3_construction 100 = .ok (.aload 4, 2) := by decide +kernel
theorem dX3_construction_102 : decode cX3_construction 102 = .ok (.areturn, 1) := by decide +kernel
theorem dX3_rowOf_0 : decode cX3_rowOf 0 = .ok (.new 43, 3) := by decide +kernel
theorem dX3_rowOf_3 : decode cX3_rowOf 3 = .ok (.dup, 1) := by decide +kernel
theorem dX3_rowOf_4 : decode cX3_rowOf 4 = .ok (.invokespecial 55, 3) := by decide +kernel
theorem dX3_rowOf_7 : decode cX3_rowOf 7 = .ok (.astore_n 2, 1) := by decide +kernel
theorem dX3_rowOf_8 : decode cX3_rowOf 8 = .ok (.aload_n 2, 1) := by decide +kernel
theorem dX3_rowOf_9 : decode cX3_rowOf 9 = .ok (.iload_n 0, 1) := by decide +kernel
theorem dX3_rowOf_10 : decode cX3_rowOf 10 = .ok (.iload_n 1, 1) := by decide +kernel
theorem dX3_rowOf_11 : decode cX3_rowOf 11 = .ok (.invokevirtual 42, 3) := by decide +kernel
theorem dX3_rowOf_14 : decode cX3_rowOf 14 = .ok (.aload_n 2, 1) := by decide +kernel
theorem dX3_rowOf_15 : decode cX3_rowOf 15 = .ok (.areturn, 1) := by decide +kernel
theorem dX3_label_0 : decode cX3_label 0 = .ok (.new 115, 3) := by decide +kernel
theorem dX3_label_3 : decode cX3_label 3 = .ok (.dup, 1) := by decide +kernel
theorem dX3_label_4 : decode cX3_label 4 = .ok (.bipush 21, 2) := by decide +kernel
theorem dX3_label_6 : decode cX3_label 6 = .ok (.iconst 0, 1) := by decide +kernel
theorem dX3_label_7 : decode cX3_label 7 = .ok (.aconst_null, 1) := by decide +kernel
theorem dX3_label_8 : decode cX3_label 8 = .ok (.invokespecial 117, 3) := by decide +kernel
theorem dX3_label_11 : decode cX3_label 11 = .ok (.areturn, 1) := by decide +kernel
theorem dX3_peek_0 : decode cX3_peek 0 = .ok (.aload_n 0, 1) := by decide +kernel
theorem dX3_peek_1 : decode cX3_peek 1 = .ok (.aload_n 0, 1) := by decide +kernel
theorem dX3_peek_2 : decode cX3_peek 2 = .ok (.getfield 19, 3) := by decide +kernel
theorem dX3_peek_5 : decode cX3_peek 5 = .ok (.invokevirtual 82, 3) := by decide +kernel
theorem dX3_peek_8 : decode cX3_peek 8 = .ok (.ireturn, 1) := by decide +kernel
theorem dX3_characterAt_0 : decode cX3_characterAt 0 = .ok (.iload_n 1, 1) := by decide +kernel
theorem dX3_characterAt_1 : decode cX3_characterAt 1 = .ok (.ifCond .lt 29, 3) := by decide +kernel
theorem dX3_characterAt_4 : decode cX3_characterAt 4 = .ok (.iload_n 1, 1) := by decide +kernel
theorem dX3_characterAt_5 : decode cX3_characterAt 5 = .ok (.aload_n 0, 1) := by decide +kernel
theorem dX3_characterAt_6 : decode cX3_characterAt 6 = .ok (.getfield 15, 3) := by decide +kernel
theorem dX3_characterAt_9 : decode cX3_characterAt 9 = .ok (.if_icmp .ge 21, 3) := by decide +kernel
theorem dX3_characterAt_12 : decode cX3_characterAt 12 = .ok (.iload_n 1, 1) := by decide +kernel
theorem dX3_characterAt_13 : decode cX3_characterAt 13 = .ok (.aload_n 0, 1) := by decide +kernel
theorem dX3_characterAt_14 : decode cX3_characterAt 14 = .ok (.getfield 9, 3) := by decide +kernel
theorem dX3_characterAt_17 : decode cX3_characterAt 17 = .ok (.arraylength, 1) := by decide +kernel
theorem dX3_characterAt_18 : decode cX3_characterAt 18 = .ok (.if_icmp .ge 12, 3) := by decide +kernel
theorem dX3_characterAt_21 : decode cX3_characterAt 21 = .ok (.aload_n 0, 1) := by decide +kernel
theorem dX3_characterAt_22 : decode cX3_characterAt 22 = .ok (.getfield 9, 3) := by decide +kernel
theorem dX3_characterAt_25 : decode cX3_characterAt 25 = .ok (.iload_n 1, 1) := by decide +kernel
theorem dX3_characterAt_26 : decode cX3_characterAt 26 = .ok (.caload, 1) := by decide +kernel
theorem dX3_characterAt_27 : decode cX3_characterAt 27 = .ok (.goto 4, 3) := by decide +kernel
theorem dX3_characterAt_30 : decode cX3_characterAt 30 = .ok (.iconst 0, 1) := by decide +kernel
theorem dX3_characterAt_31 : decode cX3_characterAt 31 = .ok (.ireturn, 1) := by decide +kernel
theorem dX3_expect_0 : decode cX3_expect 0 = .ok (.aload_n 0, 1) := by decide +kernel
theorem dX3_expect_1 : decode cX3_expect 1 = .ok (.invokevirtual 64, 3) := by decide +kernel
theorem dX3_expect_4 : decode cX3_expect 4 = .ok (.iload_n 1, 1) := by decide +kernel
theorem dX3_expect_5 : decode cX3_expect 5 = .ok (.if_icmp .eq 7, 3) := by decide +kernel
theorem dX3_expect_8 : decode cX3_expect 8 = .ok (.aload_n 0, 1) := by decide +kernel
theorem dX3_expect_9 : decode cX3_expect 9 = .ok (.invokevirtual 39, 3) := by decide +kernel
theorem dX3_expect_12 : decode cX3_expect 12 = .ok (.aload_n 0, 1) := by decide +kernel
theorem dX3_expect_13 : decode cX3_expect 13 = .ok (.dup, 1) := by decide +kernel
theorem dX3_expect_14 : decode cX3_expect 14 = .ok (.getfield 19, 3) := by decide +kernel
theorem dX3_expect_17 : decode cX3_expect 17 = .ok (.iconst 1, 1) := by decide +kernel
theorem dX3_expect_18 : decode cX3_expect 18 = .ok (.iadd, 1) := by decide +kernel
theorem dX3_expect_19 : decode cX3_expect 19 = .ok (.putfield 19, 3) := by decide +kernel
theorem dX3_expect_22 : decode cX3_expect 22 = .ok (.return_, 1) := by decide +kernel
theorem dX3_takeName_0 : decode cX3_takeName 0 = .ok (.aload_n 0, 1) := by decide +kernel
theorem dX3_takeName_1 : decode cX3_takeName 1 = .ok (.invokevirtual 64, 3) := by decide +kernel
theorem dX3_takeName_4 : decode cX3_takeName 4 = .ok (.istore_n 1, 1) := by decide +kernel
theorem dX3_takeName_5 : decode cX3_takeName 5 = .ok (.iload_n 1, 1) := by decide +kernel
theorem dX3_takeName_6 : decode cX3_takeName 6 = .ok (.invokestatic 78, 3) := by decide +kernel
theorem dX3_takeName_9 : decode cX3_takeName 9 = .ok (.ifCond .ne 7, 3) := by decide +kernel
theorem dX3_takeName_12 : decode cX3_takeName 12 = .ok (.aload_n 0, 1) := by decide +kernel
theorem dX3_takeName_13 : decode cX3_takeName 13 = .ok (.invokevirtual 39, 3) := by decide +kernel
theorem dX3_takeName_16 : decode cX3_takeName 16 = .ok (.aload_n 0, 1) := by decide +kernel
theorem dX3_takeName_17 : decode cX3_takeName 17 = .ok (.dup, 1) := by decide +kernel
theorem dX3_takeName_18 : decode cX3_takeName 18 = .ok (.getfield 19, 3) := by decide +kernel
theorem dX3_takeName_21 : decode cX3_takeName 21 = .ok (.iconst 1, 1) := by decide +kernel
theorem dX3_takeName_22 : decode cX3_takeName 22 = .ok (.iadd, 1) := by decide +kernel
theorem dX3_takeName_23 : decode cX3_takeName 23 = .ok (.putfield 19, 3) := by decide +kernel
theorem dX3_takeName_26 : decode cX3_takeName 26 = .ok (.iload_n 1, 1) := by decide +kernel
theorem dX3_takeName_27 : decode cX3_takeName 27 = .ok (.ireturn, 1) := by decide +kernel
theorem dX3_takeTagNotIn_0 : decode cX3_takeTagNotIn 0 = .ok (.aload_n 0, 1) := by decide +kernel
theorem dX3_takeTagNotIn_1 : decode cX3_takeTagNotIn 1 = .ok (.invokevirtual 64, 3) := by decide +kernel
theorem dX3_takeTagNotIn_4 : decode cX3_takeTagNotIn 4 = .ok (.istore_n 2, 1) := by decide +kernel
theorem dX3_takeTagNotIn_5 : decode cX3_takeTagNotIn 5 = .ok (.iload_n 2, 1) := by decide +kernel
theorem dX3_takeTagNotIn_6 : decode cX3_takeTagNotIn 6 = .ok (.bipush 65, 2) := by decide +kernel
theorem dX3_takeTagNotIn_8 : decode cX3_takeTagNotIn 8 = .ok (.isub, 1) := by decide +kernel
theorem dX3_takeTagNotIn_9 : decode cX3_takeTagNotIn 9 = .ok (.istore_n 3, 1) := by decide +kernel
theorem dX3_takeTagNotIn_10 : decode cX3_takeTagNotIn 10 = .ok (.iload_n 2, 1) := by decide +kernel
theorem dX3_takeTagNotIn_11 : decode cX3_takeTagNotIn 11 = .ok (.invokestatic 172, 3) := by decide +kernel
theorem dX3_takeTagNotIn_14 : decode cX3_takeTagNotIn 14 = .ok (.ifCond .eq 12, 3) := by decide +kernel
theorem dX3_takeTagNotIn_17 : decode cX3_takeTagNotIn 17 = .ok (.iload_n 1, 1) := by decide +kernel
theorem dX3_takeTagNotIn_18 : decode cX3_takeTagNotIn 18 = .ok (.iload_n 3, 1) := by decide +kernel
theorem dX3_takeTagNotIn_19 : decode cX3_takeTagNotIn 19 = .ok (.ishr, 1) := by decide +kernel
theorem dX3_takeTagNotIn_20 : decode cX3_takeTagNotIn 20 = .ok (.iconst 1, 1) := by decide +kernel
theorem dX3_takeTagNotIn_21 : decode cX3_takeTagNotIn 21 = .ok (.iand, 1) := by decide +kernel
theorem dX3_takeTagNotIn_22 : decode cX3_takeTagNotIn 22 = .ok (.iconst 1, 1) := by decide +kernel
theorem dX3_takeTagNotIn_23 : decode cX3_takeTagNotIn 23 = .ok (.if_icmp .ne 7, 3) := by decide +kernel
theorem dX3_takeTagNotIn_26 : decode cX3_takeTagNotIn 26 = .ok (.aload_n 0, 1) := by decide +kernel
theorem dX3_takeTagNotIn_27 : decode cX3_takeTagNotIn 27 = .ok (.invokevirtual 39, 3) := by decide +kernel
theorem dX3_takeTagNotIn_30 : decode cX3_takeTagNotIn 30 = .ok (.aload_n 0, 1) := by decide +kernel
theorem dX3_takeTagNotIn_31 : decode cX3_takeTagNotIn 31 = .ok (.dup, 1) := by decide +kernel
theorem dX3_takeTagNotIn_32 : decode cX3_takeTagNotIn 32 = .ok (.getfield 19, 3) := by decide +kernel
theorem dX3_takeTagNotIn_35 : decode cX3_takeTagNotIn 35 = .ok (.iconst 1, 1) := by decide +kernel
theorem dX3_takeTagNotIn_36 : decode cX3_takeTagNotIn 36 = .ok (.iadd, 1) := by decide +kernel
theorem dX3_takeTagNotIn_37 : decode cX3_takeTagNotIn 37 = .ok (.putfield 19, 3) := by decide +kernel
theorem dX3_takeTagNotIn_40 : decode cX3_takeTagNotIn 40 = .ok (.iload_n 3, 1) := by decide +kernel
theorem dX3_takeTagNotIn_41 : decode cX3_takeTagNotIn 41 = .ok (.ireturn, 1) := by decide +kernel
theorem dX3_bind_0 : decode cX3_bind 0 = .ok (.aload_n 0, 1) := by decide +kernel
theorem dX3_bind_1 : decode cX3_bind 1 = .ok (.getfield 25, 3) := by decide +kernel
theorem dX3_bind_4 : decode cX3_bind 4 = .ok (.aload_n 0, 1) := by decide +kernel
theorem dX3_bind_5 : decode cX3_bind 5 = .ok (.getfield 22, 3) := by decide +kernel
theorem dX3_bind_8 : decode cX3_bind 8 = .ok (.arraylength, 1) := by decide +kernel
theorem dX3_bind_9 : decode cX3_bind 9 = .ok (.if_icmp .ge 23, 3) := by decide +kernel
theorem dX3_bind_12 : decode cX3_bind 12 = .ok (.aload_n 0, 1) := by decide +kernel
theorem dX3_bind_13 : decode cX3_bind 13 = .ok (.getfield 22, 3) := by decide +kernel
theorem dX3_bind_16 : decode cX3_bind 16 = .ok (.aload_n 0, 1) := by decide +kernel
theorem dX3_bind_17 : decode cX3_bind 17 = .ok (.getfield 25, 3) := by decide +kernel
theorem dX3_bind_20 : decode cX3_bind 20 = .ok (.iload_n 1, 1) := by decide +kernel
theorem dX3_bind_21 : decode cX3_bind 21 = .ok (.castore, 1) := by decide +kernel
theorem dX3_bind_22 : decode cX3_bind 22 = .ok (.aload_n 0, 1) := by decide +kernel
theorem dX3_bind_23 : decode cX3_bind 23 = .ok (.dup, 1) := by decide +kernel
theorem dX3_bind_24 : decode cX3_bind 24 = .ok (.getfield 25, 3) := by decide +kernel
theorem dX3_bind_27 : decode cX3_bind 27 = .ok (.iconst 1, 1) := by decide +kernel
theorem dX3_bind_28 : decode cX3_bind 28 = .ok (.iadd, 1) := by decide +kernel
theorem dX3_bind_29 : decode cX3_bind 29 = .ok (.putfield 25, 3) := by decide +kernel
theorem dX3_bind_32 : decode cX3_bind 32 = .ok (.return_, 1) := by decide +kernel
theorem dX3_furtherOn_0 : decode cX3_furtherOn 0 = .ok (.aload_n 0, 1) := by decide +kernel
theorem dX3_furtherOn_1 : decode cX3_furtherOn 1 = .ok (.getfield 25, 3) := by decide +kernel
theorem dX3_furtherOn_4 : decode cX3_furtherOn 4 = .ok (.iconst 1, 1) := by decide +kernel
theorem dX3_furtherOn_5 : decode cX3_furtherOn 5 = .ok (.isub, 1) := by decide +kernel
theorem dX3_furtherOn_6 : decode cX3_furtherOn 6 = .ok (.istore_n 2, 1) := by decide +kernel
theorem dX3_furtherOn_7 : decode cX3_furtherOn 7 = .ok (.iload_n 2, 1) := by decide +kernel
theorem dX3_furtherOn_8 : decode cX3_furtherOn 8 = .ok (.ifCond .lt 37, 3) := by decide +kernel
theorem dX3_furtherOn_11 : decode cX3_furtherOn 11 = .ok (.iload_n 2, 1) := by decide +kernel
theorem dX3_furtherOn_12 : decode cX3_furtherOn 12 = .ok (.aload_n 0, 1) := by decide +kernel
theorem dX3_furtherOn_13 : decode cX3_furtherOn 13 = .ok (.getfield 22, 3) := by decide +kernel
theorem dX3_furtherOn_16 : decode cX3_furtherOn 16 = .ok (.arraylength, 1) := by decide +kernel
theorem dX3_furtherOn_17 : decode cX3_furtherOn 17 = .ok (.if_icmp .ge 28, 3) := by decide +kernel
theorem dX3_furtherOn_20 : decode cX3_furtherOn 20 = .ok (.aload_n 0, 1) := by decide +kernel
theorem dX3_furtherOn_21 : decode cX3_furtherOn 21 = .ok (.getfield 22, 3) := by decide +kernel
theorem dX3_furtherOn_24 : decode cX3_furtherOn 24 = .ok (.iload_n 2, 1) := by decide +kernel
theorem dX3_furtherOn_25 : decode cX3_furtherOn 25 = .ok (.caload, 1) := by decide +kernel
theorem dX3_furtherOn_26 : decode cX3_furtherOn 26 = .ok (.iload_n 1, 1) := by decide +kernel
theorem dX3_furtherOn_27 : decode cX3_furtherOn 27 = .ok (.if_icmp .ne 12, 3) := by decide +kernel
theorem dX3_furtherOn_30 : decode cX3_furtherOn 30 = .ok (.aload_n 0, 1) := by decide +kernel
theorem dX3_furtherOn_31 : decode cX3_furtherOn 31 = .ok (.getfield 25, 3) := by decide +kernel
theorem dX3_furtherOn_34 : decode cX3_furtherOn 34 = .ok (.iconst 1, 1) := by decide +kernel
theorem dX3_furtherOn_35 : decode cX3_furtherOn 35 = .ok (.isub, 1) := by decide +kernel
theorem dX3_furtherOn_36 : decode cX3_furtherOn 36 = .ok (.iload_n 2, 1) := by decide +kernel
theorem dX3_furtherOn_37 : decode cX3_furtherOn 37 = .ok (.isub, 1) := by decide +kernel
theorem dX3_furtherOn_38 : decode cX3_furtherOn 38 = .ok (.ireturn, 1) := by decide +kernel
theorem dX3_furtherOn_39 : decode cX3_furtherOn 39 = .ok (.iinc 2 (-1), 3) := by decide +kernel
theorem dX3_furtherOn_42 : decode cX3_furtherOn 42 = .ok (.goto (-35), 3) := by decide +kernel
theorem dX3_furtherOn_45 : decode cX3_furtherOn 45 = .ok (.iconst (-1), 1) := by decide +kernel
theorem dX3_furtherOn_46 : decode cX3_furtherOn 46 = .ok (.ireturn, 1) := by decide +kernel
theorem dX3_beginsAtom_0 : decode cX3_beginsAtom 0 = .ok (.iload_n 0, 1) := by decide +kernel
theorem dX3_beginsAtom_1 : decode cX3_beginsAtom 1 = .ok (.invokestatic 162, 3) := by decide +kernel
theorem dX3_beginsAtom_4 : decode cX3_beginsAtom 4 = .ok (.ifCond .ne 23, 3) := by decide +kernel
theorem dX3_beginsAtom_7 : decode cX3_beginsAtom 7 = .ok (.iload_n 0, 1) := by decide +kernel
theorem dX3_beginsAtom_8 : decode cX3_beginsAtom 8 = .ok (.invokestatic 78, 3) := by decide +kernel
theorem dX3_beginsAtom_11 : decode cX3_beginsAtom 11 = .ok (.ifCond .ne 16, 3) := by decide +kernel
theorem dX3_beginsAtom_14 : decode cX3_beginsAtom 14 = .ok (.iload_n 0, 1) := by decide +kernel
theorem dX3_beginsAtom_15 : decode cX3_beginsAtom 15 = .ok (.invokestatic 172, 3) := by decide +kernel
theorem dX3_beginsAtom_18 : decode cX3_beginsAtom 18 = .ok (.ifCond .ne 9, 3) := by decide +kernel
theorem dX3_beginsAtom_21 : decode cX3_beginsAtom 21 = .ok (.iload_n 0, 1) := by decide +kernel
theorem dX3_beginsAtom_22 : decode cX3_beginsAtom 22 = .ok (.bipush 40, 2) := by decide +kernel
theorem dX3_beginsAtom_24 : decode cX3_beginsAtom 24 = .ok (.if_icmp .ne 7, 3) := by decide +kernel
theorem dX3_beginsAtom_27 : decode cX3_beginsAtom 27 = .ok (.iconst 1, 1) := by decide +kernel
theorem dX3_beginsAtom_28 : decode cX3_beginsAtom 28 = .ok (.goto 4, 3) := by decide +kernel
theorem dX3_beginsAtom_31 : decode cX3_beginsAtom 31 = .ok (.iconst 0, 1) := by decide +kernel
theorem dX3_beginsAtom_32 : decode cX3_beginsAtom 32 = .ok (.ireturn, 1) := by decide +kernel
theorem dX3_isDigit_0 : decode cX3_isDigit 0 = .ok (.iload_n 0, 1) := by decide +kernel
theorem dX3_isDigit_1 : decode cX3_isDigit 1 = .ok (.bipush 48, 2) := by decide +kernel
theorem dX3_isDigit_3 : decode cX3_isDigit 3 = .ok (.if_icmp .lt 13, 3) := by decide +kernel
theorem dX3_isDigit_6 : decode cX3_isDigit 6 = .ok (.iload_n 0, 1) := by decide +kernel
theorem dX3_isDigit_7 : decode cX3_isDigit 7 = .ok (.bipush 57, 2) := by decide +kernel
theorem dX3_isDigit_9 : decode cX3_isDigit 9 = .ok (.if_icmp .gt 7, 3) := by decide +kernel
theorem dX3_isDigit_12 : decode cX3_isDigit 12 = .ok (.iconst 1, 1) := by decide +kernel
theorem dX3_isDigit_13 : decode cX3_isDigit 13 = .ok (.goto 4, 3) := by decide +kernel
theorem dX3_isDigit_16 : decode cX3_isDigit 16 = .ok (.iconst 0, 1) := by decide +kernel
theorem dX3_isDigit_17 : decode cX3_isDigit 17 = .ok (.ireturn, 1) := by decide +kernel
theorem dX3_isName_0 : decode cX3_isName 0 = .ok (.iload_n 0, 1) := by decide +kernel
theorem dX3_isName_1 : decode cX3_isName 1 = .ok (.bipush 97, 2) := by decide +kernel
theorem dX3_isName_3 : decode cX3_isName 3 = .ok (.if_icmp .lt 13, 3) := by decide +kernel
theorem dX3_isName_6 : decode cX3_isName 6 = .ok (.iload_n 0, 1) := by decide +kernel
theorem dX3_isName_7 : decode cX3_isName 7 = .ok (.bipush 122, 2) := by decide +kernel
theorem dX3_isName_9 : decode cX3_isName 9 = .ok (.if_icmp .gt 7, 3) := by decide +kernel
theorem dX3_isName_12 : decode cX3_isName 12 = .ok (.iconst 1, 1) := by decide +kernel
theorem dX3_isName_13 : decode cX3_isName 13 = .ok (.goto 4, 3) := by decide +kernel
theorem dX3_isName_16 : decode cX3_isName 16 = .ok (.iconst 0, 1) := by decide +kernel
theorem dX3_isName_17 : decode cX3_isName 17 = .ok (.ireturn, 1) := by decide +kernel
theorem dX3_isConstructor_0 : decode cX3_isConstructor 0 = .ok (.iload_n 0, 1) := by decide +kernel
theorem dX3_isConstructor_1 : decode cX3_isConstructor 1 = .ok (.bipush 65, 2) := by decide +kernel
theorem dX3_isConstructor_3 : decode cX3_isConstructor 3 = .ok (.if_icmp .lt 13, 3) := by decide +kernel
theorem dX3_isConstructor_6 : decode cX3_isConstructor 6 = .ok (.iload_n 0, 1) := by decide +kernel
theorem dX3_isConstructor_7 : decode cX3_isConstructor 7 = .ok (.bipush 73, 2) := by decide +kernel
theorem dX3_isConstructor_9 : decode cX3_isConstructor 9 = .ok (.if_icmp .ge 7, 3) := by decide +kernel
theorem dX3_isConstructor_12 : decode cX3_isConstructor 12 = .ok (.iconst 1, 1) := by decide +kernel
theorem dX3_isConstructor_13 : decode cX3_isConstructor 13 = .ok (.goto 4, 3) := by decide +kernel
theorem dX3_isConstructor_16 : decode cX3_isConstructor 16 = .ok (.iconst 0, 1) := by decide +kernel
theorem dX3_isConstructor_17 : decode cX3_isConstructor 17 = .ok (.ireturn, 1) := by decide +kernel
theorem dX4_init_0 : decode cX4_init 0 = .ok (.aload_n 0, 1) := by decide +kernel
theorem dX4_init_1 : decode cX4_init 1 = .ok (.invokespecial 3, 3) := by decide +kernel
theorem dX4_init_4 : decode cX4_init 4 = .ok (.aload_n 0, 1) := by decide +kernel
theorem dX4_init_5 : decode cX4_init 5 = .ok (.aconst_null, 1) := by decide +kernel
theorem dX4_init_6 : decode cX4_init 6 = .ok (.putfield 9, 3) := by decide +kernel
theorem dX4_init_9 : decode cX4_init 9 = .ok (.aload_n 0, 1) := by decide +kernel
theorem dX4_init_10 : decode cX4_init 10 = .ok (.aconst_null, 1) := by decide +kernel
theorem dX4_init_11 : decode cX4_init 11 = .ok (.putfield 15, 3) := by decide +kernel
theorem dX4_init_14 : decode cX4_init 14 = .ok (.return_, 1) := by decide +kernel
theorem dX4_add_0 : decode cX4_add 0 = .ok (.aload_n 0, 1) := by decide +kernel
theorem dX4_add_1 : decode cX4_add 1 = .ok (.getfield 15, 3) := by decide +kernel
theorem dX4_add_4 : decode cX4_add 4 = .ok (.ifnonnull 11, 3) := by decide +kernel
theorem dX4_add_7 : decode cX4_add 7 = .ok (.aload_n 0, 1) := by decide +kernel
theorem dX4_add_8 : decode cX4_add 8 = .ok (.aload_n 1, 1) := by decide +kernel
theorem dX4_add_9 : decode cX4_add 9 = .ok (.putfield 9, 3) := by decide +kernel
theorem dX4_add_12 : decode cX4_add 12 = .ok (.goto 11, 3) := by decide +kernel
theorem dX4_add_15 : decode cX4_add 15 = .ok (.aload_n 0, 1) := by decide +kernel
theorem dX4_add_16 : decode cX4_add 16 = .ok (.getfield 15, 3) := by decide +kernel
theorem dX4_add_19 : decode cX4_add 19 = .ok (.aload_n 1, 1) := by decide +kernel
theorem dX4_add_20 : decode cX4_add 20 = .ok (.putfield 18, 3) := by decide +kernel
theorem dX4_add_23 : decode cX4_add 23 = .ok (.aload_n 0, 1) := by decide +kernel
theorem dX4_add_24 : decode cX4_add 24 = .ok (.aload_n 1, 1) := by decide +kernel
theorem dX4_add_25 : decode cX4_add 25 = .ok (.putfield 15, 3) := by decide +kernel
theorem dX4_add_28 : decode cX4_add 28 = .ok (.return_, 1) := by decide +kernel
theorem dX4_add__0 : decode cX4_add_ 0 = .ok (.aload_n 0, 1) := by decide +kernel
theorem dX4_add__1 : decode cX4_add_ 1 = .ok (.new 19, 3) := by decide +kernel
theorem dX4_add__4 : decode cX4_add_ 4 = .ok (.dup, 1) := by decide +kernel
theorem dX4_add__5 : decode cX4_add_ 5 = .ok (.iload_n 1, 1) := by decide +kernel
theorem dX4_add__6 : decode cX4_add_ 6 = .ok (.iload_n 2, 1) := by decide +kernel
theorem dX4_add__7 : decode cX4_add_ 7 = .ok (.aconst_null, 1) := by decide +kernel
theorem dX4_add__8 : decode cX4_add_ 8 = .ok (.invokespecial 23, 3) := by decide +kernel
theorem dX4_add__11 : decode cX4_add_ 11 = .ok (.invokevirtual 26, 3) := by decide +kernel
theorem dX4_add__14 : decode cX4_add_ 14 = .ok (.return_, 1) := by decide +kernel
theorem dX4_addFirst_0 : decode cX4_addFirst 0 = .ok (.aload_n 1, 1) := by decide +kernel
theorem dX4_addFirst_1 : decode cX4_addFirst 1 = .ok (.aload_n 0, 1) := by decide +kernel
theorem dX4_addFirst_2 : decode cX4_addFirst 2 = .ok (.getfield 9, 3) := by decide +kernel
theorem dX4_addFirst_5 : decode cX4_addFirst 5 = .ok (.putfield 18, 3) := by decide +kernel
theorem dX4_addFirst_8 : decode cX4_addFirst 8 = .ok (.aload_n 0, 1) := by decide +kernel
theorem dX4_addFirst_9 : decode cX4_addFirst 9 = .ok (.aload_n 1, 1) := by decide +kernel
theorem dX4_addFirst_10 : decode cX4_addFirst 10 = .ok (.putfield 9, 3) := by decide +kernel
theorem dX4_addFirst_13 : decode cX4_addFirst 13 = .ok (.aload_n 0, 1) := by decide +kernel
theorem dX4_addFirst_14 : decode cX4_addFirst 14 = .ok (.getfield 15, 3) := by decide +kernel
theorem dX4_addFirst_17 : decode cX4_addFirst 17 = .ok (.ifnonnull 8, 3) := by decide +kernel
theorem dX4_addFirst_20 : decode cX4_addFirst 20 = .ok (.aload_n 0, 1) := by decide +kernel
theorem dX4_addFirst_21 : decode cX4_addFirst 21 = .ok (.aload_n 1, 1) := by decide +kernel
theorem dX4_addFirst_22 : decode cX4_addFirst 22 = .ok (.putfield 15, 3) := by decide +kernel
theorem dX4_addFirst_25 : decode cX4_addFirst 25 = .ok (.return_, 1) := by decide +kernel
theorem dX4_append_0 : decode cX4_append 0 = .ok (.aload_n 1, 1) := by decide +kernel
theorem dX4_append_1 : decode cX4_append 1 = .ok (.getfield 9, 3) := by decide +kernel
theorem dX4_append_4 : decode cX4_append 4 = .ok (.ifnonnull 4, 3) := by decide +kernel
theorem dX4_append_7 : decode cX4_append 7 = .ok (.return_, 1) := by decide +kernel
theorem dX4_append_8 : decode cX4_append 8 = .ok (.aload_n 0, 1) := by decide +kernel
theorem dX4_append_9 : decode cX4_append 9 = .ok (.getfield 15, 3) := by decide +kernel
theorem dX4_append_12 : decode cX4_append 12 = .ok (.ifnonnull 14, 3) := by decide +kernel
theorem dX4_append_15 : decode cX4_append 15 = .ok (.aload_n 0, 1) := by decide +kernel
theorem dX4_append_16 : decode cX4_append 16 = .ok (.aload_n 1, 1) := by decide +kernel
theorem dX4_append_17 : decode cX4_append 17 = .ok (.getfield 9, 3) := by decide +kernel
theorem dX4_append_20 : decode cX4_append 20 = .ok (.putfield 9, 3) := by decide +kernel
theorem dX4_append_23 : decode cX4_append 23 = .ok (.goto 14, 3) := by decide +kernel
theorem dX4_append_26 : decode cX4_append 26 = .ok (.aload_n 0, 1) := by decide +kernel
theorem dX4_append_27 : decode cX4_append 27 = .ok (.getfield 15, 3) := by decide +kernel
theorem dX4_append_30 : decode cX4_append 30 = .ok (.aload_n 1, 1) := by decide +kernel
theorem dX4_append_31 : decode cX4_append 31 = .ok (.getfield 9, 3) := by decide +kernel
theorem dX4_append_34 : decode cX4_append 34 = .ok (.putfield 18, 3) := by decide +kernel
theorem dX4_append_37 : decode cX4_append 37 = .ok (.aload_n 0, 1) := by decide +kernel
theorem dX4_append_38 : decode cX4_append 38 = .ok (.aload_n 1, 1) := by decide +kernel
theorem dX4_append_39 : decode cX4_append 39 = .ok (.getfield 15, 3) := by decide +kernel
theorem dX4_append_42 : decode cX4_append 42 = .ok (.putfield 15, 3) := by decide +kernel
theorem dX4_append_45 : decode cX4_append 45 = .ok (.return_, 1) := by decide +kernel
theorem dX4_operate_0 : decode cX4_operate 0 = .ok (.aload_n 0, 1) := by decide +kernel
theorem dX4_operate_1 : decode cX4_operate 1 = .ok (.iconst 3, 1) := by decide +kernel
theorem dX4_operate_2 : decode cX4_operate 2 = .ok (.iconst 0, 1) := by decide +kernel
theorem dX4_operate_3 : decode cX4_operate 3 = .ok (.invokevirtual 30, 3) := by decide +kernel
theorem dX4_operate_6 : decode cX4_operate 6 = .ok (.aload_n 0, 1) := by decide +kernel
theorem dX4_operate_7 : decode cX4_operate 7 = .ok (.aload_n 2, 1) := by decide +kernel
theorem dX4_operate_8 : decode cX4_operate 8 = .ok (.invokevirtual 33, 3) := by decide +kernel
theorem dX4_operate_11 : decode cX4_operate 11 = .ok (.aload_n 0, 1) := by decide +kernel
theorem dX4_operate_12 : decode cX4_operate 12 = .ok (.iload_n 1, 1) := by decide +kernel
theorem dX4_operate_13 : decode cX4_operate 13 = .ok (.iconst 0, 1) := by decide +kernel
theorem dX4_operate_14 : decode cX4_operate 14 = .ok (.invokevirtual 30, 3) := by decide +kernel
theorem dX4_operate_17 : decode cX4_operate 17 = .ok (.return_, 1) := by decide +kernel
theorem dX4_countPlaces_0 : decode cX4_countPlaces 0 = .ok (.iconst 0, 1) := by decide +kernel
theorem dX4_countPlaces_1 : decode cX4_countPlaces 1 = .ok (.istore_n 1, 1) := by decide +kernel
theorem dX4_countPlaces_2 : decode cX4_countPlaces 2 = .ok (.aload_n 0, 1) := by decide +kernel
theorem dX4_countPlaces_3 : decode cX4_countPlaces 3 = .ok (.getfield 9, 3) := by decide +kernel
theorem dX4_countPlaces_6 : decode cX4_countPlaces 6 = .ok (.astore_n 2, 1) := by decide +kernel
theorem dX4_countPlaces_7 : decode cX4_countPlaces 7 = .ok (.aload_n 2, 1) := by decide +kernel
theorem dX4_countPlaces_8 : decode cX4_countPlaces 8 = .ok (.ifnull 28, 3) := by decide +kernel
theorem dX4_countPlaces_11 : decode cX4_countPlaces 11 = .ok (.aload_n 2, 1) := by decide +kernel
theorem dX4_countPlaces_12 : decode cX4_countPlaces 12 = .ok (.iload_n 1, 1) := by decide +kernel
theorem dX4_countPlaces_13 : decode cX4_countPlaces 13 = .ok (.putfield 37, 3) := by decide +kernel
theorem dX4_countPlaces_16 : decode cX4_countPlaces 16 = .ok (.aload_n 2, 1) := by decide +kernel
theorem dX4_countPlaces_17 : decode cX4_countPlaces 17 = .ok (.getfield 41, 3) := by decide +kernel
theorem dX4_countPlaces_20 : decode cX4_countPlaces 20 = .ok (.bipush 21, 2) := by decide +kernel
theorem dX4_countPlaces_22 : decode cX4_countPlaces 22 = .ok (.if_icmp .eq 6, 3) := by decide +kernel
theorem dX4_countPlaces_25 : decode cX4_countPlaces 25 = .ok (.iinc 1 1, 3) := by decide +kernel
theorem dX4_countPlaces_28 : decode cX4_countPlaces 28 = .ok (.aload_n 2, 1) := by decide +kernel
theorem dX4_countPlaces_29 : decode cX4_countPlaces 29 = .ok (.getfield 18, 3) := by decide +kernel
theorem dX4_countPlaces_32 : decode cX4_countPlaces 32 = .ok (.astore_n 2, 1) := by decide +kernel
theorem dX4_countPlaces_33 : decode cX4_countPlaces 33 = .ok (.goto (-26), 3) := by decide +kernel
theorem dX4_countPlaces_36 : decode cX4_countPlaces 36 = .ok (.iload_n 1, 1) := by decide +kernel
theorem dX4_countPlaces_37 : decode cX4_countPlaces 37 = .ok (.ireturn, 1) := by decide +kernel
theorem dX5_init_0 : decode cX5_init 0 = .ok (.aload_n 0, 1) := by decide +kernel
theorem dX5_init_1 : decode cX5_init 1 = .ok (.invokespecial 1, 3) := by decide +kernel
theorem dX5_init_4 : decode cX5_init 4 = .ok (.aload_n 0, 1) := by decide +kernel
theorem dX5_init_5 : decode cX5_init 5 = .ok (.iconst 0, 1) := by decide +kernel
theorem dX5_init_6 : decode cX5_init 6 = .ok (.putfield 7, 3) := by decide +kernel
theorem dX5_init_9 : decode cX5_init 9 = .ok (.aload_n 0, 1) := by decide +kernel
theorem dX5_init_10 : decode cX5_init 10 = .ok (.aconst_null, 1) := by decide +kernel
theorem dX5_init_11 : decode cX5_init 11 = .ok (.putfield 13, 3) := by decide +kernel
theorem dX5_init_14 : decode cX5_init 14 = .ok (.aload_n 0, 1) := by decide +kernel
theorem dX5_init_15 : decode cX5_init 15 = .ok (.iload_n 1, 1) := by decide +kernel
theorem dX5_init_16 : decode cX5_init 16 = .ok (.putfield 17, 3) := by decide +kernel
theorem dX5_init_19 : decode cX5_init 19 = .ok (.aload_n 0, 1) := by decide +kernel
theorem dX5_init_20 : decode cX5_init 20 = .ok (.iload_n 2, 1) := by decide +kernel
theorem dX5_init_21 : decode cX5_init 21 = .ok (.putfield 20, 3) := by decide +kernel
theorem dX5_init_24 : decode cX5_init 24 = .ok (.aload_n 0, 1) := by decide +kernel
theorem dX5_init_25 : decode cX5_init 25 = .ok (.aload_n 3, 1) := by decide +kernel
theorem dX5_init_26 : decode cX5_init 26 = .ok (.putfield 23, 3) := by decide +kernel
theorem dX5_init_29 : decode cX5_init 29 = .ok (.return_, 1) := by decide +kernel
theorem dX6_init_0 : decode cX6_init 0 = .ok (.aload_n 0, 1) := by decide +kernel
theorem dX6_init_1 : decode cX6_init 1 = .ok (.invokespecial 1, 3) := by decide +kernel
theorem dX6_init_4 : decode cX6_init 4 = .ok (.aload_n 0, 1) := by decide +kernel
theorem dX6_init_5 : decode cX6_init 5 = .ok (.bipush 90, 2) := by decide +kernel
theorem dX6_init_7 : decode cX6_init 7 = .ok (.newarray .char, 2) := by decide +kernel
theorem dX6_init_9 : decode cX6_init 9 = .ok (.putfield 9, 3) := by decide +kernel
theorem dX6_init_12 : decode cX6_init 12 = .ok (.aload_n 0, 1) := by decide +kernel
theorem dX6_init_13 : decode cX6_init 13 = .ok (.iconst 0, 1) := by decide +kernel
theorem dX6_init_14 : decode cX6_init 14 = .ok (.putfield 13, 3) := by decide +kernel
theorem dX6_init_17 : decode cX6_init 17 = .ok (.aload_n 0, 1) := by decide +kernel
theorem dX6_init_18 : decode cX6_init 18 = .ok (.new 17, 3) := by decide +kernel
theorem dX6_init_21 : decode cX6_init 21 = .ok (.dup, 1) := by decide +kernel
theorem dX6_init_22 : decode cX6_init 22 = .ok (.invokespecial 19, 3) := by decide +kernel
theorem dX6_init_25 : decode cX6_init 25 = .ok (.putfield 20, 3) := by decide +kernel
theorem dX6_init_28 : decode cX6_init 28 = .ok (.aload_n 0, 1) := by decide +kernel
theorem dX6_init_29 : decode cX6_init 29 = .ok (.new 24, 3) := by decide +kernel
theorem dX6_init_32 : decode cX6_init 32 = .ok (.dup, 1) := by decide +kernel
theorem dX6_init_33 : decode cX6_init 33 = .ok (.invokespecial 26, 3) := by decide +kernel
theorem dX6_init_36 : decode cX6_init 36 = .ok (.putfield 27, 3) := by decide +kernel
theorem dX6_init_39 : decode cX6_init 39 = .ok (.bipush 20, 2) := by decide +kernel
theorem dX6_init_41 : decode cX6_init 41 = .ok (.sipush 200, 3) := by decide +kernel
theorem dX6_init_44 : decode cX6_init 44 = .ok (.iload_n 1, 1) := by decide +kernel
theorem dX6_init_45 : decode cX6_init 45 = .ok (.invokestatic 31, 3) := by decide +kernel
theorem dX6_init_48 : decode cX6_init 48 = .ok (.invokestatic 37, 3) := by decide +kernel
theorem dX6_init_51 : decode cX6_init 51 = .ok (.istore_n 2, 1) := by decide +kernel
theorem dX6_init_52 : decode cX6_init 52 = .ok (.aload_n 0, 1) := by decide +kernel
theorem dX6_init_53 : decode cX6_init 53 = .ok (.new 40, 3) := by decide +kernel
theorem dX6_init_56 : decode cX6_init 56 = .ok (.dup, 1) := by decide +kernel
theorem dX6_init_57 : decode cX6_init 57 = .ok (.aload_n 0, 1) := by decide +kernel
theorem dX6_init_58 : decode cX6_init 58 = .ok (.getfield 27, 3) := by decide +kernel
theorem dX6_init_61 : decode cX6_init 61 = .ok (.new 42, 3) := by decide +kernel
theorem dX6_init_64 : decode cX6_init 64 = .ok (.dup, 1) := by decide +kernel
theorem dX6_init_65 : decode cX6_init 65 = .ok (.iload_n 2, 1) := by decide +kernel
theorem dX6_init_66 : decode cX6_init 66 = .ok (.invokespecial 44, 3) := by decide +kernel
theorem dX6_init_69 : decode cX6_init 69 = .ok (.invokespecial 47, 3) := by decide +kernel
theorem dX6_init_72 : decode cX6_init 72 = .ok (.putfield 50, 3) := by decide +kernel
theorem dX6_init_75 : decode cX6_init 75 = .ok (.return_, 1) := by decide +kernel
theorem dX6_write_0 : decode cX6_write 0 = .ok (.iload_n 1, 1) := by decide +kernel
theorem dX6_write_1 : decode cX6_write 1 = .ok (.bipush 32, 2) := by decide +kernel
theorem dX6_write_3 : decode cX6_write 3 = .ok (.if_icmp .lt 18, 3) := by decide +kernel
theorem dX6_write_6 : decode cX6_write 6 = .ok (.iload_n 1, 1) := by decide +kernel
theorem dX6_write_7 : decode cX6_write 7 = .ok (.bipush 126, 2) := by decide +kernel
theorem dX6_write_9 : decode cX6_write 9 = .ok (.if_icmp .gt 12, 3) := by decide +kernel
theorem dX6_write_12 : decode cX6_write 12 = .ok (.aload_n 0, 1) := by decide +kernel
theorem dX6_write_13 : decode cX6_write 13 = .ok (.getfield 13, 3) := by decide +kernel
theorem dX6_write_16 : decode cX6_write 16 = .ok (.bipush 90, 2) := by decide +kernel
theorem dX6_write_18 : decode cX6_write 18 = .ok (.if_icmp .lt 5, 3) := by decide +kernel
theorem dX6_write_21 : decode cX6_write 21 = .ok (.iconst 0, 1) := by decide +kernel
theorem dX6_write_22 : decode cX6_write 22 = .ok (.ireturn, 1) := by decide +kernel
theorem dX6_write_23 : decode cX6_write 23 = .ok (.aload_n 0, 1) := by decide +kernel
theorem dX6_write_24 : decode cX6_write 24 = .ok (.getfield 9, 3) := by decide +kernel
theorem dX6_write_27 : decode cX6_write 27 = .ok (.aload_n 0, 1) := by decide +kernel
theorem dX6_write_28 : decode cX6_write 28 = .ok (.getfield 13, 3) := by decide +kernel
theorem dX6_write_31 : decode cX6_write 31 = .ok (.iload_n 1, 1) := by decide +kernel
theorem dX6_write_32 : decode cX6_write 32 = .ok (.castore, 1) := by decide +kernel
theorem dX6_write_33 : decode cX6_write 33 = .ok (.aload_n 0, 1) := by decide +kernel
theorem dX6_write_34 : decode cX6_write 34 = .ok (.dup, 1) := by decide +kernel
theorem dX6_write_35 : decode cX6_write 35 = .ok (.getfield 13, 3) := by decide +kernel
theorem dX6_write_38 : decode cX6_write 38 = .ok (.iconst 1, 1) := by decide +kernel
theorem dX6_write_39 : decode cX6_write 39 = .ok (.iadd, 1) := by decide +kernel
theorem dX6_write_40 : decode cX6_write 40 = .ok (.putfield 13, 3) := by decide +kernel
theorem dX6_write_43 : decode cX6_write 43 = .ok (.iconst 1, 1) := by decide +kernel
theorem dX6_write_44 : decode cX6_write 44 = .ok (.ireturn, 1) := by decide +kernel
theorem dX6_compile_0 : decode cX6_compile 0 = .ok (.aload_n 0, 1) := by decide +kernel
theorem dX6_compile_1 : decode cX6_compile 1 = .ok (.getfield 13, 3) := by decide +kernel
theorem dX6_compile_4 : decode cX6_compile 4 = .ok (.istore_n 1, 1) := by decide +kernel
theorem dX6_compile_5 : decode cX6_compile 5 = .ok (.aload_n 0, 1) := by decide +kernel
theorem dX6_compile_6 : decode cX6_compile 6 = .ok (.iconst 0, 1) := by decide +kernel
theorem dX6_compile_7 : decode cX6_compile 7 = .ok (.putfield 13, 3) := by decide +kernel
theorem dX6_compile_10 : decode cX6_compile 10 = .ok (.aload_n 0, 1) := by decide +kernel
theorem dX6_compile_11 : decode cX6_compile 11 = .ok (.getfield 20, 3) := by decide +kernel
theorem dX6_compile_14 : decode cX6_compile 14 = .ok (.aload_n 0, 1) := by decide +kernel
theorem dX6_compile_15 : decode cX6_compile 15 = .ok (.getfield 9, 3) := by decide +kernel
theorem dX6_compile_18 : decode cX6_compile 18 = .ok (.iload_n 1, 1) := by decide +kernel
theorem dX6_compile_19 : decode cX6_compile 19 = .ok (.invokevirtual 54, 3) := by decide +kernel
theorem dX6_compile_22 : decode cX6_compile 22 = .ok (.astore_n 2, 1) := by decide +kernel
theorem dX6_compile_23 : decode cX6_compile 23 = .ok (.aload_n 0, 1) := by decide +kernel
theorem dX6_compile_24 : decode cX6_compile 24 = .ok (.getfield 27, 3) := by decide +kernel
theorem dX6_compile_27 : decode cX6_compile 27 = .ok (.aload_n 2, 1) := by decide +kernel
theorem dX6_compile_28 : decode cX6_compile 28 = .ok (.invokevirtual 58, 3) := by decide +kernel
theorem dX6_compile_31 : decode cX6_compile 31 = .ok (.ifCond .ne 10, 3) := by decide +kernel
theorem dX6_compile_34 : decode cX6_compile 34 = .ok (.aload_n 0, 1) := by decide +kernel
theorem dX6_compile_35 : decode cX6_compile 35 = .ok (.getfield 20, 3) := by decide +kernel
theorem dX6_compile_38 : decode cX6_compile 38 = .ok (.invokevirtual 62, 3) := by decide +kernel
theorem dX6_compile_41 : decode cX6_compile 41 = .ok (.aload_n 0, 1) := by decide +kernel
theorem dX6_compile_42 : decode cX6_compile 42 = .ok (.getfield 50, 3) := by decide +kernel
theorem dX6_compile_45 : decode cX6_compile 45 = .ok (.invokevirtual 65, 3) := by decide +kernel
theorem dX6_compile_48 : decode cX6_compile 48 = .ok (.aload_n 0, 1) := by decide +kernel
theorem dX6_compile_49 : decode cX6_compile 49 = .ok (.getfield 27, 3) := by decide +kernel
theorem dX6_compile_52 : decode cX6_compile 52 = .ok (.getfield 68, 3) := by decide +kernel
theorem dX6_compile_55 : decode cX6_compile 55 = .ok (.ireturn, 1) := by decide +kernel
theorem dX6_place_0 : decode cX6_place 0 = .ok (.aload_n 0, 1) := by decide +kernel
theorem dX6_place_1 : decode cX6_place 1 = .ok (.getfield 20, 3) := by decide +kernel
theorem dX6_place_4 : decode cX6_place 4 = .ok (.getfield 69, 3) := by decide +kernel
theorem dX6_place_7 : decode cX6_place 7 = .ok (.ireturn, 1) := by decide +kernel
theorem dX6_code_0 : decode cX6_code 0 = .ok (.aload_n 0, 1) := by decide +kernel
theorem dX6_code_1 : decode cX6_code 1 = .ok (.getfield 27, 3) := by decide +kernel
theorem dX6_code_4 : decode cX6_code 4 = .ok (.iload_n 1, 1) := by decide +kernel
theorem dX6_code_5 : decode cX6_code 5 = .ok (.iload_n 2, 1) := by decide +kernel
theorem dX6_code_6 : decode cX6_code 6 = .ok (.invokevirtual 72, 3) := by decide +kernel
theorem dX6_code_9 : decode cX6_code 9 = .ok (.ireturn, 1) := by decide +kernel
theorem dX6_run_0 : decode cX6_run 0 = .ok (.iload_n 1, 1) := by decide +kernel
theorem dX6_run_1 : decode cX6_run 1 = .ok (.ifCond .lt 10, 3) := by decide +kernel
theorem dX6_run_4 : decode cX6_run 4 = .ok (.iload_n 1, 1) := by decide +kernel
theorem dX6_run_5 : decode cX6_run 5 = .ok (.sipush 500, 3) := by decide +kernel
theorem dX6_run_8 : decode cX6_run 8 = .ok (.if_icmp .le 13, 3) := by decide +kernel
theorem dX6_run_11 : decode cX6_run 11 = .ok (.new 75, 3) := by decide +kernel
theorem dX6_run_14 : decode cX6_run 14 = .ok (.dup, 1) := by decide +kernel
theorem dX6_run_15 : decode cX6_run 15 = .ok (.ldc 77, 2) := by decide +kernel
theorem dX6_run_17 : decode cX6_run 17 = .ok (.invokespecial 79, 3) := by decide +kernel
theorem dX6_run_20 : decode cX6_run 20 = .ok (.athrow, 1) := by decide +kernel
theorem dX6_run_21 : decode cX6_run 21 = .ok (.aload_n 0, 1) := by decide +kernel
theorem dX6_run_22 : decode cX6_run 22 = .ok (.getfield 50, 3) := by decide +kernel
theorem dX6_run_25 : decode cX6_run 25 = .ok (.invokevirtual 82, 3) := by decide +kernel
theorem dX6_run_28 : decode cX6_run 28 = .ok (.iconst 1, 1) := by decide +kernel
theorem dX6_run_29 : decode cX6_run 29 = .ok (.if_icmp .eq 13, 3) := by decide +kernel
theorem dX6_run_32 : decode cX6_run 32 = .ok (.new 86, 3) := by decide +kernel
theorem dX6_run_35 : decode cX6_run 35 = .ok (.dup, 1) := by decide +kernel
theorem dX6_run_36 : decode cX6_run 36 = .ok (.ldc 88, 2) := by decide +kernel
theorem dX6_run_38 : decode cX6_run 38 = .ok (.invokespecial 90, 3) := by decide +kernel
theorem dX6_run_41 : decode cX6_run 41 = .ok (.athrow, 1) := by decide +kernel
theorem dX6_run_42 : decode cX6_run 42 = .ok (.aload_n 0, 1) := by decide +kernel
theorem dX6_run_43 : decode cX6_run 43 = .ok (.getfield 50, 3) := by decide +kernel
theorem dX6_run_46 : decode cX6_run 46 = .ok (.iload_n 1, 1) := by decide +kernel
theorem dX6_run_47 : decode cX6_run 47 = .ok (.invokevirtual 91, 3) := by decide +kernel
theorem dX6_run_50 : decode cX6_run 50 = .ok (.istore_n 2, 1) := by decide +kernel
theorem dX6_run_51 : decode cX6_run 51 = .ok (.aload_n 0, 1) := by decide +kernel
theorem dX6_run_52 : decode cX6_run 52 = .ok (.getfield 50, 3) := by decide +kernel
theorem dX6_run_55 : decode cX6_run 55 = .ok (.invokevirtual 82, 3) := by decide +kernel
theorem dX6_run_58 : decode cX6_run 58 = .ok (.iconst 3, 1) := by decide +kernel
theorem dX6_run_59 : decode cX6_run 59 = .ok (.if_icmp .ne 13, 3) := by decide +kernel
theorem dX6_run_62 : decode cX6_run 62 = .ok (.new 95, 3) := by decide +kernel
theorem dX6_run_65 : decode cX6_run 65 = .ok (.dup, 1) := by decide +kernel
theorem dX6_run_66 : decode cX6_run 66 = .ok (.ldc 97, 2) := by decide +kernel
theorem dX6_run_68 : decode cX6_run 68 = .ok (.invokespecial 99, 3) := by decide +kernel
theorem dX6_run_71 : decode cX6_run 71 = .ok (.athrow, 1) := by decide +kernel
theorem dX6_run_72 : decode cX6_run 72 = .ok (.iload_n 2, 1) := by decide +kernel
theorem dX6_run_73 : decode cX6_run 73 = .ok (.ireturn, 1) := by decide +kernel
theorem dX6_state_0 : decode cX6_state 0 = .ok (.aload_n 0, 1) := by decide +kernel
theorem dX6_state_1 : decode cX6_state 1 = .ok (.getfield 50, 3) := by decide +kernel
theorem dX6_state_4 : decode cX6_state 4 = .ok (.invokevirtual 82, 3) := by decide +kernel
theorem dX6_state_7 : decode cX6_state 7 = .ok (.ireturn, 1) := by decide +kernel
theorem dX6_why_0 : decode cX6_why 0 = .ok (.aload_n 0, 1) := by decide +kernel
theorem dX6_why_1 : decode cX6_why 1 = .ok (.getfield 50, 3) := by decide +kernel
theorem dX6_why_4 : decode cX6_why 4 = .ok (.getfield 100, 3) := by decide +kernel
theorem dX6_why_7 : decode cX6_why 7 = .ok (.ireturn, 1) := by decide +kernel
theorem dX6_next_0 : decode cX6_next 0 = .ok (.aload_n 0, 1) := by decide +kernel
theorem dX6_next_1 : decode cX6_next 1 = .ok (.getfield 50, 3) := by decide +kernel
theorem dX6_next_4 : decode cX6_next 4 = .ok (.getfield 103, 3) := by decide +kernel
theorem dX6_next_7 : decode cX6_next 7 = .ok (.ireturn, 1) := by decide +kernel
theorem dX6_depth_0 : decode cX6_depth 0 = .ok (.aload_n 0, 1) := by decide +kernel
theorem dX6_depth_1 : decode cX6_depth 1 = .ok (.getfield 50, 3) := by decide +kernel
theorem dX6_depth_4 : decode cX6_depth 4 = .ok (.getfield 106, 3) := by decide +kernel
theorem dX6_depth_7 : decode cX6_depth 7 = .ok (.ireturn, 1) := by decide +kernel
theorem dX6_used_0 : decode cX6_used 0 = .ok (.aload_n 0, 1) := by decide +kernel
theorem dX6_used_1 : decode cX6_used 1 = .ok (.getfield 50, 3) := by decide +kernel
theorem dX6_used_4 : decode cX6_used 4 = .ok (.getfield 109, 3) := by decide +kernel
theorem dX6_used_7 : decode cX6_used 7 = .ok (.getfield 113, 3) := by decide +kernel
theorem dX6_used_10 : decode cX6_used 10 = .ok (.ireturn, 1) := by decide +kernel
theorem dX6_live_0 : decode cX6_live 0 = .ok (.aload_n 0, 1) := by decide +kernel
theorem dX6_live_1 : decode cX6_live 1 = .ok (.getfield 50, 3) := by decide +kernel
theorem dX6_live_4 : decode cX6_live 4 = .ok (.invokevirtual 116, 3) := by decide +kernel
theorem dX6_live_7 : decode cX6_live 7 = .ok (.ireturn, 1) := by decide +kernel
theorem dX6_collections_0 : decode cX6_collections 0 = .ok (.aload_n 0, 1) := by decide +kernel
theorem dX6_collections_1 : decode cX6_collections 1 = .ok (.getfield 50, 3) := by decide +kernel
theorem dX6_collections_4 : decode cX6_collections 4 = .ok (.getfield 109, 3) := by decide +kernel
theorem dX6_collections_7 : decode cX6_collections 7 = .ok (.getfield 119, 3) := by decide +kernel
theorem dX6_collections_10 : decode cX6_collections 10 = .ok (.ireturn, 1) := by decide +kernel
theorem dX6_kind_0 : decode cX6_kind 0 = .ok (.aload_n 0, 1) := by decide +kernel
theorem dX6_kind_1 : decode cX6_kind 1 = .ok (.getfield 50, 3) := by decide +kernel
theorem dX6_kind_4 : decode cX6_kind 4 = .ok (.getfield 109, 3) := by decide +kernel
theorem dX6_kind_7 : decode cX6_kind 7 = .ok (.aload_n 0, 1) := by decide +kernel
theorem dX6_kind_8 : decode cX6_kind 8 = .ok (.getfield 50, 3) := by decide +kernel
theorem dX6_kind_11 : decode cX6_kind 11 = .ok (.iload_n 1, 1) := by decide +kernel
theorem dX6_kind_12 : decode cX6_kind 12 = .ok (.invokevirtual 122, 3) := by decide +kernel
theorem dX6_kind_15 : decode cX6_kind 15 = .ok (.invokevirtual 125, 3) := by decide +kernel
theorem dX6_kind_18 : decode cX6_kind 18 = .ok (.ireturn, 1) := by decide +kernel
theorem dX6_value_0 : decode cX6_value 0 = .ok (.aload_n 0, 1) := by decide +kernel
theorem dX6_value_1 : decode cX6_value 1 = .ok (.getfield 50, 3) := by decide +kernel
theorem dX6_value_4 : decode cX6_value 4 = .ok (.getfield 109, 3) := by decide +kernel
theorem dX6_value_7 : decode cX6_value 7 = .ok (.aload_n 0, 1) := by decide +kernel
theorem dX6_value_8 : decode cX6_value 8 = .ok (.getfield 50, 3) := by decide +kernel
theorem dX6_value_11 : decode cX6_value 11 = .ok (.iload_n 1, 1) := by decide +kernel
theorem dX6_value_12 : decode cX6_value 12 = .ok (.invokevirtual 122, 3) := by decide +kernel
theorem dX6_value_15 : decode cX6_value 15 = .ok (.invokevirtual 128, 3) := by decide +kernel
theorem dX6_value_18 : decode cX6_value 18 = .ok (.ireturn, 1) := by decide +kernel
theorem dX6_fieldsOf_0 : decode cX6_fieldsOf 0 = .ok (.iload_n 0, 1) := by decide +kernel
theorem dX6_fieldsOf_1 : decode cX6_fieldsOf 1 = .ok (.iconst 3, 1) := by decide +kernel
theorem dX6_fieldsOf_2 : decode cX6_fieldsOf 2 = .ok (.iand, 1) := by decide +kernel
theorem dX6_fieldsOf_3 : decode cX6_fieldsOf 3 = .ok (.ireturn, 1) := by decide +kernel
theorem dX6_wordOfInt_0 : decode cX6_wordOfInt 0 = .ok (.iconst 2, 1) := by decide +kernel
theorem dX6_wordOfInt_1 : decode cX6_wordOfInt 1 = .ok (.iload_n 0, 1) := by decide +kernel
theorem dX6_wordOfInt_2 : decode cX6_wordOfInt 2 = .ok (.imul, 1) := by decide +kernel
theorem dX6_wordOfInt_3 : decode cX6_wordOfInt 3 = .ok (.iconst 1, 1) := by decide +kernel
theorem dX6_wordOfInt_4 : decode cX6_wordOfInt 4 = .ok (.iadd, 1) := by decide +kernel
theorem dX6_wordOfInt_5 : decode cX6_wordOfInt 5 = .ok (.ireturn, 1) := by decide +kernel
theorem dX6_wordOfTag_0 : decode cX6_wordOfTag 0 = .ok (.iconst 4, 1) := by decide +kernel
theorem dX6_wordOfTag_1 : decode cX6_wordOfTag 1 = .ok (.iload_n 0, 1) := by decide +kernel
theorem dX6_wordOfTag_2 : decode cX6_wordOfTag 2 = .ok (.imul, 1) := by decide +kernel
theorem dX6_wordOfTag_3 : decode cX6_wordOfTag 3 = .ok (.iconst 2, 1) := by decide +kernel
theorem dX6_wordOfTag_4 : decode cX6_wordOfTag 4 = .ok (.iadd, 1) := by decide +kernel
theorem dX6_wordOfTag_5 : decode cX6_wordOfTag 5 = .ok (.ireturn, 1) := by decide +kernel
theorem dX6_isInt_0 : decode cX6_isInt 0 = .ok (.iload_n 0, 1) := by decide +kernel
theorem dX6_isInt_1 : decode cX6_isInt 1 = .ok (.iconst 1, 1) := by decide +kernel
theorem dX6_isInt_2 : decode cX6_isInt 2 = .ok (.iand, 1) := by decide +kernel
theorem dX6_isInt_3 : decode cX6_isInt 3 = .ok (.iconst 1, 1) := by decide +kernel
theorem dX6_isInt_4 : decode cX6_isInt 4 = .ok (.if_icmp .ne 7, 3) := by decide +kernel
theorem dX6_isInt_7 : decode cX6_isInt 7 = .ok (.iconst 1, 1) := by decide +kernel
theorem dX6_isInt_8 : decode cX6_isInt 8 = .ok (.goto 4, 3) := by decide +kernel
theorem dX6_isInt_11 : decode cX6_isInt 11 = .ok (.iconst 0, 1) := by decide +kernel
theorem dX6_isInt_12 : decode cX6_isInt 12 = .ok (.ireturn, 1) := by decide +kernel
theorem dX6_isTag_0 : decode cX6_isTag 0 = .ok (.iload_n 0, 1) := by decide +kernel
theorem dX6_isTag_1 : decode cX6_isTag 1 = .ok (.iconst 3, 1) := by decide +kernel
theorem dX6_isTag_2 : decode cX6_isTag 2 = .ok (.iand, 1) := by decide +kernel
theorem dX6_isTag_3 : decode cX6_isTag 3 = .ok (.iconst 2, 1) := by decide +kernel
theorem dX6_isTag_4 : decode cX6_isTag 4 = .ok (.if_icmp .ne 7, 3) := by decide +kernel
theorem dX6_isTag_7 : decode cX6_isTag 7 = .ok (.iconst 1, 1) := by decide +kernel
theorem dX6_isTag_8 : decode cX6_isTag 8 = .ok (.goto 4, 3) := by decide +kernel
theorem dX6_isTag_11 : decode cX6_isTag 11 = .ok (.iconst 0, 1) := by decide +kernel
theorem dX6_isTag_12 : decode cX6_isTag 12 = .ok (.ireturn, 1) := by decide +kernel
theorem dX6_intOf_0 : decode cX6_intOf 0 = .ok (.iload_n 0, 1) := by decide +kernel
theorem dX6_intOf_1 : decode cX6_intOf 1 = .ok (.iconst 1, 1) := by decide +kernel
theorem dX6_intOf_2 : decode cX6_intOf 2 = .ok (.ishr, 1) := by decide +kernel
theorem dX6_intOf_3 : decode cX6_intOf 3 = .ok (.ireturn, 1) := by decide +kernel
theorem dX6_tagOf_0 : decode cX6_tagOf 0 = .ok (.iload_n 0, 1) := by decide +kernel
theorem dX6_tagOf_1 : decode cX6_tagOf 1 = .ok (.iconst 2, 1) := by decide +kernel
theorem dX6_tagOf_2 : decode cX6_tagOf 2 = .ok (.ishr, 1) := by decide +kernel
theorem dX6_tagOf_3 : decode cX6_tagOf 3 = .ok (.ireturn, 1) := by decide +kernel
theorem dJ9_max_7cf53_0 : decode cJ9_max_7cf53 0 = .ok (.iload_n 0, 1) := by decide +kernel
theorem dJ9_max_7cf53_1 : decode cJ9_max_7cf53 1 = .ok (.iload_n 1, 1) := by decide +kernel
theorem dJ9_max_7cf53_2 : decode cJ9_max_7cf53 2 = .ok (.if_icmp .lt 7, 3) := by decide +kernel
theorem dJ9_max_7cf53_5 : decode cJ9_max_7cf53 5 = .ok (.iload_n 0, 1) := by decide +kernel
theorem dJ9_max_7cf53_6 : decode cJ9_max_7cf53 6 = .ok (.goto 4, 3) := by decide +kernel
theorem dJ9_max_7cf53_9 : decode cJ9_max_7cf53 9 = .ok (.iload_n 1, 1) := by decide +kernel
theorem dJ9_max_7cf53_10 : decode cJ9_max_7cf53 10 = .ok (.ireturn, 1) := by decide +kernel
theorem dJ9_min_7cf53_0 : decode cJ9_min_7cf53 0 = .ok (.iload_n 0, 1) := by decide +kernel
theorem dJ9_min_7cf53_1 : decode cJ9_min_7cf53 1 = .ok (.iload_n 1, 1) := by decide +kernel
theorem dJ9_min_7cf53_2 : decode cJ9_min_7cf53 2 = .ok (.if_icmp .gt 7, 3) := by decide +kernel
theorem dJ9_min_7cf53_5 : decode cJ9_min_7cf53 5 = .ok (.iload_n 0, 1) := by decide +kernel
theorem dJ9_min_7cf53_6 : decode cJ9_min_7cf53 6 = .ok (.goto 4, 3) := by decide +kernel
theorem dJ9_min_7cf53_9 : decode cJ9_min_7cf53 9 = .ok (.iload_n 1, 1) := by decide +kernel
theorem dJ9_min_7cf53_10 : decode cJ9_min_7cf53 10 = .ok (.ireturn, 1) := by decide +kernel
theorem dJ7_fill_53178_0 : decode cJ7_fill_53178 0 = .ok (.iconst 0, 1) := by decide +kernel
theorem dJ7_fill_53178_1 : decode cJ7_fill_53178 1 = .ok (.istore_n 2, 1) := by decide +kernel
theorem dJ7_fill_53178_2 : decode cJ7_fill_53178 2 = .ok (.aload_n 0, 1) := by decide +kernel
theorem dJ7_fill_53178_3 : decode cJ7_fill_53178 3 = .ok (.arraylength, 1) := by decide +kernel
theorem dJ7_fill_53178_4 : decode cJ7_fill_53178 4 = .ok (.istore_n 3, 1) := by decide +kernel
theorem dJ7_fill_53178_5 : decode cJ7_fill_53178 5 = .ok (.iload_n 2, 1) := by decide +kernel
theorem dJ7_fill_53178_6 : decode cJ7_fill_53178 6 = .ok (.iload_n 3, 1) := by decide +kernel
theorem dJ7_fill_53178_7 : decode cJ7_fill_53178 7 = .ok (.if_icmp .ge 13, 3) := by decide +kernel
theorem dJ7_fill_53178_10 : decode cJ7_fill_53178 10 = .ok (.aload_n 0, 1) := by decide +kernel
theorem dJ7_fill_53178_11 : decode cJ7_fill_53178 11 = .ok (.iload_n 2, 1) := by decide +kernel
theorem dJ7_fill_53178_12 : decode cJ7_fill_53178 12 = .ok (.iload_n 1, 1) := by decide +kernel
theorem dJ7_fill_53178_13 : decode cJ7_fill_53178 13 = .ok (.iastore, 1) := by decide +kernel
theorem dJ7_fill_53178_14 : decode cJ7_fill_53178 14 = .ok (.iinc 2 1, 3) := by decide +kernel
theorem dJ7_fill_53178_17 : decode cJ7_fill_53178 17 = .ok (.goto (-12), 3) := by decide +kernel
theorem dJ7_fill_53178_20 : decode cJ7_fill_53178 20 = .ok (.return_, 1) := by decide +kernel
theorem dL_cell_0 : decode cL_cell 0 = .ok (.iload_n 1, 1) := by decide +kernel
theorem dL_cell_1 : decode cL_cell 1 = .ok (.aload_n 0, 1) := by decide +kernel
theorem dL_cell_2 : decode cL_cell 2 = .ok (.arraylength, 1) := by decide +kernel
theorem dL_cell_3 : decode cL_cell 3 = .ok (.if_icmp .ge 9, 3) := by decide +kernel
theorem dL_cell_6 : decode cL_cell 6 = .ok (.aload_n 0, 1) := by decide +kernel
theorem dL_cell_7 : decode cL_cell 7 = .ok (.iload_n 1, 1) := by decide +kernel
theorem dL_cell_8 : decode cL_cell 8 = .ok (.iaload, 1) := by decide +kernel
theorem dL_cell_9 : decode cL_cell 9 = .ok (.goto 4, 3) := by decide +kernel
theorem dL_cell_12 : decode cL_cell 12 = .ok (.iconst 0, 1) := by decide +kernel
theorem dL_cell_13 : decode cL_cell 13 = .ok (.ireturn, 1) := by decide +kernel
theorem dL_compile_0 : decode cL_compile 0 = .ok (.aload_n 1, 1) := by decide +kernel
theorem dL_compile_1 : decode cL_compile 1 = .ok (.iconst 0, 1) := by decide +kernel
theorem dL_compile_2 : decode cL_compile 2 = .ok (.aload_n 0, 1) := by decide +kernel
theorem dL_compile_3 : decode cL_compile 3 = .ok (.invokevirtual 7, 3) := by decide +kernel
theorem dL_compile_6 : decode cL_compile 6 = .ok (.i2l, 1) := by decide +kernel
theorem dL_compile_7 : decode cL_compile 7 = .ok (.lastore, 1) := by decide +kernel
theorem dL_compile_8 : decode cL_compile 8 = .ok (.goto 6, 3) := by decide +kernel
theorem dL_compile_11 : decode cL_compile 11 = .ok (.astore_n 2, 1) := by decide +kernel
theorem dL_compile_12 : decode cL_compile 12 = .ok (.iconst 1, 1) := by decide +kernel
theorem dL_compile_13 : decode cL_compile 13 = .ok (.ireturn, 1) := by decide +kernel
theorem dL_compile_14 : decode cL_compile 14 = .ok (.iconst 0, 1) := by decide +kernel
theorem dL_compile_15 : decode cL_compile 15 = .ok (.ireturn, 1) := by decide +kernel
theorem dL_run_0 : decode cL_run 0 = .ok (.aload_n 2, 1) := by decide +kernel
theorem dL_run_1 : decode cL_run 1 = .ok (.iconst 0, 1) := by decide +kernel
theorem dL_run_2 : decode cL_run 2 = .ok (.aload_n 0, 1) := by decide +kernel
theorem dL_run_3 : decode cL_run 3 = .ok (.iload_n 1, 1) := by decide +kernel
theorem dL_run_4 : decode cL_run 4 = .ok (.invokevirtual 15, 3) := by decide +kernel
theorem dL_run_7 : decode cL_run 7 = .ok (.i2l, 1) := by decide +kernel
theorem dL_run_8 : decode cL_run 8 = .ok (.lastore, 1) := by decide +kernel
theorem dL_run_9 : decode cL_run 9 = .ok (.goto 12, 3) := by decide +kernel
theorem dL_run_12 : decode cL_run 12 = .ok (.astore_n 3, 1) := by decide +kernel
theorem dL_run_13 : decode cL_run 13 = .ok (.iconst 1, 1) := by decide +kernel
theorem dL_run_14 : decode cL_run 14 = .ok (.ireturn, 1) := by decide +kernel
theorem dL_run_15 : decode cL_run 15 = .ok (.astore_n 3, 1) := by decide +kernel
theorem dL_run_16 : decode cL_run 16 = .ok (.iconst 2, 1) := by decide +kernel
theorem dL_run_17 : decode cL_run 17 = .ok (.ireturn, 1) := by decide +kernel
theorem dL_run_18 : decode cL_run 18 = .ok (.astore_n 3, 1) := by decide +kernel
theorem dL_run_19 : decode cL_run 19 = .ok (.iconst 3, 1) := by decide +kernel
theorem dL_run_20 : decode cL_run 20 = .ok (.ireturn, 1) := by decide +kernel
theorem dL_run_21 : decode cL_run 21 = .ok (.iconst 0, 1) := by decide +kernel
theorem dL_run_22 : decode cL_run 22 = .ok (.ireturn, 1) := by decide +kernel
theorem dL_law_0 : decode cL_law 0 = .ok (.new 8, 3) := by decide +kernel
theorem dL_law_3 : decode cL_law 3 = .ok (.dup, 1) := by decide +kernel
theorem dL_law_4 : decode cL_law 4 = .ok (.aload_n 0, 1) := by decide +kernel
theorem dL_law_5 : decode cL_law 5 = .ok (.iconst 0, 1) := by decide +kernel
theorem dL_law_6 : decode cL_law 6 = .ok (.invokestatic 23, 3) := by decide +kernel
theorem dL_law_9 : decode cL_law 9 = .ok (.invokespecial 29, 3) := by decide +kernel
theorem dL_law_12 : decode cL_law 12 = .ok (.astore_n 1, 1) := by decide +kernel
theorem dL_law_13 : decode cL_law 13 = .ok (.new 32, 3) := by decide +kernel
theorem dL_law_16 : decode cL_law 16 = .ok (.dup, 1) := by decide +kernel
theorem dL_law_17 : decode cL_law 17 = .ok (.aload_n 0, 1) := by decide +kernel
theorem dL_law_18 : decode cL_law 18 = .ok (.iconst 0, 1) := by decide +kernel
theorem dL_law_19 : decode cL_law 19 = .ok (.invokestatic 23, 3) := by decide +kernel
theorem dL_law_22 : decode cL_law 22 = .ok (.invokespecial 34, 3) := by decide +kernel
theorem dL_law_25 : decode cL_law 25 = .ok (.astore_n 2, 1) := by decide +kernel
theorem dL_law_26 : decode cL_law 26 = .ok (.iconst 1, 1) := by decide +kernel
theorem dL_law_27 : decode cL_law 27 = .ok (.newarray .long, 2) := by decide +kernel
theorem dL_law_29 : decode cL_law 29 = .ok (.astore_n 3, 1) := by decide +kernel
theorem dL_law_30 : decode cL_law 30 = .ok (.iconst 1, 1) := by decide +kernel
theorem dL_law_31 : decode cL_law 31 = .ok (.istore 4, 2) := by decide +kernel
theorem dL_law_33 : decode cL_law 33 = .ok (.iload 4, 2) := by decide +kernel
theorem dL_law_35 : decode cL_law 35 = .ok (.aload_n 0, 1) := by decide +kernel
theorem dL_law_36 : decode cL_law 36 = .ok (.arraylength, 1) := by decide +kernel
theorem dL_law_37 : decode cL_law 37 = .ok (.iconst 3, 1) := by decide +kernel
theorem dL_law_38 : decode cL_law 38 = .ok (.isub, 1) := by decide +kernel
theorem dL_law_39 : decode cL_law 39 = .ok (.if_icmp .gt 405, 3) := by decide +kernel
theorem dL_law_42 : decode cL_law 42 = .ok (.aload_n 0, 1) := by decide +kernel
theorem dL_law_43 : decode cL_law 43 = .ok (.iload 4, 2) := by decide +kernel
theorem dL_law_45 : decode cL_law 45 = .ok (.iaload, 1) := by decide +kernel
theorem dL_law_46 : decode cL_law 46 = .ok (.bipush 15, 2) := by decide +kernel
theorem dL_law_48 : decode cL_law 48 = .ok (.iand, 1) := by decide +kernel
theorem dL_law_49 : decode cL_law 49 = .ok (.tableswitch 389 0 13 #[71, 98, 142, 155, 192, 248, 261, 274, 287, 300, 313, 326, 339, 364], 71) := by decide +kernel
theorem dL_law_120 : decode cL_law 120 = .ok (.aload_n 1, 1) := by decide +kernel
theorem dL_law_121 : decode cL_law 121 = .ok (.aload_n 0, 1) := by decide +kernel
theorem dL_law_122 : decode cL_law 122 = .ok (.iload 4, 2) := by decide +kernel
theorem dL_law_124 : decode cL_law 124 = .ok (.iconst 1, 1) := by decide +kernel
theorem dL_law_125 : decode cL_law 125 = .ok (.iadd, 1) := by decide +kernel
theorem dL_law_126 : decode cL_law 126 = .ok (.iaload, 1) := by decide +kernel
theorem dL_law_127 : decode cL_law 127 = .ok (.i2c, 1) := by decide +kernel
theorem dL_law_128 : decode cL_law 128 = .ok (.invokevirtual 35, 3) := by decide +kernel
theorem dL_law_131 : decode cL_law 131 = .ok (.aload_n 2, 1) := by decide +kernel
theorem dL_law_132 : decode cL_law 132 = .ok (.aload_n 0, 1) := by decide +kernel
theorem dL_law_133 : decode cL_law 133 = .ok (.iload 4, 2) := by decide +kernel
theorem dL_law_135 : decode cL_law 135 = .ok (.iconst 1, 1) := by decide +kernel
theorem dL_law_136 : decode cL_law 136 = .ok (.iadd, 1) := by decide +kernel
theorem dL_law_137 : decode cL_law 137 = .ok (.iaload, 1) := by decide +kernel
theorem dL_law_138 : decode cL_law 138 = .ok (.i2c, 1) := by decide +kernel
theorem dL_law_139 : decode cL_law 139 = .ok (.invokevirtual 39, 3) := by decide +kernel
theorem dL_law_142 : decode cL_law 142 = .ok (.if_icmp .eq 296, 3) := by decide +kernel
theorem dL_law_145 : decode cL_law 145 = .ok (.iconst 0, 1) := by decide +kernel
theorem dL_law_146 : decode cL_law 146 = .ok (.ireturn, 1) := by decide +kernel
theorem dL_law_147 : decode cL_law 147 = .ok (.aload_n 1, 1) := by decide +kernel
theorem dL_law_148 : decode cL_law 148 = .ok (.aload_n 3, 1) := by decide +kernel
theorem dL_law_149 : decode cL_law 149 = .ok (.invokestatic 40, 3) := by decide +kernel
theorem dL_law_152 : decode cL_law 152 = .ok (.istore 5, 2) := by decide +kernel
theorem dL_law_154 : decode cL_law 154 = .ok (.aload_n 2, 1) := by decide +kernel
theorem dL_law_155 : decode cL_law 155 = .ok (.invokevirtual 43, 3) := by decide +kernel
theorem dL_law_158 : decode cL_law 158 = .ok (.istore 6, 2) := by decide +kernel
theorem dL_law_160 : decode cL_law 160 = .ok (.aload_n 2, 1) := by decide +kernel
theorem dL_law_161 : decode cL_law 161 = .ok (.invokevirtual 44, 3) := by decide +kernel
theorem dL_law_164 : decode cL_law 164 = .ok (.iload 5, 2) := by decide +kernel
theorem dL_law_166 : decode cL_law 166 = .ok (.if_icmp .eq 5, 3) := by decide +kernel
theorem dL_law_169 : decode cL_law 169 = .ok (.iconst 0, 1) := by decide +kernel
theorem dL_law_170 : decode cL_law 170 = .ok (.ireturn, 1) := by decide +kernel
theorem dL_law_171 : decode cL_law 171 = .ok (.iload 5, 2) := by decide +kernel
theorem dL_law_173 : decode cL_law 173 = .ok (.ifCond .ne 15, 3) := by decide +kernel
theorem dL_law_176 : decode cL_law 176 = .ok (.aload_n 3, 1) := by decide +kernel
theorem dL_law_177 : decode cL_law 177 = .ok (.iconst 0, 1) := by decide +kernel
theorem dL_law_178 : decode cL_law 178 = .ok (.laload, 1) := by decide +kernel
theorem dL_law_179 : decode cL_law 179 = .ok (.iload 6, 2) := by decide +kernel
theorem dL_law_181 : decode cL_law 181 = .ok (.i2l, 1) := by decide +kernel
theorem dL_law_182 : decode cL_law 182 = .ok (.lcmp, 1) := by decide +kernel
theorem dL_law_183 : decode cL_law 183 = .ok (.ifCond .eq 5, 3) := by decide +kernel
theorem dL_law_186 : decode cL_law 186 = .ok (.iconst 0, 1) := by decide +kernel
theorem dL_law_187 : decode cL_law 187 = .ok (.ireturn, 1) := by decide +kernel
theorem dL_law_188 : decode cL_law 188 = .ok (.goto 250, 3) := by decide +kernel
theorem dL_law_191 : decode cL_law 191 = .ok (.aload_n 1, 1) := by decide +kernel
theorem dL_law_192 : decode cL_law 192 = .ok (.invokevirtual 47, 3) := by decide +kernel
theorem dL_law_195 : decode cL_law 195 = .ok (.aload_n 2, 1) := by decide +kernel
theorem dL_law_196 : decode cL_law 196 = .ok (.invokevirtual 50, 3) := by decide +kernel
theorem dL_law_199 : decode cL_law 199 = .ok (.if_icmp .eq 239, 3) := by decide +kernel
theorem dL_law_202 : decode cL_law 202 = .ok (.iconst 0, 1) := by decide +kernel
theorem dL_law_203 : decode cL_law 203 = .ok (.ireturn, 1) := by decide +kernel
theorem dL_law_204 : decode cL_law 204 = .ok (.aload_n 1, 1) := by decide +kernel
theorem dL_law_205 : decode cL_law 205 = .ok (.aload_n 0, 1) := by decide +kernel
theorem dL_law_206 : decode cL_law 206 = .ok (.iload 4, 2) := by decide +kernel
theorem dL_law_208 : decode cL_law 208 = .ok (.iconst 1, 1) := by decide +kernel
theorem dL_law_209 : decode cL_law 209 = .ok (.iadd, 1) := by decide +kernel
theorem dL_law_210 : decode cL_law 210 = .ok (.iaload, 1) := by decide +kernel
theorem dL_law_211 : decode cL_law 211 = .ok (.aload_n 0, 1) := by decide +kernel
theorem dL_law_212 : decode cL_law 212 = .ok (.iload 4, 2) := by decide +kernel
theorem dL_law_214 : decode cL_law 214 = .ok (.iconst 2, 1) := by decide +kernel
theorem dL_law_215 : decode cL_law 215 = .ok (.iadd, 1) := by decide +kernel
theorem dL_law_216 : decode cL_law 216 = .ok (.iaload, 1) := by decide +kernel
theorem dL_law_217 : decode cL_law 217 = .ok (.invokevirtual 51, 3) := by decide +kernel
theorem dL_law_220 : decode cL_law 220 = .ok (.aload_n 2, 1) := by decide +kernel
theorem dL_law_221 : decode cL_law 221 = .ok (.aload_n 0, 1) := by decide +kernel
theorem dL_law_222 : decode cL_law 222 = .ok (.iload 4, 2) := by decide +kernel
theorem dL_law_224 : decode cL_law 224 = .ok (.iconst 1, 1) := by decide +kernel
theorem dL_law_225 : decode cL_law 225 = .ok (.iadd, 1) := by decide +kernel
theorem dL_law_226 : decode cL_law 226 = .ok (.iaload, 1) := by decide +kernel
theorem dL_law_227 : decode cL_law 227 = .ok (.aload_n 0, 1) := by decide +kernel
theorem dL_law_228 : decode cL_law 228 = .ok (.iload 4, 2) := by decide +kernel
theorem dL_law_230 : decode cL_law 230 = .ok (.iconst 2, 1) := by decide +kernel
theorem dL_law_231 : decode cL_law 231 = .ok (.iadd, 1) := by decide +kernel
theorem dL_law_232 : decode cL_law 232 = .ok (.iaload, 1) := by decide +kernel
theorem dL_law_233 : decode cL_law 233 = .ok (.invokevirtual 55, 3) := by decide +kernel
theorem dL_law_236 : decode cL_law 236 = .ok (.if_icmp .eq 202, 3) := by decide +kernel
theorem dL_law_239 : decode cL_law 239 = .ok (.iconst 0, 1) := by decide +kernel
theorem dL_law_240 : decode cL_law 240 = .ok (.ireturn, 1) := by decide +kernel
theorem dL_law_241 : decode cL_law 241 = .ok (.aload_n 1, 1) := by decide +kernel
theorem dL_law_242 : decode cL_law 242 = .ok (.aload_n 0, 1) := by decide +kernel
theorem dL_law_243 : decode cL_law 243 = .ok (.iload 4, 2) := by decide +kernel
theorem dL_law_245 : decode cL_law 245 = .ok (.iconst 1, 1) := by decide +kernel
theorem dL_law_246 : decode cL_law 246 = .ok (.iadd, 1) := by decide +kernel
theorem dL_law_247 : decode cL_law 247 = .ok (.iaload, 1) := by decide +kernel
theorem dL_law_248 : decode cL_law 248 = .ok (.aload_n 3, 1) := by decide +kernel
theorem dL_law_249 : decode cL_law 249 = .ok (.invokestatic 56, 3) := by decide +kernel
theorem dL_law_252 : decode cL_law 252 = .ok (.istore 5, 2) := by decide +kernel
theorem dL_law_254 : decode cL_law 254 = .ok (.aload_n 2, 1) := by decide +kernel
theorem dL_law_255 : decode cL_law 255 = .ok (.aload_n 0, 1) := by decide +kernel
theorem dL_law_256 : decode cL_law 256 = .ok (.iload 4, 2) := by decide +kernel
theorem dL_law_258 : decode cL_law 258 = .ok (.iconst 1, 1) := by decide +kernel
theorem dL_law_259 : decode cL_law 259 = .ok (.iadd, 1) := by decide +kernel
theorem dL_law_260 : decode cL_law 260 = .ok (.iaload, 1) := by decide +kernel
theorem dL_law_261 : decode cL_law 261 = .ok (.invokevirtual 59, 3) := by decide +kernel
theorem dL_law_264 : decode cL_law 264 = .ok (.istore 6, 2) := by decide +kernel
theorem dL_law_266 : decode cL_law 266 = .ok (.aload_n 2, 1) := by decide +kernel
theorem dL_law_267 : decode cL_law 267 = .ok (.invokevirtual 44, 3) := by decide +kernel
theorem dL_law_270 : decode cL_law 270 = .ok (.iload 5, 2) := by decide +kernel
theorem dL_law_272 : decode cL_law 272 = .ok (.if_icmp .eq 5, 3) := by decide +kernel
theorem dL_law_275 : decode cL_law 275 = .ok (.iconst 0, 1) := by decide +kernel
theorem dL_law_276 : decode cL_law 276 = .ok (.ireturn, 1) := by decide +kernel
theorem dL_law_277 : decode cL_law 277 = .ok (.iload 5, 2) := by decide +kernel
theorem dL_law_279 : decode cL_law 279 = .ok (.ifCond .ne 15, 3) := by decide +kernel
theorem dL_law_282 : decode cL_law 282 = .ok (.aload_n 3, 1) := by decide +kernel
theorem dL_law_283 : decode cL_law 283 = .ok (.iconst 0, 1) := by decide +kernel
theorem dL_law_284 : decode cL_law 284 = .ok (.laload, 1) := by decide +kernel
theorem dL_law_285 : decode cL_law 285 = .ok (.iload 6, 2) := by decide +kernel
theorem dL_law_287 : decode cL_law 287 = .ok (.i2l, 1) := by decide +kernel
theorem dL_law_288 : decode cL_law 288 = .ok (.lcmp, 1) := by decide +kernel
theorem dL_law_289 : decode cL_law 289 = .ok (.ifCond .eq 5, 3) := by decide +kernel
theorem dL_law_292 : decode cL_law 292 = .ok (.iconst 0, 1) := by decide +kernel
theorem dL_law_293 : decode cL_law 293 = .ok (.ireturn, 1) := by decide +kernel
theorem dL_law_294 : decode cL_law 294 = .ok (.goto 144, 3) := by decide +kernel
theorem dL_law_297 : decode cL_law 297 = .ok (.aload_n 1, 1) := by decide +kernel
theorem dL_law_298 : decode cL_law 298 = .ok (.invokevirtual 60, 3) := by decide +kernel
theorem dL_law_301 : decode cL_law 301 = .ok (.aload_n 2, 1) := by decide +kernel
theorem dL_law_302 : decode cL_law 302 = .ok (.invokevirtual 63, 3) := by decide +kernel
theorem dL_law_305 : decode cL_law 305 = .ok (.if_icmp .eq 133, 3) := by decide +kernel
theorem dL_law_308 : decode cL_law 308 = .ok (.iconst 0, 1) := by decide +kernel
theorem dL_law_309 : decode cL_law 309 = .ok (.ireturn, 1) := by decide +kernel
theorem dL_law_310 : decode cL_law 310 = .ok (.aload_n 1, 1) := by decide +kernel
theorem dL_law_311 : decode cL_law 311 = .ok (.invokevirtual 64, 3) := by decide +kernel
theorem dL_law_314 : decode cL_law 314 = .ok (.aload_n 2, 1) := by decide +kernel
theorem dL_law_315 : decode cL_law 315 = .ok (.invokevirtual 67, 3) := by decide +kernel
theorem dL_law_318 : decode cL_law 318 = .ok (.if_icmp .eq 120, 3) := by decide +kernel
theorem dL_law_321 : decode cL_law 321 = .ok (.iconst 0, 1) := by decide +kernel
theorem dL_law_322 : decode cL_law 322 = .ok (.ireturn, 1) := by decide +kernel
theorem dL_law_323 : decode cL_law 323 = .ok (.aload_n 1, 1) := by decide +kernel
theorem dL_law_324 : decode cL_law 324 = .ok (.invokevirtual 68, 3) := by decide +kernel
theorem dL_law_327 : decode cL_law 327 = .ok (.aload_n 2, 1) := by decide +kernel
theorem dL_law_328 : decode cL_law 328 = .ok (.invokevirtual 71, 3) := by decide +kernel
theorem dL_law_331 : decode cL_law 331 = .ok (.if_icmp .eq 107, 3) := by decide +kernel
theorem dL_law_334 : decode cL_law 334 = .ok (.iconst 0, 1) := by decide +kernel
theorem dL_law_335 : decode cL_law 335 = .ok (.ireturn, 1) := by decide +kernel
theorem dL_law_336 : decode cL_law 336 = .ok (.aload_n 1, 1) := by decide +kernel
theorem dL_law_337 : decode cL_law 337 = .ok (.invokevirtual 72, 3) := by decide +kernel
theorem dL_law_340 : decode cL_law 340 = .ok (.aload_n 2, 1) := by decide +kernel
theorem dL_law_341 : decode cL_law 341 = .ok (.invokevirtual 75, 3) := by decide +kernel
theorem dL_law_344 : decode cL_law 344 = .ok (.if_icmp .eq 94, 3) := by decide +kernel
theorem dL_law_347 : decode cL_law 347 = .ok (.iconst 0, 1) := by decide +kernel
theorem dL_law_348 : decode cL_law 348 = .ok (.ireturn, 1) := by decide +kernel
theorem dL_law_349 : decode cL_law 349 = .ok (.aload_n 1, 1) := by decide +kernel
theorem dL_law_350 : decode cL_law 350 = .ok (.invokevirtual 76, 3) := by decide +kernel
theorem dL_law_353 : decode cL_law 353 = .ok (.aload_n 2, 1) := by decide +kernel
theorem dL_law_354 : decode cL_law 354 = .ok (.invokevirtual 79, 3) := by decide +kernel
theorem dL_law_357 : decode cL_law 357 = .ok (.if_icmp .eq 81, 3) := by decide +kernel
theorem dL_law_360 : decode cL_law 360 = .ok (.iconst 0, 1) := by decide +kernel
theorem dL_law_361 : decode cL_law 361 = .ok (.ireturn, 1) := by decide +kernel
theorem dL_law_362 : decode cL_law 362 = .ok (.aload_n 1, 1) := by decide +kernel
theorem dL_law_363 : decode cL_law 363 = .ok (.invokevirtual 80, 3) := by decide +kernel
theorem dL_law_366 : decode cL_law 366 = .ok (.aload_n 2, 1) := by decide +kernel
theorem dL_law_367 : decode cL_law 367 = .ok (.invokevirtual 83, 3) := by decide +kernel
theorem dL_law_370 : decode cL_law 370 = .ok (.if_icmp .eq 68, 3) := by decide +kernel
theorem dL_law_373 : decode cL_law 373 = .ok (.iconst 0, 1) := by decide +kernel
theorem dL_law_374 : decode cL_law 374 = .ok (.ireturn, 1) := by decide +kernel
theorem dL_law_375 : decode cL_law 375 = .ok (.aload_n 1, 1) := by decide +kernel
theorem dL_law_376 : decode cL_law 376 = .ok (.invokevirtual 84, 3) := by decide +kernel
theorem dL_law_379 : decode cL_law 379 = .ok (.aload_n 2, 1) := by decide +kernel
theorem dL_law_380 : decode cL_law 380 = .ok (.invokevirtual 87, 3) := by decide +kernel
theorem dL_law_383 : decode cL_law 383 = .ok (.if_icmp .eq 55, 3) := by decide +kernel
theorem dL_law_386 : decode cL_law 386 = .ok (.iconst 0, 1) := by decide +kernel
theorem dL_law_387 : decode cL_law 387 = .ok (.ireturn, 1) := by decide +kernel
theorem dL_law_388 : decode cL_law 388 = .ok (.aload_n 1, 1) := by decide +kernel
theorem dL_law_389 : decode cL_law 389 = .ok (.aload_n 0, 1) := by decide +kernel
theorem dL_law_390 : decode cL_law 390 = .ok (.iload 4, 2) := by decide +kernel
theorem dL_law_392 : decode cL_law 392 = .ok (.iconst 1, 1) := by decide +kernel
theorem dL_law_393 : decode cL_law 393 = .ok (.iadd, 1) := by decide +kernel
theorem dL_law_394 : decode cL_law 394 = .ok (.iaload, 1) := by decide +kernel
theorem dL_law_395 : decode cL_law 395 = .ok (.invokevirtual 88, 3) := by decide +kernel
theorem dL_law_398 : decode cL_law 398 = .ok (.aload_n 2, 1) := by decide +kernel
theorem dL_law_399 : decode cL_law 399 = .ok (.aload_n 0, 1) := by decide +kernel
theorem dL_law_400 : decode cL_law 400 = .ok (.iload 4, 2) := by decide +kernel
theorem dL_law_402 : decode cL_law 402 = .ok (.iconst 1, 1) := by decide +kernel
theorem dL_law_403 : decode cL_law 403 = .ok (.iadd, 1) := by decide +kernel
theorem dL_law_404 : decode cL_law 404 = .ok (.iaload, 1) := by decide +kernel
theorem dL_law_405 : decode cL_law 405 = .ok (.invokevirtual 91, 3) := by decide +kernel
theorem dL_law_408 : decode cL_law 408 = .ok (.if_icmp .eq 30, 3) := by decide +kernel
theorem dL_law_411 : decode cL_law 411 = .ok (.iconst 0, 1) := by decide +kernel
theorem dL_law_412 : decode cL_law 412 = .ok (.ireturn, 1) := by decide +kernel
theorem dL_law_413 : decode cL_law 413 = .ok (.aload_n 1, 1) := by decide +kernel
theorem dL_law_414 : decode cL_law 414 = .ok (.aload_n 0, 1) := by decide +kernel
theorem dL_law_415 : decode cL_law 415 = .ok (.iload 4, 2) := by decide +kernel
theorem dL_law_417 : decode cL_law 417 = .ok (.iconst 1, 1) := by decide +kernel
theorem dL_law_418 : decode cL_law 418 = .ok (.iadd, 1) := by decide +kernel
theorem dL_law_419 : decode cL_law 419 = .ok (.iaload, 1) := by decide +kernel
theorem dL_law_420 : decode cL_law 420 = .ok (.invokevirtual 92, 3) := by decide +kernel
theorem dL_law_423 : decode cL_law 423 = .ok (.aload_n 2, 1) := by decide +kernel
theorem dL_law_424 : decode cL_law 424 = .ok (.aload_n 0, 1) := by decide +kernel
theorem dL_law_425 : decode cL_law 425 = .ok (.iload 4, 2) := by decide +kernel
theorem dL_law_427 : decode cL_law 427 = .ok (.iconst 1, 1) := by decide +kernel
theorem dL_law_428 : decode cL_law 428 = .ok (.iadd, 1) := by decide +kernel
theorem dL_law_429 : decode cL_law 429 = .ok (.iaload, 1) := by decide +kernel
theorem dL_law_430 : decode cL_law 430 = .ok (.invokevirtual 95, 3) := by decide +kernel
theorem dL_law_433 : decode cL_law 433 = .ok (.if_icmp .eq 5, 3) := by decide +kernel
theorem dL_law_436 : decode cL_law 436 = .ok (.iconst 0, 1) := by decide +kernel
theorem dL_law_437 : decode cL_law 437 = .ok (.ireturn, 1) := by decide +kernel
theorem dL_law_438 : decode cL_law 438 = .ok (.iinc 4 3, 3) := by decide +kernel
theorem dL_law_441 : decode cL_law 441 = .ok (.goto (-408), 3) := by decide +kernel
theorem dL_law_444 : decode cL_law 444 = .ok (.iconst 1, 1) := by decide +kernel
theorem dL_law_445 : decode cL_law 445 = .ok (.ireturn, 1) := by decide +kernel
end
section
theorem dX7_init_0 : decode cX7_init 0 = .ok (.aload_n 0, 1) := by decide +kernel
theorem dX7_init_1 : decode cX7_init 1 = .ok (.invokespecial 1, 3) := by decide +kernel
theorem dX7_init_4 : decode cX7_init 4 = .ok (.aload_n 0, 1) := by decide +kernel
theorem dX7_init_5 : decode cX7_init 5 = .ok (.bipush 90, 2) := by decide +kernel
theorem dX7_init_7 : decode cX7_init 7 = .ok (.newarray .char, 2) := by decide +kernel
theorem dX7_init_9 : decode cX7_init 9 = .ok (.putfield 7, 3) := by decide +kernel
theorem dX7_init_12 : decode cX7_init 12 = .ok (.aload_n 0, 1) := by decide +kernel
theorem dX7_init_13 : decode cX7_init 13 = .ok (.bipush 90, 2) := by decide +kernel
theorem dX7_init_15 : decode cX7_init 15 = .ok (.newarray .char, 2) := by decide +kernel
theorem dX7_init_17 : decode cX7_init 17 = .ok (.putfield 13, 3) := by decide +kernel
theorem dX7_init_20 : decode cX7_init 20 = .ok (.aload_n 0, 1) := by decide +kernel
theorem dX7_init_21 : decode cX7_init 21 = .ok (.iconst (-1), 1) := by decide +kernel
theorem dX7_init_22 : decode cX7_init 22 = .ok (.putfield 16, 3) := by decide +kernel
theorem dX7_init_25 : decode cX7_init 25 = .ok (.aload_n 0, 1) := by decide +kernel
theorem dX7_init_26 : decode cX7_init 26 = .ok (.sipush 300, 3) := by decide +kernel
theorem dX7_init_29 : decode cX7_init 29 = .ok (.newarray .int, 2) := by decide +kernel
theorem dX7_init_31 : decode cX7_init 31 = .ok (.putfield 20, 3) := by decide +kernel
theorem dX7_init_34 : decode cX7_init 34 = .ok (.aload_n 0, 1) := by decide +kernel
theorem dX7_init_35 : decode cX7_init 35 = .ok (.sipush 300, 3) := by decide +kernel
theorem dX7_init_38 : decode cX7_init 38 = .ok (.newarray .int, 2) := by decide +kernel
theorem dX7_init_40 : decode cX7_init 40 = .ok (.putfield 24, 3) := by decide +kernel
theorem dX7_init_43 : decode cX7_init 43 = .ok (.aload_n 0, 1) := by decide +kernel
theorem dX7_init_44 : decode cX7_init 44 = .ok (.sipush 300, 3) := by decide +kernel
theorem dX7_init_47 : decode cX7_init 47 = .ok (.newarray .int, 2) := by decide +kernel
theorem dX7_init_49 : decode cX7_init 49 = .ok (.putfield 27, 3) := by decide +kernel
theorem dX7_init_52 : decode cX7_init 52 = .ok (.aload_n 0, 1) := by decide +kernel
theorem dX7_init_53 : decode cX7_init 53 = .ok (.sipush 300, 3) := by decide +kernel
theorem dX7_init_56 : decode cX7_init 56 = .ok (.newarray .int, 2) := by decide +kernel
theorem dX7_init_58 : decode cX7_init 58 = .ok (.putfield 30, 3) := by decide +kernel
theorem dX7_init_61 : decode cX7_init 61 = .ok (.aload_n 0, 1) := by decide +kernel
theorem dX7_init_62 : decode cX7_init 62 = .ok (.sipush 300, 3) := by decide +kernel
theorem dX7_init_65 : decode cX7_init 65 = .ok (.newarray .int, 2) := by decide +kernel
theorem dX7_init_67 : decode cX7_init 67 = .ok (.putfield 33, 3) := by decide +kernel
theorem dX7_init_70 : decode cX7_init 70 = .ok (.aload_n 0, 1) := by decide +kernel
theorem dX7_init_71 : decode cX7_init 71 = .ok (.sipush 300, 3) := by decide +kernel
theorem dX7_init_74 : decode cX7_init 74 = .ok (.newarray .boolean, 2) := by decide +kernel
theorem dX7_init_76 : decode cX7_init 76 = .ok (.putfield 36, 3) := by decide +kernel
theorem dX7_init_79 : decode cX7_init 79 = .ok (.aload_n 0, 1) := by decide +kernel
theorem dX7_init_80 : decode cX7_init 80 = .ok (.bipush 100, 2) := by decide +kernel
theorem dX7_init_82 : decode cX7_init 82 = .ok (.newarray .char, 2) := by decide +kernel
theorem dX7_init_84 : decode cX7_init 84 = .ok (.putfield 40, 3) := by decide +kernel
theorem dX7_init_87 : decode cX7_init 87 = .ok (.aload_n 0, 1) := by decide +kernel
theorem dX7_init_88 : decode cX7_init 88 = .ok (.bipush 8, 2) := by decide +kernel
theorem dX7_init_90 : decode cX7_init 90 = .ok (.newarray .int, 2) := by decide +kernel
theorem dX7_init_92 : decode cX7_init 92 = .ok (.putfield 43, 3) := by decide +kernel
theorem dX7_init_95 : decode cX7_init 95 = .ok (.aload_n 0, 1) := by decide +kernel
theorem dX7_init_96 : decode cX7_init 96 = .ok (.bipush 8, 2) := by decide +kernel
theorem dX7_init_98 : decode cX7_init 98 = .ok (.newarray .int, 2) := by decide +kernel
theorem dX7_init_100 : decode cX7_init 100 = .ok (.putfield 46, 3) := by decide +kernel
theorem dX7_init_103 : decode cX7_init 103 = .ok (.aload_n 0, 1) := by decide +kernel
theorem dX7_init_104 : decode cX7_init 104 = .ok (.bipush 8, 2) := by decide +kernel
theorem dX7_init_106 : decode cX7_init 106 = .ok (.newarray .int, 2) := by decide +kernel
theorem dX7_init_108 : decode cX7_init 108 = .ok (.putfield 49, 3) := by decide +kernel
theorem dX7_init_111 : decode cX7_init 111 = .ok (.aload_n 0, 1) := by decide +kernel
theorem dX7_init_112 : decode cX7_init 112 = .ok (.bipush 8, 2) := by decide +kernel
theorem dX7_init_114 : decode cX7_init 114 = .ok (.newarray .int, 2) := by decide +kernel
theorem dX7_init_116 : decode cX7_init 116 = .ok (.putfield 52, 3) := by decide +kernel
theorem dX7_init_119 : decode cX7_init 119 = .ok (.aload_n 0, 1) := by decide +kernel
theorem dX7_init_120 : decode cX7_init 120 = .ok (.bipush 8, 2) := by decide +kernel
theorem dX7_init_122 : decode cX7_init 122 = .ok (.newarray .int, 2) := by decide +kernel
theorem dX7_init_124 : decode cX7_init 124 = .ok (.putfield 55, 3) := by decide +kernel
theorem dX7_init_127 : decode cX7_init 127 = .ok (.aload_n 0, 1) := by decide +kernel
theorem dX7_init_128 : decode cX7_init 128 = .ok (.bipush 8, 2) := by decide +kernel
theorem dX7_init_130 : decode cX7_init 130 = .ok (.newarray .char, 2) := by decide +kernel
theorem dX7_init_132 : decode cX7_init 132 = .ok (.putfield 58, 3) := by decide +kernel
theorem dX7_init_135 : decode cX7_init 135 = .ok (.aload_n 0, 1) := by decide +kernel
theorem dX7_init_136 : decode cX7_init 136 = .ok (.bipush 8, 2) := by decide +kernel
theorem dX7_init_138 : decode cX7_init 138 = .ok (.newarray .boolean, 2) := by decide +kernel
theorem dX7_init_140 : decode cX7_init 140 = .ok (.putfield 61, 3) := by decide +kernel
theorem dX7_init_143 : decode cX7_init 143 = .ok (.aload_n 0, 1) := by decide +kernel
theorem dX7_init_144 : decode cX7_init 144 = .ok (.bipush 8, 2) := by decide +kernel
theorem dX7_init_146 : decode cX7_init 146 = .ok (.newarray .int, 2) := by decide +kernel
theorem dX7_init_148 : decode cX7_init 148 = .ok (.putfield 64, 3) := by decide +kernel
theorem dX7_init_151 : decode cX7_init 151 = .ok (.aload_n 0, 1) := by decide +kernel
theorem dX7_init_152 : decode cX7_init 152 = .ok (.bipush 60, 2) := by decide +kernel
theorem dX7_init_154 : decode cX7_init 154 = .ok (.newarray .int, 2) := by decide +kernel
theorem dX7_init_156 : decode cX7_init 156 = .ok (.putfield 67, 3) := by decide +kernel
theorem dX7_init_159 : decode cX7_init 159 = .ok (.aload_n 0, 1) := by decide +kernel
theorem dX7_init_160 : decode cX7_init 160 = .ok (.bipush 60, 2) := by decide +kernel
theorem dX7_init_162 : decode cX7_init 162 = .ok (.newarray .int, 2) := by decide +kernel
theorem dX7_init_164 : decode cX7_init 164 = .ok (.putfield 70, 3) := by decide +kernel
theorem dX7_init_167 : decode cX7_init 167 = .ok (.aload_n 0, 1) := by decide +kernel
theorem dX7_init_168 : decode cX7_init 168 = .ok (.bipush 100, 2) := by decide +kernel
theorem dX7_init_170 : decode cX7_init 170 = .ok (.newarray .int, 2) := by decide +kernel
theorem dX7_init_172 : decode cX7_init 172 = .ok (.putfield 73, 3) := by decide +kernel
theorem dX7_init_175 : decode cX7_init 175 = .ok (.aload_n 0, 1) := by decide +kernel
theorem dX7_init_176 : decode cX7_init 176 = .ok (.bipush 100, 2) := by decide +kernel
theorem dX7_init_178 : decode cX7_init 178 = .ok (.newarray .char, 2) := by decide +kernel
theorem dX7_init_180 : decode cX7_init 180 = .ok (.putfield 76, 3) := by decide +kernel
theorem dX7_init_183 : decode cX7_init 183 = .ok (.aload_n 0, 1) := by decide +kernel
theorem dX7_init_184 : decode cX7_init 184 = .ok (.sipush 372, 3) := by decide +kernel
theorem dX7_init_187 : decode cX7_init 187 = .ok (.newarray .int, 2) := by decide +kernel
theorem dX7_init_189 : decode cX7_init 189 = .ok (.putfield 79, 3) := by decide +kernel
theorem dX7_init_192 : decode cX7_init 192 = .ok (.aload_n 0, 1) := by decide +kernel
theorem dX7_init_193 : decode cX7_init 193 = .ok (.sipush 372, 3) := by decide +kernel
theorem dX7_init_196 : decode cX7_init 196 = .ok (.newarray .int, 2) := by decide +kernel
theorem dX7_init_198 : decode cX7_init 198 = .ok (.putfield 82, 3) := by decide +kernel
theorem dX7_init_201 : decode cX7_init 201 = .ok (.aload_n 0, 1) := by decide +kernel
theorem dX7_init_202 : decode cX7_init 202 = .ok (.sipush 600, 3) := by decide +kernel
theorem dX7_init_205 : decode cX7_init 205 = .ok (.newarray .int, 2) := by decide +kernel
theorem dX7_init_207 : decode cX7_init 207 = .ok (.putfield 85, 3) := by decide +kernel
theorem dX7_init_210 : decode cX7_init 210 = .ok (.aload_n 0, 1) := by decide +kernel
theorem dX7_init_211 : decode cX7_init 211 = .ok (.sipush 600, 3) := by decide +kernel
theorem dX7_init_214 : decode cX7_init 214 = .ok (.newarray .int, 2) := by decide +kernel
theorem dX7_init_216 : decode cX7_init 216 = .ok (.putfield 88, 3) := by decide +kernel
theorem dX7_init_219 : decode cX7_init 219 = .ok (.aload_n 0, 1) := by decide +kernel
theorem dX7_init_220 : decode cX7_init 220 = .ok (.sipush 600, 3) := by decide +kernel
theorem dX7_init_223 : decode cX7_init 223 = .ok (.newarray .int, 2) := by decide +kernel
theorem dX7_init_225 : decode cX7_init 225 = .ok (.putfield 91, 3) := by decide +kernel
theorem dX7_init_228 : decode cX7_init 228 = .ok (.aload_n 0, 1) := by decide +kernel
theorem dX7_init_229 : decode cX7_init 229 = .ok (.sipush 400, 3) := by decide +kernel
theorem dX7_init_232 : decode cX7_init 232 = .ok (.newarray .int, 2) := by decide +kernel
theorem dX7_init_234 : decode cX7_init 234 = .ok (.putfield 94, 3) := by decide +kernel
theorem dX7_init_237 : decode cX7_init 237 = .ok (.aload_n 0, 1) := by decide +kernel
theorem dX7_init_238 : decode cX7_init 238 = .ok (.sipush 400, 3) := by decide +kernel
theorem dX7_init_241 : decode cX7_init 241 = .ok (.newarray .int, 2) := by decide +kernel
theorem dX7_init_243 : decode cX7_init 243 = .ok (.putfield 97, 3) := by decide +kernel
theorem dX7_init_246 : decode cX7_init 246 = .ok (.aload_n 0, 1) := by decide +kernel
theorem dX7_init_247 : decode cX7_init 247 = .ok (.iconst 1, 1) := by decide +kernel
theorem dX7_init_248 : decode cX7_init 248 = .ok (.putfield 100, 3) := by decide +kernel
theorem dX7_init_251 : decode cX7_init 251 = .ok (.aload_n 0, 1) := by decide +kernel
theorem dX7_init_252 : decode cX7_init 252 = .ok (.iconst 1, 1) := by decide +kernel
theorem dX7_init_253 : decode cX7_init 253 = .ok (.putfield 103, 3) := by decide +kernel
theorem dX7_init_256 : decode cX7_init 256 = .ok (.aload_n 0, 1) := by decide +kernel
theorem dX7_init_257 : decode cX7_init 257 = .ok (.bipush 40, 2) := by decide +kernel
theorem dX7_init_259 : decode cX7_init 259 = .ok (.newarray .int, 2) := by decide +kernel
theorem dX7_init_261 : decode cX7_init 261 = .ok (.putfield 106, 3) := by decide +kernel
theorem dX7_init_264 : decode cX7_init 264 = .ok (.aload_n 0, 1) := by decide +kernel
theorem dX7_init_265 : decode cX7_init 265 = .ok (.iload_n 1, 1) := by decide +kernel
theorem dX7_init_266 : decode cX7_init 266 = .ok (.bipush 20, 2) := by decide +kernel
theorem dX7_init_268 : decode cX7_init 268 = .ok (.if_icmp .ge 8, 3) := by decide +kernel
theorem dX7_init_271 : decode cX7_init 271 = .ok (.bipush 20, 2) := by decide +kernel
theorem dX7_init_273 : decode cX7_init 273 = .ok (.goto 17, 3) := by decide +kernel
theorem dX7_init_276 : decode cX7_init 276 = .ok (.iload_n 1, 1) := by decide +kernel
theorem dX7_init_277 : decode cX7_init 277 = .ok (.sipush 200, 3) := by decide +kernel
theorem dX7_init_280 : decode cX7_init 280 = .ok (.if_icmp .le 9, 3) := by decide +kernel
theorem dX7_init_283 : decode cX7_init 283 = .ok (.sipush 200, 3) := by decide +kernel
theorem dX7_init_286 : decode cX7_init 286 = .ok (.goto 4, 3) := by decide +kernel
theorem dX7_init_289 : decode cX7_init 289 = .ok (.iload_n 1, 1) := by decide +kernel
theorem dX7_init_290 : decode cX7_init 290 = .ok (.putfield 109, 3) := by decide +kernel
theorem dX7_init_293 : decode cX7_init 293 = .ok (.return_, 1) := by decide +kernel
theorem dX7_thrown_0 : decode cX7_thrown 0 = .ok (.aload_n 0, 1) := by decide +kernel
theorem dX7_thrown_1 : decode cX7_thrown 1 = .ok (.getfield 112, 3) := by decide +kernel
theorem dX7_thrown_4 : decode cX7_thrown 4 = .ok (.ireturn, 1) := by decide +kernel
theorem dX7_fail_0 : decode cX7_fail 0 = .ok (.aload_n 0, 1) := by decide +kernel
theorem dX7_fail_1 : decode cX7_fail 1 = .ok (.iload_n 1, 1) := by decide +kernel
theorem dX7_fail_2 : decode cX7_fail 2 = .ok (.putfield 112, 3) := by decide +kernel
theorem dX7_fail_5 : decode cX7_fail 5 = .ok (.iconst 0, 1) := by decide +kernel
theorem dX7_fail_6 : decode cX7_fail 6 = .ok (.ireturn, 1) := by decide +kernel
theorem dX7_write_0 : decode cX7_write 0 = .ok (.aload_n 0, 1) := by decide +kernel
theorem dX7_write_1 : decode cX7_write 1 = .ok (.iconst 0, 1) := by decide +kernel
theorem dX7_write_2 : decode cX7_write 2 = .ok (.putfield 112, 3) := by decide +kernel
theorem dX7_write_5 : decode cX7_write 5 = .ok (.iload_n 1, 1) := by decide +kernel
theorem dX7_write_6 : decode cX7_write 6 = .ok (.bipush 32, 2) := by decide +kernel
theorem dX7_write_8 : decode cX7_write 8 = .ok (.if_icmp .lt 18, 3) := by decide +kernel
theorem dX7_write_11 : decode cX7_write 11 = .ok (.iload_n 1, 1) := by decide +kernel
theorem dX7_write_12 : decode cX7_write 12 = .ok (.bipush 126, 2) := by decide +kernel
theorem dX7_write_14 : decode cX7_write 14 = .ok (.if_icmp .gt 12, 3) := by decide +kernel
theorem dX7_write_17 : decode cX7_write 17 = .ok (.aload_n 0, 1) := by decide +kernel
theorem dX7_write_18 : decode cX7_write 18 = .ok (.getfield 115, 3) := by decide +kernel
theorem dX7_write_21 : decode cX7_write 21 = .ok (.bipush 90, 2) := by decide +kernel
theorem dX7_write_23 : decode cX7_write 23 = .ok (.if_icmp .ne 5, 3) := by decide +kernel
theorem dX7_write_26 : decode cX7_write 26 = .ok (.iconst 0, 1) := by decide +kernel
theorem dX7_write_27 : decode cX7_write 27 = .ok (.ireturn, 1) := by decide +kernel
theorem dX7_write_28 : decode cX7_write 28 = .ok (.aload_n 0, 1) := by decide +kernel
theorem dX7_write_29 : decode cX7_write 29 = .ok (.getfield 7, 3) := by decide +kernel
theorem dX7_write_32 : decode cX7_write 32 = .ok (.aload_n 0, 1) := by decide +kernel
theorem dX7_write_33 : decode cX7_write 33 = .ok (.getfield 115, 3) := by decide +kernel
theorem dX7_write_36 : decode cX7_write 36 = .ok (.iload_n 1, 1) := by decide +kernel
theorem dX7_write_37 : decode cX7_write 37 = .ok (.castore, 1) := by decide +kernel
theorem dX7_write_38 : decode cX7_write 38 = .ok (.aload_n 0, 1) := by decide +kernel
theorem dX7_write_39 : decode cX7_write 39 = .ok (.dup, 1) := by decide +kernel
theorem dX7_write_40 : decode cX7_write 40 = .ok (.getfield 115, 3) := by decide +kernel
theorem dX7_write_43 : decode cX7_write 43 = .ok (.iconst 1, 1) := by decide +kernel
theorem dX7_write_44 : decode cX7_write 44 = .ok (.iadd, 1) := by decide +kernel
theorem dX7_write_45 : decode cX7_write 45 = .ok (.putfield 115, 3) := by decide +kernel
theorem dX7_write_48 : decode cX7_write 48 = .ok (.iconst 1, 1) := by decide +kernel
theorem dX7_write_49 : decode cX7_write 49 = .ok (.ireturn, 1) := by decide +kernel
theorem dX7_look_0 : decode cX7_look 0 = .ok (.aload_n 0, 1) := by decide +kernel
theorem dX7_look_1 : decode cX7_look 1 = .ok (.getfield 118, 3) := by decide +kernel
theorem dX7_look_4 : decode cX7_look 4 = .ok (.aload_n 0, 1) := by decide +kernel
theorem dX7_look_5 : decode cX7_look 5 = .ok (.getfield 121, 3) := by decide +kernel
theorem dX7_look_8 : decode cX7_look 8 = .ok (.if_icmp .ge 15, 3) := by decide +kernel
theorem dX7_look_11 : decode cX7_look 11 = .ok (.aload_n 0, 1) := by decide +kernel
theorem dX7_look_12 : decode cX7_look 12 = .ok (.getfield 13, 3) := by decide +kernel
theorem dX7_look_15 : decode cX7_look 15 = .ok (.aload_n 0, 1) := by decide +kernel
theorem dX7_look_16 : decode cX7_look 16 = .ok (.getfield 118, 3) := by decide +kernel
theorem dX7_look_19 : decode cX7_look 19 = .ok (.caload, 1) := by decide +kernel
theorem dX7_look_20 : decode cX7_look 20 = .ok (.goto 4, 3) := by decide +kernel
theorem dX7_look_23 : decode cX7_look 23 = .ok (.iconst 0, 1) := by decide +kernel
theorem dX7_look_24 : decode cX7_look 24 = .ok (.ireturn, 1) := by decide +kernel
theorem dX7_behind_0 : decode cX7_behind 0 = .ok (.aload_n 0, 1) := by decide +kernel
theorem dX7_behind_1 : decode cX7_behind 1 = .ok (.getfield 118, 3) := by decide +kernel
theorem dX7_behind_4 : decode cX7_behind 4 = .ok (.iconst 1, 1) := by decide +kernel
theorem dX7_behind_5 : decode cX7_behind 5 = .ok (.iadd, 1) := by decide +kernel
theorem dX7_behind_6 : decode cX7_behind 6 = .ok (.aload_n 0, 1) := by decide +kernel
theorem dX7_behind_7 : decode cX7_behind 7 = .ok (.getfield 121, 3) := by decide +kernel
theorem dX7_behind_10 : decode cX7_behind 10 = .ok (.if_icmp .ge 17, 3) := by decide +kernel
theorem dX7_behind_13 : decode cX7_behind 13 = .ok (.aload_n 0, 1) := by decide +kernel
theorem dX7_behind_14 : decode cX7_behind 14 = .ok (.getfield 13, 3) := by decide +kernel
theorem dX7_behind_17 : decode cX7_behind 17 = .ok (.aload_n 0, 1) := by decide +kernel
theorem dX7_behind_18 : decode cX7_behind 18 = .ok (.getfield 118, 3) := by decide +kernel
theorem dX7_behind_21 : decode cX7_behind 21 = .ok (.iconst 1, 1) := by decide +kernel
theorem dX7_behind_22 : decode cX7_behind 22 = .ok (.iadd, 1) := by decide +kernel
theorem dX7_behind_23 : decode cX7_behind 23 = .ok (.caload, 1) := by decide +kernel
theorem dX7_behind_24 : decode cX7_behind 24 = .ok (.goto 4, 3) := by decide +kernel
theorem dX7_behind_27 : decode cX7_behind 27 = .ok (.iconst 0, 1) := by decide +kernel
theorem dX7_behind_28 : decode cX7_behind 28 = .ok (.ireturn, 1) := by decide +kernel
theorem dX7_isName_0 : decode cX7_isName 0 = .ok (.iload_n 0, 1) := by decide +kernel
theorem dX7_isName_1 : decode cX7_isName 1 = .ok (.bipush 97, 2) := by decide +kernel
theorem dX7_isName_3 : decode cX7_isName 3 = .ok (.if_icmp .lt 13, 3) := by decide +kernel
theorem dX7_isName_6 : decode cX7_isName 6 = .ok (.iload_n 0, 1) := by decide +kernel
theorem dX7_isName_7 : decode cX7_isName 7 = .ok (.bipush 122, 2) := by decide +kernel
theorem dX7_isName_9 : decode cX7_isName 9 = .ok (.if_icmp .gt 7, 3) := by decide +kernel
theorem dX7_isName_12 : decode cX7_isName 12 = .ok (.iconst 1, 1) := by decide +kernel
theorem dX7_isName_13 : decode cX7_isName 13 = .ok (.goto 4, 3) := by decide +kernel
theorem dX7_isName_16 : decode cX7_isName 16 = .ok (.iconst 0, 1) := by decide +kernel
theorem dX7_isName_17 : decode cX7_isName 17 = .ok (.ireturn, 1) := by decide +kernel
theorem dX7_isDigit_0 : decode cX7_isDigit 0 = .ok (.iload_n 0, 1) := by decide +kernel
theorem dX7_isDigit_1 : decode cX7_isDigit 1 = .ok (.bipush 48, 2) := by decide +kernel
theorem dX7_isDigit_3 : decode cX7_isDigit 3 = .ok (.if_icmp .lt 13, 3) := by decide +kernel
theorem dX7_isDigit_6 : decode cX7_isDigit 6 = .ok (.iload_n 0, 1) := by decide +kernel
theorem dX7_isDigit_7 : decode cX7_isDigit 7 = .ok (.bipush 57, 2) := by decide +kernel
theorem dX7_isDigit_9 : decode cX7_isDigit 9 = .ok (.if_icmp .gt 7, 3) := by decide +kernel
theorem dX7_isDigit_12 : decode cX7_isDigit 12 = .ok (.iconst 1, 1) := by decide +kernel
theorem dX7_isDigit_13 : decode cX7_isDigit 13 = .ok (.goto 4, 3) := by decide +kernel
theorem dX7_isDigit_16 : decode cX7_isDigit 16 = .ok (.iconst 0, 1) := by decide +kernel
theorem dX7_isDigit_17 : decode cX7_isDigit 17 = .ok (.ireturn, 1) := by decide +kernel
theorem dX7_isConstructor_0 : decode cX7_isConstructor 0 = .ok (.iload_n 0, 1) := by decide +kernel
theorem dX7_isConstructor_1 : decode cX7_isConstructor 1 = .ok (.bipush 65, 2) := by decide +kernel
theorem dX7_isConstructor_3 : decode cX7_isConstructor 3 = .ok (.if_icmp .lt 13, 3) := by decide +kernel
theorem dX7_isConstructor_6 : decode cX7_isConstructor 6 = .ok (.iload_n 0, 1) := by decide +kernel
theorem dX7_isConstructor_7 : decode cX7_isConstructor 7 = .ok (.bipush 72, 2) := by decide +kernel
theorem dX7_isConstructor_9 : decode cX7_isConstructor 9 = .ok (.if_icmp .gt 7, 3) := by decide +kernel
theorem dX7_isConstructor_12 : decode cX7_isConstructor 12 = .ok (.iconst 1, 1) := by decide +kernel
theorem dX7_isConstructor_13 : decode cX7_isConstructor 13 = .ok (.goto 4, 3) := by decide +kernel
theorem dX7_isConstructor_16 : decode cX7_isConstructor 16 = .ok (.iconst 0, 1) := by decide +kernel
theorem dX7_isConstructor_17 : decode cX7_isConstructor 17 = .ok (.ireturn, 1) := by decide +kernel
theorem dX7_beginsAtom_0 : decode cX7_beginsAtom 0 = .ok (.iload_n 0, 1) := by decide +kernel
theorem dX7_beginsAtom_1 : decode cX7_beginsAtom 1 = .ok (.invokestatic 124, 3) := by decide +kernel
theorem dX7_beginsAtom_4 : decode cX7_beginsAtom 4 = .ok (.ifCond .ne 23, 3) := by decide +kernel
theorem dX7_beginsAtom_7 : decode cX7_beginsAtom 7 = .ok (.iload_n 0, 1) := by decide +kernel
theorem dX7_beginsAtom_8 : decode cX7_beginsAtom 8 = .ok (.invokestatic 128, 3) := by decide +kernel
theorem dX7_beginsAtom_11 : decode cX7_beginsAtom 11 = .ok (.ifCond .ne 16, 3) := by decide +kernel
theorem dX7_beginsAtom_14 : decode cX7_beginsAtom 14 = .ok (.iload_n 0, 1) := by decide +kernel
theorem dX7_beginsAtom_15 : decode cX7_beginsAtom 15 = .ok (.invokestatic 131, 3) := by decide +kernel
theorem dX7_beginsAtom_18 : decode cX7_beginsAtom 18 = .ok (.ifCond .ne 9, 3) := by decide +kernel
theorem dX7_beginsAtom_21 : decode cX7_beginsAtom 21 = .ok (.iload_n 0, 1) := by decide +kernel
theorem dX7_beginsAtom_22 : decode cX7_beginsAtom 22 = .ok (.bipush 40, 2) := by decide +kernel
theorem dX7_beginsAtom_24 : decode cX7_beginsAtom 24 = .ok (.if_icmp .ne 7, 3) := by decide +kernel
theorem dX7_beginsAtom_27 : decode cX7_beginsAtom 27 = .ok (.iconst 1, 1) := by decide +kernel
theorem dX7_beginsAtom_28 : decode cX7_beginsAtom 28 = .ok (.goto 4, 3) := by decide +kernel
theorem dX7_beginsAtom_31 : decode cX7_beginsAtom 31 = .ok (.iconst 0, 1) := by decide +kernel
theorem dX7_beginsAtom_32 : decode cX7_beginsAtom 32 = .ok (.ireturn, 1) := by decide +kernel
theorem dX7_want_0 : decode cX7_want 0 = .ok (.aload_n 0, 1) := by decide +kernel
theorem dX7_want_1 : decode cX7_want 1 = .ok (.invokevirtual 134, 3) := by decide +kernel
theorem dX7_want_4 : decode cX7_want 4 = .ok (.iload_n 1, 1) := by decide +kernel
theorem dX7_want_5 : decode cX7_want 5 = .ok (.if_icmp .eq 8, 3) := by decide +kernel
theorem dX7_want_8 : decode cX7_want 8 = .ok (.aload_n 0, 1) := by decide +kernel
theorem dX7_want_9 : decode cX7_want 9 = .ok (.iconst 1, 1) := by decide +kernel
theorem dX7_want_10 : decode cX7_want 10 = .ok (.putfield 138, 3) := by decide +kernel
theorem dX7_want_13 : decode cX7_want 13 = .ok (.aload_n 0, 1) := by decide +kernel
theorem dX7_want_14 : decode cX7_want 14 = .ok (.getfield 138, 3) := by decide +kernel
theorem dX7_want_17 : decode cX7_want 17 = .ok (.ifCond .ne 13, 3) := by decide +kernel
theorem dX7_want_20 : decode cX7_want 20 = .ok (.aload_n 0, 1) := by decide +kernel
theorem dX7_want_21 : decode cX7_want 21 = .ok (.dup, 1) := by decide +kernel
theorem dX7_want_22 : decode cX7_want 22 = .ok (.getfield 118, 3) := by decide +kernel
theorem dX7_want_25 : decode cX7_want 25 = .ok (.iconst 1, 1) := by decide +kernel
theorem dX7_want_26 : decode cX7_want 26 = .ok (.iadd, 1) := by decide +kernel
theorem dX7_want_27 : decode cX7_want 27 = .ok (.putfield 118, 3) := by decide +kernel
theorem dX7_want_30 : decode cX7_want 30 = .ok (.return_, 1) := by decide +kernel
theorem dX7_wantName_0 : decode cX7_wantName 0 = .ok (.aload_n 0, 1) := by decide +kernel
theorem dX7_wantName_1 : decode cX7_wantName 1 = .ok (.invokevirtual 134, 3) := by decide +kernel
theorem dX7_wantName_4 : decode cX7_wantName 4 = .ok (.istore_n 1, 1) := by decide +kernel
theorem dX7_wantName_5 : decode cX7_wantName 5 = .ok (.iload_n 1, 1) := by decide +kernel
theorem dX7_wantName_6 : decode cX7_wantName 6 = .ok (.invokestatic 124, 3) := by decide +kernel
theorem dX7_wantName_9 : decode cX7_wantName 9 = .ok (.ifCond .ne 8, 3) := by decide +kernel
theorem dX7_wantName_12 : decode cX7_wantName 12 = .ok (.aload_n 0, 1) := by decide +kernel
theorem dX7_wantName_13 : decode cX7_wantName 13 = .ok (.iconst 1, 1) := by decide +kernel
theorem dX7_wantName_14 : decode cX7_wantName 14 = .ok (.putfield 138, 3) := by decide +kernel
theorem dX7_wantName_17 : decode cX7_wantName 17 = .ok (.aload_n 0, 1) := by decide +kernel
theorem dX7_wantName_18 : decode cX7_wantName 18 = .ok (.getfield 138, 3) := by decide +kernel
theorem dX7_wantName_21 : decode cX7_wantName 21 = .ok (.ifCond .eq 5, 3) := by decide +kernel
theorem dX7_wantName_24 : decode cX7_wantName 24 = .ok (.iconst 0, 1) := by decide +kernel
theorem dX7_wantName_25 : decode cX7_wantName 25 = .ok (.ireturn, 1) := by decide +kernel
theorem dX7_wantName_26 : decode cX7_wantName 26 = .ok (.aload_n 0, 1) := by decide +kernel
theorem dX7_wantName_27 : decode cX7_wantName 27 = .ok (.dup, 1) := by decide +kernel
theorem dX7_wantName_28 : decode cX7_wantName 28 = .ok (.getfield 118, 3) := by decide +kernel
theorem dX7_wantName_31 : decode cX7_wantName 31 = .ok (.iconst 1, 1) := by decide +kernel
theorem dX7_wantName_32 : decode cX7_wantName 32 = .ok (.iadd, 1) := by decide +kernel
theorem dX7_wantName_33 : decode cX7_wantName 33 = .ok (.putfield 118, 3) := by decide +kernel
theorem dX7_wantName_36 : decode cX7_wantName 36 = .ok (.iload_n 1, 1) := by decide +kernel
theorem dX7_wantName_37 : decode cX7_wantName 37 = .ok (.ireturn, 1) := by decide +kernel
theorem dX7_node_0 : decode cX7_node 0 = .ok (.aload_n 0, 1) := by decide +kernel
theorem dX7_node_1 : decode cX7_node 1 = .ok (.getfield 142, 3) := by decide +kernel
theorem dX7_node_4 : decode cX7_node 4 = .ok (.istore_n 3, 1) := by decide +kernel
theorem dX7_node_5 : decode cX7_node 5 = .ok (.aload_n 0, 1) := by decide +kernel
theorem dX7_node_6 : decode cX7_node 6 = .ok (.dup, 1) := by decide +kernel
theorem dX7_node_7 : decode cX7_node 7 = .ok (.getfield 142, 3) := by decide +kernel
theorem dX7_node_10 : decode cX7_node 10 = .ok (.iconst 1, 1) := by decide +kernel
theorem dX7_node_11 : decode cX7_node 11 = .ok (.iadd, 1) := by decide +kernel
theorem dX7_node_12 : decode cX7_node 12 = .ok (.putfield 142, 3) := by decide +kernel
theorem dX7_node_15 : decode cX7_node 15 = .ok (.aload_n 0, 1) := by decide +kernel
theorem dX7_node_16 : decode cX7_node 16 = .ok (.getfield 20, 3) := by decide +kernel
theorem dX7_node_19 : decode cX7_node 19 = .ok (.iload_n 3, 1) := by decide +kernel
theorem dX7_node_20 : decode cX7_node 20 = .ok (.iload_n 1, 1) := by decide +kernel
theorem dX7_node_21 : decode cX7_node 21 = .ok (.iastore, 1) := by decide +kernel
theorem dX7_node_22 : decode cX7_node 22 = .ok (.aload_n 0, 1) := by decide +kernel
theorem dX7_node_23 : decode cX7_node 23 = .ok (.getfield 24, 3) := by decide +kernel
theorem dX7_node_26 : decode cX7_node 26 = .ok (.iload_n 3, 1) := by decide +kernel
theorem dX7_node_27 : decode cX7_node 27 = .ok (.iload_n 2, 1) := by decide +kernel
theorem dX7_node_28 : decode cX7_node 28 = .ok (.iastore, 1) := by decide +kernel
theorem dX7_node_29 : decode cX7_node 29 = .ok (.aload_n 0, 1) := by decide +kernel
theorem dX7_node_30 : decode cX7_node 30 = .ok (.getfield 27, 3) := by decide +kernel
theorem dX7_node_33 : decode cX7_node 33 = .ok (.iload_n 3, 1) := by decide +kernel
theorem dX7_node_34 : decode cX7_node 34 = .ok (.iconst (-1), 1) := by decide +kernel
theorem dX7_node_35 : decode cX7_node 35 = .ok (.iastore, 1) := by decide +kernel
theorem dX7_node_36 : decode cX7_node 36 = .ok (.aload_n 0, 1) := by decide +kernel
theorem dX7_node_37 : decode cX7_node 37 = .ok (.getfield 30, 3) := by decide +kernel
theorem dX7_node_40 : decode cX7_node 40 = .ok (.iload_n 3, 1) := by decide +kernel
theorem dX7_node_41 : decode cX7_node 41 = .ok (.iconst (-1), 1) := by decide +kernel
theorem dX7_node_42 : decode cX7_node 42 = .ok (.iastore, 1) := by decide +kernel
theorem dX7_node_43 : decode cX7_node 43 = .ok (.aload_n 0, 1) := by decide +kernel
theorem dX7_node_44 : decode cX7_node 44 = .ok (.getfield 33, 3) := by decide +kernel
theorem dX7_node_47 : decode cX7_node 47 = .ok (.iload_n 3, 1) := by decide +kernel
theorem dX7_node_48 : decode cX7_node 48 = .ok (.iconst 0, 1) := by decide +kernel
theorem dX7_node_49 : decode cX7_node 49 = .ok (.iastore, 1) := by decide +kernel
theorem dX7_node_50 : decode cX7_node 50 = .ok (.aload_n 0, 1) := by decide +kernel
theorem dX7_node_51 : decode cX7_node 51 = .ok (.getfield 36, 3) := by decide +kernel
theorem dX7_node_54 : decode cX7_node 54 = .ok (.iload_n 3, 1) := by decide +kernel
theorem dX7_node_55 : decode cX7_node 55 = .ok (.iconst 0, 1) := by decide +kernel
theorem dX7_node_56 : decode cX7_node 56 = .ok (.bastore, 1) := by decide +kernel
theorem dX7_node_57 : decode cX7_node 57 = .ok (.iload_n 3, 1) := by decide +kernel
theorem dX7_node_58 : decode cX7_node 58 = .ok (.ireturn, 1) := by decide +kernel
theorem dX7_addChild_0 : decode cX7_addChild 0 = .ok (.aload_n 0, 1) := by decide +kernel
theorem dX7_addChild_1 : decode cX7_addChild 1 = .ok (.getfield 33, 3) := by decide +kernel
theorem dX7_addChild_4 : decode cX7_addChild 4 = .ok (.iload_n 1, 1) := by decide +kernel
theorem dX7_addChild_5 : decode cX7_addChild 5 = .ok (.iaload, 1) := by decide +kernel
theorem dX7_addChild_6 : decode cX7_addChild 6 = .ok (.ifCond .ne 13, 3) := by decide +kernel
theorem dX7_addChild_9 : decode cX7_addChild 9 = .ok (.aload_n 0, 1) := by decide +kernel
theorem dX7_addChild_10 : decode cX7_addChild 10 = .ok (.getfield 27, 3) := by decide +kernel
theorem dX7_addChild_13 : decode cX7_addChild 13 = .ok (.iload_n 1, 1) := by decide +kernel
theorem dX7_addChild_14 : decode cX7_addChild 14 = .ok (.iload_n 2, 1) := by decide +kernel
theorem dX7_addChild_15 : decode cX7_addChild 15 = .ok (.iastore, 1) := by decide +kernel
theorem dX7_addChild_16 : decode cX7_addChild 16 = .ok (.goto 36, 3) := by decide +kernel
theorem dX7_addChild_19 : decode cX7_addChild 19 = .ok (.aload_n 0, 1) := by decide +kernel
theorem dX7_addChild_20 : decode cX7_addChild 20 = .ok (.getfield 27, 3) := by decide +kernel
theorem dX7_addChild_23 : decode cX7_addChild 23 = .ok (.iload_n 1, 1) := by decide +kernel
theorem dX7_addChild_24 : decode cX7_addChild 24 = .ok (.iaload, 1) := by decide +kernel
theorem dX7_addChild_25 : decode cX7_addChild 25 = .ok (.istore_n 3, 1) := by decide +kernel
theorem dX7_addChild_26 : decode cX7_addChild 26 = .ok (.aload_n 0, 1) := by decide +kernel
theorem dX7_addChild_27 : decode cX7_addChild 27 = .ok (.getfield 30, 3) := by decide +kernel
theorem dX7_addChild_30 : decode cX7_addChild 30 = .ok (.iload_n 3, 1) := by decide +kernel
theorem dX7_addChild_31 : decode cX7_addChild 31 = .ok (.iaload, 1) := by decide +kernel
theorem dX7_addChild_32 : decode cX7_addChild 32 = .ok (.ifCond .lt 13, 3) := by decide +kernel
theorem dX7_addChild_35 : decode cX7_addChild 35 = .ok (.aload_n 0, 1) := by decide +kernel
theorem dX7_addChild_36 : decode cX7_addChild 36 = .ok (.getfield 30, 3) := by decide +kernel
theorem dX7_addChild_39 : decode cX7_addChild 39 = .ok (.iload_n 3, 1) := by decide +kernel
theorem dX7_addChild_40 : decode cX7_addChild 40 = .ok (.iaload, 1) := by decide +kernel
theorem dX7_addChild_41 : decode cX7_addChild 41 = .ok (.istore_n 3, 1) := by decide +kernel
theorem dX7_addChild_42 : decode cX7_addChild 42 = .ok (.goto (-16), 3) := by decide +kernel
theorem dX7_addChild_45 : decode cX7_addChild 45 = .ok (.aload_n 0, 1) := by decide +kernel
theorem dX7_addChild_46 : decode cX7_addChild 46 = .ok (.getfield 30, 3) := by decide +kernel
theorem dX7_addChild_49 : decode cX7_addChild 49 = .ok (.iload_n 3, 1) := by decide +kernel
theorem dX7_addChild_50 : decode cX7_addChild 50 = .ok (.iload_n 2, 1) := by decide +kernel
theorem dX7_addChild_51 : decode cX7_addChild 51 = .ok (.iastore, 1) := by decide +kernel
theorem dX7_addChild_52 : decode cX7_addChild 52 = .ok (.aload_n 0, 1) := by decide +kernel
theorem dX7_addChild_53 : decode cX7_addChild 53 = .ok (.getfield 33, 3) := by decide +kernel
theorem dX7_addChild_56 : decode cX7_addChild 56 = .ok (.iload_n 1, 1) := by decide +kernel
theorem dX7_addChild_57 : decode cX7_addChild 57 = .ok (.dup2, 1) := by decide +kernel
theorem dX7_addChild_58 : decode cX7_addChild 58 = .ok (.iaload, 1) := by decide +kernel
theorem dX7_addChild_59 : decode cX7_addChild 59 = .ok (.iconst 1, 1) := by decide +kernel
theorem dX7_addChild_60 : decode cX7_addChild 60 = .ok (.iadd, 1) := by decide +kernel
theorem dX7_addChild_61 : decode cX7_addChild 61 = .ok (.iastore, 1) := by decide +kernel
theorem dX7_addChild_62 : decode cX7_addChild 62 = .ok (.return_, 1) := by decide +kernel
theorem dX7_childAt_0 : decode cX7_childAt 0 = .ok (.aload_n 0, 1) := by decide +kernel
theorem dX7_childAt_1 : decode cX7_childAt 1 = .ok (.getfield 27, 3) := by decide +kernel
theorem dX7_childAt_4 : decode cX7_childAt 4 = .ok (.iload_n 1, 1) := by decide +kernel
theorem dX7_childAt_5 : decode cX7_childAt 5 = .ok (.iaload, 1) := by decide +kernel
theorem dX7_childAt_6 : decode cX7_childAt 6 = .ok (.istore_n 3, 1) := by decide +kernel
theorem dX7_childAt_7 : decode cX7_childAt 7 = .ok (.iconst 0, 1) := by decide +kernel
theorem dX7_childAt_8 : decode cX7_childAt 8 = .ok (.istore 4, 2) := by decide +kernel
theorem dX7_childAt_10 : decode cX7_childAt 10 = .ok (.iload 4, 2) := by decide +kernel
theorem dX7_childAt_12 : decode cX7_childAt 12 = .ok (.iload_n 2, 1) := by decide +kernel
theorem dX7_childAt_13 : decode cX7_childAt 13 = .ok (.if_icmp .ge 16, 3) := by decide +kernel
theorem dX7_childAt_16 : decode cX7_childAt 16 = .ok (.aload_n 0, 1) := by decide +kernel
theorem dX7_childAt_17 : decode cX7_childAt 17 = .ok (.getfield 30, 3) := by decide +kernel
theorem dX7_childAt_20 : decode cX7_childAt 20 = .ok (.iload_n 3, 1) := by decide +kernel
theorem dX7_childAt_21 : decode cX7_childAt 21 = .ok (.iaload, 1) := by decide +kernel
theorem dX7_childAt_22 : decode cX7_childAt 22 = .ok (.istore_n 3, 1) := by decide +kernel
theorem dX7_childAt_23 : decode cX7_childAt 23 = .ok (.iinc 4 1, 3) := by decide +kernel
theorem dX7_childAt_26 : decode cX7_childAt 26 = .ok (.goto (-16), 3) := by decide +kernel
theorem dX7_childAt_29 : decode cX7_childAt 29 = .ok (.iload_n 3, 1) := by decide +kernel
theorem dX7_childAt_30 : decode cX7_childAt 30 = .ok (.ireturn, 1) := by decide +kernel
theorem dX7_bind_0 : decode cX7_bind 0 = .ok (.aload_n 0, 1) := by decide +kernel
theorem dX7_bind_1 : decode cX7_bind 1 = .ok (.getfield 40, 3) := by decide +kernel
theorem dX7_bind_4 : decode cX7_bind 4 = .ok (.aload_n 0, 1) := by decide +kernel
theorem dX7_bind_5 : decode cX7_bind 5 = .ok (.getfield 145, 3) := by decide +kernel
theorem dX7_bind_8 : decode cX7_bind 8 = .ok (.iload_n 1, 1) := by decide +kernel
theorem dX7_bind_9 : decode cX7_bind 9 = .ok (.castore, 1) := by decide +kernel
theorem dX7_bind_10 : decode cX7_bind 10 = .ok (.aload_n 0, 1) := by decide +kernel
theorem dX7_bind_11 : decode cX7_bind 11 = .ok (.dup, 1) := by decide +kernel
theorem dX7_bind_12 : decode cX7_bind 12 = .ok (.getfield 145, 3) := by decide +kernel
theorem dX7_bind_15 : decode cX7_bind 15 = .ok (.iconst 1, 1) := by decide +kernel
theorem dX7_bind_16 : decode cX7_bind 16 = .ok (.iadd, 1) := by decide +kernel
theorem dX7_bind_17 : decode cX7_bind 17 = .ok (.putfield 145, 3) := by decide +kernel
theorem dX7_bind_20 : decode cX7_bind 20 = .ok (.return_, 1) := by decide +kernel
theorem dX7_begin_0 : decode cX7_begin 0 = .ok (.aload_n 0, 1) := by decide +kernel
theorem dX7_begin_1 : decode cX7_begin 1 = .ok (.getfield 148, 3) := by decide +kernel
theorem dX7_begin_4 : decode cX7_begin 4 = .ok (.bipush 6, 2) := by decide +kernel
theorem dX7_begin_6 : decode cX7_begin 6 = .ok (.if_icmp .ne 8, 3) := by decide +kernel
theorem dX7_begin_9 : decode cX7_begin 9 = .ok (.aload_n 0, 1) := by decide +kernel
theorem dX7_begin_10 : decode cX7_begin 10 = .ok (.iconst 1, 1) := by decide +kernel
theorem dX7_begin_11 : decode cX7_begin 11 = .ok (.putfield 138, 3) := by decide +kernel
theorem dX7_begin_14 : decode cX7_begin 14 = .ok (.aload_n 0, 1) := by decide +kernel
theorem dX7_begin_15 : decode cX7_begin 15 = .ok (.getfield 138, 3) := by decide +kernel
theorem dX7_begin_18 : decode cX7_begin 18 = .ok (.ifCond .eq 4, 3) := by decide +kernel
theorem dX7_begin_21 : decode cX7_begin 21 = .ok (.return_, 1) := by decide +kernel
theorem dX7_begin_22 : decode cX7_begin 22 = .ok (.aload_n 0, 1) := by decide +kernel
theorem dX7_begin_23 : decode cX7_begin 23 = .ok (.getfield 43, 3) := by decide +kernel
theorem dX7_begin_26 : decode cX7_begin 26 = .ok (.aload_n 0, 1) := by decide +kernel
theorem dX7_begin_27 : decode cX7_begin 27 = .ok (.getfield 148, 3) := by decide +kernel
theorem dX7_begin_30 : decode cX7_begin 30 = .ok (.iload_n 1, 1) := by decide +kernel
theorem dX7_begin_31 : decode cX7_begin 31 = .ok (.iastore, 1) := by decide +kernel
theorem dX7_begin_32 : decode cX7_begin 32 = .ok (.aload_n 0, 1) := by decide +kernel
theorem dX7_begin_33 : decode cX7_begin 33 = .ok (.getfield 55, 3) := by decide +kernel
theorem dX7_begin_36 : decode cX7_begin 36 = .ok (.aload_n 0, 1) := by decide +kernel
theorem dX7_begin_37 : decode cX7_begin 37 = .ok (.getfield 148, 3) := by decide +kernel
theorem dX7_begin_40 : decode cX7_begin 40 = .ok (.iload_n 2, 1) := by decide +kernel
theorem dX7_begin_41 : decode cX7_begin 41 = .ok (.iastore, 1) := by decide +kernel
theorem dX7_begin_42 : decode cX7_begin 42 = .ok (.aload_n 0, 1) := by decide +kernel
theorem dX7_begin_43 : decode cX7_begin 43 = .ok (.getfield 46, 3) := by decide +kernel
theorem dX7_begin_46 : decode cX7_begin 46 = .ok (.aload_n 0, 1) := by decide +kernel
theorem dX7_begin_47 : decode cX7_begin 47 = .ok (.getfield 148, 3) := by decide +kernel
theorem dX7_begin_50 : decode cX7_begin 50 = .ok (.aload_n 0, 1) := by decide +kernel
theorem dX7_begin_51 : decode cX7_begin 51 = .ok (.getfield 151, 3) := by decide +kernel
theorem dX7_begin_54 : decode cX7_begin 54 = .ok (.iastore, 1) := by decide +kernel
theorem dX7_begin_55 : decode cX7_begin 55 = .ok (.aload_n 0, 1) := by decide +kernel
theorem dX7_begin_56 : decode cX7_begin 56 = .ok (.getfield 49, 3) := by decide +kernel
theorem dX7_begin_59 : decode cX7_begin 59 = .ok (.aload_n 0, 1) := by decide +kernel
theorem dX7_begin_60 : decode cX7_begin 60 = .ok (.getfield 148, 3) := by decide +kernel
theorem dX7_begin_63 : decode cX7_begin 63 = .ok (.aload_n 0, 1) := by decide +kernel
theorem dX7_begin_64 : decode cX7_begin 64 = .ok (.getfield 145, 3) := by decide +kernel
theorem dX7_begin_67 : decode cX7_begin 67 = .ok (.iastore, 1) := by decide +kernel
theorem dX7_begin_68 : decode cX7_begin 68 = .ok (.aload_n 0, 1) := by decide +kernel
theorem dX7_begin_69 : decode cX7_begin 69 = .ok (.getfield 52, 3) := by decide +kernel
theorem dX7_begin_72 : decode cX7_begin 72 = .ok (.aload_n 0, 1) := by decide +kernel
theorem dX7_begin_73 : decode cX7_begin 73 = .ok (.getfield 148, 3) := by decide +kernel
theorem dX7_begin_76 : decode cX7_begin 76 = .ok (.aload_n 0, 1) := by decide +kernel
theorem dX7_begin_77 : decode cX7_begin 77 = .ok (.getfield 154, 3) := by decide +kernel
theorem dX7_begin_80 : decode cX7_begin 80 = .ok (.iastore, 1) := by decide +kernel
theorem dX7_begin_81 : decode cX7_begin 81 = .ok (.aload_n 0, 1) := by decide +kernel
theorem dX7_begin_82 : decode cX7_begin 82 = .ok (.getfield 61, 3) := by decide +kernel
theorem dX7_begin_85 : decode cX7_begin 85 = .ok (.aload_n 0, 1) := by decide +kernel
theorem dX7_begin_86 : decode cX7_begin 86 = .ok (.getfield 148, 3) := by decide +kernel
theorem dX7_begin_89 : decode cX7_begin 89 = .ok (.iconst 0, 1) := by decide +kernel
theorem dX7_begin_90 : decode cX7_begin 90 = .ok (.bastore, 1) := by decide +kernel
theorem dX7_begin_91 : decode cX7_begin 91 = .ok (.aload_n 0, 1) := by decide +kernel
theorem dX7_begin_92 : decode cX7_begin 92 = .ok (.getfield 64, 3) := by decide +kernel
theorem dX7_begin_95 : decode cX7_begin 95 = .ok (.aload_n 0, 1) := by decide +kernel
theorem dX7_begin_96 : decode cX7_begin 96 = .ok (.getfield 148, 3) := by decide +kernel
theorem dX7_begin_99 : decode cX7_begin 99 = .ok (.iconst (-1), 1) := by decide +kernel
theorem dX7_begin_100 : decode cX7_begin 100 = .ok (.iastore, 1) := by decide +kernel
theorem dX7_begin_101 : decode cX7_begin 101 = .ok (.aload_n 0, 1) := by decide +kernel
theorem dX7_begin_102 : decode cX7_begin 102 = .ok (.dup, 1) := by decide +kernel
theorem dX7_begin_103 : decode cX7_begin 103 = .ok (.getfield 148, 3) := by decide +kernel
theorem dX7_begin_106 : decode cX7_begin 106 = .ok (.iconst 1, 1) := by decide +kernel
theorem dX7_begin_107 : decode cX7_begin 107 = .ok (.iadd, 1) := by decide +kernel
theorem dX7_begin_108 : decode cX7_begin 108 = .ok (.putfield 148, 3) := by decide +kernel
theorem dX7_begin_111 : decode cX7_begin 111 = .ok (.aload_n 0, 1) := by decide +kernel
theorem dX7_begin_112 : decode cX7_begin 112 = .ok (.iconst 0, 1) := by decide +kernel
theorem dX7_begin_113 : decode cX7_begin 113 = .ok (.putfield 157, 3) := by decide +kernel
theorem dX7_begin_116 : decode cX7_begin 116 = .ok (.return_, 1) := by decide +kernel
theorem dX7_head_0 : decode cX7_head 0 = .ok (.aload_n 0, 1) := by decide +kernel
theorem dX7_head_1 : decode cX7_head 1 = .ok (.getfield 67, 3) := by decide +kernel
theorem dX7_head_4 : decode cX7_head 4 = .ok (.aload_n 0, 1) := by decide +kernel
theorem dX7_head_5 : decode cX7_head 5 = .ok (.getfield 151, 3) := by decide +kernel
theorem dX7_head_8 : decode cX7_head 8 = .ok (.iload_n 1, 1) := by decide +kernel
theorem dX7_head_9 : decode cX7_head 9 = .ok (.iastore, 1) := by decide +kernel
theorem dX7_head_10 : decode cX7_head 10 = .ok (.aload_n 0, 1) := by decide +kernel
theorem dX7_head_11 : decode cX7_head 11 = .ok (.getfield 70, 3) := by decide +kernel
theorem dX7_head_14 : decode cX7_head 14 = .ok (.aload_n 0, 1) := by decide +kernel
theorem dX7_head_15 : decode cX7_head 15 = .ok (.getfield 151, 3) := by decide +kernel
theorem dX7_head_18 : decode cX7_head 18 = .ok (.iload_n 2, 1) := by decide +kernel
theorem dX7_head_19 : decode cX7_head 19 = .ok (.iastore, 1) := by decide +kernel
theorem dX7_head_20 : decode cX7_head 20 = .ok (.aload_n 0, 1) := by decide +kernel
theorem dX7_head_21 : decode cX7_head 21 = .ok (.dup, 1) := by decide +kernel
theorem dX7_head_22 : decode cX7_head 22 = .ok (.getfield 151, 3) := by decide +kernel
theorem dX7_head_25 : decode cX7_head 25 = .ok (.iconst 1, 1) := by decide +kernel
theorem dX7_head_26 : decode cX7_head 26 = .ok (.iadd, 1) := by decide +kernel
theorem dX7_head_27 : decode cX7_head 27 = .ok (.putfield 151, 3) := by decide +kernel
theorem dX7_head_30 : decode cX7_head 30 = .ok (.return_, 1) := by decide +kernel
theorem dX7_readHead_0 : decode cX7_readHead 0 = .ok (.aload_n 0, 1) := by decide +kernel
theorem dX7_readHead_1 : decode cX7_readHead 1 = .ok (.invokevirtual 134, 3) := by decide +kernel
theorem dX7_readHead_4 : decode cX7_readHead 4 = .ok (.istore_n 1, 1) := by decide +kernel
theorem dX7_readHead_5 : decode cX7_readHead 5 = .ok (.iload_n 1, 1) := by decide +kernel
theorem dX7_readHead_6 : decode cX7_readHead 6 = .ok (.bipush 92, 2) := by decide +kernel
theorem dX7_readHead_8 : decode cX7_readHead 8 = .ok (.if_icmp .ne 40, 3) := by decide +kernel
theorem dX7_readHead_11 : decode cX7_readHead 11 = .ok (.aload_n 0, 1) := by decide +kernel
theorem dX7_readHead_12 : decode cX7_readHead 12 = .ok (.dup, 1) := by decide +kernel
theorem dX7_readHead_13 : decode cX7_readHead 13 = .ok (.getfield 118, 3) := by decide +kernel
theorem dX7_readHead_16 : decode cX7_readHead 16 = .ok (.iconst 1, 1) := by decide +kernel
theorem dX7_readHead_17 : decode cX7_readHead 17 = .ok (.iadd, 1) := by decide +kernel
theorem dX7_readHead_18 : decode cX7_readHead 18 = .ok (.putfield 118, 3) := by decide +kernel
theorem dX7_readHead_21 : decode cX7_readHead 21 = .ok (.aload_n 0, 1) := by decide +kernel
theorem dX7_readHead_22 : decode cX7_readHead 22 = .ok (.invokevirtual 160, 3) := by decide +kernel
theorem dX7_readHead_25 : decode cX7_readHead 25 = .ok (.istore_n 2, 1) := by decide +kernel
theorem dX7_readHead_26 : decode cX7_readHead 26 = .ok (.aload_n 0, 1) := by decide +kernel
theorem dX7_readHead_27 : decode cX7_readHead 27 = .ok (.getfield 138, 3) := by decide +kernel
theorem dX7_readHead_30 : decode cX7_readHead 30 = .ok (.ifCond .eq 4, 3) := by decide +kernel
theorem dX7_readHead_33 : decode cX7_readHead 33 = .ok (.return_, 1) := by decide +kernel
theorem dX7_readHead_34 : decode cX7_readHead 34 = .ok (.aload_n 0, 1) := by decide +kernel
theorem dX7_readHead_35 : decode cX7_readHead 35 = .ok (.iload_n 2, 1) := by decide +kernel
theorem dX7_readHead_36 : decode cX7_readHead 36 = .ok (.invokevirtual 163, 3) := by decide +kernel
theorem dX7_readHead_39 : decode cX7_readHead 39 = .ok (.aload_n 0, 1) := by decide +kernel
theorem dX7_readHead_40 : decode cX7_readHead 40 = .ok (.iconst 5, 1) := by decide +kernel
theorem dX7_readHead_41 : decode cX7_readHead 41 = .ok (.iconst (-1), 1) := by decide +kernel
theorem dX7_readHead_42 : decode cX7_readHead 42 = .ok (.invokevirtual 167, 3) := by decide +kernel
theorem dX7_readHead_45 : decode cX7_readHead 45 = .ok (.goto 128, 3) := by decide +kernel
theorem dX7_readHead_48 : decode cX7_readHead 48 = .ok (.iload_n 1, 1) := by decide +kernel
theorem dX7_readHead_49 : decode cX7_readHead 49 = .ok (.invokestatic 124, 3) := by decide +kernel
theorem dX7_readHead_52 : decode cX7_readHead 52 = .ok (.ifCond .eq 51, 3) := by decide +kernel
theorem dX7_readHead_55 : decode cX7_readHead 55 = .ok (.aload_n 0, 1) := by decide +kernel
theorem dX7_readHead_56 : decode cX7_readHead 56 = .ok (.invokevirtual 171, 3) := by decide +kernel
theorem dX7_readHead_59 : decode cX7_readHead 59 = .ok (.bipush 61, 2) := by decide +kernel
theorem dX7_readHead_61 : decode cX7_readHead 61 = .ok (.if_icmp .ne 42, 3) := by decide +kernel
theorem dX7_readHead_64 : decode cX7_readHead 64 = .ok (.aload_n 0, 1) := by decide +kernel
theorem dX7_readHead_65 : decode cX7_readHead 65 = .ok (.dup, 1) := by decide +kernel
theorem dX7_readHead_66 : decode cX7_readHead 66 = .ok (.getfield 118, 3) := by decide +kernel
theorem dX7_readHead_69 : decode cX7_readHead 69 = .ok (.iconst 2, 1) := by decide +kernel
theorem dX7_readHead_70 : decode cX7_readHead 70 = .ok (.iadd, 1) := by decide +kernel
theorem dX7_readHead_71 : decode cX7_readHead 71 = .ok (.putfield 118, 3) := by decide +kernel
theorem dX7_readHead_74 : decode cX7_readHead 74 = .ok (.aload_n 0, 1) := by decide +kernel
theorem dX7_readHead_75 : decode cX7_readHead 75 = .ok (.bipush 6, 2) := by decide +kernel
theorem dX7_readHead_77 : decode cX7_readHead 77 = .ok (.iconst (-1), 1) := by decide +kernel
theorem dX7_readHead_78 : decode cX7_readHead 78 = .ok (.invokevirtual 174, 3) := by decide +kernel
theorem dX7_readHead_81 : decode cX7_readHead 81 = .ok (.aload_n 0, 1) := by decide +kernel
theorem dX7_readHead_82 : decode cX7_readHead 82 = .ok (.getfield 138, 3) := by decide +kernel
theorem dX7_readHead_85 : decode cX7_readHead 85 = .ok (.ifCond .ne 88, 3) := by decide +kernel
theorem dX7_readHead_88 : decode cX7_readHead 88 = .ok (.aload_n 0, 1) := by decide +kernel
theorem dX7_readHead_89 : decode cX7_readHead 89 = .ok (.getfield 58, 3) := by decide +kernel
theorem dX7_readHead_92 : decode cX7_readHead 92 = .ok (.aload_n 0, 1) := by decide +kernel
theorem dX7_readHead_93 : decode cX7_readHead 93 = .ok (.getfield 148, 3) := by decide +kernel
theorem dX7_readHead_96 : decode cX7_readHead 96 = .ok (.iconst 1, 1) := by decide +kernel
theorem dX7_readHead_97 : decode cX7_readHead 97 = .ok (.isub, 1) := by decide +kernel
theorem dX7_readHead_98 : decode cX7_readHead 98 = .ok (.iload_n 1, 1) := by decide +kernel
theorem dX7_readHead_99 : decode cX7_readHead 99 = .ok (.castore, 1) := by decide +kernel
theorem dX7_readHead_100 : decode cX7_readHead 100 = .ok (.goto 73, 3) := by decide +kernel
theorem dX7_readHead_103 : decode cX7_readHead 103 = .ok (.iload_n 1, 1) := by decide +kernel
theorem dX7_readHead_104 : decode cX7_readHead 104 = .ok (.bipush 64, 2) := by decide +kernel
theorem dX7_readHead_106 : decode cX7_readHead 106 = .ok (.if_icmp .ne 20, 3) := by decide +kernel
theorem dX7_readHead_109 : decode cX7_readHead 109 = .ok (.aload_n 0, 1) := by decide +kernel
theorem dX7_readHead_110 : decode cX7_readHead 110 = .ok (.dup, 1) := by decide +kernel
theorem dX7_readHead_111 : decode cX7_readHead 111 = .ok (.getfield 118, 3) := by decide +kernel
theorem dX7_readHead_114 : decode cX7_readHead 114 = .ok (.iconst 1, 1) := by decide +kernel
theorem dX7_readHead_115 : decode cX7_readHead 115 = .ok (.iadd, 1) := by decide +kernel
theorem dX7_readHead_116 : decode cX7_readHead 116 = .ok (.putfield 118, 3) := by decide +kernel
theorem dX7_readHead_119 : decode cX7_readHead 119 = .ok (.aload_n 0, 1) := by decide +kernel
theorem dX7_readHead_120 : decode cX7_readHead 120 = .ok (.invokevirtual 177, 3) := by decide +kernel
theorem dX7_readHead_123 : decode cX7_readHead 123 = .ok (.goto 50, 3) := by decide +kernel
theorem dX7_readHead_126 : decode cX7_readHead 126 = .ok (.iload_n 1, 1) := by decide +kernel
theorem dX7_readHead_127 : decode cX7_readHead 127 = .ok (.bipush 63, 2) := by decide +kernel
theorem dX7_readHead_129 : decode cX7_readHead 129 = .ok (.if_icmp .ne 39, 3) := by decide +kernel
theorem dX7_readHead_132 : decode cX7_readHead 132 = .ok (.aload_n 0, 1) := by decide +kernel
theorem dX7_readHead_133 : decode cX7_readHead 133 = .ok (.dup, 1) := by decide +kernel
theorem dX7_readHead_134 : decode cX7_readHead 134 = .ok (.getfield 118, 3) := by decide +kernel
theorem dX7_readHead_137 : decode cX7_readHead 137 = .ok (.iconst 1, 1) := by decide +kernel
theorem dX7_readHead_138 : decode cX7_readHead 138 = .ok (.iadd, 1) := by decide +kernel
theorem dX7_readHead_139 : decode cX7_readHead 139 = .ok (.putfield 118, 3) := by decide +kernel
theorem dX7_readHead_142 : decode cX7_readHead 142 = .ok (.aload_n 0, 1) := by decide +kernel
theorem dX7_readHead_143 : decode cX7_readHead 143 = .ok (.getfield 64, 3) := by decide +kernel
theorem dX7_readHead_146 : decode cX7_readHead 146 = .ok (.aload_n 0, 1) := by decide +kernel
theorem dX7_readHead_147 : decode cX7_readHead 147 = .ok (.getfield 148, 3) := by decide +kernel
theorem dX7_readHead_150 : decode cX7_readHead 150 = .ok (.iconst 1, 1) := by decide +kernel
theorem dX7_readHead_151 : decode cX7_readHead 151 = .ok (.isub, 1) := by decide +kernel
theorem dX7_readHead_152 : decode cX7_readHead 152 = .ok (.aload_n 0, 1) := by decide +kernel
theorem dX7_readHead_153 : decode cX7_readHead 153 = .ok (.bipush 8, 2) := by decide +kernel
theorem dX7_readHead_155 : decode cX7_readHead 155 = .ok (.iconst 0, 1) := by decide +kernel
theorem dX7_readHead_156 : decode cX7_readHead 156 = .ok (.invokevirtual 180, 3) := by decide +kernel
theorem dX7_readHead_159 : decode cX7_readHead 159 = .ok (.iastore, 1) := by decide +kernel
theorem dX7_readHead_160 : decode cX7_readHead 160 = .ok (.aload_n 0, 1) := by decide +kernel
theorem dX7_readHead_161 : decode cX7_readHead 161 = .ok (.iconst 1, 1) := by decide +kernel
theorem dX7_readHead_162 : decode cX7_readHead 162 = .ok (.putfield 157, 3) := by decide +kernel
theorem dX7_readHead_165 : decode cX7_readHead 165 = .ok (.goto 8, 3) := by decide +kernel
theorem dX7_readHead_168 : decode cX7_readHead 168 = .ok (.aload_n 0, 1) := by decide +kernel
theorem dX7_readHead_169 : decode cX7_readHead 169 = .ok (.iconst 1, 1) := by decide +kernel
theorem dX7_readHead_170 : decode cX7_readHead 170 = .ok (.putfield 157, 3) := by decide +kernel
theorem dX7_readHead_173 : decode cX7_readHead 173 = .ok (.return_, 1) := by decide +kernel
theorem dX7_readFix_0 : decode cX7_readFix 0 = .ok (.aload_n 0, 1) := by decide +kernel
theorem dX7_readFix_1 : decode cX7_readFix 1 = .ok (.invokevirtual 160, 3) := by decide +kernel
theorem dX7_readFix_4 : decode cX7_readFix 4 = .ok (.istore_n 1, 1) := by decide +kernel
theorem dX7_readFix_5 : decode cX7_readFix 5 = .ok (.aload_n 0, 1) := by decide +kernel
theorem dX7_readFix_6 : decode cX7_readFix 6 = .ok (.getfield 138, 3) := by decide +kernel
theorem dX7_readFix_9 : decode cX7_readFix 9 = .ok (.ifCond .ne 16, 3) := by decide +kernel
theorem dX7_readFix_12 : decode cX7_readFix 12 = .ok (.aload_n 0, 1) := by decide +kernel
theorem dX7_readFix_13 : decode cX7_readFix 13 = .ok (.invokevirtual 134, 3) := by decide +kernel
theorem dX7_readFix_16 : decode cX7_readFix 16 = .ok (.iload_n 1, 1) := by decide +kernel
theorem dX7_readFix_17 : decode cX7_readFix 17 = .ok (.if_icmp .ne 8, 3) := by decide +kernel
theorem dX7_readFix_20 : decode cX7_readFix 20 = .ok (.aload_n 0, 1) := by decide +kernel
theorem dX7_readFix_21 : decode cX7_readFix 21 = .ok (.iconst 1, 1) := by decide +kernel
theorem dX7_readFix_22 : decode cX7_readFix 22 = .ok (.putfield 138, 3) := by decide +kernel
theorem dX7_readFix_25 : decode cX7_readFix 25 = .ok (.aload_n 0, 1) := by decide +kernel
theorem dX7_readFix_26 : decode cX7_readFix 26 = .ok (.invokevirtual 160, 3) := by decide +kernel
theorem dX7_readFix_29 : decode cX7_readFix 29 = .ok (.istore_n 2, 1) := by decide +kernel
theorem dX7_readFix_30 : decode cX7_readFix 30 = .ok (.aload_n 0, 1) := by decide +kernel
theorem dX7_readFix_31 : decode cX7_readFix 31 = .ok (.getfield 138, 3) := by decide +kernel
theorem dX7_readFix_34 : decode cX7_readFix 34 = .ok (.ifCond .ne 9, 3) := by decide +kernel
theorem dX7_readFix_37 : decode cX7_readFix 37 = .ok (.aload_n 0, 1) := by decide +kernel
theorem dX7_readFix_38 : decode cX7_readFix 38 = .ok (.bipush 61, 2) := by decide +kernel
theorem dX7_readFix_40 : decode cX7_readFix 40 = .ok (.invokevirtual 184, 3) := by decide +kernel
theorem dX7_readFix_43 : decode cX7_readFix 43 = .ok (.aload_n 0, 1) := by decide +kernel
theorem dX7_readFix_44 : decode cX7_readFix 44 = .ok (.getfield 138, 3) := by decide +kernel
theorem dX7_readFix_47 : decode cX7_readFix 47 = .ok (.ifCond .eq 4, 3) := by decide +kernel
theorem dX7_readFix_50 : decode cX7_readFix 50 = .ok (.return_, 1) := by decide +kernel
theorem dX7_readFix_51 : decode cX7_readFix 51 = .ok (.aload_n 0, 1) := by decide +kernel
theorem dX7_readFix_52 : decode cX7_readFix 52 = .ok (.getfield 145, 3) := by decide +kernel
theorem dX7_readFix_55 : decode cX7_readFix 55 = .ok (.istore_n 3, 1) := by decide +kernel
theorem dX7_readFix_56 : decode cX7_readFix 56 = .ok (.aload_n 0, 1) := by decide +kernel
theorem dX7_readFix_57 : decode cX7_readFix 57 = .ok (.iload_n 1, 1) := by decide +kernel
theorem dX7_readFix_58 : decode cX7_readFix 58 = .ok (.invokevirtual 163, 3) := by decide +kernel
theorem dX7_readFix_61 : decode cX7_readFix 61 = .ok (.aload_n 0, 1) := by decide +kernel
theorem dX7_readFix_62 : decode cX7_readFix 62 = .ok (.iload_n 2, 1) := by decide +kernel
theorem dX7_readFix_63 : decode cX7_readFix 63 = .ok (.invokevirtual 163, 3) := by decide +kernel
theorem dX7_readFix_66 : decode cX7_readFix 66 = .ok (.aload_n 0, 1) := by decide +kernel
theorem dX7_readFix_67 : decode cX7_readFix 67 = .ok (.bipush 7, 2) := by decide +kernel
theorem dX7_readFix_69 : decode cX7_readFix 69 = .ok (.iconst (-1), 1) := by decide +kernel
theorem dX7_readFix_70 : decode cX7_readFix 70 = .ok (.invokevirtual 174, 3) := by decide +kernel
theorem dX7_readFix_73 : decode cX7_readFix 73 = .ok (.aload_n 0, 1) := by decide +kernel
theorem dX7_readFix_74 : decode cX7_readFix 74 = .ok (.getfield 138, 3) := by decide +kernel
theorem dX7_readFix_77 : decode cX7_readFix 77 = .ok (.ifCond .eq 4, 3) := by decide +kernel
theorem dX7_readFix_80 : decode cX7_readFix 80 = .ok (.return_, 1) := by decide +kernel
theorem dX7_readFix_81 : decode cX7_readFix 81 = .ok (.aload_n 0, 1) := by decide +kernel
theorem dX7_readFix_82 : decode cX7_readFix 82 = .ok (.getfield 49, 3) := by decide +kernel
theorem dX7_readFix_85 : decode cX7_readFix 85 = .ok (.aload_n 0, 1) := by decide +kernel
theorem dX7_readFix_86 : decode cX7_readFix 86 = .ok (.getfield 148, 3) := by decide +kernel
theorem dX7_readFix_89 : decode cX7_readFix 89 = .ok (.iconst 1, 1) := by decide +kernel
theorem dX7_readFix_90 : decode cX7_readFix 90 = .ok (.isub, 1) := by decide +kernel
theorem dX7_readFix_91 : decode cX7_readFix 91 = .ok (.iload_n 3, 1) := by decide +kernel
theorem dX7_readFix_92 : decode cX7_readFix 92 = .ok (.iastore, 1) := by decide +kernel
theorem dX7_readFix_93 : decode cX7_readFix 93 = .ok (.aload_n 0, 1) := by decide +kernel
theorem dX7_readFix_94 : decode cX7_readFix 94 = .ok (.getfield 58, 3) := by decide +kernel
theorem dX7_readFix_97 : decode cX7_readFix 97 = .ok (.aload_n 0, 1) := by decide +kernel
theorem dX7_readFix_98 : decode cX7_readFix 98 = .ok (.getfield 148, 3) := by decide +kernel
theorem dX7_readFix_101 : decode cX7_readFix 101 = .ok (.iconst 1, 1) := by decide +kernel
theorem dX7_readFix_102 : decode cX7_readFix 102 = .ok (.isub, 1) := by decide +kernel
theorem dX7_readFix_103 : decode cX7_readFix 103 = .ok (.iload_n 1, 1) := by decide +kernel
theorem dX7_readFix_104 : decode cX7_readFix 104 = .ok (.castore, 1) := by decide +kernel
theorem dX7_readFix_105 : decode cX7_readFix 105 = .ok (.return_, 1) := by decide +kernel
theorem dX7_rank_0 : decode cX7_rank 0 = .ok (.iload_n 0, 1) := by decide +kernel
theorem dX7_rank_1 : decode cX7_rank 1 = .ok (.bipush 32, 2) := by decide +kernel
theorem dX7_rank_3 : decode cX7_rank 3 = .ok (.if_icmp .ne 7, 3) := by decide +kernel
theorem dX7_rank_6 : decode cX7_rank 6 = .ok (.iconst 4, 1) := by decide +kernel
theorem dX7_rank_7 : decode cX7_rank 7 = .ok (.goto 30, 3) := by decide +kernel
theorem dX7_rank_10 : decode cX7_rank 10 = .ok (.iload_n 0, 1) := by decide +kernel
theorem dX7_rank_11 : decode cX7_rank 11 = .ok (.bipush 42, 2) := by decide +kernel
theorem dX7_rank_13 : decode cX7_rank 13 = .ok (.if_icmp .ne 7, 3) := by decide +kernel
theorem dX7_rank_16 : decode cX7_rank 16 = .ok (.iconst 3, 1) := by decide +kernel
theorem dX7_rank_17 : decode cX7_rank 17 = .ok (.goto 20, 3) := by decide +kernel
theorem dX7_rank_20 : decode cX7_rank 20 = .ok (.iload_n 0, 1) := by decide +kernel
theorem dX7_rank_21 : decode cX7_rank 21 = .ok (.bipush 43, 2) := by decide +kernel
theorem dX7_rank_23 : decode cX7_rank 23 = .ok (.if_icmp .eq 9, 3) := by decide +kernel
theorem dX7_rank_26 : decode cX7_rank 26 = .ok (.iload_n 0, 1) := by decide +kernel
theorem dX7_rank_27 : decode cX7_rank 27 = .ok (.bipush 45, 2) := by decide +kernel
theorem dX7_rank_29 : decode cX7_rank 29 = .ok (.if_icmp .ne 7, 3) := by decide +kernel
theorem dX7_rank_32 : decode cX7_rank 32 = .ok (.iconst 2, 1) := by decide +kernel
theorem dX7_rank_33 : decode cX7_rank 33 = .ok (.goto 4, 3) := by decide +kernel
theorem dX7_rank_36 : decode cX7_rank 36 = .ok (.iconst 1, 1) := by decide +kernel
theorem dX7_rank_37 : decode cX7_rank 37 = .ok (.ireturn, 1) := by decide +kernel
theorem dX7_settle_0 : decode cX7_settle 0 = .ok (.aload_n 0, 1) := by decide +kernel
theorem dX7_settle_1 : decode cX7_settle 1 = .ok (.getfield 154, 3) := by decide +kernel
theorem dX7_settle_4 : decode cX7_settle 4 = .ok (.aload_n 0, 1) := by decide +kernel
theorem dX7_settle_5 : decode cX7_settle 5 = .ok (.getfield 52, 3) := by decide +kernel
theorem dX7_settle_8 : decode cX7_settle 8 = .ok (.aload_n 0, 1) := by decide +kernel
theorem dX7_settle_9 : decode cX7_settle 9 = .ok (.getfield 148, 3) := by decide +kernel
theorem dX7_settle_12 : decode cX7_settle 12 = .ok (.iconst 1, 1) := by decide +kernel
theorem dX7_settle_13 : decode cX7_settle 13 = .ok (.isub, 1) := by decide +kernel
theorem dX7_settle_14 : decode cX7_settle 14 = .ok (.iaload, 1) := by decide +kernel
theorem dX7_settle_15 : decode cX7_settle 15 = .ok (.if_icmp .le 251, 3) := by decide +kernel
theorem dX7_settle_18 : decode cX7_settle 18 = .ok (.aload_n 0, 1) := by decide +kernel
theorem dX7_settle_19 : decode cX7_settle 19 = .ok (.getfield 76, 3) := by decide +kernel
theorem dX7_settle_22 : decode cX7_settle 22 = .ok (.aload_n 0, 1) := by decide +kernel
theorem dX7_settle_23 : decode cX7_settle 23 = .ok (.getfield 154, 3) := by decide +kernel
theorem dX7_settle_26 : decode cX7_settle 26 = .ok (.iconst 1, 1) := by decide +kernel
theorem dX7_settle_27 : decode cX7_settle 27 = .ok (.isub, 1) := by decide +kernel
theorem dX7_settle_28 : decode cX7_settle 28 = .ok (.caload, 1) := by decide +kernel
theorem dX7_settle_29 : decode cX7_settle 29 = .ok (.invokestatic 187, 3) := by decide +kernel
theorem dX7_settle_32 : decode cX7_settle 32 = .ok (.iload_n 1, 1) := by decide +kernel
theorem dX7_settle_33 : decode cX7_settle 33 = .ok (.if_icmp .lt 233, 3) := by decide +kernel
theorem dX7_settle_36 : decode cX7_settle 36 = .ok (.aload_n 0, 1) := by decide +kernel
theorem dX7_settle_37 : decode cX7_settle 37 = .ok (.dup, 1) := by decide +kernel
theorem dX7_settle_38 : decode cX7_settle 38 = .ok (.getfield 154, 3) := by decide +kernel
theorem dX7_settle_41 : decode cX7_settle 41 = .ok (.iconst 1, 1) := by decide +kernel
theorem dX7_settle_42 : decode cX7_settle 42 = .ok (.isub, 1) := by decide +kernel
theorem dX7_settle_43 : decode cX7_settle 43 = .ok (.putfield 154, 3) := by decide +kernel
theorem dX7_settle_46 : decode cX7_settle 46 = .ok (.aload_n 0, 1) := by decide +kernel
theorem dX7_settle_47 : decode cX7_settle 47 = .ok (.dup, 1) := by decide +kernel
theorem dX7_settle_48 : decode cX7_settle 48 = .ok (.getfield 191, 3) := by decide +kernel
theorem dX7_settle_51 : decode cX7_settle 51 = .ok (.iconst 1, 1) := by decide +kernel
theorem dX7_settle_52 : decode cX7_settle 52 = .ok (.isub, 1) := by decide +kernel
theorem dX7_settle_53 : decode cX7_settle 53 = .ok (.putfield 191, 3) := by decide +kernel
theorem dX7_settle_56 : decode cX7_settle 56 = .ok (.aload_n 0, 1) := by decide +kernel
theorem dX7_settle_57 : decode cX7_settle 57 = .ok (.getfield 73, 3) := by decide +kernel
theorem dX7_settle_60 : decode cX7_settle 60 = .ok (.aload_n 0, 1) := by decide +kernel
theorem dX7_settle_61 : decode cX7_settle 61 = .ok (.getfield 191, 3) := by decide +kernel
theorem dX7_settle_64 : decode cX7_settle 64 = .ok (.iaload, 1) := by decide +kernel
theorem dX7_settle_65 : decode cX7_settle 65 = .ok (.istore_n 2, 1) := by decide +kernel
theorem dX7_settle_66 : decode cX7_settle 66 = .ok (.aload_n 0, 1) := by decide +kernel
theorem dX7_settle_67 : decode cX7_settle 67 = .ok (.getfield 73, 3) := by decide +kernel
theorem dX7_settle_70 : decode cX7_settle 70 = .ok (.aload_n 0, 1) := by decide +kernel
theorem dX7_settle_71 : decode cX7_settle 71 = .ok (.getfield 191, 3) := by decide +kernel
theorem dX7_settle_74 : decode cX7_settle 74 = .ok (.iconst 1, 1) := by decide +kernel
theorem dX7_settle_75 : decode cX7_settle 75 = .ok (.isub, 1) := by decide +kernel
theorem dX7_settle_76 : decode cX7_settle 76 = .ok (.iaload, 1) := by decide +kernel
theorem dX7_settle_77 : decode cX7_settle 77 = .ok (.istore_n 3, 1) := by decide +kernel
theorem dX7_settle_78 : decode cX7_settle 78 = .ok (.aload_n 0, 1) := by decide +kernel
theorem dX7_settle_79 : decode cX7_settle 79 = .ok (.getfield 76, 3) := by decide +kernel
theorem dX7_settle_82 : decode cX7_settle 82 = .ok (.aload_n 0, 1) := by decide +kernel
theorem dX7_settle_83 : decode cX7_settle 83 = .ok (.getfield 154, 3) := by decide +kernel
theorem dX7_settle_86 : decode cX7_settle 86 = .ok (.caload, 1) := by decide +kernel
theorem dX7_settle_87 : decode cX7_settle 87 = .ok (.bipush 32, 2) := by decide +kernel
theorem dX7_settle_89 : decode cX7_settle 89 = .ok (.if_icmp .ne 81, 3) := by decide +kernel
theorem dX7_settle_92 : decode cX7_settle 92 = .ok (.aload_n 0, 1) := by decide +kernel
theorem dX7_settle_93 : decode cX7_settle 93 = .ok (.getfield 20, 3) := by decide +kernel
theorem dX7_settle_96 : decode cX7_settle 96 = .ok (.iload_n 3, 1) := by decide +kernel
theorem dX7_settle_97 : decode cX7_settle 97 = .ok (.iaload, 1) := by decide +kernel
theorem dX7_settle_98 : decode cX7_settle 98 = .ok (.iconst 3, 1) := by decide +kernel
theorem dX7_settle_99 : decode cX7_settle 99 = .ok (.if_icmp .ne 16, 3) := by decide +kernel
theorem dX7_settle_102 : decode cX7_settle 102 = .ok (.aload_n 0, 1) := by decide +kernel
theorem dX7_settle_103 : decode cX7_settle 103 = .ok (.getfield 36, 3) := by decide +kernel
theorem dX7_settle_106 : decode cX7_settle 106 = .ok (.iload_n 3, 1) := by decide +kernel
theorem dX7_settle_107 : decode cX7_settle 107 = .ok (.baload, 1) := by decide +kernel
theorem dX7_settle_108 : decode cX7_settle 108 = .ok (.ifCond .ne 7, 3) := by decide +kernel
theorem dX7_settle_111 : decode cX7_settle 111 = .ok (.iconst 1, 1) := by decide +kernel
theorem dX7_settle_112 : decode cX7_settle 112 = .ok (.goto 4, 3) := by decide +kernel
theorem dX7_settle_115 : decode cX7_settle 115 = .ok (.iconst 0, 1) := by decide +kernel
theorem dX7_settle_116 : decode cX7_settle 116 = .ok (.istore 4, 2) := by decide +kernel
theorem dX7_settle_118 : decode cX7_settle 118 = .ok (.iload 4, 2) := by decide +kernel
theorem dX7_settle_120 : decode cX7_settle 120 = .ok (.ifCond .eq 7, 3) := by decide +kernel
theorem dX7_settle_123 : decode cX7_settle 123 = .ok (.iload_n 3, 1) := by decide +kernel
theorem dX7_settle_124 : decode cX7_settle 124 = .ok (.goto 9, 3) := by decide +kernel
theorem dX7_settle_127 : decode cX7_settle 127 = .ok (.aload_n 0, 1) := by decide +kernel
theorem dX7_settle_128 : decode cX7_settle 128 = .ok (.iconst 3, 1) := by decide +kernel
theorem dX7_settle_129 : decode cX7_settle 129 = .ok (.iconst 0, 1) := by decide +kernel
theorem dX7_settle_130 : decode cX7_settle 130 = .ok (.invokevirtual 180, 3) := by decide +kernel
theorem dX7_settle_133 : decode cX7_settle 133 = .ok (.istore 5, 2) := by decide +kernel
theorem dX7_settle_135 : decode cX7_settle 135 = .ok (.iload 4, 2) := by decide +kernel
theorem dX7_settle_137 : decode cX7_settle 137 = .ok (.ifCond .ne 10, 3) := by decide +kernel
theorem dX7_settle_140 : decode cX7_settle 140 = .ok (.aload_n 0, 1) := by decide +kernel
theorem dX7_settle_141 : decode cX7_settle 141 = .ok (.iload 5, 2) := by decide +kernel
theorem dX7_settle_143 : decode cX7_settle 143 = .ok (.iload_n 3, 1) := by decide +kernel
theorem dX7_settle_144 : decode cX7_settle 144 = .ok (.invokevirtual 194, 3) := by decide +kernel
theorem dX7_settle_147 : decode cX7_settle 147 = .ok (.aload_n 0, 1) := by decide +kernel
theorem dX7_settle_148 : decode cX7_settle 148 = .ok (.iload 5, 2) := by decide +kernel
theorem dX7_settle_150 : decode cX7_settle 150 = .ok (.iload_n 2, 1) := by decide +kernel
theorem dX7_settle_151 : decode cX7_settle 151 = .ok (.invokevirtual 194, 3) := by decide +kernel
theorem dX7_settle_154 : decode cX7_settle 154 = .ok (.aload_n 0, 1) := by decide +kernel
theorem dX7_settle_155 : decode cX7_settle 155 = .ok (.getfield 73, 3) := by decide +kernel
theorem dX7_settle_158 : decode cX7_settle 158 = .ok (.aload_n 0, 1) := by decide +kernel
theorem dX7_settle_159 : decode cX7_settle 159 = .ok (.getfield 191, 3) := by decide +kernel
theorem dX7_settle_162 : decode cX7_settle 162 = .ok (.iconst 1, 1) := by decide +kernel
theorem dX7_settle_163 : decode cX7_settle 163 = .ok (.isub, 1) := by decide +kernel
theorem dX7_settle_164 : decode cX7_settle 164 = .ok (.iload 5, 2) := by decide +kernel
theorem dX7_settle_166 : decode cX7_settle 166 = .ok (.iastore, 1) := by decide +kernel
theorem dX7_settle_167 : decode cX7_settle 167 = .ok (.goto 96, 3) := by decide +kernel
theorem dX7_settle_170 : decode cX7_settle 170 = .ok (.aload_n 0, 1) := by decide +kernel
theorem dX7_settle_171 : decode cX7_settle 171 = .ok (.getfield 76, 3) := by decide +kernel
theorem dX7_settle_174 : decode cX7_settle 174 = .ok (.aload_n 0, 1) := by decide +kernel
theorem dX7_settle_175 : decode cX7_settle 175 = .ok (.getfield 154, 3) := by decide +kernel
theorem dX7_settle_178 : decode cX7_settle 178 = .ok (.caload, 1) := by decide +kernel
theorem dX7_settle_179 : decode cX7_settle 179 = .ok (.istore 4, 2) := by decide +kernel
theorem dX7_settle_181 : decode cX7_settle 181 = .ok (.aload_n 0, 1) := by decide +kernel
theorem dX7_settle_182 : decode cX7_settle 182 = .ok (.iconst 2, 1) := by decide +kernel
theorem dX7_settle_183 : decode cX7_settle 183 = .ok (.iload 4, 2) := by decide +kernel
theorem dX7_settle_185 : decode cX7_settle 185 = .ok (.bipush 43, 2) := by decide +kernel
theorem dX7_settle_187 : decode cX7_settle 187 = .ok (.if_icmp .ne 7, 3) := by decide +kernel
theorem dX7_settle_190 : decode cX7_settle 190 = .ok (.iconst 4, 1) := by decide +kernel
theorem dX7_settle_191 : decode cX7_settle 191 = .ok (.goto 40, 3) := by decide +kernel
theorem dX7_settle_194 : decode cX7_settle 194 = .ok (.iload 4, 2) := by decide +kernel
theorem dX7_settle_196 : decode cX7_settle 196 = .ok (.bipush 45, 2) := by decide +kernel
theorem dX7_settle_198 : decode cX7_settle 198 = .ok (.if_icmp .ne 7, 3) := by decide +kernel
theorem dX7_settle_201 : decode cX7_settle 201 = .ok (.iconst 5, 1) := by decide +kernel
theorem dX7_settle_202 : decode cX7_settle 202 = .ok (.goto 29, 3) := by decide +kernel
theorem dX7_settle_205 : decode cX7_settle 205 = .ok (.iload 4, 2) := by decide +kernel
theorem dX7_settle_207 : decode cX7_settle 207 = .ok (.bipush 42, 2) := by decide +kernel
theorem dX7_settle_209 : decode cX7_settle 209 = .ok (.if_icmp .ne 8, 3) := by decide +kernel
theorem dX7_settle_212 : decode cX7_settle 212 = .ok (.bipush 6, 2) := by decide +kernel
theorem dX7_settle_214 : decode cX7_settle 214 = .ok (.goto 17, 3) := by decide +kernel
theorem dX7_settle_217 : decode cX7_settle 217 = .ok (.iload 4, 2) := by decide +kernel
theorem dX7_settle_219 : decode cX7_settle 219 = .ok (.bipush 60, 2) := by decide +kernel
theorem dX7_settle_221 : decode cX7_settle 221 = .ok (.if_icmp .ne 8, 3) := by decide +kernel
theorem dX7_settle_224 : decode cX7_settle 224 = .ok (.bipush 7, 2) := by decide +kernel
theorem dX7_settle_226 : decode cX7_settle 226 = .ok (.goto 5, 3) := by decide +kernel
theorem dX7_settle_229 : decode cX7_settle 229 = .ok (.bipush 8, 2) := by decide +kernel
theorem dX7_settle_231 : decode cX7_settle 231 = .ok (.invokevirtual 180, 3) := by decide +kernel
theorem dX7_settle_234 : decode cX7_settle 234 = .ok (.istore 5, 2) := by decide +kernel
theorem dX7_settle_236 : decode cX7_settle 236 = .ok (.aload_n 0, 1) := by decide +kernel
theorem dX7_settle_237 : decode cX7_settle 237 = .ok (.iload 5, 2) := by decide +kernel
theorem dX7_settle_239 : decode cX7_settle 239 = .ok (.iload_n 3, 1) := by decide +kernel
theorem dX7_settle_240 : decode cX7_settle 240 = .ok (.invokevirtual 194, 3) := by decide +kernel
theorem dX7_settle_243 : decode cX7_settle 243 = .ok (.aload_n 0, 1) := by decide +kernel
theorem dX7_settle_244 : decode cX7_settle 244 = .ok (.iload 5, 2) := by decide +kernel
theorem dX7_settle_246 : decode cX7_settle 246 = .ok (.iload_n 2, 1) := by decide +kernel
theorem dX7_settle_247 : decode cX7_settle 247 = .ok (.invokevirtual 194, 3) := by decide +kernel
theorem dX7_settle_250 : decode cX7_settle 250 = .ok (.aload_n 0, 1) := by decide +kernel
theorem dX7_settle_251 : decode cX7_settle 251 = .ok (.getfield 73, 3) := by decide +kernel
theorem dX7_settle_254 : decode cX7_settle 254 = .ok (.aload_n 0, 1) := by decide +kernel
theorem dX7_settle_255 : decode cX7_settle 255 = .ok (.getfield 191, 3) := by decide +kernel
theorem dX7_settle_258 : decode cX7_settle 258 = .ok (.iconst 1, 1) := by decide +kernel
theorem dX7_settle_259 : decode cX7_settle 259 = .ok (.isub, 1) := by decide +kernel
theorem dX7_settle_260 : decode cX7_settle 260 = .ok (.iload 5, 2) := by decide +kernel
theorem dX7_settle_262 : decode cX7_settle 262 = .ok (.iastore, 1) := by decide +kernel
theorem dX7_settle_263 : decode cX7_settle 263 = .ok (.goto (-263), 3) := by decide +kernel
theorem dX7_settle_266 : decode cX7_settle 266 = .ok (.return_, 1) := by decide +kernel
theorem dX7_push_0 : decode cX7_push 0 = .ok (.aload_n 0, 1) := by decide +kernel
theorem dX7_push_1 : decode cX7_push 1 = .ok (.getfield 73, 3) := by decide +kernel
theorem dX7_push_4 : decode cX7_push 4 = .ok (.aload_n 0, 1) := by decide +kernel
theorem dX7_push_5 : decode cX7_push 5 = .ok (.getfield 191, 3) := by decide +kernel
theorem dX7_push_8 : decode cX7_push 8 = .ok (.iload_n 1, 1) := by decide +kernel
theorem dX7_push_9 : decode cX7_push 9 = .ok (.iastore, 1) := by decide +kernel
theorem dX7_push_10 : decode cX7_push 10 = .ok (.aload_n 0, 1) := by decide +kernel
theorem dX7_push_11 : decode cX7_push 11 = .ok (.dup, 1) := by decide +kernel
theorem dX7_push_12 : decode cX7_push 12 = .ok (.getfield 191, 3) := by decide +kernel
theorem dX7_push_15 : decode cX7_push 15 = .ok (.iconst 1, 1) := by decide +kernel
theorem dX7_push_16 : decode cX7_push 16 = .ok (.iadd, 1) := by decide +kernel
theorem dX7_push_17 : decode cX7_push 17 = .ok (.putfield 191, 3) := by decide +kernel
theorem dX7_push_20 : decode cX7_push 20 = .ok (.aload_n 0, 1) := by decide +kernel
theorem dX7_push_21 : decode cX7_push 21 = .ok (.iconst 2, 1) := by decide +kernel
theorem dX7_push_22 : decode cX7_push 22 = .ok (.putfield 157, 3) := by decide +kernel
theorem dX7_push_25 : decode cX7_push 25 = .ok (.return_, 1) := by decide +kernel
theorem dX7_readNumeral_0 : decode cX7_readNumeral 0 = .ok (.iconst 0, 1) := by decide +kernel
theorem dX7_readNumeral_1 : decode cX7_readNumeral 1 = .ok (.istore_n 1, 1) := by decide +kernel
theorem dX7_readNumeral_2 : decode cX7_readNumeral 2 = .ok (.iconst 0, 1) := by decide +kernel
theorem dX7_readNumeral_3 : decode cX7_readNumeral 3 = .ok (.istore_n 2, 1) := by decide +kernel
theorem dX7_readNumeral_4 : decode cX7_readNumeral 4 = .ok (.iload_n 2, 1) := by decide +kernel
theorem dX7_readNumeral_5 : decode cX7_readNumeral 5 = .ok (.iconst 4, 1) := by decide +kernel
theorem dX7_readNumeral_6 : decode cX7_readNumeral 6 = .ok (.if_icmp .ge 42, 3) := by decide +kernel
theorem dX7_readNumeral_9 : decode cX7_readNumeral 9 = .ok (.aload_n 0, 1) := by decide +kernel
theorem dX7_readNumeral_10 : decode cX7_readNumeral 10 = .ok (.invokevirtual 134, 3) := by decide +kernel
theorem dX7_readNumeral_13 : decode cX7_readNumeral 13 = .ok (.invokestatic 128, 3) := by decide +kernel
theorem dX7_readNumeral_16 : decode cX7_readNumeral 16 = .ok (.ifCond .eq 32, 3) := by decide +kernel
theorem dX7_readNumeral_19 : decode cX7_readNumeral 19 = .ok (.bipush 10, 2) := by decide +kernel
theorem dX7_readNumeral_21 : decode cX7_readNumeral 21 = .ok (.iload_n 1, 1) := by decide +kernel
theorem dX7_readNumeral_22 : decode cX7_readNumeral 22 = .ok (.imul, 1) := by decide +kernel
theorem dX7_readNumeral_23 : decode cX7_readNumeral 23 = .ok (.aload_n 0, 1) := by decide +kernel
theorem dX7_readNumeral_24 : decode cX7_readNumeral 24 = .ok (.invokevirtual 134, 3) := by decide +kernel
theorem dX7_readNumeral_27 : decode cX7_readNumeral 27 = .ok (.iadd, 1) := by decide +kernel
theorem dX7_readNumeral_28 : decode cX7_readNumeral 28 = .ok (.bipush 48, 2) := by decide +kernel
theorem dX7_readNumeral_30 : decode cX7_readNumeral 30 = .ok (.isub, 1) := by decide +kernel
theorem dX7_readNumeral_31 : decode cX7_readNumeral 31 = .ok (.istore_n 1, 1) := by decide +kernel
theorem dX7_readNumeral_32 : decode cX7_readNumeral 32 = .ok (.aload_n 0, 1) := by decide +kernel
theorem dX7_readNumeral_33 : decode cX7_readNumeral 33 = .ok (.dup, 1) := by decide +kernel
theorem dX7_readNumeral_34 : decode cX7_readNumeral 34 = .ok (.getfield 118, 3) := by decide +kernel
theorem dX7_readNumeral_37 : decode cX7_readNumeral 37 = .ok (.iconst 1, 1) := by decide +kernel
theorem dX7_readNumeral_38 : decode cX7_readNumeral 38 = .ok (.iadd, 1) := by decide +kernel
theorem dX7_readNumeral_39 : decode cX7_readNumeral 39 = .ok (.putfield 118, 3) := by decide +kernel
theorem dX7_readNumeral_42 : decode cX7_readNumeral 42 = .ok (.iinc 2 1, 3) := by decide +kernel
theorem dX7_readNumeral_45 : decode cX7_readNumeral 45 = .ok (.goto (-41), 3) := by decide +kernel
theorem dX7_readNumeral_48 : decode cX7_readNumeral 48 = .ok (.aload_n 0, 1) := by decide +kernel
theorem dX7_readNumeral_49 : decode cX7_readNumeral 49 = .ok (.aload_n 0, 1) := by decide +kernel
theorem dX7_readNumeral_50 : decode cX7_readNumeral 50 = .ok (.iconst 0, 1) := by decide +kernel
theorem dX7_readNumeral_51 : decode cX7_readNumeral 51 = .ok (.iload_n 1, 1) := by decide +kernel
theorem dX7_readNumeral_52 : decode cX7_readNumeral 52 = .ok (.invokevirtual 180, 3) := by decide +kernel
theorem dX7_readNumeral_55 : decode cX7_readNumeral 55 = .ok (.invokevirtual 197, 3) := by decide +kernel
theorem dX7_readNumeral_58 : decode cX7_readNumeral 58 = .ok (.return_, 1) := by decide +kernel
theorem dX7_readName_0 : decode cX7_readName 0 = .ok (.aload_n 0, 1) := by decide +kernel
theorem dX7_readName_1 : decode cX7_readName 1 = .ok (.getfield 145, 3) := by decide +kernel
theorem dX7_readName_4 : decode cX7_readName 4 = .ok (.iconst 1, 1) := by decide +kernel
theorem dX7_readName_5 : decode cX7_readName 5 = .ok (.isub, 1) := by decide +kernel
theorem dX7_readName_6 : decode cX7_readName 6 = .ok (.istore_n 1, 1) := by decide +kernel
theorem dX7_readName_7 : decode cX7_readName 7 = .ok (.iload_n 1, 1) := by decide +kernel
theorem dX7_readName_8 : decode cX7_readName 8 = .ok (.ifCond .lt 22, 3) := by decide +kernel
theorem dX7_readName_11 : decode cX7_readName 11 = .ok (.aload_n 0, 1) := by decide +kernel
theorem dX7_readName_12 : decode cX7_readName 12 = .ok (.getfield 40, 3) := by decide +kernel
theorem dX7_readName_15 : decode cX7_readName 15 = .ok (.iload_n 1, 1) := by decide +kernel
theorem dX7_readName_16 : decode cX7_readName 16 = .ok (.caload, 1) := by decide +kernel
theorem dX7_readName_17 : decode cX7_readName 17 = .ok (.aload_n 0, 1) := by decide +kernel
theorem dX7_readName_18 : decode cX7_readName 18 = .ok (.invokevirtual 134, 3) := by decide +kernel
theorem dX7_readName_21 : decode cX7_readName 21 = .ok (.if_icmp .eq 9, 3) := by decide +kernel
theorem dX7_readName_24 : decode cX7_readName 24 = .ok (.iinc 1 (-1), 3) := by decide +kernel
theorem dX7_readName_27 : decode cX7_readName 27 = .ok (.goto (-20), 3) := by decide +kernel
theorem dX7_readName_30 : decode cX7_readName 30 = .ok (.iload_n 1, 1) := by decide +kernel
theorem dX7_readName_31 : decode cX7_readName 31 = .ok (.ifCond .ge 9, 3) := by decide +kernel
theorem dX7_readName_34 : decode cX7_readName 34 = .ok (.aload_n 0, 1) := by decide +kernel
theorem dX7_readName_35 : decode cX7_readName 35 = .ok (.iconst 1, 1) := by decide +kernel
theorem dX7_readName_36 : decode cX7_readName 36 = .ok (.putfield 138, 3) := by decide +kernel
theorem dX7_readName_39 : decode cX7_readName 39 = .ok (.return_, 1) := by decide +kernel
theorem dX7_readName_40 : decode cX7_readName 40 = .ok (.aload_n 0, 1) := by decide +kernel
theorem dX7_readName_41 : decode cX7_readName 41 = .ok (.dup, 1) := by decide +kernel
theorem dX7_readName_42 : decode cX7_readName 42 = .ok (.getfield 118, 3) := by decide +kernel
theorem dX7_readName_45 : decode cX7_readName 45 = .ok (.iconst 1, 1) := by decide +kernel
theorem dX7_readName_46 : decode cX7_readName 46 = .ok (.iadd, 1) := by decide +kernel
theorem dX7_readName_47 : decode cX7_readName 47 = .ok (.putfield 118, 3) := by decide +kernel
theorem dX7_readName_50 : decode cX7_readName 50 = .ok (.aload_n 0, 1) := by decide +kernel
theorem dX7_readName_51 : decode cX7_readName 51 = .ok (.aload_n 0, 1) := by decide +kernel
theorem dX7_readName_52 : decode cX7_readName 52 = .ok (.iconst 1, 1) := by decide +kernel
theorem dX7_readName_53 : decode cX7_readName 53 = .ok (.aload_n 0, 1) := by decide +kernel
theorem dX7_readName_54 : decode cX7_readName 54 = .ok (.getfield 145, 3) := by decide +kernel
theorem dX7_readName_57 : decode cX7_readName 57 = .ok (.iconst 1, 1) := by decide +kernel
theorem dX7_readName_58 : decode cX7_readName 58 = .ok (.isub, 1) := by decide +kernel
theorem dX7_readName_59 : decode cX7_readName 59 = .ok (.iload_n 1, 1) := by decide +kernel
theorem dX7_readName_60 : decode cX7_readName 60 = .ok (.isub, 1) := by decide +kernel
theorem dX7_readName_61 : decode cX7_readName 61 = .ok (.invokevirtual 180, 3) := by decide +kernel
theorem dX7_readName_64 : decode cX7_readName 64 = .ok (.invokevirtual 197, 3) := by decide +kernel
theorem dX7_readName_67 : decode cX7_readName 67 = .ok (.return_, 1) := by decide +kernel
theorem dX7_readAtom_0 : decode cX7_readAtom 0 = .ok (.aload_n 0, 1) := by decide +kernel
theorem dX7_readAtom_1 : decode cX7_readAtom 1 = .ok (.invokevirtual 134, 3) := by decide +kernel
theorem dX7_readAtom_4 : decode cX7_readAtom 4 = .ok (.istore_n 1, 1) := by decide +kernel
theorem dX7_readAtom_5 : decode cX7_readAtom 5 = .ok (.iload_n 1, 1) := by decide +kernel
theorem dX7_readAtom_6 : decode cX7_readAtom 6 = .ok (.invokestatic 128, 3) := by decide +kernel
theorem dX7_readAtom_9 : decode cX7_readAtom 9 = .ok (.ifCond .eq 10, 3) := by decide +kernel
theorem dX7_readAtom_12 : decode cX7_readAtom 12 = .ok (.aload_n 0, 1) := by decide +kernel
theorem dX7_readAtom_13 : decode cX7_readAtom 13 = .ok (.invokevirtual 201, 3) := by decide +kernel
theorem dX7_readAtom_16 : decode cX7_readAtom 16 = .ok (.goto 113, 3) := by decide +kernel
theorem dX7_readAtom_19 : decode cX7_readAtom 19 = .ok (.iload_n 1, 1) := by decide +kernel
theorem dX7_readAtom_20 : decode cX7_readAtom 20 = .ok (.invokestatic 124, 3) := by decide +kernel
theorem dX7_readAtom_23 : decode cX7_readAtom 23 = .ok (.ifCond .eq 10, 3) := by decide +kernel
theorem dX7_readAtom_26 : decode cX7_readAtom 26 = .ok (.aload_n 0, 1) := by decide +kernel
theorem dX7_readAtom_27 : decode cX7_readAtom 27 = .ok (.invokevirtual 204, 3) := by decide +kernel
theorem dX7_readAtom_30 : decode cX7_readAtom 30 = .ok (.goto 99, 3) := by decide +kernel
theorem dX7_readAtom_33 : decode cX7_readAtom 33 = .ok (.iload_n 1, 1) := by decide +kernel
theorem dX7_readAtom_34 : decode cX7_readAtom 34 = .ok (.invokestatic 131, 3) := by decide +kernel
theorem dX7_readAtom_37 : decode cX7_readAtom 37 = .ok (.ifCond .eq 62, 3) := by decide +kernel
theorem dX7_readAtom_40 : decode cX7_readAtom 40 = .ok (.aload_n 0, 1) := by decide +kernel
theorem dX7_readAtom_41 : decode cX7_readAtom 41 = .ok (.iconst 4, 1) := by decide +kernel
theorem dX7_readAtom_42 : decode cX7_readAtom 42 = .ok (.iload_n 1, 1) := by decide +kernel
theorem dX7_readAtom_43 : decode cX7_readAtom 43 = .ok (.bipush 65, 2) := by decide +kernel
theorem dX7_readAtom_45 : decode cX7_readAtom 45 = .ok (.isub, 1) := by decide +kernel
theorem dX7_readAtom_46 : decode cX7_readAtom 46 = .ok (.invokevirtual 180, 3) := by decide +kernel
theorem dX7_readAtom_49 : decode cX7_readAtom 49 = .ok (.istore_n 2, 1) := by decide +kernel
theorem dX7_readAtom_50 : decode cX7_readAtom 50 = .ok (.aload_n 0, 1) := by decide +kernel
theorem dX7_readAtom_51 : decode cX7_readAtom 51 = .ok (.dup, 1) := by decide +kernel
theorem dX7_readAtom_52 : decode cX7_readAtom 52 = .ok (.getfield 118, 3) := by decide +kernel
theorem dX7_readAtom_55 : decode cX7_readAtom 55 = .ok (.iconst 1, 1) := by decide +kernel
theorem dX7_readAtom_56 : decode cX7_readAtom 56 = .ok (.iadd, 1) := by decide +kernel
theorem dX7_readAtom_57 : decode cX7_readAtom 57 = .ok (.putfield 118, 3) := by decide +kernel
theorem dX7_readAtom_60 : decode cX7_readAtom 60 = .ok (.aload_n 0, 1) := by decide +kernel
theorem dX7_readAtom_61 : decode cX7_readAtom 61 = .ok (.getfield 24, 3) := by decide +kernel
theorem dX7_readAtom_64 : decode cX7_readAtom 64 = .ok (.iload_n 2, 1) := by decide +kernel
theorem dX7_readAtom_65 : decode cX7_readAtom 65 = .ok (.iaload, 1) := by decide +kernel
theorem dX7_readAtom_66 : decode cX7_readAtom 66 = .ok (.iconst 4, 1) := by decide +kernel
theorem dX7_readAtom_67 : decode cX7_readAtom 67 = .ok (.irem, 1) := by decide +kernel
theorem dX7_readAtom_68 : decode cX7_readAtom 68 = .ok (.ifCond .ne 9, 3) := by decide +kernel
theorem dX7_readAtom_71 : decode cX7_readAtom 71 = .ok (.aload_n 0, 1) := by decide +kernel
theorem dX7_readAtom_72 : decode cX7_readAtom 72 = .ok (.iload_n 2, 1) := by decide +kernel
theorem dX7_readAtom_73 : decode cX7_readAtom 73 = .ok (.invokevirtual 197, 3) := by decide +kernel
theorem dX7_readAtom_76 : decode cX7_readAtom 76 = .ok (.return_, 1) := by decide +kernel
theorem dX7_readAtom_77 : decode cX7_readAtom 77 = .ok (.aload_n 0, 1) := by decide +kernel
theorem dX7_readAtom_78 : decode cX7_readAtom 78 = .ok (.bipush 40, 2) := by decide +kernel
theorem dX7_readAtom_80 : decode cX7_readAtom 80 = .ok (.invokevirtual 184, 3) := by decide +kernel
theorem dX7_readAtom_83 : decode cX7_readAtom 83 = .ok (.aload_n 0, 1) := by decide +kernel
theorem dX7_readAtom_84 : decode cX7_readAtom 84 = .ok (.getfield 138, 3) := by decide +kernel
theorem dX7_readAtom_87 : decode cX7_readAtom 87 = .ok (.ifCond .ne 9, 3) := by decide +kernel
theorem dX7_readAtom_90 : decode cX7_readAtom 90 = .ok (.aload_n 0, 1) := by decide +kernel
theorem dX7_readAtom_91 : decode cX7_readAtom 91 = .ok (.iconst 3, 1) := by decide +kernel
theorem dX7_readAtom_92 : decode cX7_readAtom 92 = .ok (.iload_n 2, 1) := by decide +kernel
theorem dX7_readAtom_93 : decode cX7_readAtom 93 = .ok (.invokevirtual 174, 3) := by decide +kernel
theorem dX7_readAtom_96 : decode cX7_readAtom 96 = .ok (.goto 33, 3) := by decide +kernel
theorem dX7_readAtom_99 : decode cX7_readAtom 99 = .ok (.iload_n 1, 1) := by decide +kernel
theorem dX7_readAtom_100 : decode cX7_readAtom 100 = .ok (.bipush 40, 2) := by decide +kernel
theorem dX7_readAtom_102 : decode cX7_readAtom 102 = .ok (.if_icmp .ne 22, 3) := by decide +kernel
theorem dX7_readAtom_105 : decode cX7_readAtom 105 = .ok (.aload_n 0, 1) := by decide +kernel
theorem dX7_readAtom_106 : decode cX7_readAtom 106 = .ok (.dup, 1) := by decide +kernel
theorem dX7_readAtom_107 : decode cX7_readAtom 107 = .ok (.getfield 118, 3) := by decide +kernel
theorem dX7_readAtom_110 : decode cX7_readAtom 110 = .ok (.iconst 1, 1) := by decide +kernel
theorem dX7_readAtom_111 : decode cX7_readAtom 111 = .ok (.iadd, 1) := by decide +kernel
theorem dX7_readAtom_112 : decode cX7_readAtom 112 = .ok (.putfield 118, 3) := by decide +kernel
theorem dX7_readAtom_115 : decode cX7_readAtom 115 = .ok (.aload_n 0, 1) := by decide +kernel
theorem dX7_readAtom_116 : decode cX7_readAtom 116 = .ok (.iconst 4, 1) := by decide +kernel
theorem dX7_readAtom_117 : decode cX7_readAtom 117 = .ok (.iconst (-1), 1) := by decide +kernel
theorem dX7_readAtom_118 : decode cX7_readAtom 118 = .ok (.invokevirtual 174, 3) := by decide +kernel
theorem dX7_readAtom_121 : decode cX7_readAtom 121 = .ok (.goto 8, 3) := by decide +kernel
theorem dX7_readAtom_124 : decode cX7_readAtom 124 = .ok (.aload_n 0, 1) := by decide +kernel
theorem dX7_readAtom_125 : decode cX7_readAtom 125 = .ok (.iconst 1, 1) := by decide +kernel
theorem dX7_readAtom_126 : decode cX7_readAtom 126 = .ok (.putfield 138, 3) := by decide +kernel
theorem dX7_readAtom_129 : decode cX7_readAtom 129 = .ok (.return_, 1) := by decide +kernel
theorem dX7_readBehind_0 : decode cX7_readBehind 0 = .ok (.aload_n 0, 1) := by decide +kernel
theorem dX7_readBehind_1 : decode cX7_readBehind 1 = .ok (.invokevirtual 134, 3) := by decide +kernel
theorem dX7_readBehind_4 : decode cX7_readBehind 4 = .ok (.istore_n 1, 1) := by decide +kernel
theorem dX7_readBehind_5 : decode cX7_readBehind 5 = .ok (.iload_n 1, 1) := by decide +kernel
theorem dX7_readBehind_6 : decode cX7_readBehind 6 = .ok (.invokestatic 207, 3) := by decide +kernel
theorem dX7_readBehind_9 : decode cX7_readBehind 9 = .ok (.ifCond .eq 13, 3) := by decide +kernel
theorem dX7_readBehind_12 : decode cX7_readBehind 12 = .ok (.aload_n 0, 1) := by decide +kernel
theorem dX7_readBehind_13 : decode cX7_readBehind 13 = .ok (.bipush 32, 2) := by decide +kernel
theorem dX7_readBehind_15 : decode cX7_readBehind 15 = .ok (.iconst 4, 1) := by decide +kernel
theorem dX7_readBehind_16 : decode cX7_readBehind 16 = .ok (.invokevirtual 210, 3) := by decide +kernel
theorem dX7_readBehind_19 : decode cX7_readBehind 19 = .ok (.goto 162, 3) := by decide +kernel
theorem dX7_readBehind_22 : decode cX7_readBehind 22 = .ok (.iload_n 1, 1) := by decide +kernel
theorem dX7_readBehind_23 : decode cX7_readBehind 23 = .ok (.bipush 42, 2) := by decide +kernel
theorem dX7_readBehind_25 : decode cX7_readBehind 25 = .ok (.if_icmp .ne 12, 3) := by decide +kernel
theorem dX7_readBehind_28 : decode cX7_readBehind 28 = .ok (.aload_n 0, 1) := by decide +kernel
theorem dX7_readBehind_29 : decode cX7_readBehind 29 = .ok (.iload_n 1, 1) := by decide +kernel
theorem dX7_readBehind_30 : decode cX7_readBehind 30 = .ok (.iconst 3, 1) := by decide +kernel
theorem dX7_readBehind_31 : decode cX7_readBehind 31 = .ok (.invokevirtual 210, 3) := by decide +kernel
theorem dX7_readBehind_34 : decode cX7_readBehind 34 = .ok (.goto 147, 3) := by decide +kernel
theorem dX7_readBehind_37 : decode cX7_readBehind 37 = .ok (.iload_n 1, 1) := by decide +kernel
theorem dX7_readBehind_38 : decode cX7_readBehind 38 = .ok (.bipush 43, 2) := by decide +kernel
theorem dX7_readBehind_40 : decode cX7_readBehind 40 = .ok (.if_icmp .eq 9, 3) := by decide +kernel
theorem dX7_readBehind_43 : decode cX7_readBehind 43 = .ok (.iload_n 1, 1) := by decide +kernel
theorem dX7_readBehind_44 : decode cX7_readBehind 44 = .ok (.bipush 45, 2) := by decide +kernel
theorem dX7_readBehind_46 : decode cX7_readBehind 46 = .ok (.if_icmp .ne 12, 3) := by decide +kernel
theorem dX7_readBehind_49 : decode cX7_readBehind 49 = .ok (.aload_n 0, 1) := by decide +kernel
theorem dX7_readBehind_50 : decode cX7_readBehind 50 = .ok (.iload_n 1, 1) := by decide +kernel
theorem dX7_readBehind_51 : decode cX7_readBehind 51 = .ok (.iconst 2, 1) := by decide +kernel
theorem dX7_readBehind_52 : decode cX7_readBehind 52 = .ok (.invokevirtual 210, 3) := by decide +kernel
theorem dX7_readBehind_55 : decode cX7_readBehind 55 = .ok (.goto 126, 3) := by decide +kernel
theorem dX7_readBehind_58 : decode cX7_readBehind 58 = .ok (.iload_n 1, 1) := by decide +kernel
theorem dX7_readBehind_59 : decode cX7_readBehind 59 = .ok (.bipush 60, 2) := by decide +kernel
theorem dX7_readBehind_61 : decode cX7_readBehind 61 = .ok (.if_icmp .eq 9, 3) := by decide +kernel
theorem dX7_readBehind_64 : decode cX7_readBehind 64 = .ok (.iload_n 1, 1) := by decide +kernel
theorem dX7_readBehind_65 : decode cX7_readBehind 65 = .ok (.bipush 126, 2) := by decide +kernel
theorem dX7_readBehind_67 : decode cX7_readBehind 67 = .ok (.if_icmp .ne 50, 3) := by decide +kernel
theorem dX7_readBehind_70 : decode cX7_readBehind 70 = .ok (.aload_n 0, 1) := by decide +kernel
theorem dX7_readBehind_71 : decode cX7_readBehind 71 = .ok (.getfield 61, 3) := by decide +kernel
theorem dX7_readBehind_74 : decode cX7_readBehind 74 = .ok (.aload_n 0, 1) := by decide +kernel
theorem dX7_readBehind_75 : decode cX7_readBehind 75 = .ok (.getfield 148, 3) := by decide +kernel
theorem dX7_readBehind_78 : decode cX7_readBehind 78 = .ok (.iconst 1, 1) := by decide +kernel
theorem dX7_readBehind_79 : decode cX7_readBehind 79 = .ok (.isub, 1) := by decide +kernel
theorem dX7_readBehind_80 : decode cX7_readBehind 80 = .ok (.baload, 1) := by decide +kernel
theorem dX7_readBehind_81 : decode cX7_readBehind 81 = .ok (.ifCond .eq 8, 3) := by decide +kernel
theorem dX7_readBehind_84 : decode cX7_readBehind 84 = .ok (.aload_n 0, 1) := by decide +kernel
theorem dX7_readBehind_85 : decode cX7_readBehind 85 = .ok (.iconst 1, 1) := by decide +kernel
theorem dX7_readBehind_86 : decode cX7_readBehind 86 = .ok (.putfield 138, 3) := by decide +kernel
theorem dX7_readBehind_89 : decode cX7_readBehind 89 = .ok (.aload_n 0, 1) := by decide +kernel
theorem dX7_readBehind_90 : decode cX7_readBehind 90 = .ok (.getfield 61, 3) := by decide +kernel
theorem dX7_readBehind_93 : decode cX7_readBehind 93 = .ok (.aload_n 0, 1) := by decide +kernel
theorem dX7_readBehind_94 : decode cX7_readBehind 94 = .ok (.getfield 148, 3) := by decide +kernel
theorem dX7_readBehind_97 : decode cX7_readBehind 97 = .ok (.iconst 1, 1) := by decide +kernel
theorem dX7_readBehind_98 : decode cX7_readBehind 98 = .ok (.isub, 1) := by decide +kernel
theorem dX7_readBehind_99 : decode cX7_readBehind 99 = .ok (.iconst 1, 1) := by decide +kernel
theorem dX7_readBehind_100 : decode cX7_readBehind 100 = .ok (.bastore, 1) := by decide +kernel
theorem dX7_readBehind_101 : decode cX7_readBehind 101 = .ok (.aload_n 0, 1) := by decide +kernel
theorem dX7_readBehind_102 : decode cX7_readBehind 102 = .ok (.getfield 138, 3) := by decide +kernel
theorem dX7_readBehind_105 : decode cX7_readBehind 105 = .ok (.ifCond .ne 76, 3) := by decide +kernel
theorem dX7_readBehind_108 : decode cX7_readBehind 108 = .ok (.aload_n 0, 1) := by decide +kernel
theorem dX7_readBehind_109 : decode cX7_readBehind 109 = .ok (.iload_n 1, 1) := by decide +kernel
theorem dX7_readBehind_110 : decode cX7_readBehind 110 = .ok (.iconst 1, 1) := by decide +kernel
theorem dX7_readBehind_111 : decode cX7_readBehind 111 = .ok (.invokevirtual 210, 3) := by decide +kernel
theorem dX7_readBehind_114 : decode cX7_readBehind 114 = .ok (.goto 67, 3) := by decide +kernel
theorem dX7_readBehind_117 : decode cX7_readBehind 117 = .ok (.aload_n 0, 1) := by decide +kernel
theorem dX7_readBehind_118 : decode cX7_readBehind 118 = .ok (.iconst 1, 1) := by decide +kernel
theorem dX7_readBehind_119 : decode cX7_readBehind 119 = .ok (.invokevirtual 214, 3) := by decide +kernel
theorem dX7_readBehind_122 : decode cX7_readBehind 122 = .ok (.aload_n 0, 1) := by decide +kernel
theorem dX7_readBehind_123 : decode cX7_readBehind 123 = .ok (.dup, 1) := by decide +kernel
theorem dX7_readBehind_124 : decode cX7_readBehind 124 = .ok (.getfield 191, 3) := by decide +kernel
theorem dX7_readBehind_127 : decode cX7_readBehind 127 = .ok (.iconst 1, 1) := by decide +kernel
theorem dX7_readBehind_128 : decode cX7_readBehind 128 = .ok (.isub, 1) := by decide +kernel
theorem dX7_readBehind_129 : decode cX7_readBehind 129 = .ok (.putfield 191, 3) := by decide +kernel
theorem dX7_readBehind_132 : decode cX7_readBehind 132 = .ok (.aload_n 0, 1) := by decide +kernel
theorem dX7_readBehind_133 : decode cX7_readBehind 133 = .ok (.getfield 73, 3) := by decide +kernel
theorem dX7_readBehind_136 : decode cX7_readBehind 136 = .ok (.aload_n 0, 1) := by decide +kernel
theorem dX7_readBehind_137 : decode cX7_readBehind 137 = .ok (.getfield 191, 3) := by decide +kernel
theorem dX7_readBehind_140 : decode cX7_readBehind 140 = .ok (.iaload, 1) := by decide +kernel
theorem dX7_readBehind_141 : decode cX7_readBehind 141 = .ok (.istore_n 2, 1) := by decide +kernel
theorem dX7_readBehind_142 : decode cX7_readBehind 142 = .ok (.aload_n 0, 1) := by decide +kernel
theorem dX7_readBehind_143 : decode cX7_readBehind 143 = .ok (.getfield 64, 3) := by decide +kernel
theorem dX7_readBehind_146 : decode cX7_readBehind 146 = .ok (.aload_n 0, 1) := by decide +kernel
theorem dX7_readBehind_147 : decode cX7_readBehind 147 = .ok (.getfield 148, 3) := by decide +kernel
theorem dX7_readBehind_150 : decode cX7_readBehind 150 = .ok (.iconst 1, 1) := by decide +kernel
theorem dX7_readBehind_151 : decode cX7_readBehind 151 = .ok (.isub, 1) := by decide +kernel
theorem dX7_readBehind_152 : decode cX7_readBehind 152 = .ok (.iaload, 1) := by decide +kernel
theorem dX7_readBehind_153 : decode cX7_readBehind 153 = .ok (.istore_n 3, 1) := by decide +kernel
theorem dX7_readBehind_154 : decode cX7_readBehind 154 = .ok (.iload_n 3, 1) := by decide +kernel
theorem dX7_readBehind_155 : decode cX7_readBehind 155 = .ok (.ifCond .ge 9, 3) := by decide +kernel
theorem dX7_readBehind_158 : decode cX7_readBehind 158 = .ok (.aload_n 0, 1) := by decide +kernel
theorem dX7_readBehind_159 : decode cX7_readBehind 159 = .ok (.iload_n 2, 1) := by decide +kernel
theorem dX7_readBehind_160 : decode cX7_readBehind 160 = .ok (.invokevirtual 217, 3) := by decide +kernel
theorem dX7_readBehind_163 : decode cX7_readBehind 163 = .ok (.return_, 1) := by decide +kernel
theorem dX7_readBehind_164 : decode cX7_readBehind 164 = .ok (.aload_n 0, 1) := by decide +kernel
theorem dX7_readBehind_165 : decode cX7_readBehind 165 = .ok (.iload_n 3, 1) := by decide +kernel
theorem dX7_readBehind_166 : decode cX7_readBehind 166 = .ok (.iload_n 2, 1) := by decide +kernel
theorem dX7_readBehind_167 : decode cX7_readBehind 167 = .ok (.invokevirtual 194, 3) := by decide +kernel
theorem dX7_readBehind_170 : decode cX7_readBehind 170 = .ok (.aload_n 0, 1) := by decide +kernel
theorem dX7_readBehind_171 : decode cX7_readBehind 171 = .ok (.bipush 123, 2) := by decide +kernel
theorem dX7_readBehind_173 : decode cX7_readBehind 173 = .ok (.invokevirtual 184, 3) := by decide +kernel
theorem dX7_readBehind_176 : decode cX7_readBehind 176 = .ok (.aload_n 0, 1) := by decide +kernel
theorem dX7_readBehind_177 : decode cX7_readBehind 177 = .ok (.iconst 3, 1) := by decide +kernel
theorem dX7_readBehind_178 : decode cX7_readBehind 178 = .ok (.putfield 157, 3) := by decide +kernel
theorem dX7_readBehind_181 : decode cX7_readBehind 181 = .ok (.return_, 1) := by decide +kernel
theorem dX7_join_0 : decode cX7_join 0 = .ok (.aload_n 0, 1) := by decide +kernel
theorem dX7_join_1 : decode cX7_join 1 = .ok (.iload_n 2, 1) := by decide +kernel
theorem dX7_join_2 : decode cX7_join 2 = .ok (.invokevirtual 214, 3) := by decide +kernel
theorem dX7_join_5 : decode cX7_join 5 = .ok (.aload_n 0, 1) := by decide +kernel
theorem dX7_join_6 : decode cX7_join 6 = .ok (.getfield 76, 3) := by decide +kernel
theorem dX7_join_9 : decode cX7_join 9 = .ok (.aload_n 0, 1) := by decide +kernel
theorem dX7_join_10 : decode cX7_join 10 = .ok (.getfield 154, 3) := by decide +kernel
theorem dX7_join_13 : decode cX7_join 13 = .ok (.iload_n 1, 1) := by decide +kernel
theorem dX7_join_14 : decode cX7_join 14 = .ok (.castore, 1) := by decide +kernel
theorem dX7_join_15 : decode cX7_join 15 = .ok (.aload_n 0, 1) := by decide +kernel
theorem dX7_join_16 : decode cX7_join 16 = .ok (.dup, 1) := by decide +kernel
theorem dX7_join_17 : decode cX7_join 17 = .ok (.getfield 154, 3) := by decide +kernel
theorem dX7_join_20 : decode cX7_join 20 = .ok (.iconst 1, 1) := by decide +kernel
theorem dX7_join_21 : decode cX7_join 21 = .ok (.iadd, 1) := by decide +kernel
theorem dX7_join_22 : decode cX7_join 22 = .ok (.putfield 154, 3) := by decide +kernel
theorem dX7_join_25 : decode cX7_join 25 = .ok (.iload_n 1, 1) := by decide +kernel
theorem dX7_join_26 : decode cX7_join 26 = .ok (.bipush 32, 2) := by decide +kernel
theorem dX7_join_28 : decode cX7_join 28 = .ok (.if_icmp .eq 13, 3) := by decide +kernel
theorem dX7_join_31 : decode cX7_join 31 = .ok (.aload_n 0, 1) := by decide +kernel
theorem dX7_join_32 : decode cX7_join 32 = .ok (.dup, 1) := by decide +kernel
theorem dX7_join_33 : decode cX7_join 33 = .ok (.getfield 118, 3) := by decide +kernel
theorem dX7_join_36 : decode cX7_join 36 = .ok (.iconst 1, 1) := by decide +kernel
theorem dX7_join_37 : decode cX7_join 37 = .ok (.iadd, 1) := by decide +kernel
theorem dX7_join_38 : decode cX7_join 38 = .ok (.putfield 118, 3) := by decide +kernel
theorem dX7_join_41 : decode cX7_join 41 = .ok (.aload_n 0, 1) := by decide +kernel
theorem dX7_join_42 : decode cX7_join 42 = .ok (.iconst 1, 1) := by decide +kernel
theorem dX7_join_43 : decode cX7_join 43 = .ok (.putfield 157, 3) := by decide +kernel
theorem dX7_join_46 : decode cX7_join 46 = .ok (.return_, 1) := by decide +kernel
theorem dX7_readCase_0 : decode cX7_readCase 0 = .ok (.aload_n 0, 1) := by decide +kernel
theorem dX7_readCase_1 : decode cX7_readCase 1 = .ok (.getfield 64, 3) := by decide +kernel
theorem dX7_readCase_4 : decode cX7_readCase 4 = .ok (.aload_n 0, 1) := by decide +kernel
theorem dX7_readCase_5 : decode cX7_readCase 5 = .ok (.getfield 148, 3) := by decide +kernel
theorem dX7_readCase_8 : decode cX7_readCase 8 = .ok (.iconst 1, 1) := by decide +kernel
theorem dX7_readCase_9 : decode cX7_readCase 9 = .ok (.isub, 1) := by decide +kernel
theorem dX7_readCase_10 : decode cX7_readCase 10 = .ok (.iaload, 1) := by decide +kernel
theorem dX7_readCase_11 : decode cX7_readCase 11 = .ok (.istore_n 1, 1) := by decide +kernel
theorem dX7_readCase_12 : decode cX7_readCase 12 = .ok (.aload_n 0, 1) := by decide +kernel
theorem dX7_readCase_13 : decode cX7_readCase 13 = .ok (.invokevirtual 134, 3) := by decide +kernel
theorem dX7_readCase_16 : decode cX7_readCase 16 = .ok (.istore_n 2, 1) := by decide +kernel
theorem dX7_readCase_17 : decode cX7_readCase 17 = .ok (.iload_n 2, 1) := by decide +kernel
theorem dX7_readCase_18 : decode cX7_readCase 18 = .ok (.invokestatic 131, 3) := by decide +kernel
theorem dX7_readCase_21 : decode cX7_readCase 21 = .ok (.ifCond .ne 8, 3) := by decide +kernel
theorem dX7_readCase_24 : decode cX7_readCase 24 = .ok (.aload_n 0, 1) := by decide +kernel
theorem dX7_readCase_25 : decode cX7_readCase 25 = .ok (.iconst 1, 1) := by decide +kernel
theorem dX7_readCase_26 : decode cX7_readCase 26 = .ok (.putfield 138, 3) := by decide +kernel
theorem dX7_readCase_29 : decode cX7_readCase 29 = .ok (.iconst 1, 1) := by decide +kernel
theorem dX7_readCase_30 : decode cX7_readCase 30 = .ok (.istore_n 3, 1) := by decide +kernel
theorem dX7_readCase_31 : decode cX7_readCase 31 = .ok (.iload_n 3, 1) := by decide +kernel
theorem dX7_readCase_32 : decode cX7_readCase 32 = .ok (.aload_n 0, 1) := by decide +kernel
theorem dX7_readCase_33 : decode cX7_readCase 33 = .ok (.getfield 33, 3) := by decide +kernel
theorem dX7_readCase_36 : decode cX7_readCase 36 = .ok (.iload_n 1, 1) := by decide +kernel
theorem dX7_readCase_37 : decode cX7_readCase 37 = .ok (.iaload, 1) := by decide +kernel
theorem dX7_readCase_38 : decode cX7_readCase 38 = .ok (.if_icmp .ge 32, 3) := by decide +kernel
theorem dX7_readCase_41 : decode cX7_readCase 41 = .ok (.aload_n 0, 1) := by decide +kernel
theorem dX7_readCase_42 : decode cX7_readCase 42 = .ok (.getfield 24, 3) := by decide +kernel
theorem dX7_readCase_45 : decode cX7_readCase 45 = .ok (.aload_n 0, 1) := by decide +kernel
theorem dX7_readCase_46 : decode cX7_readCase 46 = .ok (.iload_n 1, 1) := by decide +kernel
theorem dX7_readCase_47 : decode cX7_readCase 47 = .ok (.iload_n 3, 1) := by decide +kernel
theorem dX7_readCase_48 : decode cX7_readCase 48 = .ok (.invokevirtual 220, 3) := by decide +kernel
theorem dX7_readCase_51 : decode cX7_readCase 51 = .ok (.iaload, 1) := by decide +kernel
theorem dX7_readCase_52 : decode cX7_readCase 52 = .ok (.iload_n 2, 1) := by decide +kernel
theorem dX7_readCase_53 : decode cX7_readCase 53 = .ok (.bipush 65, 2) := by decide +kernel
theorem dX7_readCase_55 : decode cX7_readCase 55 = .ok (.isub, 1) := by decide +kernel
theorem dX7_readCase_56 : decode cX7_readCase 56 = .ok (.if_icmp .ne 8, 3) := by decide +kernel
theorem dX7_readCase_59 : decode cX7_readCase 59 = .ok (.aload_n 0, 1) := by decide +kernel
theorem dX7_readCase_60 : decode cX7_readCase 60 = .ok (.iconst 1, 1) := by decide +kernel
theorem dX7_readCase_61 : decode cX7_readCase 61 = .ok (.putfield 138, 3) := by decide +kernel
theorem dX7_readCase_64 : decode cX7_readCase 64 = .ok (.iinc 3 1, 3) := by decide +kernel
theorem dX7_readCase_67 : decode cX7_readCase 67 = .ok (.goto (-36), 3) := by decide +kernel
theorem dX7_readCase_70 : decode cX7_readCase 70 = .ok (.aload_n 0, 1) := by decide +kernel
theorem dX7_readCase_71 : decode cX7_readCase 71 = .ok (.getfield 138, 3) := by decide +kernel
theorem dX7_readCase_74 : decode cX7_readCase 74 = .ok (.ifCond .eq 4, 3) := by decide +kernel
theorem dX7_readCase_77 : decode cX7_readCase 77 = .ok (.return_, 1) := by decide +kernel
theorem dX7_readCase_78 : decode cX7_readCase 78 = .ok (.aload_n 0, 1) := by decide +kernel
theorem dX7_readCase_79 : decode cX7_readCase 79 = .ok (.dup, 1) := by decide +kernel
theorem dX7_readCase_80 : decode cX7_readCase 80 = .ok (.getfield 118, 3) := by decide +kernel
theorem dX7_readCase_83 : decode cX7_readCase 83 = .ok (.iconst 1, 1) := by decide +kernel
theorem dX7_readCase_84 : decode cX7_readCase 84 = .ok (.iadd, 1) := by decide +kernel
theorem dX7_readCase_85 : decode cX7_readCase 85 = .ok (.putfield 118, 3) := by decide +kernel
theorem dX7_readCase_88 : decode cX7_readCase 88 = .ok (.aload_n 0, 1) := by decide +kernel
theorem dX7_readCase_89 : decode cX7_readCase 89 = .ok (.bipush 9, 2) := by decide +kernel
theorem dX7_readCase_91 : decode cX7_readCase 91 = .ok (.iload_n 2, 1) := by decide +kernel
theorem dX7_readCase_92 : decode cX7_readCase 92 = .ok (.bipush 65, 2) := by decide +kernel
theorem dX7_readCase_94 : decode cX7_readCase 94 = .ok (.isub, 1) := by decide +kernel
theorem dX7_readCase_95 : decode cX7_readCase 95 = .ok (.invokevirtual 180, 3) := by decide +kernel
theorem dX7_readCase_98 : decode cX7_readCase 98 = .ok (.istore_n 3, 1) := by decide +kernel
theorem dX7_readCase_99 : decode cX7_readCase 99 = .ok (.aload_n 0, 1) := by decide +kernel
theorem dX7_readCase_100 : decode cX7_readCase 100 = .ok (.iload_n 1, 1) := by decide +kernel
theorem dX7_readCase_101 : decode cX7_readCase 101 = .ok (.iload_n 3, 1) := by decide +kernel
theorem dX7_readCase_102 : decode cX7_readCase 102 = .ok (.invokevirtual 194, 3) := by decide +kernel
theorem dX7_readCase_105 : decode cX7_readCase 105 = .ok (.aload_n 0, 1) := by decide +kernel
theorem dX7_readCase_106 : decode cX7_readCase 106 = .ok (.getfield 145, 3) := by decide +kernel
theorem dX7_readCase_109 : decode cX7_readCase 109 = .ok (.istore 4, 2) := by decide +kernel
theorem dX7_readCase_111 : decode cX7_readCase 111 = .ok (.iconst 0, 1) := by decide +kernel
theorem dX7_readCase_112 : decode cX7_readCase 112 = .ok (.istore 5, 2) := by decide +kernel
theorem dX7_readCase_114 : decode cX7_readCase 114 = .ok (.iload 5, 2) := by decide +kernel
theorem dX7_readCase_116 : decode cX7_readCase 116 = .ok (.aload_n 0, 1) := by decide +kernel
theorem dX7_readCase_117 : decode cX7_readCase 117 = .ok (.getfield 24, 3) := by decide +kernel
theorem dX7_readCase_120 : decode cX7_readCase 120 = .ok (.iload_n 3, 1) := by decide +kernel
theorem dX7_readCase_121 : decode cX7_readCase 121 = .ok (.iaload, 1) := by decide +kernel
theorem dX7_readCase_122 : decode cX7_readCase 122 = .ok (.iconst 4, 1) := by decide +kernel
theorem dX7_readCase_123 : decode cX7_readCase 123 = .ok (.irem, 1) := by decide +kernel
theorem dX7_readCase_124 : decode cX7_readCase 124 = .ok (.if_icmp .ge 73, 3) := by decide +kernel
theorem dX7_readCase_127 : decode cX7_readCase 127 = .ok (.aload_n 0, 1) := by decide +kernel
theorem dX7_readCase_128 : decode cX7_readCase 128 = .ok (.getfield 138, 3) := by decide +kernel
theorem dX7_readCase_131 : decode cX7_readCase 131 = .ok (.ifCond .ne 66, 3) := by decide +kernel
theorem dX7_readCase_134 : decode cX7_readCase 134 = .ok (.iload 4, 2) := by decide +kernel
theorem dX7_readCase_136 : decode cX7_readCase 136 = .ok (.istore 6, 2) := by decide +kernel
theorem dX7_readCase_138 : decode cX7_readCase 138 = .ok (.iload 6, 2) := by decide +kernel
theorem dX7_readCase_140 : decode cX7_readCase 140 = .ok (.aload_n 0, 1) := by decide +kernel
theorem dX7_readCase_141 : decode cX7_readCase 141 = .ok (.getfield 145, 3) := by decide +kernel
theorem dX7_readCase_144 : decode cX7_readCase 144 = .ok (.if_icmp .ge 28, 3) := by decide +kernel
theorem dX7_readCase_147 : decode cX7_readCase 147 = .ok (.aload_n 0, 1) := by decide +kernel
theorem dX7_readCase_148 : decode cX7_readCase 148 = .ok (.getfield 40, 3) := by decide +kernel
theorem dX7_readCase_151 : decode cX7_readCase 151 = .ok (.iload 6, 2) := by decide +kernel
theorem dX7_readCase_153 : decode cX7_readCase 153 = .ok (.caload, 1) := by decide +kernel
theorem dX7_readCase_154 : decode cX7_readCase 154 = .ok (.aload_n 0, 1) := by decide +kernel
theorem dX7_readCase_155 : decode cX7_readCase 155 = .ok (.invokevirtual 134, 3) := by decide +kernel
theorem dX7_readCase_158 : decode cX7_readCase 158 = .ok (.if_icmp .ne 8, 3) := by decide +kernel
theorem dX7_readCase_161 : decode cX7_readCase 161 = .ok (.aload_n 0, 1) := by decide +kernel
theorem dX7_readCase_162 : decode cX7_readCase 162 = .ok (.iconst 1, 1) := by decide +kernel
theorem dX7_readCase_163 : decode cX7_readCase 163 = .ok (.putfield 138, 3) := by decide +kernel
theorem dX7_readCase_166 : decode cX7_readCase 166 = .ok (.iinc 6 1, 3) := by decide +kernel
theorem dX7_readCase_169 : decode cX7_readCase 169 = .ok (.goto (-31), 3) := by decide +kernel
theorem dX7_readCase_172 : decode cX7_readCase 172 = .ok (.aload_n 0, 1) := by decide +kernel
theorem dX7_readCase_173 : decode cX7_readCase 173 = .ok (.invokevirtual 160, 3) := by decide +kernel
theorem dX7_readCase_176 : decode cX7_readCase 176 = .ok (.istore 6, 2) := by decide +kernel
theorem dX7_readCase_178 : decode cX7_readCase 178 = .ok (.aload_n 0, 1) := by decide +kernel
theorem dX7_readCase_179 : decode cX7_readCase 179 = .ok (.getfield 138, 3) := by decide +kernel
theorem dX7_readCase_182 : decode cX7_readCase 182 = .ok (.ifCond .ne 9, 3) := by decide +kernel
theorem dX7_readCase_185 : decode cX7_readCase 185 = .ok (.aload_n 0, 1) := by decide +kernel
theorem dX7_readCase_186 : decode cX7_readCase 186 = .ok (.iload 6, 2) := by decide +kernel
theorem dX7_readCase_188 : decode cX7_readCase 188 = .ok (.invokevirtual 163, 3) := by decide +kernel
theorem dX7_readCase_191 : decode cX7_readCase 191 = .ok (.iinc 5 1, 3) := by decide +kernel
theorem dX7_readCase_194 : decode cX7_readCase 194 = .ok (.goto (-80), 3) := by decide +kernel
theorem dX7_readCase_197 : decode cX7_readCase 197 = .ok (.aload_n 0, 1) := by decide +kernel
theorem dX7_readCase_198 : decode cX7_readCase 198 = .ok (.getfield 138, 3) := by decide +kernel
theorem dX7_readCase_201 : decode cX7_readCase 201 = .ok (.ifCond .ne 9, 3) := by decide +kernel
theorem dX7_readCase_204 : decode cX7_readCase 204 = .ok (.aload_n 0, 1) := by decide +kernel
theorem dX7_readCase_205 : decode cX7_readCase 205 = .ok (.bipush 58, 2) := by decide +kernel
theorem dX7_readCase_207 : decode cX7_readCase 207 = .ok (.invokevirtual 184, 3) := by decide +kernel
theorem dX7_readCase_210 : decode cX7_readCase 210 = .ok (.aload_n 0, 1) := by decide +kernel
theorem dX7_readCase_211 : decode cX7_readCase 211 = .ok (.iconst 5, 1) := by decide +kernel
theorem dX7_readCase_212 : decode cX7_readCase 212 = .ok (.iload_n 3, 1) := by decide +kernel
theorem dX7_readCase_213 : decode cX7_readCase 213 = .ok (.invokevirtual 174, 3) := by decide +kernel
theorem dX7_readCase_216 : decode cX7_readCase 216 = .ok (.aload_n 0, 1) := by decide +kernel
theorem dX7_readCase_217 : decode cX7_readCase 217 = .ok (.getfield 138, 3) := by decide +kernel
theorem dX7_readCase_220 : decode cX7_readCase 220 = .ok (.ifCond .ne 16, 3) := by decide +kernel
theorem dX7_readCase_223 : decode cX7_readCase 223 = .ok (.aload_n 0, 1) := by decide +kernel
theorem dX7_readCase_224 : decode cX7_readCase 224 = .ok (.getfield 49, 3) := by decide +kernel
theorem dX7_readCase_227 : decode cX7_readCase 227 = .ok (.aload_n 0, 1) := by decide +kernel
theorem dX7_readCase_228 : decode cX7_readCase 228 = .ok (.getfield 148, 3) := by decide +kernel
theorem dX7_readCase_231 : decode cX7_readCase 231 = .ok (.iconst 1, 1) := by decide +kernel
theorem dX7_readCase_232 : decode cX7_readCase 232 = .ok (.isub, 1) := by decide +kernel
theorem dX7_readCase_233 : decode cX7_readCase 233 = .ok (.iload 4, 2) := by decide +kernel
theorem dX7_readCase_235 : decode cX7_readCase 235 = .ok (.iastore, 1) := by decide +kernel
theorem dX7_readCase_236 : decode cX7_readCase 236 = .ok (.return_, 1) := by decide +kernel
theorem dX7_completed_0 : decode cX7_completed 0 = .ok (.iload_n 1, 1) := by decide +kernel
theorem dX7_completed_1 : decode cX7_completed 1 = .ok (.istore_n 2, 1) := by decide +kernel
theorem dX7_completed_2 : decode cX7_completed 2 = .ok (.aload_n 0, 1) := by decide +kernel
theorem dX7_completed_3 : decode cX7_completed 3 = .ok (.getfield 148, 3) := by decide +kernel
theorem dX7_completed_6 : decode cX7_completed 6 = .ok (.iconst 1, 1) := by decide +kernel
theorem dX7_completed_7 : decode cX7_completed 7 = .ok (.isub, 1) := by decide +kernel
theorem dX7_completed_8 : decode cX7_completed 8 = .ok (.istore_n 3, 1) := by decide +kernel
theorem dX7_completed_9 : decode cX7_completed 9 = .ok (.aload_n 0, 1) := by decide +kernel
theorem dX7_completed_10 : decode cX7_completed 10 = .ok (.getfield 151, 3) := by decide +kernel
theorem dX7_completed_13 : decode cX7_completed 13 = .ok (.aload_n 0, 1) := by decide +kernel
theorem dX7_completed_14 : decode cX7_completed 14 = .ok (.getfield 46, 3) := by decide +kernel
theorem dX7_completed_17 : decode cX7_completed 17 = .ok (.iload_n 3, 1) := by decide +kernel
theorem dX7_completed_18 : decode cX7_completed 18 = .ok (.iaload, 1) := by decide +kernel
theorem dX7_completed_19 : decode cX7_completed 19 = .ok (.if_icmp .le 69, 3) := by decide +kernel
theorem dX7_completed_22 : decode cX7_completed 22 = .ok (.aload_n 0, 1) := by decide +kernel
theorem dX7_completed_23 : decode cX7_completed 23 = .ok (.dup, 1) := by decide +kernel
theorem dX7_completed_24 : decode cX7_completed 24 = .ok (.getfield 151, 3) := by decide +kernel
theorem dX7_completed_27 : decode cX7_completed 27 = .ok (.iconst 1, 1) := by decide +kernel
theorem dX7_completed_28 : decode cX7_completed 28 = .ok (.isub, 1) := by decide +kernel
theorem dX7_completed_29 : decode cX7_completed 29 = .ok (.putfield 151, 3) := by decide +kernel
theorem dX7_completed_32 : decode cX7_completed 32 = .ok (.aload_n 0, 1) := by decide +kernel
theorem dX7_completed_33 : decode cX7_completed 33 = .ok (.aload_n 0, 1) := by decide +kernel
theorem dX7_completed_34 : decode cX7_completed 34 = .ok (.getfield 67, 3) := by decide +kernel
theorem dX7_completed_37 : decode cX7_completed 37 = .ok (.aload_n 0, 1) := by decide +kernel
theorem dX7_completed_38 : decode cX7_completed 38 = .ok (.getfield 151, 3) := by decide +kernel
theorem dX7_completed_41 : decode cX7_completed 41 = .ok (.iaload, 1) := by decide +kernel
theorem dX7_completed_42 : decode cX7_completed 42 = .ok (.iconst 0, 1) := by decide +kernel
theorem dX7_completed_43 : decode cX7_completed 43 = .ok (.invokevirtual 180, 3) := by decide +kernel
theorem dX7_completed_46 : decode cX7_completed 46 = .ok (.istore 4, 2) := by decide +kernel
theorem dX7_completed_48 : decode cX7_completed 48 = .ok (.aload_n 0, 1) := by decide +kernel
theorem dX7_completed_49 : decode cX7_completed 49 = .ok (.getfield 70, 3) := by decide +kernel
theorem dX7_completed_52 : decode cX7_completed 52 = .ok (.aload_n 0, 1) := by decide +kernel
theorem dX7_completed_53 : decode cX7_completed 53 = .ok (.getfield 151, 3) := by decide +kernel
theorem dX7_completed_56 : decode cX7_completed 56 = .ok (.iaload, 1) := by decide +kernel
theorem dX7_completed_57 : decode cX7_completed 57 = .ok (.ifCond .lt 18, 3) := by decide +kernel
theorem dX7_completed_60 : decode cX7_completed 60 = .ok (.aload_n 0, 1) := by decide +kernel
theorem dX7_completed_61 : decode cX7_completed 61 = .ok (.iload 4, 2) := by decide +kernel
theorem dX7_completed_63 : decode cX7_completed 63 = .ok (.aload_n 0, 1) := by decide +kernel
theorem dX7_completed_64 : decode cX7_completed 64 = .ok (.getfield 70, 3) := by decide +kernel
theorem dX7_completed_67 : decode cX7_completed 67 = .ok (.aload_n 0, 1) := by decide +kernel
theorem dX7_completed_68 : decode cX7_completed 68 = .ok (.getfield 151, 3) := by decide +kernel
theorem dX7_completed_71 : decode cX7_completed 71 = .ok (.iaload, 1) := by decide +kernel
theorem dX7_completed_72 : decode cX7_completed 72 = .ok (.invokevirtual 194, 3) := by decide +kernel
theorem dX7_completed_75 : decode cX7_completed 75 = .ok (.aload_n 0, 1) := by decide +kernel
theorem dX7_completed_76 : decode cX7_completed 76 = .ok (.iload 4, 2) := by decide +kernel
theorem dX7_completed_78 : decode cX7_completed 78 = .ok (.iload_n 2, 1) := by decide +kernel
theorem dX7_completed_79 : decode cX7_completed 79 = .ok (.invokevirtual 194, 3) := by decide +kernel
theorem dX7_completed_82 : decode cX7_completed 82 = .ok (.iload 4, 2) := by decide +kernel
theorem dX7_completed_84 : decode cX7_completed 84 = .ok (.istore_n 2, 1) := by decide +kernel
theorem dX7_completed_85 : decode cX7_completed 85 = .ok (.goto (-76), 3) := by decide +kernel
theorem dX7_completed_88 : decode cX7_completed 88 = .ok (.aload_n 0, 1) := by decide +kernel
theorem dX7_completed_89 : decode cX7_completed 89 = .ok (.aload_n 0, 1) := by decide +kernel
theorem dX7_completed_90 : decode cX7_completed 90 = .ok (.getfield 49, 3) := by decide +kernel
theorem dX7_completed_93 : decode cX7_completed 93 = .ok (.iload_n 3, 1) := by decide +kernel
theorem dX7_completed_94 : decode cX7_completed 94 = .ok (.iaload, 1) := by decide +kernel
theorem dX7_completed_95 : decode cX7_completed 95 = .ok (.putfield 145, 3) := by decide +kernel
theorem dX7_completed_98 : decode cX7_completed 98 = .ok (.aload_n 0, 1) := by decide +kernel
theorem dX7_completed_99 : decode cX7_completed 99 = .ok (.dup, 1) := by decide +kernel
theorem dX7_completed_100 : decode cX7_completed 100 = .ok (.getfield 148, 3) := by decide +kernel
theorem dX7_completed_103 : decode cX7_completed 103 = .ok (.iconst 1, 1) := by decide +kernel
theorem dX7_completed_104 : decode cX7_completed 104 = .ok (.isub, 1) := by decide +kernel
theorem dX7_completed_105 : decode cX7_completed 105 = .ok (.putfield 148, 3) := by decide +kernel
theorem dX7_completed_108 : decode cX7_completed 108 = .ok (.aload_n 0, 1) := by decide +kernel
theorem dX7_completed_109 : decode cX7_completed 109 = .ok (.getfield 43, 3) := by decide +kernel
theorem dX7_completed_112 : decode cX7_completed 112 = .ok (.iload_n 3, 1) := by decide +kernel
theorem dX7_completed_113 : decode cX7_completed 113 = .ok (.iaload, 1) := by decide +kernel
theorem dX7_completed_114 : decode cX7_completed 114 = .ok (.tableswitch 137 0 7 #[46, 137, 137, 106, 118, 137, 73, 73], 46) := by decide +kernel
theorem dX7_completed_160 : decode cX7_completed 160 = .ok (.aload_n 0, 1) := by decide +kernel
theorem dX7_completed_161 : decode cX7_completed 161 = .ok (.iload_n 2, 1) := by decide +kernel
theorem dX7_completed_162 : decode cX7_completed 162 = .ok (.putfield 223, 3) := by decide +kernel
theorem dX7_completed_165 : decode cX7_completed 165 = .ok (.aload_n 0, 1) := by decide +kernel
theorem dX7_completed_166 : decode cX7_completed 166 = .ok (.getfield 118, 3) := by decide +kernel
theorem dX7_completed_169 : decode cX7_completed 169 = .ok (.aload_n 0, 1) := by decide +kernel
theorem dX7_completed_170 : decode cX7_completed 170 = .ok (.getfield 121, 3) := by decide +kernel
theorem dX7_completed_173 : decode cX7_completed 173 = .ok (.if_icmp .ge 8, 3) := by decide +kernel
theorem dX7_completed_176 : decode cX7_completed 176 = .ok (.aload_n 0, 1) := by decide +kernel
theorem dX7_completed_177 : decode cX7_completed 177 = .ok (.iconst 1, 1) := by decide +kernel
theorem dX7_completed_178 : decode cX7_completed 178 = .ok (.putfield 138, 3) := by decide +kernel
theorem dX7_completed_181 : decode cX7_completed 181 = .ok (.aload_n 0, 1) := by decide +kernel
theorem dX7_completed_182 : decode cX7_completed 182 = .ok (.iconst 4, 1) := by decide +kernel
theorem dX7_completed_183 : decode cX7_completed 183 = .ok (.putfield 157, 3) := by decide +kernel
theorem dX7_completed_186 : decode cX7_completed 186 = .ok (.return_, 1) := by decide +kernel
theorem dX7_completed_187 : decode cX7_completed 187 = .ok (.aload_n 0, 1) := by decide +kernel
theorem dX7_completed_188 : decode cX7_completed 188 = .ok (.bipush 59, 2) := by decide +kernel
theorem dX7_completed_190 : decode cX7_completed 190 = .ok (.invokevirtual 184, 3) := by decide +kernel
theorem dX7_completed_193 : decode cX7_completed 193 = .ok (.aload_n 0, 1) := by decide +kernel
theorem dX7_completed_194 : decode cX7_completed 194 = .ok (.aload_n 0, 1) := by decide +kernel
theorem dX7_completed_195 : decode cX7_completed 195 = .ok (.getfield 58, 3) := by decide +kernel
theorem dX7_completed_198 : decode cX7_completed 198 = .ok (.iload_n 3, 1) := by decide +kernel
theorem dX7_completed_199 : decode cX7_completed 199 = .ok (.caload, 1) := by decide +kernel
theorem dX7_completed_200 : decode cX7_completed 200 = .ok (.invokevirtual 163, 3) := by decide +kernel
theorem dX7_completed_203 : decode cX7_completed 203 = .ok (.aload_n 0, 1) := by decide +kernel
theorem dX7_completed_204 : decode cX7_completed 204 = .ok (.aload_n 0, 1) := by decide +kernel
theorem dX7_completed_205 : decode cX7_completed 205 = .ok (.getfield 43, 3) := by decide +kernel
theorem dX7_completed_208 : decode cX7_completed 208 = .ok (.iload_n 3, 1) := by decide +kernel
theorem dX7_completed_209 : decode cX7_completed 209 = .ok (.iaload, 1) := by decide +kernel
theorem dX7_completed_210 : decode cX7_completed 210 = .ok (.iload_n 2, 1) := by decide +kernel
theorem dX7_completed_211 : decode cX7_completed 211 = .ok (.invokevirtual 167, 3) := by decide +kernel
theorem dX7_completed_214 : decode cX7_completed 214 = .ok (.aload_n 0, 1) := by decide +kernel
theorem dX7_completed_215 : decode cX7_completed 215 = .ok (.iconst 0, 1) := by decide +kernel
theorem dX7_completed_216 : decode cX7_completed 216 = .ok (.putfield 157, 3) := by decide +kernel
theorem dX7_completed_219 : decode cX7_completed 219 = .ok (.return_, 1) := by decide +kernel
theorem dX7_completed_220 : decode cX7_completed 220 = .ok (.aload_n 0, 1) := by decide +kernel
theorem dX7_completed_221 : decode cX7_completed 221 = .ok (.aload_n 0, 1) := by decide +kernel
theorem dX7_completed_222 : decode cX7_completed 222 = .ok (.getfield 55, 3) := by decide +kernel
theorem dX7_completed_225 : decode cX7_completed 225 = .ok (.iload_n 3, 1) := by decide +kernel
theorem dX7_completed_226 : decode cX7_completed 226 = .ok (.iaload, 1) := by decide +kernel
theorem dX7_completed_227 : decode cX7_completed 227 = .ok (.iload_n 2, 1) := by decide +kernel
theorem dX7_completed_228 : decode cX7_completed 228 = .ok (.invokevirtual 226, 3) := by decide +kernel
theorem dX7_completed_231 : decode cX7_completed 231 = .ok (.return_, 1) := by decide +kernel
theorem dX7_completed_232 : decode cX7_completed 232 = .ok (.aload_n 0, 1) := by decide +kernel
theorem dX7_completed_233 : decode cX7_completed 233 = .ok (.bipush 41, 2) := by decide +kernel
theorem dX7_completed_235 : decode cX7_completed 235 = .ok (.invokevirtual 184, 3) := by decide +kernel
theorem dX7_completed_238 : decode cX7_completed 238 = .ok (.aload_n 0, 1) := by decide +kernel
theorem dX7_completed_239 : decode cX7_completed 239 = .ok (.getfield 36, 3) := by decide +kernel
theorem dX7_completed_242 : decode cX7_completed 242 = .ok (.iload_n 2, 1) := by decide +kernel
theorem dX7_completed_243 : decode cX7_completed 243 = .ok (.iconst 1, 1) := by decide +kernel
theorem dX7_completed_244 : decode cX7_completed 244 = .ok (.bastore, 1) := by decide +kernel
theorem dX7_completed_245 : decode cX7_completed 245 = .ok (.aload_n 0, 1) := by decide +kernel
theorem dX7_completed_246 : decode cX7_completed 246 = .ok (.iload_n 2, 1) := by decide +kernel
theorem dX7_completed_247 : decode cX7_completed 247 = .ok (.invokevirtual 197, 3) := by decide +kernel
theorem dX7_completed_250 : decode cX7_completed 250 = .ok (.return_, 1) := by decide +kernel
theorem dX7_completed_251 : decode cX7_completed 251 = .ok (.aload_n 0, 1) := by decide +kernel
theorem dX7_completed_252 : decode cX7_completed 252 = .ok (.bipush 59, 2) := by decide +kernel
theorem dX7_completed_254 : decode cX7_completed 254 = .ok (.invokevirtual 184, 3) := by decide +kernel
theorem dX7_completed_257 : decode cX7_completed 257 = .ok (.aload_n 0, 1) := by decide +kernel
theorem dX7_completed_258 : decode cX7_completed 258 = .ok (.aload_n 0, 1) := by decide +kernel
theorem dX7_completed_259 : decode cX7_completed 259 = .ok (.getfield 55, 3) := by decide +kernel
theorem dX7_completed_262 : decode cX7_completed 262 = .ok (.iload_n 3, 1) := by decide +kernel
theorem dX7_completed_263 : decode cX7_completed 263 = .ok (.iaload, 1) := by decide +kernel
theorem dX7_completed_264 : decode cX7_completed 264 = .ok (.iload_n 2, 1) := by decide +kernel
theorem dX7_completed_265 : decode cX7_completed 265 = .ok (.invokevirtual 194, 3) := by decide +kernel
theorem dX7_completed_268 : decode cX7_completed 268 = .ok (.aload_n 0, 1) := by decide +kernel
theorem dX7_completed_269 : decode cX7_completed 269 = .ok (.iconst 3, 1) := by decide +kernel
theorem dX7_completed_270 : decode cX7_completed 270 = .ok (.putfield 157, 3) := by decide +kernel
theorem dX7_completed_273 : decode cX7_completed 273 = .ok (.aload_n 0, 1) := by decide +kernel
theorem dX7_completed_274 : decode cX7_completed 274 = .ok (.invokevirtual 229, 3) := by decide +kernel
theorem dX7_completed_277 : decode cX7_completed 277 = .ok (.return_, 1) := by decide +kernel
theorem dX7_fieldEnds_0 : decode cX7_fieldEnds 0 = .ok (.aload_n 0, 1) := by decide +kernel
theorem dX7_fieldEnds_1 : decode cX7_fieldEnds 1 = .ok (.iload_n 1, 1) := by decide +kernel
theorem dX7_fieldEnds_2 : decode cX7_fieldEnds 2 = .ok (.iload_n 2, 1) := by decide +kernel
theorem dX7_fieldEnds_3 : decode cX7_fieldEnds 3 = .ok (.invokevirtual 194, 3) := by decide +kernel
theorem dX7_fieldEnds_6 : decode cX7_fieldEnds 6 = .ok (.aload_n 0, 1) := by decide +kernel
theorem dX7_fieldEnds_7 : decode cX7_fieldEnds 7 = .ok (.getfield 33, 3) := by decide +kernel
theorem dX7_fieldEnds_10 : decode cX7_fieldEnds 10 = .ok (.iload_n 1, 1) := by decide +kernel
theorem dX7_fieldEnds_11 : decode cX7_fieldEnds 11 = .ok (.iaload, 1) := by decide +kernel
theorem dX7_fieldEnds_12 : decode cX7_fieldEnds 12 = .ok (.aload_n 0, 1) := by decide +kernel
theorem dX7_fieldEnds_13 : decode cX7_fieldEnds 13 = .ok (.getfield 24, 3) := by decide +kernel
theorem dX7_fieldEnds_16 : decode cX7_fieldEnds 16 = .ok (.iload_n 1, 1) := by decide +kernel
theorem dX7_fieldEnds_17 : decode cX7_fieldEnds 17 = .ok (.iaload, 1) := by decide +kernel
theorem dX7_fieldEnds_18 : decode cX7_fieldEnds 18 = .ok (.iconst 4, 1) := by decide +kernel
theorem dX7_fieldEnds_19 : decode cX7_fieldEnds 19 = .ok (.irem, 1) := by decide +kernel
theorem dX7_fieldEnds_20 : decode cX7_fieldEnds 20 = .ok (.if_icmp .ge 23, 3) := by decide +kernel
theorem dX7_fieldEnds_23 : decode cX7_fieldEnds 23 = .ok (.aload_n 0, 1) := by decide +kernel
theorem dX7_fieldEnds_24 : decode cX7_fieldEnds 24 = .ok (.bipush 44, 2) := by decide +kernel
theorem dX7_fieldEnds_26 : decode cX7_fieldEnds 26 = .ok (.invokevirtual 184, 3) := by decide +kernel
theorem dX7_fieldEnds_29 : decode cX7_fieldEnds 29 = .ok (.aload_n 0, 1) := by decide +kernel
theorem dX7_fieldEnds_30 : decode cX7_fieldEnds 30 = .ok (.getfield 138, 3) := by decide +kernel
theorem dX7_fieldEnds_33 : decode cX7_fieldEnds 33 = .ok (.ifCond .ne 9, 3) := by decide +kernel
theorem dX7_fieldEnds_36 : decode cX7_fieldEnds 36 = .ok (.aload_n 0, 1) := by decide +kernel
theorem dX7_fieldEnds_37 : decode cX7_fieldEnds 37 = .ok (.iconst 3, 1) := by decide +kernel
theorem dX7_fieldEnds_38 : decode cX7_fieldEnds 38 = .ok (.iload_n 1, 1) := by decide +kernel
theorem dX7_fieldEnds_39 : decode cX7_fieldEnds 39 = .ok (.invokevirtual 174, 3) := by decide +kernel
theorem dX7_fieldEnds_42 : decode cX7_fieldEnds 42 = .ok (.return_, 1) := by decide +kernel
theorem dX7_fieldEnds_43 : decode cX7_fieldEnds 43 = .ok (.aload_n 0, 1) := by decide +kernel
theorem dX7_fieldEnds_44 : decode cX7_fieldEnds 44 = .ok (.bipush 41, 2) := by decide +kernel
theorem dX7_fieldEnds_46 : decode cX7_fieldEnds 46 = .ok (.invokevirtual 184, 3) := by decide +kernel
theorem dX7_fieldEnds_49 : decode cX7_fieldEnds 49 = .ok (.aload_n 0, 1) := by decide +kernel
theorem dX7_fieldEnds_50 : decode cX7_fieldEnds 50 = .ok (.iload_n 1, 1) := by decide +kernel
theorem dX7_fieldEnds_51 : decode cX7_fieldEnds 51 = .ok (.invokevirtual 197, 3) := by decide +kernel
theorem dX7_fieldEnds_54 : decode cX7_fieldEnds 54 = .ok (.return_, 1) := by decide +kernel
theorem dX7_caseEnds_0 : decode cX7_caseEnds 0 = .ok (.aload_n 0, 1) := by decide +kernel
theorem dX7_caseEnds_1 : decode cX7_caseEnds 1 = .ok (.aload_n 0, 1) := by decide +kernel
theorem dX7_caseEnds_2 : decode cX7_caseEnds 2 = .ok (.getfield 138, 3) := by decide +kernel
theorem dX7_caseEnds_5 : decode cX7_caseEnds 5 = .ok (.ifCond .ne 16, 3) := by decide +kernel
theorem dX7_caseEnds_8 : decode cX7_caseEnds 8 = .ok (.aload_n 0, 1) := by decide +kernel
theorem dX7_caseEnds_9 : decode cX7_caseEnds 9 = .ok (.invokevirtual 134, 3) := by decide +kernel
theorem dX7_caseEnds_12 : decode cX7_caseEnds 12 = .ok (.bipush 125, 2) := by decide +kernel
theorem dX7_caseEnds_14 : decode cX7_caseEnds 14 = .ok (.if_icmp .ne 7, 3) := by decide +kernel
theorem dX7_caseEnds_17 : decode cX7_caseEnds 17 = .ok (.iconst 1, 1) := by decide +kernel
theorem dX7_caseEnds_18 : decode cX7_caseEnds 18 = .ok (.goto 4, 3) := by decide +kernel
theorem dX7_caseEnds_21 : decode cX7_caseEnds 21 = .ok (.iconst 0, 1) := by decide +kernel
theorem dX7_caseEnds_22 : decode cX7_caseEnds 22 = .ok (.putfield 232, 3) := by decide +kernel
theorem dX7_caseEnds_25 : decode cX7_caseEnds 25 = .ok (.return_, 1) := by decide +kernel
theorem dX7_readText_0 : decode cX7_readText 0 = .ok (.aload_n 0, 1) := by decide +kernel
theorem dX7_readText_1 : decode cX7_readText 1 = .ok (.iconst 0, 1) := by decide +kernel
theorem dX7_readText_2 : decode cX7_readText 2 = .ok (.putfield 142, 3) := by decide +kernel
theorem dX7_readText_5 : decode cX7_readText 5 = .ok (.aload_n 0, 1) := by decide +kernel
theorem dX7_readText_6 : decode cX7_readText 6 = .ok (.iconst 0, 1) := by decide +kernel
theorem dX7_readText_7 : decode cX7_readText 7 = .ok (.putfield 145, 3) := by decide +kernel
theorem dX7_readText_10 : decode cX7_readText 10 = .ok (.aload_n 0, 1) := by decide +kernel
theorem dX7_readText_11 : decode cX7_readText 11 = .ok (.iconst 0, 1) := by decide +kernel
theorem dX7_readText_12 : decode cX7_readText 12 = .ok (.putfield 148, 3) := by decide +kernel
theorem dX7_readText_15 : decode cX7_readText 15 = .ok (.aload_n 0, 1) := by decide +kernel
theorem dX7_readText_16 : decode cX7_readText 16 = .ok (.iconst 0, 1) := by decide +kernel
theorem dX7_readText_17 : decode cX7_readText 17 = .ok (.putfield 151, 3) := by decide +kernel
theorem dX7_readText_20 : decode cX7_readText 20 = .ok (.aload_n 0, 1) := by decide +kernel
theorem dX7_readText_21 : decode cX7_readText 21 = .ok (.iconst 0, 1) := by decide +kernel
theorem dX7_readText_22 : decode cX7_readText 22 = .ok (.putfield 191, 3) := by decide +kernel
theorem dX7_readText_25 : decode cX7_readText 25 = .ok (.aload_n 0, 1) := by decide +kernel
theorem dX7_readText_26 : decode cX7_readText 26 = .ok (.iconst 0, 1) := by decide +kernel
theorem dX7_readText_27 : decode cX7_readText 27 = .ok (.putfield 154, 3) := by decide +kernel
theorem dX7_readText_30 : decode cX7_readText 30 = .ok (.aload_n 0, 1) := by decide +kernel
theorem dX7_readText_31 : decode cX7_readText 31 = .ok (.iconst 0, 1) := by decide +kernel
theorem dX7_readText_32 : decode cX7_readText 32 = .ok (.putfield 232, 3) := by decide +kernel
theorem dX7_readText_35 : decode cX7_readText 35 = .ok (.aload_n 0, 1) := by decide +kernel
theorem dX7_readText_36 : decode cX7_readText 36 = .ok (.iconst 0, 1) := by decide +kernel
theorem dX7_readText_37 : decode cX7_readText 37 = .ok (.iconst (-1), 1) := by decide +kernel
theorem dX7_readText_38 : decode cX7_readText 38 = .ok (.invokevirtual 174, 3) := by decide +kernel
theorem dX7_readText_41 : decode cX7_readText 41 = .ok (.aload_n 0, 1) := by decide +kernel
theorem dX7_readText_42 : decode cX7_readText 42 = .ok (.getfield 138, 3) := by decide +kernel
theorem dX7_readText_45 : decode cX7_readText 45 = .ok (.ifCond .ne 102, 3) := by decide +kernel
theorem dX7_readText_48 : decode cX7_readText 48 = .ok (.aload_n 0, 1) := by decide +kernel
theorem dX7_readText_49 : decode cX7_readText 49 = .ok (.getfield 157, 3) := by decide +kernel
theorem dX7_readText_52 : decode cX7_readText 52 = .ok (.iconst 4, 1) := by decide +kernel
theorem dX7_readText_53 : decode cX7_readText 53 = .ok (.if_icmp .eq 94, 3) := by decide +kernel
theorem dX7_readText_56 : decode cX7_readText 56 = .ok (.aload_n 0, 1) := by decide +kernel
theorem dX7_readText_57 : decode cX7_readText 57 = .ok (.getfield 232, 3) := by decide +kernel
theorem dX7_readText_60 : decode cX7_readText 60 = .ok (.ifCond .eq 36, 3) := by decide +kernel
theorem dX7_readText_63 : decode cX7_readText 63 = .ok (.aload_n 0, 1) := by decide +kernel
theorem dX7_readText_64 : decode cX7_readText 64 = .ok (.iconst 0, 1) := by decide +kernel
theorem dX7_readText_65 : decode cX7_readText 65 = .ok (.putfield 232, 3) := by decide +kernel
theorem dX7_readText_68 : decode cX7_readText 68 = .ok (.aload_n 0, 1) := by decide +kernel
theorem dX7_readText_69 : decode cX7_readText 69 = .ok (.dup, 1) := by decide +kernel
theorem dX7_readText_70 : decode cX7_readText 70 = .ok (.getfield 118, 3) := by decide +kernel
theorem dX7_readText_73 : decode cX7_readText 73 = .ok (.iconst 1, 1) := by decide +kernel
theorem dX7_readText_74 : decode cX7_readText 74 = .ok (.iadd, 1) := by decide +kernel
theorem dX7_readText_75 : decode cX7_readText 75 = .ok (.putfield 118, 3) := by decide +kernel
theorem dX7_readText_78 : decode cX7_readText 78 = .ok (.aload_n 0, 1) := by decide +kernel
theorem dX7_readText_79 : decode cX7_readText 79 = .ok (.aload_n 0, 1) := by decide +kernel
theorem dX7_readText_80 : decode cX7_readText 80 = .ok (.getfield 64, 3) := by decide +kernel
theorem dX7_readText_83 : decode cX7_readText 83 = .ok (.aload_n 0, 1) := by decide +kernel
theorem dX7_readText_84 : decode cX7_readText 84 = .ok (.getfield 148, 3) := by decide +kernel
theorem dX7_readText_87 : decode cX7_readText 87 = .ok (.iconst 1, 1) := by decide +kernel
theorem dX7_readText_88 : decode cX7_readText 88 = .ok (.isub, 1) := by decide +kernel
theorem dX7_readText_89 : decode cX7_readText 89 = .ok (.iaload, 1) := by decide +kernel
theorem dX7_readText_90 : decode cX7_readText 90 = .ok (.invokevirtual 217, 3) := by decide +kernel
theorem dX7_readText_93 : decode cX7_readText 93 = .ok (.goto (-52), 3) := by decide +kernel
theorem dX7_readText_96 : decode cX7_readText 96 = .ok (.aload_n 0, 1) := by decide +kernel
theorem dX7_readText_97 : decode cX7_readText 97 = .ok (.getfield 157, 3) := by decide +kernel
theorem dX7_readText_100 : decode cX7_readText 100 = .ok (.ifCond .ne 10, 3) := by decide +kernel
theorem dX7_readText_103 : decode cX7_readText 103 = .ok (.aload_n 0, 1) := by decide +kernel
theorem dX7_readText_104 : decode cX7_readText 104 = .ok (.invokevirtual 235, 3) := by decide +kernel
theorem dX7_readText_107 : decode cX7_readText 107 = .ok (.goto (-66), 3) := by decide +kernel
theorem dX7_readText_110 : decode cX7_readText 110 = .ok (.aload_n 0, 1) := by decide +kernel
theorem dX7_readText_111 : decode cX7_readText 111 = .ok (.getfield 157, 3) := by decide +kernel
theorem dX7_readText_114 : decode cX7_readText 114 = .ok (.iconst 1, 1) := by decide +kernel
theorem dX7_readText_115 : decode cX7_readText 115 = .ok (.if_icmp .ne 10, 3) := by decide +kernel
theorem dX7_readText_118 : decode cX7_readText 118 = .ok (.aload_n 0, 1) := by decide +kernel
theorem dX7_readText_119 : decode cX7_readText 119 = .ok (.invokevirtual 238, 3) := by decide +kernel
theorem dX7_readText_122 : decode cX7_readText 122 = .ok (.goto (-81), 3) := by decide +kernel
theorem dX7_readText_125 : decode cX7_readText 125 = .ok (.aload_n 0, 1) := by decide +kernel
theorem dX7_readText_126 : decode cX7_readText 126 = .ok (.getfield 157, 3) := by decide +kernel
theorem dX7_readText_129 : decode cX7_readText 129 = .ok (.iconst 2, 1) := by decide +kernel
theorem dX7_readText_130 : decode cX7_readText 130 = .ok (.if_icmp .ne 10, 3) := by decide +kernel
theorem dX7_readText_133 : decode cX7_readText 133 = .ok (.aload_n 0, 1) := by decide +kernel
theorem dX7_readText_134 : decode cX7_readText 134 = .ok (.invokevirtual 241, 3) := by decide +kernel
theorem dX7_readText_137 : decode cX7_readText 137 = .ok (.goto (-96), 3) := by decide +kernel
theorem dX7_readText_140 : decode cX7_readText 140 = .ok (.aload_n 0, 1) := by decide +kernel
theorem dX7_readText_141 : decode cX7_readText 141 = .ok (.invokevirtual 244, 3) := by decide +kernel
theorem dX7_readText_144 : decode cX7_readText 144 = .ok (.goto (-103), 3) := by decide +kernel
theorem dX7_readText_147 : decode cX7_readText 147 = .ok (.return_, 1) := by decide +kernel
theorem dX7_emit_0 : decode cX7_emit 0 = .ok (.aload_n 0, 1) := by decide +kernel
theorem dX7_emit_1 : decode cX7_emit 1 = .ok (.getfield 247, 3) := by decide +kernel
theorem dX7_emit_4 : decode cX7_emit 4 = .ok (.bipush 121, 2) := by decide +kernel
theorem dX7_emit_6 : decode cX7_emit 6 = .ok (.if_icmp .ge 43, 3) := by decide +kernel
theorem dX7_emit_9 : decode cX7_emit 9 = .ok (.aload_n 0, 1) := by decide +kernel
theorem dX7_emit_10 : decode cX7_emit 10 = .ok (.getfield 79, 3) := by decide +kernel
theorem dX7_emit_13 : decode cX7_emit 13 = .ok (.iconst 3, 1) := by decide +kernel
theorem dX7_emit_14 : decode cX7_emit 14 = .ok (.aload_n 0, 1) := by decide +kernel
theorem dX7_emit_15 : decode cX7_emit 15 = .ok (.getfield 247, 3) := by decide +kernel
theorem dX7_emit_18 : decode cX7_emit 18 = .ok (.imul, 1) := by decide +kernel
theorem dX7_emit_19 : decode cX7_emit 19 = .ok (.iload_n 1, 1) := by decide +kernel
theorem dX7_emit_20 : decode cX7_emit 20 = .ok (.iastore, 1) := by decide +kernel
theorem dX7_emit_21 : decode cX7_emit 21 = .ok (.aload_n 0, 1) := by decide +kernel
theorem dX7_emit_22 : decode cX7_emit 22 = .ok (.getfield 79, 3) := by decide +kernel
theorem dX7_emit_25 : decode cX7_emit 25 = .ok (.iconst 3, 1) := by decide +kernel
theorem dX7_emit_26 : decode cX7_emit 26 = .ok (.aload_n 0, 1) := by decide +kernel
theorem dX7_emit_27 : decode cX7_emit 27 = .ok (.getfield 247, 3) := by decide +kernel
theorem dX7_emit_30 : decode cX7_emit 30 = .ok (.imul, 1) := by decide +kernel
theorem dX7_emit_31 : decode cX7_emit 31 = .ok (.iconst 1, 1) := by decide +kernel
theorem dX7_emit_32 : decode cX7_emit 32 = .ok (.iadd, 1) := by decide +kernel
theorem dX7_emit_33 : decode cX7_emit 33 = .ok (.iload_n 2, 1) := by decide +kernel
theorem dX7_emit_34 : decode cX7_emit 34 = .ok (.iastore, 1) := by decide +kernel
theorem dX7_emit_35 : decode cX7_emit 35 = .ok (.aload_n 0, 1) := by decide +kernel
theorem dX7_emit_36 : decode cX7_emit 36 = .ok (.getfield 79, 3) := by decide +kernel
theorem dX7_emit_39 : decode cX7_emit 39 = .ok (.iconst 3, 1) := by decide +kernel
theorem dX7_emit_40 : decode cX7_emit 40 = .ok (.aload_n 0, 1) := by decide +kernel
theorem dX7_emit_41 : decode cX7_emit 41 = .ok (.getfield 247, 3) := by decide +kernel
theorem dX7_emit_44 : decode cX7_emit 44 = .ok (.imul, 1) := by decide +kernel
theorem dX7_emit_45 : decode cX7_emit 45 = .ok (.iconst 2, 1) := by decide +kernel
theorem dX7_emit_46 : decode cX7_emit 46 = .ok (.iadd, 1) := by decide +kernel
theorem dX7_emit_47 : decode cX7_emit 47 = .ok (.iload_n 3, 1) := by decide +kernel
theorem dX7_emit_48 : decode cX7_emit 48 = .ok (.iastore, 1) := by decide +kernel
theorem dX7_emit_49 : decode cX7_emit 49 = .ok (.aload_n 0, 1) := by decide +kernel
theorem dX7_emit_50 : decode cX7_emit 50 = .ok (.dup, 1) := by decide +kernel
theorem dX7_emit_51 : decode cX7_emit 51 = .ok (.getfield 247, 3) := by decide +kernel
theorem dX7_emit_54 : decode cX7_emit 54 = .ok (.iconst 1, 1) := by decide +kernel
theorem dX7_emit_55 : decode cX7_emit 55 = .ok (.iadd, 1) := by decide +kernel
theorem dX7_emit_56 : decode cX7_emit 56 = .ok (.putfield 247, 3) := by decide +kernel
theorem dX7_emit_59 : decode cX7_emit 59 = .ok (.return_, 1) := by decide +kernel
theorem dX7_set_0 : decode cX7_set 0 = .ok (.iload_n 1, 1) := by decide +kernel
theorem dX7_set_1 : decode cX7_set 1 = .ok (.bipush 121, 2) := by decide +kernel
theorem dX7_set_3 : decode cX7_set 3 = .ok (.if_icmp .ge 14, 3) := by decide +kernel
theorem dX7_set_6 : decode cX7_set 6 = .ok (.aload_n 0, 1) := by decide +kernel
theorem dX7_set_7 : decode cX7_set 7 = .ok (.getfield 79, 3) := by decide +kernel
theorem dX7_set_10 : decode cX7_set 10 = .ok (.iconst 3, 1) := by decide +kernel
theorem dX7_set_11 : decode cX7_set 11 = .ok (.iload_n 1, 1) := by decide +kernel
theorem dX7_set_12 : decode cX7_set 12 = .ok (.imul, 1) := by decide +kernel
theorem dX7_set_13 : decode cX7_set 13 = .ok (.iload_n 2, 1) := by decide +kernel
theorem dX7_set_14 : decode cX7_set 14 = .ok (.iadd, 1) := by decide +kernel
theorem dX7_set_15 : decode cX7_set 15 = .ok (.iload_n 3, 1) := by decide +kernel
theorem dX7_set_16 : decode cX7_set 16 = .ok (.iastore, 1) := by decide +kernel
theorem dX7_set_17 : decode cX7_set 17 = .ok (.return_, 1) := by decide +kernel
theorem dX7_todo_0 : decode cX7_todo 0 = .ok (.aload_n 0, 1) := by decide +kernel
theorem dX7_todo_1 : decode cX7_todo 1 = .ok (.getfield 85, 3) := by decide +kernel
theorem dX7_todo_4 : decode cX7_todo 4 = .ok (.aload_n 0, 1) := by decide +kernel
theorem dX7_todo_5 : decode cX7_todo 5 = .ok (.getfield 250, 3) := by decide +kernel
theorem dX7_todo_8 : decode cX7_todo 8 = .ok (.iload_n 1, 1) := by decide +kernel
theorem dX7_todo_9 : decode cX7_todo 9 = .ok (.iastore, 1) := by decide +kernel
theorem dX7_todo_10 : decode cX7_todo 10 = .ok (.aload_n 0, 1) := by decide +kernel
theorem dX7_todo_11 : decode cX7_todo 11 = .ok (.getfield 88, 3) := by decide +kernel
theorem dX7_todo_14 : decode cX7_todo 14 = .ok (.aload_n 0, 1) := by decide +kernel
theorem dX7_todo_15 : decode cX7_todo 15 = .ok (.getfield 250, 3) := by decide +kernel
theorem dX7_todo_18 : decode cX7_todo 18 = .ok (.iload_n 2, 1) := by decide +kernel
theorem dX7_todo_19 : decode cX7_todo 19 = .ok (.iastore, 1) := by decide +kernel
theorem dX7_todo_20 : decode cX7_todo 20 = .ok (.aload_n 0, 1) := by decide +kernel
theorem dX7_todo_21 : decode cX7_todo 21 = .ok (.getfield 91, 3) := by decide +kernel
theorem dX7_todo_24 : decode cX7_todo 24 = .ok (.aload_n 0, 1) := by decide +kernel
theorem dX7_todo_25 : decode cX7_todo 25 = .ok (.getfield 250, 3) := by decide +kernel
theorem dX7_todo_28 : decode cX7_todo 28 = .ok (.iload_n 3, 1) := by decide +kernel
theorem dX7_todo_29 : decode cX7_todo 29 = .ok (.iastore, 1) := by decide +kernel
theorem dX7_todo_30 : decode cX7_todo 30 = .ok (.aload_n 0, 1) := by decide +kernel
theorem dX7_todo_31 : decode cX7_todo 31 = .ok (.dup, 1) := by decide +kernel
theorem dX7_todo_32 : decode cX7_todo 32 = .ok (.getfield 250, 3) := by decide +kernel
theorem dX7_todo_35 : decode cX7_todo 35 = .ok (.iconst 1, 1) := by decide +kernel
theorem dX7_todo_36 : decode cX7_todo 36 = .ok (.iadd, 1) := by decide +kernel
theorem dX7_todo_37 : decode cX7_todo 37 = .ok (.putfield 250, 3) := by decide +kernel
theorem dX7_todo_40 : decode cX7_todo 40 = .ok (.return_, 1) := by decide +kernel
theorem dX7_todoNode_0 : decode cX7_todoNode 0 = .ok (.aload_n 0, 1) := by decide +kernel
theorem dX7_todoNode_1 : decode cX7_todoNode 1 = .ok (.iconst 0, 1) := by decide +kernel
theorem dX7_todoNode_2 : decode cX7_todoNode 2 = .ok (.iload_n 1, 1) := by decide +kernel
theorem dX7_todoNode_3 : decode cX7_todoNode 3 = .ok (.iconst 0, 1) := by decide +kernel
theorem dX7_todoNode_4 : decode cX7_todoNode 4 = .ok (.invokevirtual 253, 3) := by decide +kernel
theorem dX7_todoNode_7 : decode cX7_todoNode 7 = .ok (.return_, 1) := by decide +kernel
theorem dX7_todoEmit_0 : decode cX7_todoEmit 0 = .ok (.aload_n 0, 1) := by decide +kernel
theorem dX7_todoEmit_1 : decode cX7_todoEmit 1 = .ok (.iconst 1, 1) := by decide +kernel
theorem dX7_todoEmit_2 : decode cX7_todoEmit 2 = .ok (.iload_n 1, 1) := by decide +kernel
theorem dX7_todoEmit_3 : decode cX7_todoEmit 3 = .ok (.iload_n 2, 1) := by decide +kernel
theorem dX7_todoEmit_4 : decode cX7_todoEmit 4 = .ok (.invokevirtual 253, 3) := by decide +kernel
theorem dX7_todoEmit_7 : decode cX7_todoEmit 7 = .ok (.return_, 1) := by decide +kernel
theorem dX7_generate_0 : decode cX7_generate 0 = .ok (.aload_n 0, 1) := by decide +kernel
theorem dX7_generate_1 : decode cX7_generate 1 = .ok (.getfield 27, 3) := by decide +kernel
theorem dX7_generate_4 : decode cX7_generate 4 = .ok (.iload_n 1, 1) := by decide +kernel
theorem dX7_generate_5 : decode cX7_generate 5 = .ok (.iaload, 1) := by decide +kernel
theorem dX7_generate_6 : decode cX7_generate 6 = .ok (.istore_n 2, 1) := by decide +kernel
theorem dX7_generate_7 : decode cX7_generate 7 = .ok (.aload_n 0, 1) := by decide +kernel
theorem dX7_generate_8 : decode cX7_generate 8 = .ok (.getfield 20, 3) := by decide +kernel
theorem dX7_generate_11 : decode cX7_generate 11 = .ok (.iload_n 1, 1) := by decide +kernel
theorem dX7_generate_12 : decode cX7_generate 12 = .ok (.iaload, 1) := by decide +kernel
theorem dX7_generate_13 : decode cX7_generate 13 = .ok (.tableswitch 323 0 7 #[47, 60, 73, 106, 169, 175, 221, 251], 47) := by decide +kernel
theorem dX7_generate_60 : decode cX7_generate 60 = .ok (.aload_n 0, 1) := by decide +kernel
theorem dX7_generate_61 : decode cX7_generate 61 = .ok (.iconst 1, 1) := by decide +kernel
theorem dX7_generate_62 : decode cX7_generate 62 = .ok (.aload_n 0, 1) := by decide +kernel
theorem dX7_generate_63 : decode cX7_generate 63 = .ok (.getfield 24, 3) := by decide +kernel
theorem dX7_generate_66 : decode cX7_generate 66 = .ok (.iload_n 1, 1) := by decide +kernel
theorem dX7_generate_67 : decode cX7_generate 67 = .ok (.iaload, 1) := by decide +kernel
theorem dX7_generate_68 : decode cX7_generate 68 = .ok (.iconst 0, 1) := by decide +kernel
theorem dX7_generate_69 : decode cX7_generate 69 = .ok (.invokevirtual 257, 3) := by decide +kernel
theorem dX7_generate_72 : decode cX7_generate 72 = .ok (.return_, 1) := by decide +kernel
theorem dX7_generate_73 : decode cX7_generate 73 = .ok (.aload_n 0, 1) := by decide +kernel
theorem dX7_generate_74 : decode cX7_generate 74 = .ok (.iconst 2, 1) := by decide +kernel
theorem dX7_generate_75 : decode cX7_generate 75 = .ok (.aload_n 0, 1) := by decide +kernel
theorem dX7_generate_76 : decode cX7_generate 76 = .ok (.getfield 24, 3) := by decide +kernel
theorem dX7_generate_79 : decode cX7_generate 79 = .ok (.iload_n 1, 1) := by decide +kernel
theorem dX7_generate_80 : decode cX7_generate 80 = .ok (.iaload, 1) := by decide +kernel
theorem dX7_generate_81 : decode cX7_generate 81 = .ok (.iconst 0, 1) := by decide +kernel
theorem dX7_generate_82 : decode cX7_generate 82 = .ok (.invokevirtual 257, 3) := by decide +kernel
theorem dX7_generate_85 : decode cX7_generate 85 = .ok (.return_, 1) := by decide +kernel
theorem dX7_generate_86 : decode cX7_generate 86 = .ok (.aload_n 0, 1) := by decide +kernel
theorem dX7_generate_87 : decode cX7_generate 87 = .ok (.aload_n 0, 1) := by decide +kernel
theorem dX7_generate_88 : decode cX7_generate 88 = .ok (.getfield 24, 3) := by decide +kernel
theorem dX7_generate_91 : decode cX7_generate 91 = .ok (.iload_n 1, 1) := by decide +kernel
theorem dX7_generate_92 : decode cX7_generate 92 = .ok (.iaload, 1) := by decide +kernel
theorem dX7_generate_93 : decode cX7_generate 93 = .ok (.iconst 0, 1) := by decide +kernel
theorem dX7_generate_94 : decode cX7_generate 94 = .ok (.invokevirtual 260, 3) := by decide +kernel
theorem dX7_generate_97 : decode cX7_generate 97 = .ok (.aload_n 0, 1) := by decide +kernel
theorem dX7_generate_98 : decode cX7_generate 98 = .ok (.aload_n 0, 1) := by decide +kernel
theorem dX7_generate_99 : decode cX7_generate 99 = .ok (.getfield 30, 3) := by decide +kernel
theorem dX7_generate_102 : decode cX7_generate 102 = .ok (.iload_n 2, 1) := by decide +kernel
theorem dX7_generate_103 : decode cX7_generate 103 = .ok (.iaload, 1) := by decide +kernel
theorem dX7_generate_104 : decode cX7_generate 104 = .ok (.invokevirtual 263, 3) := by decide +kernel
theorem dX7_generate_107 : decode cX7_generate 107 = .ok (.aload_n 0, 1) := by decide +kernel
theorem dX7_generate_108 : decode cX7_generate 108 = .ok (.iconst 3, 1) := by decide +kernel
theorem dX7_generate_109 : decode cX7_generate 109 = .ok (.iconst 0, 1) := by decide +kernel
theorem dX7_generate_110 : decode cX7_generate 110 = .ok (.invokevirtual 260, 3) := by decide +kernel
theorem dX7_generate_113 : decode cX7_generate 113 = .ok (.aload_n 0, 1) := by decide +kernel
theorem dX7_generate_114 : decode cX7_generate 114 = .ok (.iload_n 2, 1) := by decide +kernel
theorem dX7_generate_115 : decode cX7_generate 115 = .ok (.invokevirtual 263, 3) := by decide +kernel
theorem dX7_generate_118 : decode cX7_generate 118 = .ok (.return_, 1) := by decide +kernel
theorem dX7_generate_119 : decode cX7_generate 119 = .ok (.iconst 1, 1) := by decide +kernel
theorem dX7_generate_120 : decode cX7_generate 120 = .ok (.istore_n 3, 1) := by decide +kernel
theorem dX7_generate_121 : decode cX7_generate 121 = .ok (.iload_n 3, 1) := by decide +kernel
theorem dX7_generate_122 : decode cX7_generate 122 = .ok (.aload_n 0, 1) := by decide +kernel
theorem dX7_generate_123 : decode cX7_generate 123 = .ok (.getfield 33, 3) := by decide +kernel
theorem dX7_generate_126 : decode cX7_generate 126 = .ok (.iload_n 1, 1) := by decide +kernel
theorem dX7_generate_127 : decode cX7_generate 127 = .ok (.iaload, 1) := by decide +kernel
theorem dX7_generate_128 : decode cX7_generate 128 = .ok (.if_icmp .ge 16, 3) := by decide +kernel
theorem dX7_generate_131 : decode cX7_generate 131 = .ok (.aload_n 0, 1) := by decide +kernel
theorem dX7_generate_132 : decode cX7_generate 132 = .ok (.bipush 13, 2) := by decide +kernel
theorem dX7_generate_134 : decode cX7_generate 134 = .ok (.iconst 0, 1) := by decide +kernel
theorem dX7_generate_135 : decode cX7_generate 135 = .ok (.invokevirtual 260, 3) := by decide +kernel
theorem dX7_generate_138 : decode cX7_generate 138 = .ok (.iinc 3 1, 3) := by decide +kernel
theorem dX7_generate_141 : decode cX7_generate 141 = .ok (.goto (-20), 3) := by decide +kernel
theorem dX7_generate_144 : decode cX7_generate 144 = .ok (.aload_n 0, 1) := by decide +kernel
theorem dX7_generate_145 : decode cX7_generate 145 = .ok (.iload_n 2, 1) := by decide +kernel
theorem dX7_generate_146 : decode cX7_generate 146 = .ok (.invokevirtual 263, 3) := by decide +kernel
theorem dX7_generate_149 : decode cX7_generate 149 = .ok (.aload_n 0, 1) := by decide +kernel
theorem dX7_generate_150 : decode cX7_generate 150 = .ok (.getfield 30, 3) := by decide +kernel
theorem dX7_generate_153 : decode cX7_generate 153 = .ok (.iload_n 2, 1) := by decide +kernel
theorem dX7_generate_154 : decode cX7_generate 154 = .ok (.iaload, 1) := by decide +kernel
theorem dX7_generate_155 : decode cX7_generate 155 = .ok (.istore_n 3, 1) := by decide +kernel
theorem dX7_generate_156 : decode cX7_generate 156 = .ok (.iload_n 3, 1) := by decide +kernel
theorem dX7_generate_157 : decode cX7_generate 157 = .ok (.ifCond .lt 24, 3) := by decide +kernel
theorem dX7_generate_160 : decode cX7_generate 160 = .ok (.aload_n 0, 1) := by decide +kernel
theorem dX7_generate_161 : decode cX7_generate 161 = .ok (.iconst 3, 1) := by decide +kernel
theorem dX7_generate_162 : decode cX7_generate 162 = .ok (.iconst 0, 1) := by decide +kernel
theorem dX7_generate_163 : decode cX7_generate 163 = .ok (.invokevirtual 260, 3) := by decide +kernel
theorem dX7_generate_166 : decode cX7_generate 166 = .ok (.aload_n 0, 1) := by decide +kernel
theorem dX7_generate_167 : decode cX7_generate 167 = .ok (.iload_n 3, 1) := by decide +kernel
theorem dX7_generate_168 : decode cX7_generate 168 = .ok (.invokevirtual 263, 3) := by decide +kernel
theorem dX7_generate_171 : decode cX7_generate 171 = .ok (.aload_n 0, 1) := by decide +kernel
theorem dX7_generate_172 : decode cX7_generate 172 = .ok (.getfield 30, 3) := by decide +kernel
theorem dX7_generate_175 : decode cX7_generate 175 = .ok (.iload_n 3, 1) := by decide +kernel
theorem dX7_generate_176 : decode cX7_generate 176 = .ok (.iaload, 1) := by decide +kernel
theorem dX7_generate_177 : decode cX7_generate 177 = .ok (.istore_n 3, 1) := by decide +kernel
theorem dX7_generate_178 : decode cX7_generate 178 = .ok (.goto (-22), 3) := by decide +kernel
theorem dX7_generate_181 : decode cX7_generate 181 = .ok (.return_, 1) := by decide +kernel
theorem dX7_generate_182 : decode cX7_generate 182 = .ok (.aload_n 0, 1) := by decide +kernel
theorem dX7_generate_183 : decode cX7_generate 183 = .ok (.iload_n 1, 1) := by decide +kernel
theorem dX7_generate_184 : decode cX7_generate 184 = .ok (.invokevirtual 266, 3) := by decide +kernel
theorem dX7_generate_187 : decode cX7_generate 187 = .ok (.return_, 1) := by decide +kernel
theorem dX7_generate_188 : decode cX7_generate 188 = .ok (.aload_n 0, 1) := by decide +kernel
theorem dX7_generate_189 : decode cX7_generate 189 = .ok (.bipush 9, 2) := by decide +kernel
theorem dX7_generate_191 : decode cX7_generate 191 = .ok (.aload_n 0, 1) := by decide +kernel
theorem dX7_generate_192 : decode cX7_generate 192 = .ok (.getfield 247, 3) := by decide +kernel
theorem dX7_generate_195 : decode cX7_generate 195 = .ok (.iconst 2, 1) := by decide +kernel
theorem dX7_generate_196 : decode cX7_generate 196 = .ok (.iadd, 1) := by decide +kernel
theorem dX7_generate_197 : decode cX7_generate 197 = .ok (.iconst 0, 1) := by decide +kernel
theorem dX7_generate_198 : decode cX7_generate 198 = .ok (.invokevirtual 257, 3) := by decide +kernel
theorem dX7_generate_201 : decode cX7_generate 201 = .ok (.aload_n 0, 1) := by decide +kernel
theorem dX7_generate_202 : decode cX7_generate 202 = .ok (.bipush 11, 2) := by decide +kernel
theorem dX7_generate_204 : decode cX7_generate 204 = .ok (.iconst 0, 1) := by decide +kernel
theorem dX7_generate_205 : decode cX7_generate 205 = .ok (.iconst 0, 1) := by decide +kernel
theorem dX7_generate_206 : decode cX7_generate 206 = .ok (.invokevirtual 257, 3) := by decide +kernel
theorem dX7_generate_209 : decode cX7_generate 209 = .ok (.aload_n 0, 1) := by decide +kernel
theorem dX7_generate_210 : decode cX7_generate 210 = .ok (.iconst 2, 1) := by decide +kernel
theorem dX7_generate_211 : decode cX7_generate 211 = .ok (.aload_n 0, 1) := by decide +kernel
theorem dX7_generate_212 : decode cX7_generate 212 = .ok (.getfield 247, 3) := by decide +kernel
theorem dX7_generate_215 : decode cX7_generate 215 = .ok (.iconst 1, 1) := by decide +kernel
theorem dX7_generate_216 : decode cX7_generate 216 = .ok (.isub, 1) := by decide +kernel
theorem dX7_generate_217 : decode cX7_generate 217 = .ok (.iconst 0, 1) := by decide +kernel
theorem dX7_generate_218 : decode cX7_generate 218 = .ok (.invokevirtual 253, 3) := by decide +kernel
theorem dX7_generate_221 : decode cX7_generate 221 = .ok (.aload_n 0, 1) := by decide +kernel
theorem dX7_generate_222 : decode cX7_generate 222 = .ok (.bipush 12, 2) := by decide +kernel
theorem dX7_generate_224 : decode cX7_generate 224 = .ok (.iconst 0, 1) := by decide +kernel
theorem dX7_generate_225 : decode cX7_generate 225 = .ok (.invokevirtual 260, 3) := by decide +kernel
theorem dX7_generate_228 : decode cX7_generate 228 = .ok (.aload_n 0, 1) := by decide +kernel
theorem dX7_generate_229 : decode cX7_generate 229 = .ok (.iload_n 2, 1) := by decide +kernel
theorem dX7_generate_230 : decode cX7_generate 230 = .ok (.invokevirtual 263, 3) := by decide +kernel
theorem dX7_generate_233 : decode cX7_generate 233 = .ok (.return_, 1) := by decide +kernel
theorem dX7_generate_234 : decode cX7_generate 234 = .ok (.aload_n 0, 1) := by decide +kernel
theorem dX7_generate_235 : decode cX7_generate 235 = .ok (.bipush 15, 2) := by decide +kernel
theorem dX7_generate_237 : decode cX7_generate 237 = .ok (.iconst 1, 1) := by decide +kernel
theorem dX7_generate_238 : decode cX7_generate 238 = .ok (.invokevirtual 260, 3) := by decide +kernel
theorem dX7_generate_241 : decode cX7_generate 241 = .ok (.aload_n 0, 1) := by decide +kernel
theorem dX7_generate_242 : decode cX7_generate 242 = .ok (.aload_n 0, 1) := by decide +kernel
theorem dX7_generate_243 : decode cX7_generate 243 = .ok (.getfield 30, 3) := by decide +kernel
theorem dX7_generate_246 : decode cX7_generate 246 = .ok (.iload_n 2, 1) := by decide +kernel
theorem dX7_generate_247 : decode cX7_generate 247 = .ok (.iaload, 1) := by decide +kernel
theorem dX7_generate_248 : decode cX7_generate 248 = .ok (.invokevirtual 263, 3) := by decide +kernel
theorem dX7_generate_251 : decode cX7_generate 251 = .ok (.aload_n 0, 1) := by decide +kernel
theorem dX7_generate_252 : decode cX7_generate 252 = .ok (.bipush 14, 2) := by decide +kernel
theorem dX7_generate_254 : decode cX7_generate 254 = .ok (.iconst 0, 1) := by decide +kernel
theorem dX7_generate_255 : decode cX7_generate 255 = .ok (.invokevirtual 260, 3) := by decide +kernel
theorem dX7_generate_258 : decode cX7_generate 258 = .ok (.aload_n 0, 1) := by decide +kernel
theorem dX7_generate_259 : decode cX7_generate 259 = .ok (.iload_n 2, 1) := by decide +kernel
theorem dX7_generate_260 : decode cX7_generate 260 = .ok (.invokevirtual 263, 3) := by decide +kernel
theorem dX7_generate_263 : decode cX7_generate 263 = .ok (.return_, 1) := by decide +kernel
theorem dX7_generate_264 : decode cX7_generate 264 = .ok (.aload_n 0, 1) := by decide +kernel
theorem dX7_generate_265 : decode cX7_generate 265 = .ok (.bipush 10, 2) := by decide +kernel
theorem dX7_generate_267 : decode cX7_generate 267 = .ok (.aload_n 0, 1) := by decide +kernel
theorem dX7_generate_268 : decode cX7_generate 268 = .ok (.getfield 247, 3) := by decide +kernel
theorem dX7_generate_271 : decode cX7_generate 271 = .ok (.iconst 2, 1) := by decide +kernel
theorem dX7_generate_272 : decode cX7_generate 272 = .ok (.iadd, 1) := by decide +kernel
theorem dX7_generate_273 : decode cX7_generate 273 = .ok (.iconst 0, 1) := by decide +kernel
theorem dX7_generate_274 : decode cX7_generate 274 = .ok (.invokevirtual 257, 3) := by decide +kernel
theorem dX7_generate_277 : decode cX7_generate 277 = .ok (.aload_n 0, 1) := by decide +kernel
theorem dX7_generate_278 : decode cX7_generate 278 = .ok (.bipush 11, 2) := by decide +kernel
theorem dX7_generate_280 : decode cX7_generate 280 = .ok (.iconst 0, 1) := by decide +kernel
theorem dX7_generate_281 : decode cX7_generate 281 = .ok (.iconst 0, 1) := by decide +kernel
theorem dX7_generate_282 : decode cX7_generate 282 = .ok (.invokevirtual 257, 3) := by decide +kernel
theorem dX7_generate_285 : decode cX7_generate 285 = .ok (.aload_n 0, 1) := by decide +kernel
theorem dX7_generate_286 : decode cX7_generate 286 = .ok (.getfield 247, 3) := by decide +kernel
theorem dX7_generate_289 : decode cX7_generate 289 = .ok (.iconst 1, 1) := by decide +kernel
theorem dX7_generate_290 : decode cX7_generate 290 = .ok (.isub, 1) := by decide +kernel
theorem dX7_generate_291 : decode cX7_generate 291 = .ok (.istore_n 3, 1) := by decide +kernel
theorem dX7_generate_292 : decode cX7_generate 292 = .ok (.aload_n 0, 1) := by decide +kernel
theorem dX7_generate_293 : decode cX7_generate 293 = .ok (.bipush 15, 2) := by decide +kernel
theorem dX7_generate_295 : decode cX7_generate 295 = .ok (.iconst 1, 1) := by decide +kernel
theorem dX7_generate_296 : decode cX7_generate 296 = .ok (.invokevirtual 260, 3) := by decide +kernel
theorem dX7_generate_299 : decode cX7_generate 299 = .ok (.aload_n 0, 1) := by decide +kernel
theorem dX7_generate_300 : decode cX7_generate 300 = .ok (.aload_n 0, 1) := by decide +kernel
theorem dX7_generate_301 : decode cX7_generate 301 = .ok (.getfield 30, 3) := by decide +kernel
theorem dX7_generate_304 : decode cX7_generate 304 = .ok (.iload_n 2, 1) := by decide +kernel
theorem dX7_generate_305 : decode cX7_generate 305 = .ok (.iaload, 1) := by decide +kernel
theorem dX7_generate_306 : decode cX7_generate 306 = .ok (.invokevirtual 263, 3) := by decide +kernel
theorem dX7_generate_309 : decode cX7_generate 309 = .ok (.aload_n 0, 1) := by decide +kernel
theorem dX7_generate_310 : decode cX7_generate 310 = .ok (.bipush 14, 2) := by decide +kernel
theorem dX7_generate_312 : decode cX7_generate 312 = .ok (.iconst 0, 1) := by decide +kernel
theorem dX7_generate_313 : decode cX7_generate 313 = .ok (.invokevirtual 260, 3) := by decide +kernel
theorem dX7_generate_316 : decode cX7_generate 316 = .ok (.aload_n 0, 1) := by decide +kernel
end
section
theorem dX7_generate_317 : decode cX7_generate 317 = .ok (.iconst 2, 1) := by decide +kernel
theorem dX7_generate_318 : decode cX7_generate 318 = .ok (.iload_n 3, 1) := by decide +kernel
theorem dX7_generate_319 : decode cX7_generate 319 = .ok (.iconst 0, 1) := by decide +kernel
theorem dX7_generate_320 : decode cX7_generate 320 = .ok (.invokevirtual 253, 3) := by decide +kernel
theorem dX7_generate_323 : decode cX7_generate 323 = .ok (.aload_n 0, 1) := by decide +kernel
theorem dX7_generate_324 : decode cX7_generate 324 = .ok (.bipush 12, 2) := by decide +kernel
theorem dX7_generate_326 : decode cX7_generate 326 = .ok (.iconst 0, 1) := by decide +kernel
theorem dX7_generate_327 : decode cX7_generate 327 = .ok (.invokevirtual 260, 3) := by decide +kernel
theorem dX7_generate_330 : decode cX7_generate 330 = .ok (.aload_n 0, 1) := by decide +kernel
theorem dX7_generate_331 : decode cX7_generate 331 = .ok (.iload_n 2, 1) := by decide +kernel
theorem dX7_generate_332 : decode cX7_generate 332 = .ok (.invokevirtual 263, 3) := by decide +kernel
theorem dX7_generate_335 : decode cX7_generate 335 = .ok (.return_, 1) := by decide +kernel
theorem dX7_generate_336 : decode cX7_generate 336 = .ok (.aload_n 0, 1) := by decide +kernel
theorem dX7_generate_337 : decode cX7_generate 337 = .ok (.iconst 3, 1) := by decide +kernel
theorem dX7_generate_338 : decode cX7_generate 338 = .ok (.iload_n 1, 1) := by decide +kernel
theorem dX7_generate_339 : decode cX7_generate 339 = .ok (.iconst 0, 1) := by decide +kernel
theorem dX7_generate_340 : decode cX7_generate 340 = .ok (.invokevirtual 253, 3) := by decide +kernel
theorem dX7_generate_343 : decode cX7_generate 343 = .ok (.aload_n 0, 1) := by decide +kernel
theorem dX7_generate_344 : decode cX7_generate 344 = .ok (.iload_n 2, 1) := by decide +kernel
theorem dX7_generate_345 : decode cX7_generate 345 = .ok (.invokevirtual 263, 3) := by decide +kernel
theorem dX7_generate_348 : decode cX7_generate 348 = .ok (.return_, 1) := by decide +kernel
theorem dX7_generateBuilt_0 : decode cX7_generateBuilt 0 = .ok (.aload_n 0, 1) := by decide +kernel
theorem dX7_generateBuilt_1 : decode cX7_generateBuilt 1 = .ok (.getfield 33, 3) := by decide +kernel
theorem dX7_generateBuilt_4 : decode cX7_generateBuilt 4 = .ok (.iload_n 1, 1) := by decide +kernel
theorem dX7_generateBuilt_5 : decode cX7_generateBuilt 5 = .ok (.iaload, 1) := by decide +kernel
theorem dX7_generateBuilt_6 : decode cX7_generateBuilt 6 = .ok (.ifCond .ne 17, 3) := by decide +kernel
theorem dX7_generateBuilt_9 : decode cX7_generateBuilt 9 = .ok (.aload_n 0, 1) := by decide +kernel
theorem dX7_generateBuilt_10 : decode cX7_generateBuilt 10 = .ok (.bipush 16, 2) := by decide +kernel
theorem dX7_generateBuilt_12 : decode cX7_generateBuilt 12 = .ok (.aload_n 0, 1) := by decide +kernel
theorem dX7_generateBuilt_13 : decode cX7_generateBuilt 13 = .ok (.getfield 24, 3) := by decide +kernel
theorem dX7_generateBuilt_16 : decode cX7_generateBuilt 16 = .ok (.iload_n 1, 1) := by decide +kernel
theorem dX7_generateBuilt_17 : decode cX7_generateBuilt 17 = .ok (.iaload, 1) := by decide +kernel
theorem dX7_generateBuilt_18 : decode cX7_generateBuilt 18 = .ok (.iconst 0, 1) := by decide +kernel
theorem dX7_generateBuilt_19 : decode cX7_generateBuilt 19 = .ok (.invokevirtual 257, 3) := by decide +kernel
theorem dX7_generateBuilt_22 : decode cX7_generateBuilt 22 = .ok (.return_, 1) := by decide +kernel
theorem dX7_generateBuilt_23 : decode cX7_generateBuilt 23 = .ok (.aload_n 0, 1) := by decide +kernel
theorem dX7_generateBuilt_24 : decode cX7_generateBuilt 24 = .ok (.bipush 17, 2) := by decide +kernel
theorem dX7_generateBuilt_26 : decode cX7_generateBuilt 26 = .ok (.aload_n 0, 1) := by decide +kernel
theorem dX7_generateBuilt_27 : decode cX7_generateBuilt 27 = .ok (.getfield 24, 3) := by decide +kernel
theorem dX7_generateBuilt_30 : decode cX7_generateBuilt 30 = .ok (.iload_n 1, 1) := by decide +kernel
theorem dX7_generateBuilt_31 : decode cX7_generateBuilt 31 = .ok (.iaload, 1) := by decide +kernel
theorem dX7_generateBuilt_32 : decode cX7_generateBuilt 32 = .ok (.invokevirtual 260, 3) := by decide +kernel
theorem dX7_generateBuilt_35 : decode cX7_generateBuilt 35 = .ok (.aload_n 0, 1) := by decide +kernel
theorem dX7_generateBuilt_36 : decode cX7_generateBuilt 36 = .ok (.getfield 33, 3) := by decide +kernel
theorem dX7_generateBuilt_39 : decode cX7_generateBuilt 39 = .ok (.iload_n 1, 1) := by decide +kernel
theorem dX7_generateBuilt_40 : decode cX7_generateBuilt 40 = .ok (.iaload, 1) := by decide +kernel
theorem dX7_generateBuilt_41 : decode cX7_generateBuilt 41 = .ok (.iconst 1, 1) := by decide +kernel
theorem dX7_generateBuilt_42 : decode cX7_generateBuilt 42 = .ok (.isub, 1) := by decide +kernel
theorem dX7_generateBuilt_43 : decode cX7_generateBuilt 43 = .ok (.istore_n 2, 1) := by decide +kernel
theorem dX7_generateBuilt_44 : decode cX7_generateBuilt 44 = .ok (.iload_n 2, 1) := by decide +kernel
theorem dX7_generateBuilt_45 : decode cX7_generateBuilt 45 = .ok (.ifCond .lt 37, 3) := by decide +kernel
theorem dX7_generateBuilt_48 : decode cX7_generateBuilt 48 = .ok (.iload_n 2, 1) := by decide +kernel
theorem dX7_generateBuilt_49 : decode cX7_generateBuilt 49 = .ok (.aload_n 0, 1) := by decide +kernel
theorem dX7_generateBuilt_50 : decode cX7_generateBuilt 50 = .ok (.getfield 33, 3) := by decide +kernel
theorem dX7_generateBuilt_53 : decode cX7_generateBuilt 53 = .ok (.iload_n 1, 1) := by decide +kernel
theorem dX7_generateBuilt_54 : decode cX7_generateBuilt 54 = .ok (.iaload, 1) := by decide +kernel
theorem dX7_generateBuilt_55 : decode cX7_generateBuilt 55 = .ok (.iconst 1, 1) := by decide +kernel
theorem dX7_generateBuilt_56 : decode cX7_generateBuilt 56 = .ok (.isub, 1) := by decide +kernel
theorem dX7_generateBuilt_57 : decode cX7_generateBuilt 57 = .ok (.if_icmp .ge 9, 3) := by decide +kernel
theorem dX7_generateBuilt_60 : decode cX7_generateBuilt 60 = .ok (.aload_n 0, 1) := by decide +kernel
theorem dX7_generateBuilt_61 : decode cX7_generateBuilt 61 = .ok (.iconst 3, 1) := by decide +kernel
theorem dX7_generateBuilt_62 : decode cX7_generateBuilt 62 = .ok (.iconst 0, 1) := by decide +kernel
theorem dX7_generateBuilt_63 : decode cX7_generateBuilt 63 = .ok (.invokevirtual 260, 3) := by decide +kernel
theorem dX7_generateBuilt_66 : decode cX7_generateBuilt 66 = .ok (.aload_n 0, 1) := by decide +kernel
theorem dX7_generateBuilt_67 : decode cX7_generateBuilt 67 = .ok (.aload_n 0, 1) := by decide +kernel
theorem dX7_generateBuilt_68 : decode cX7_generateBuilt 68 = .ok (.iload_n 1, 1) := by decide +kernel
theorem dX7_generateBuilt_69 : decode cX7_generateBuilt 69 = .ok (.iload_n 2, 1) := by decide +kernel
theorem dX7_generateBuilt_70 : decode cX7_generateBuilt 70 = .ok (.invokevirtual 220, 3) := by decide +kernel
theorem dX7_generateBuilt_73 : decode cX7_generateBuilt 73 = .ok (.invokevirtual 263, 3) := by decide +kernel
theorem dX7_generateBuilt_76 : decode cX7_generateBuilt 76 = .ok (.iinc 2 (-1), 3) := by decide +kernel
theorem dX7_generateBuilt_79 : decode cX7_generateBuilt 79 = .ok (.goto (-35), 3) := by decide +kernel
theorem dX7_generateBuilt_82 : decode cX7_generateBuilt 82 = .ok (.return_, 1) := by decide +kernel
theorem dX7_generateSwitch_0 : decode cX7_generateSwitch 0 = .ok (.aload_n 0, 1) := by decide +kernel
theorem dX7_generateSwitch_1 : decode cX7_generateSwitch 1 = .ok (.getfield 33, 3) := by decide +kernel
theorem dX7_generateSwitch_4 : decode cX7_generateSwitch 4 = .ok (.iload_n 1, 1) := by decide +kernel
theorem dX7_generateSwitch_5 : decode cX7_generateSwitch 5 = .ok (.iaload, 1) := by decide +kernel
theorem dX7_generateSwitch_6 : decode cX7_generateSwitch 6 = .ok (.iconst 1, 1) := by decide +kernel
theorem dX7_generateSwitch_7 : decode cX7_generateSwitch 7 = .ok (.isub, 1) := by decide +kernel
theorem dX7_generateSwitch_8 : decode cX7_generateSwitch 8 = .ok (.istore_n 2, 1) := by decide +kernel
theorem dX7_generateSwitch_9 : decode cX7_generateSwitch 9 = .ok (.aload_n 0, 1) := by decide +kernel
theorem dX7_generateSwitch_10 : decode cX7_generateSwitch 10 = .ok (.bipush 18, 2) := by decide +kernel
theorem dX7_generateSwitch_12 : decode cX7_generateSwitch 12 = .ok (.iload_n 2, 1) := by decide +kernel
theorem dX7_generateSwitch_13 : decode cX7_generateSwitch 13 = .ok (.iconst 0, 1) := by decide +kernel
theorem dX7_generateSwitch_14 : decode cX7_generateSwitch 14 = .ok (.invokevirtual 257, 3) := by decide +kernel
theorem dX7_generateSwitch_17 : decode cX7_generateSwitch 17 = .ok (.aload_n 0, 1) := by decide +kernel
theorem dX7_generateSwitch_18 : decode cX7_generateSwitch 18 = .ok (.getfield 247, 3) := by decide +kernel
theorem dX7_generateSwitch_21 : decode cX7_generateSwitch 21 = .ok (.istore_n 3, 1) := by decide +kernel
theorem dX7_generateSwitch_22 : decode cX7_generateSwitch 22 = .ok (.iconst 1, 1) := by decide +kernel
theorem dX7_generateSwitch_23 : decode cX7_generateSwitch 23 = .ok (.istore 4, 2) := by decide +kernel
theorem dX7_generateSwitch_25 : decode cX7_generateSwitch 25 = .ok (.iload 4, 2) := by decide +kernel
theorem dX7_generateSwitch_27 : decode cX7_generateSwitch 27 = .ok (.iload_n 2, 1) := by decide +kernel
theorem dX7_generateSwitch_28 : decode cX7_generateSwitch 28 = .ok (.if_icmp .gt 28, 3) := by decide +kernel
theorem dX7_generateSwitch_31 : decode cX7_generateSwitch 31 = .ok (.aload_n 0, 1) := by decide +kernel
theorem dX7_generateSwitch_32 : decode cX7_generateSwitch 32 = .ok (.bipush 19, 2) := by decide +kernel
theorem dX7_generateSwitch_34 : decode cX7_generateSwitch 34 = .ok (.aload_n 0, 1) := by decide +kernel
theorem dX7_generateSwitch_35 : decode cX7_generateSwitch 35 = .ok (.getfield 24, 3) := by decide +kernel
theorem dX7_generateSwitch_38 : decode cX7_generateSwitch 38 = .ok (.aload_n 0, 1) := by decide +kernel
theorem dX7_generateSwitch_39 : decode cX7_generateSwitch 39 = .ok (.iload_n 1, 1) := by decide +kernel
theorem dX7_generateSwitch_40 : decode cX7_generateSwitch 40 = .ok (.iload 4, 2) := by decide +kernel
theorem dX7_generateSwitch_42 : decode cX7_generateSwitch 42 = .ok (.invokevirtual 220, 3) := by decide +kernel
theorem dX7_generateSwitch_45 : decode cX7_generateSwitch 45 = .ok (.iaload, 1) := by decide +kernel
theorem dX7_generateSwitch_46 : decode cX7_generateSwitch 46 = .ok (.iconst 0, 1) := by decide +kernel
theorem dX7_generateSwitch_47 : decode cX7_generateSwitch 47 = .ok (.invokevirtual 257, 3) := by decide +kernel
theorem dX7_generateSwitch_50 : decode cX7_generateSwitch 50 = .ok (.iinc 4 1, 3) := by decide +kernel
theorem dX7_generateSwitch_53 : decode cX7_generateSwitch 53 = .ok (.goto (-28), 3) := by decide +kernel
theorem dX7_generateSwitch_56 : decode cX7_generateSwitch 56 = .ok (.aload_n 0, 1) := by decide +kernel
theorem dX7_generateSwitch_57 : decode cX7_generateSwitch 57 = .ok (.getfield 36, 3) := by decide +kernel
theorem dX7_generateSwitch_60 : decode cX7_generateSwitch 60 = .ok (.iload_n 1, 1) := by decide +kernel
theorem dX7_generateSwitch_61 : decode cX7_generateSwitch 61 = .ok (.iconst 0, 1) := by decide +kernel
theorem dX7_generateSwitch_62 : decode cX7_generateSwitch 62 = .ok (.bastore, 1) := by decide +kernel
theorem dX7_generateSwitch_63 : decode cX7_generateSwitch 63 = .ok (.aload_n 0, 1) := by decide +kernel
theorem dX7_generateSwitch_64 : decode cX7_generateSwitch 64 = .ok (.getfield 24, 3) := by decide +kernel
theorem dX7_generateSwitch_67 : decode cX7_generateSwitch 67 = .ok (.iload_n 1, 1) := by decide +kernel
theorem dX7_generateSwitch_68 : decode cX7_generateSwitch 68 = .ok (.iconst (-1), 1) := by decide +kernel
theorem dX7_generateSwitch_69 : decode cX7_generateSwitch 69 = .ok (.iastore, 1) := by decide +kernel
theorem dX7_generateSwitch_70 : decode cX7_generateSwitch 70 = .ok (.aload_n 0, 1) := by decide +kernel
theorem dX7_generateSwitch_71 : decode cX7_generateSwitch 71 = .ok (.bipush 6, 2) := by decide +kernel
theorem dX7_generateSwitch_73 : decode cX7_generateSwitch 73 = .ok (.iload_n 1, 1) := by decide +kernel
theorem dX7_generateSwitch_74 : decode cX7_generateSwitch 74 = .ok (.iconst 0, 1) := by decide +kernel
theorem dX7_generateSwitch_75 : decode cX7_generateSwitch 75 = .ok (.invokevirtual 253, 3) := by decide +kernel
theorem dX7_generateSwitch_78 : decode cX7_generateSwitch 78 = .ok (.iload_n 2, 1) := by decide +kernel
theorem dX7_generateSwitch_79 : decode cX7_generateSwitch 79 = .ok (.istore 4, 2) := by decide +kernel
theorem dX7_generateSwitch_81 : decode cX7_generateSwitch 81 = .ok (.iload 4, 2) := by decide +kernel
theorem dX7_generateSwitch_83 : decode cX7_generateSwitch 83 = .ok (.iconst 1, 1) := by decide +kernel
theorem dX7_generateSwitch_84 : decode cX7_generateSwitch 84 = .ok (.if_icmp .lt 56, 3) := by decide +kernel
theorem dX7_generateSwitch_87 : decode cX7_generateSwitch 87 = .ok (.aload_n 0, 1) := by decide +kernel
theorem dX7_generateSwitch_88 : decode cX7_generateSwitch 88 = .ok (.iconst 5, 1) := by decide +kernel
theorem dX7_generateSwitch_89 : decode cX7_generateSwitch 89 = .ok (.aload_n 0, 1) := by decide +kernel
theorem dX7_generateSwitch_90 : decode cX7_generateSwitch 90 = .ok (.iload_n 1, 1) := by decide +kernel
theorem dX7_generateSwitch_91 : decode cX7_generateSwitch 91 = .ok (.iload 4, 2) := by decide +kernel
theorem dX7_generateSwitch_93 : decode cX7_generateSwitch 93 = .ok (.invokevirtual 220, 3) := by decide +kernel
theorem dX7_generateSwitch_96 : decode cX7_generateSwitch 96 = .ok (.iload_n 1, 1) := by decide +kernel
theorem dX7_generateSwitch_97 : decode cX7_generateSwitch 97 = .ok (.invokevirtual 253, 3) := by decide +kernel
theorem dX7_generateSwitch_100 : decode cX7_generateSwitch 100 = .ok (.aload_n 0, 1) := by decide +kernel
theorem dX7_generateSwitch_101 : decode cX7_generateSwitch 101 = .ok (.aload_n 0, 1) := by decide +kernel
theorem dX7_generateSwitch_102 : decode cX7_generateSwitch 102 = .ok (.getfield 27, 3) := by decide +kernel
theorem dX7_generateSwitch_105 : decode cX7_generateSwitch 105 = .ok (.aload_n 0, 1) := by decide +kernel
theorem dX7_generateSwitch_106 : decode cX7_generateSwitch 106 = .ok (.iload_n 1, 1) := by decide +kernel
theorem dX7_generateSwitch_107 : decode cX7_generateSwitch 107 = .ok (.iload 4, 2) := by decide +kernel
theorem dX7_generateSwitch_109 : decode cX7_generateSwitch 109 = .ok (.invokevirtual 220, 3) := by decide +kernel
theorem dX7_generateSwitch_112 : decode cX7_generateSwitch 112 = .ok (.iaload, 1) := by decide +kernel
theorem dX7_generateSwitch_113 : decode cX7_generateSwitch 113 = .ok (.invokevirtual 263, 3) := by decide +kernel
theorem dX7_generateSwitch_116 : decode cX7_generateSwitch 116 = .ok (.aload_n 0, 1) := by decide +kernel
theorem dX7_generateSwitch_117 : decode cX7_generateSwitch 117 = .ok (.iconst 4, 1) := by decide +kernel
theorem dX7_generateSwitch_118 : decode cX7_generateSwitch 118 = .ok (.aload_n 0, 1) := by decide +kernel
theorem dX7_generateSwitch_119 : decode cX7_generateSwitch 119 = .ok (.iload_n 1, 1) := by decide +kernel
theorem dX7_generateSwitch_120 : decode cX7_generateSwitch 120 = .ok (.iload 4, 2) := by decide +kernel
theorem dX7_generateSwitch_122 : decode cX7_generateSwitch 122 = .ok (.invokevirtual 220, 3) := by decide +kernel
theorem dX7_generateSwitch_125 : decode cX7_generateSwitch 125 = .ok (.iload_n 3, 1) := by decide +kernel
theorem dX7_generateSwitch_126 : decode cX7_generateSwitch 126 = .ok (.iload 4, 2) := by decide +kernel
theorem dX7_generateSwitch_128 : decode cX7_generateSwitch 128 = .ok (.iadd, 1) := by decide +kernel
theorem dX7_generateSwitch_129 : decode cX7_generateSwitch 129 = .ok (.iconst 1, 1) := by decide +kernel
theorem dX7_generateSwitch_130 : decode cX7_generateSwitch 130 = .ok (.isub, 1) := by decide +kernel
theorem dX7_generateSwitch_131 : decode cX7_generateSwitch 131 = .ok (.invokevirtual 253, 3) := by decide +kernel
theorem dX7_generateSwitch_134 : decode cX7_generateSwitch 134 = .ok (.iinc 4 (-1), 3) := by decide +kernel
theorem dX7_generateSwitch_137 : decode cX7_generateSwitch 137 = .ok (.goto (-56), 3) := by decide +kernel
theorem dX7_generateSwitch_140 : decode cX7_generateSwitch 140 = .ok (.return_, 1) := by decide +kernel
theorem dX7_doWork_0 : decode cX7_doWork 0 = .ok (.aload_n 0, 1) := by decide +kernel
theorem dX7_doWork_1 : decode cX7_doWork 1 = .ok (.dup, 1) := by decide +kernel
theorem dX7_doWork_2 : decode cX7_doWork 2 = .ok (.getfield 250, 3) := by decide +kernel
theorem dX7_doWork_5 : decode cX7_doWork 5 = .ok (.iconst 1, 1) := by decide +kernel
theorem dX7_doWork_6 : decode cX7_doWork 6 = .ok (.isub, 1) := by decide +kernel
theorem dX7_doWork_7 : decode cX7_doWork 7 = .ok (.putfield 250, 3) := by decide +kernel
theorem dX7_doWork_10 : decode cX7_doWork 10 = .ok (.aload_n 0, 1) := by decide +kernel
theorem dX7_doWork_11 : decode cX7_doWork 11 = .ok (.getfield 85, 3) := by decide +kernel
theorem dX7_doWork_14 : decode cX7_doWork 14 = .ok (.aload_n 0, 1) := by decide +kernel
theorem dX7_doWork_15 : decode cX7_doWork 15 = .ok (.getfield 250, 3) := by decide +kernel
theorem dX7_doWork_18 : decode cX7_doWork 18 = .ok (.iaload, 1) := by decide +kernel
theorem dX7_doWork_19 : decode cX7_doWork 19 = .ok (.istore_n 1, 1) := by decide +kernel
theorem dX7_doWork_20 : decode cX7_doWork 20 = .ok (.aload_n 0, 1) := by decide +kernel
theorem dX7_doWork_21 : decode cX7_doWork 21 = .ok (.getfield 88, 3) := by decide +kernel
theorem dX7_doWork_24 : decode cX7_doWork 24 = .ok (.aload_n 0, 1) := by decide +kernel
theorem dX7_doWork_25 : decode cX7_doWork 25 = .ok (.getfield 250, 3) := by decide +kernel
theorem dX7_doWork_28 : decode cX7_doWork 28 = .ok (.iaload, 1) := by decide +kernel
theorem dX7_doWork_29 : decode cX7_doWork 29 = .ok (.istore_n 2, 1) := by decide +kernel
theorem dX7_doWork_30 : decode cX7_doWork 30 = .ok (.aload_n 0, 1) := by decide +kernel
theorem dX7_doWork_31 : decode cX7_doWork 31 = .ok (.getfield 91, 3) := by decide +kernel
theorem dX7_doWork_34 : decode cX7_doWork 34 = .ok (.aload_n 0, 1) := by decide +kernel
theorem dX7_doWork_35 : decode cX7_doWork 35 = .ok (.getfield 250, 3) := by decide +kernel
theorem dX7_doWork_38 : decode cX7_doWork 38 = .ok (.iaload, 1) := by decide +kernel
theorem dX7_doWork_39 : decode cX7_doWork 39 = .ok (.istore_n 3, 1) := by decide +kernel
theorem dX7_doWork_40 : decode cX7_doWork 40 = .ok (.iload_n 1, 1) := by decide +kernel
theorem dX7_doWork_41 : decode cX7_doWork 41 = .ok (.iconst 4, 1) := by decide +kernel
theorem dX7_doWork_42 : decode cX7_doWork 42 = .ok (.if_icmp .eq 8, 3) := by decide +kernel
theorem dX7_doWork_45 : decode cX7_doWork 45 = .ok (.iload_n 1, 1) := by decide +kernel
theorem dX7_doWork_46 : decode cX7_doWork 46 = .ok (.iconst 5, 1) := by decide +kernel
theorem dX7_doWork_47 : decode cX7_doWork 47 = .ok (.if_icmp .ne 14, 3) := by decide +kernel
theorem dX7_doWork_50 : decode cX7_doWork 50 = .ok (.aload_n 0, 1) := by decide +kernel
theorem dX7_doWork_51 : decode cX7_doWork 51 = .ok (.getfield 24, 3) := by decide +kernel
theorem dX7_doWork_54 : decode cX7_doWork 54 = .ok (.iload_n 2, 1) := by decide +kernel
theorem dX7_doWork_55 : decode cX7_doWork 55 = .ok (.iaload, 1) := by decide +kernel
theorem dX7_doWork_56 : decode cX7_doWork 56 = .ok (.iconst 4, 1) := by decide +kernel
theorem dX7_doWork_57 : decode cX7_doWork 57 = .ok (.irem, 1) := by decide +kernel
theorem dX7_doWork_58 : decode cX7_doWork 58 = .ok (.goto 4, 3) := by decide +kernel
theorem dX7_doWork_61 : decode cX7_doWork 61 = .ok (.iconst 0, 1) := by decide +kernel
theorem dX7_doWork_62 : decode cX7_doWork 62 = .ok (.istore 4, 2) := by decide +kernel
theorem dX7_doWork_64 : decode cX7_doWork 64 = .ok (.iload_n 1, 1) := by decide +kernel
theorem dX7_doWork_65 : decode cX7_doWork 65 = .ok (.ifCond .ne 11, 3) := by decide +kernel
theorem dX7_doWork_68 : decode cX7_doWork 68 = .ok (.aload_n 0, 1) := by decide +kernel
theorem dX7_doWork_69 : decode cX7_doWork 69 = .ok (.iload_n 2, 1) := by decide +kernel
theorem dX7_doWork_70 : decode cX7_doWork 70 = .ok (.invokevirtual 269, 3) := by decide +kernel
theorem dX7_doWork_73 : decode cX7_doWork 73 = .ok (.goto 133, 3) := by decide +kernel
theorem dX7_doWork_76 : decode cX7_doWork 76 = .ok (.iload_n 1, 1) := by decide +kernel
theorem dX7_doWork_77 : decode cX7_doWork 77 = .ok (.iconst 1, 1) := by decide +kernel
theorem dX7_doWork_78 : decode cX7_doWork 78 = .ok (.if_icmp .ne 13, 3) := by decide +kernel
theorem dX7_doWork_81 : decode cX7_doWork 81 = .ok (.aload_n 0, 1) := by decide +kernel
theorem dX7_doWork_82 : decode cX7_doWork 82 = .ok (.iload_n 2, 1) := by decide +kernel
theorem dX7_doWork_83 : decode cX7_doWork 83 = .ok (.iload_n 3, 1) := by decide +kernel
theorem dX7_doWork_84 : decode cX7_doWork 84 = .ok (.iconst 0, 1) := by decide +kernel
theorem dX7_doWork_85 : decode cX7_doWork 85 = .ok (.invokevirtual 257, 3) := by decide +kernel
theorem dX7_doWork_88 : decode cX7_doWork 88 = .ok (.goto 118, 3) := by decide +kernel
theorem dX7_doWork_91 : decode cX7_doWork 91 = .ok (.iload_n 1, 1) := by decide +kernel
theorem dX7_doWork_92 : decode cX7_doWork 92 = .ok (.iconst 2, 1) := by decide +kernel
theorem dX7_doWork_93 : decode cX7_doWork 93 = .ok (.if_icmp .ne 16, 3) := by decide +kernel
theorem dX7_doWork_96 : decode cX7_doWork 96 = .ok (.aload_n 0, 1) := by decide +kernel
theorem dX7_doWork_97 : decode cX7_doWork 97 = .ok (.iload_n 2, 1) := by decide +kernel
theorem dX7_doWork_98 : decode cX7_doWork 98 = .ok (.iconst 1, 1) := by decide +kernel
theorem dX7_doWork_99 : decode cX7_doWork 99 = .ok (.aload_n 0, 1) := by decide +kernel
theorem dX7_doWork_100 : decode cX7_doWork 100 = .ok (.getfield 247, 3) := by decide +kernel
theorem dX7_doWork_103 : decode cX7_doWork 103 = .ok (.invokevirtual 272, 3) := by decide +kernel
theorem dX7_doWork_106 : decode cX7_doWork 106 = .ok (.goto 100, 3) := by decide +kernel
theorem dX7_doWork_109 : decode cX7_doWork 109 = .ok (.iload_n 1, 1) := by decide +kernel
theorem dX7_doWork_110 : decode cX7_doWork 110 = .ok (.iconst 3, 1) := by decide +kernel
theorem dX7_doWork_111 : decode cX7_doWork 111 = .ok (.if_icmp .ne 11, 3) := by decide +kernel
theorem dX7_doWork_114 : decode cX7_doWork 114 = .ok (.aload_n 0, 1) := by decide +kernel
theorem dX7_doWork_115 : decode cX7_doWork 115 = .ok (.iload_n 2, 1) := by decide +kernel
theorem dX7_doWork_116 : decode cX7_doWork 116 = .ok (.invokevirtual 275, 3) := by decide +kernel
theorem dX7_doWork_119 : decode cX7_doWork 119 = .ok (.goto 87, 3) := by decide +kernel
theorem dX7_doWork_122 : decode cX7_doWork 122 = .ok (.iload_n 1, 1) := by decide +kernel
theorem dX7_doWork_123 : decode cX7_doWork 123 = .ok (.iconst 4, 1) := by decide +kernel
theorem dX7_doWork_124 : decode cX7_doWork 124 = .ok (.if_icmp .ne 30, 3) := by decide +kernel
theorem dX7_doWork_127 : decode cX7_doWork 127 = .ok (.aload_n 0, 1) := by decide +kernel
theorem dX7_doWork_128 : decode cX7_doWork 128 = .ok (.iload_n 3, 1) := by decide +kernel
theorem dX7_doWork_129 : decode cX7_doWork 129 = .ok (.iconst 2, 1) := by decide +kernel
theorem dX7_doWork_130 : decode cX7_doWork 130 = .ok (.aload_n 0, 1) := by decide +kernel
theorem dX7_doWork_131 : decode cX7_doWork 131 = .ok (.getfield 247, 3) := by decide +kernel
theorem dX7_doWork_134 : decode cX7_doWork 134 = .ok (.invokevirtual 272, 3) := by decide +kernel
theorem dX7_doWork_137 : decode cX7_doWork 137 = .ok (.iload 4, 2) := by decide +kernel
theorem dX7_doWork_139 : decode cX7_doWork 139 = .ok (.ifCond .le 67, 3) := by decide +kernel
theorem dX7_doWork_142 : decode cX7_doWork 142 = .ok (.aload_n 0, 1) := by decide +kernel
theorem dX7_doWork_143 : decode cX7_doWork 143 = .ok (.bipush 20, 2) := by decide +kernel
theorem dX7_doWork_145 : decode cX7_doWork 145 = .ok (.iload 4, 2) := by decide +kernel
theorem dX7_doWork_147 : decode cX7_doWork 147 = .ok (.iconst 0, 1) := by decide +kernel
theorem dX7_doWork_148 : decode cX7_doWork 148 = .ok (.invokevirtual 257, 3) := by decide +kernel
theorem dX7_doWork_151 : decode cX7_doWork 151 = .ok (.goto 55, 3) := by decide +kernel
theorem dX7_doWork_154 : decode cX7_doWork 154 = .ok (.iload_n 1, 1) := by decide +kernel
theorem dX7_doWork_155 : decode cX7_doWork 155 = .ok (.iconst 5, 1) := by decide +kernel
theorem dX7_doWork_156 : decode cX7_doWork 156 = .ok (.if_icmp .ne 45, 3) := by decide +kernel
theorem dX7_doWork_159 : decode cX7_doWork 159 = .ok (.iload 4, 2) := by decide +kernel
theorem dX7_doWork_161 : decode cX7_doWork 161 = .ok (.ifCond .le 12, 3) := by decide +kernel
theorem dX7_doWork_164 : decode cX7_doWork 164 = .ok (.aload_n 0, 1) := by decide +kernel
theorem dX7_doWork_165 : decode cX7_doWork 165 = .ok (.bipush 15, 2) := by decide +kernel
theorem dX7_doWork_167 : decode cX7_doWork 167 = .ok (.iload 4, 2) := by decide +kernel
theorem dX7_doWork_169 : decode cX7_doWork 169 = .ok (.iconst 0, 1) := by decide +kernel
theorem dX7_doWork_170 : decode cX7_doWork 170 = .ok (.invokevirtual 257, 3) := by decide +kernel
theorem dX7_doWork_173 : decode cX7_doWork 173 = .ok (.aload_n 0, 1) := by decide +kernel
theorem dX7_doWork_174 : decode cX7_doWork 174 = .ok (.bipush 11, 2) := by decide +kernel
theorem dX7_doWork_176 : decode cX7_doWork 176 = .ok (.aload_n 0, 1) := by decide +kernel
theorem dX7_doWork_177 : decode cX7_doWork 177 = .ok (.getfield 24, 3) := by decide +kernel
theorem dX7_doWork_180 : decode cX7_doWork 180 = .ok (.iload_n 3, 1) := by decide +kernel
theorem dX7_doWork_181 : decode cX7_doWork 181 = .ok (.iaload, 1) := by decide +kernel
theorem dX7_doWork_182 : decode cX7_doWork 182 = .ok (.iconst 0, 1) := by decide +kernel
theorem dX7_doWork_183 : decode cX7_doWork 183 = .ok (.invokevirtual 257, 3) := by decide +kernel
theorem dX7_doWork_186 : decode cX7_doWork 186 = .ok (.aload_n 0, 1) := by decide +kernel
theorem dX7_doWork_187 : decode cX7_doWork 187 = .ok (.getfield 24, 3) := by decide +kernel
theorem dX7_doWork_190 : decode cX7_doWork 190 = .ok (.iload_n 3, 1) := by decide +kernel
theorem dX7_doWork_191 : decode cX7_doWork 191 = .ok (.aload_n 0, 1) := by decide +kernel
theorem dX7_doWork_192 : decode cX7_doWork 192 = .ok (.getfield 247, 3) := by decide +kernel
theorem dX7_doWork_195 : decode cX7_doWork 195 = .ok (.iconst 1, 1) := by decide +kernel
theorem dX7_doWork_196 : decode cX7_doWork 196 = .ok (.isub, 1) := by decide +kernel
theorem dX7_doWork_197 : decode cX7_doWork 197 = .ok (.iastore, 1) := by decide +kernel
theorem dX7_doWork_198 : decode cX7_doWork 198 = .ok (.goto 8, 3) := by decide +kernel
theorem dX7_doWork_201 : decode cX7_doWork 201 = .ok (.aload_n 0, 1) := by decide +kernel
theorem dX7_doWork_202 : decode cX7_doWork 202 = .ok (.iload_n 2, 1) := by decide +kernel
theorem dX7_doWork_203 : decode cX7_doWork 203 = .ok (.invokevirtual 278, 3) := by decide +kernel
theorem dX7_doWork_206 : decode cX7_doWork 206 = .ok (.return_, 1) := by decide +kernel
theorem dX7_endMatch_0 : decode cX7_endMatch 0 = .ok (.aload_n 0, 1) := by decide +kernel
theorem dX7_endMatch_1 : decode cX7_endMatch 1 = .ok (.getfield 24, 3) := by decide +kernel
theorem dX7_endMatch_4 : decode cX7_endMatch 4 = .ok (.iload_n 1, 1) := by decide +kernel
theorem dX7_endMatch_5 : decode cX7_endMatch 5 = .ok (.iaload, 1) := by decide +kernel
theorem dX7_endMatch_6 : decode cX7_endMatch 6 = .ok (.istore_n 2, 1) := by decide +kernel
theorem dX7_endMatch_7 : decode cX7_endMatch 7 = .ok (.iload_n 2, 1) := by decide +kernel
theorem dX7_endMatch_8 : decode cX7_endMatch 8 = .ok (.ifCond .lt 35, 3) := by decide +kernel
theorem dX7_endMatch_11 : decode cX7_endMatch 11 = .ok (.iload_n 2, 1) := by decide +kernel
theorem dX7_endMatch_12 : decode cX7_endMatch 12 = .ok (.bipush 121, 2) := by decide +kernel
theorem dX7_endMatch_14 : decode cX7_endMatch 14 = .ok (.if_icmp .ge 29, 3) := by decide +kernel
theorem dX7_endMatch_17 : decode cX7_endMatch 17 = .ok (.aload_n 0, 1) := by decide +kernel
theorem dX7_endMatch_18 : decode cX7_endMatch 18 = .ok (.getfield 79, 3) := by decide +kernel
theorem dX7_endMatch_21 : decode cX7_endMatch 21 = .ok (.iconst 3, 1) := by decide +kernel
theorem dX7_endMatch_22 : decode cX7_endMatch 22 = .ok (.iload_n 2, 1) := by decide +kernel
theorem dX7_endMatch_23 : decode cX7_endMatch 23 = .ok (.imul, 1) := by decide +kernel
theorem dX7_endMatch_24 : decode cX7_endMatch 24 = .ok (.iconst 1, 1) := by decide +kernel
theorem dX7_endMatch_25 : decode cX7_endMatch 25 = .ok (.iadd, 1) := by decide +kernel
theorem dX7_endMatch_26 : decode cX7_endMatch 26 = .ok (.iaload, 1) := by decide +kernel
theorem dX7_endMatch_27 : decode cX7_endMatch 27 = .ok (.istore_n 3, 1) := by decide +kernel
theorem dX7_endMatch_28 : decode cX7_endMatch 28 = .ok (.aload_n 0, 1) := by decide +kernel
theorem dX7_endMatch_29 : decode cX7_endMatch 29 = .ok (.iload_n 2, 1) := by decide +kernel
theorem dX7_endMatch_30 : decode cX7_endMatch 30 = .ok (.iconst 1, 1) := by decide +kernel
theorem dX7_endMatch_31 : decode cX7_endMatch 31 = .ok (.aload_n 0, 1) := by decide +kernel
theorem dX7_endMatch_32 : decode cX7_endMatch 32 = .ok (.getfield 247, 3) := by decide +kernel
theorem dX7_endMatch_35 : decode cX7_endMatch 35 = .ok (.invokevirtual 272, 3) := by decide +kernel
theorem dX7_endMatch_38 : decode cX7_endMatch 38 = .ok (.iload_n 3, 1) := by decide +kernel
theorem dX7_endMatch_39 : decode cX7_endMatch 39 = .ok (.istore_n 2, 1) := by decide +kernel
theorem dX7_endMatch_40 : decode cX7_endMatch 40 = .ok (.goto (-33), 3) := by decide +kernel
theorem dX7_endMatch_43 : decode cX7_endMatch 43 = .ok (.return_, 1) := by decide +kernel
theorem dX7_makeCode_0 : decode cX7_makeCode 0 = .ok (.aload_n 0, 1) := by decide +kernel
theorem dX7_makeCode_1 : decode cX7_makeCode 1 = .ok (.iconst 0, 1) := by decide +kernel
theorem dX7_makeCode_2 : decode cX7_makeCode 2 = .ok (.putfield 247, 3) := by decide +kernel
theorem dX7_makeCode_5 : decode cX7_makeCode 5 = .ok (.aload_n 0, 1) := by decide +kernel
theorem dX7_makeCode_6 : decode cX7_makeCode 6 = .ok (.iconst 0, 1) := by decide +kernel
theorem dX7_makeCode_7 : decode cX7_makeCode 7 = .ok (.putfield 250, 3) := by decide +kernel
theorem dX7_makeCode_10 : decode cX7_makeCode 10 = .ok (.aload_n 0, 1) := by decide +kernel
theorem dX7_makeCode_11 : decode cX7_makeCode 11 = .ok (.iconst 0, 1) := by decide +kernel
theorem dX7_makeCode_12 : decode cX7_makeCode 12 = .ok (.iconst 0, 1) := by decide +kernel
theorem dX7_makeCode_13 : decode cX7_makeCode 13 = .ok (.invokevirtual 260, 3) := by decide +kernel
theorem dX7_makeCode_16 : decode cX7_makeCode 16 = .ok (.aload_n 0, 1) := by decide +kernel
theorem dX7_makeCode_17 : decode cX7_makeCode 17 = .ok (.aload_n 0, 1) := by decide +kernel
theorem dX7_makeCode_18 : decode cX7_makeCode 18 = .ok (.getfield 223, 3) := by decide +kernel
theorem dX7_makeCode_21 : decode cX7_makeCode 21 = .ok (.invokevirtual 263, 3) := by decide +kernel
theorem dX7_makeCode_24 : decode cX7_makeCode 24 = .ok (.aload_n 0, 1) := by decide +kernel
theorem dX7_makeCode_25 : decode cX7_makeCode 25 = .ok (.getfield 250, 3) := by decide +kernel
theorem dX7_makeCode_28 : decode cX7_makeCode 28 = .ok (.ifCond .le 19, 3) := by decide +kernel
theorem dX7_makeCode_31 : decode cX7_makeCode 31 = .ok (.aload_n 0, 1) := by decide +kernel
theorem dX7_makeCode_32 : decode cX7_makeCode 32 = .ok (.getfield 247, 3) := by decide +kernel
theorem dX7_makeCode_35 : decode cX7_makeCode 35 = .ok (.bipush 120, 2) := by decide +kernel
theorem dX7_makeCode_37 : decode cX7_makeCode 37 = .ok (.if_icmp .gt 10, 3) := by decide +kernel
theorem dX7_makeCode_40 : decode cX7_makeCode 40 = .ok (.aload_n 0, 1) := by decide +kernel
theorem dX7_makeCode_41 : decode cX7_makeCode 41 = .ok (.invokevirtual 281, 3) := by decide +kernel
theorem dX7_makeCode_44 : decode cX7_makeCode 44 = .ok (.goto (-20), 3) := by decide +kernel
theorem dX7_makeCode_47 : decode cX7_makeCode 47 = .ok (.return_, 1) := by decide +kernel
theorem dX7_compile_0 : decode cX7_compile 0 = .ok (.aload_n 0, 1) := by decide +kernel
theorem dX7_compile_1 : decode cX7_compile 1 = .ok (.iconst 0, 1) := by decide +kernel
theorem dX7_compile_2 : decode cX7_compile 2 = .ok (.putfield 112, 3) := by decide +kernel
theorem dX7_compile_5 : decode cX7_compile 5 = .ok (.aload_n 0, 1) := by decide +kernel
theorem dX7_compile_6 : decode cX7_compile 6 = .ok (.iconst 0, 1) := by decide +kernel
theorem dX7_compile_7 : decode cX7_compile 7 = .ok (.putfield 121, 3) := by decide +kernel
theorem dX7_compile_10 : decode cX7_compile 10 = .ok (.iconst 0, 1) := by decide +kernel
theorem dX7_compile_11 : decode cX7_compile 11 = .ok (.istore_n 1, 1) := by decide +kernel
theorem dX7_compile_12 : decode cX7_compile 12 = .ok (.iload_n 1, 1) := by decide +kernel
theorem dX7_compile_13 : decode cX7_compile 13 = .ok (.aload_n 0, 1) := by decide +kernel
theorem dX7_compile_14 : decode cX7_compile 14 = .ok (.getfield 115, 3) := by decide +kernel
theorem dX7_compile_17 : decode cX7_compile 17 = .ok (.if_icmp .ge 45, 3) := by decide +kernel
theorem dX7_compile_20 : decode cX7_compile 20 = .ok (.aload_n 0, 1) := by decide +kernel
theorem dX7_compile_21 : decode cX7_compile 21 = .ok (.getfield 7, 3) := by decide +kernel
theorem dX7_compile_24 : decode cX7_compile 24 = .ok (.iload_n 1, 1) := by decide +kernel
theorem dX7_compile_25 : decode cX7_compile 25 = .ok (.caload, 1) := by decide +kernel
theorem dX7_compile_26 : decode cX7_compile 26 = .ok (.bipush 32, 2) := by decide +kernel
theorem dX7_compile_28 : decode cX7_compile 28 = .ok (.if_icmp .eq 28, 3) := by decide +kernel
theorem dX7_compile_31 : decode cX7_compile 31 = .ok (.aload_n 0, 1) := by decide +kernel
theorem dX7_compile_32 : decode cX7_compile 32 = .ok (.getfield 13, 3) := by decide +kernel
theorem dX7_compile_35 : decode cX7_compile 35 = .ok (.aload_n 0, 1) := by decide +kernel
theorem dX7_compile_36 : decode cX7_compile 36 = .ok (.getfield 121, 3) := by decide +kernel
theorem dX7_compile_39 : decode cX7_compile 39 = .ok (.aload_n 0, 1) := by decide +kernel
theorem dX7_compile_40 : decode cX7_compile 40 = .ok (.getfield 7, 3) := by decide +kernel
theorem dX7_compile_43 : decode cX7_compile 43 = .ok (.iload_n 1, 1) := by decide +kernel
theorem dX7_compile_44 : decode cX7_compile 44 = .ok (.caload, 1) := by decide +kernel
theorem dX7_compile_45 : decode cX7_compile 45 = .ok (.castore, 1) := by decide +kernel
theorem dX7_compile_46 : decode cX7_compile 46 = .ok (.aload_n 0, 1) := by decide +kernel
theorem dX7_compile_47 : decode cX7_compile 47 = .ok (.dup, 1) := by decide +kernel
theorem dX7_compile_48 : decode cX7_compile 48 = .ok (.getfield 121, 3) := by decide +kernel
theorem dX7_compile_51 : decode cX7_compile 51 = .ok (.iconst 1, 1) := by decide +kernel
theorem dX7_compile_52 : decode cX7_compile 52 = .ok (.iadd, 1) := by decide +kernel
theorem dX7_compile_53 : decode cX7_compile 53 = .ok (.putfield 121, 3) := by decide +kernel
theorem dX7_compile_56 : decode cX7_compile 56 = .ok (.iinc 1 1, 3) := by decide +kernel
theorem dX7_compile_59 : decode cX7_compile 59 = .ok (.goto (-47), 3) := by decide +kernel
theorem dX7_compile_62 : decode cX7_compile 62 = .ok (.aload_n 0, 1) := by decide +kernel
theorem dX7_compile_63 : decode cX7_compile 63 = .ok (.iconst 0, 1) := by decide +kernel
theorem dX7_compile_64 : decode cX7_compile 64 = .ok (.putfield 115, 3) := by decide +kernel
theorem dX7_compile_67 : decode cX7_compile 67 = .ok (.aload_n 0, 1) := by decide +kernel
theorem dX7_compile_68 : decode cX7_compile 68 = .ok (.iconst 0, 1) := by decide +kernel
theorem dX7_compile_69 : decode cX7_compile 69 = .ok (.putfield 118, 3) := by decide +kernel
theorem dX7_compile_72 : decode cX7_compile 72 = .ok (.aload_n 0, 1) := by decide +kernel
theorem dX7_compile_73 : decode cX7_compile 73 = .ok (.iconst 0, 1) := by decide +kernel
theorem dX7_compile_74 : decode cX7_compile 74 = .ok (.putfield 138, 3) := by decide +kernel
theorem dX7_compile_77 : decode cX7_compile 77 = .ok (.aload_n 0, 1) := by decide +kernel
theorem dX7_compile_78 : decode cX7_compile 78 = .ok (.invokevirtual 284, 3) := by decide +kernel
theorem dX7_compile_81 : decode cX7_compile 81 = .ok (.aload_n 0, 1) := by decide +kernel
theorem dX7_compile_82 : decode cX7_compile 82 = .ok (.getfield 138, 3) := by decide +kernel
theorem dX7_compile_85 : decode cX7_compile 85 = .ok (.ifCond .ne 7, 3) := by decide +kernel
theorem dX7_compile_88 : decode cX7_compile 88 = .ok (.aload_n 0, 1) := by decide +kernel
theorem dX7_compile_89 : decode cX7_compile 89 = .ok (.invokevirtual 287, 3) := by decide +kernel
theorem dX7_compile_92 : decode cX7_compile 92 = .ok (.aload_n 0, 1) := by decide +kernel
theorem dX7_compile_93 : decode cX7_compile 93 = .ok (.getfield 138, 3) := by decide +kernel
theorem dX7_compile_96 : decode cX7_compile 96 = .ok (.ifCond .ne 25, 3) := by decide +kernel
theorem dX7_compile_99 : decode cX7_compile 99 = .ok (.aload_n 0, 1) := by decide +kernel
theorem dX7_compile_100 : decode cX7_compile 100 = .ok (.getfield 247, 3) := by decide +kernel
theorem dX7_compile_103 : decode cX7_compile 103 = .ok (.bipush 120, 2) := by decide +kernel
theorem dX7_compile_105 : decode cX7_compile 105 = .ok (.if_icmp .le 16, 3) := by decide +kernel
theorem dX7_compile_108 : decode cX7_compile 108 = .ok (.aload_n 0, 1) := by decide +kernel
theorem dX7_compile_109 : decode cX7_compile 109 = .ok (.iconst 1, 1) := by decide +kernel
theorem dX7_compile_110 : decode cX7_compile 110 = .ok (.putfield 138, 3) := by decide +kernel
theorem dX7_compile_113 : decode cX7_compile 113 = .ok (.aload_n 0, 1) := by decide +kernel
theorem dX7_compile_114 : decode cX7_compile 114 = .ok (.aload_n 0, 1) := by decide +kernel
theorem dX7_compile_115 : decode cX7_compile 115 = .ok (.getfield 121, 3) := by decide +kernel
theorem dX7_compile_118 : decode cX7_compile 118 = .ok (.putfield 118, 3) := by decide +kernel
theorem dX7_compile_121 : decode cX7_compile 121 = .ok (.aload_n 0, 1) := by decide +kernel
theorem dX7_compile_122 : decode cX7_compile 122 = .ok (.aload_n 0, 1) := by decide +kernel
theorem dX7_compile_123 : decode cX7_compile 123 = .ok (.getfield 138, 3) := by decide +kernel
theorem dX7_compile_126 : decode cX7_compile 126 = .ok (.ifCond .eq 10, 3) := by decide +kernel
theorem dX7_compile_129 : decode cX7_compile 129 = .ok (.aload_n 0, 1) := by decide +kernel
theorem dX7_compile_130 : decode cX7_compile 130 = .ok (.getfield 118, 3) := by decide +kernel
theorem dX7_compile_133 : decode cX7_compile 133 = .ok (.goto 4, 3) := by decide +kernel
theorem dX7_compile_136 : decode cX7_compile 136 = .ok (.iconst (-1), 1) := by decide +kernel
theorem dX7_compile_137 : decode cX7_compile 137 = .ok (.putfield 16, 3) := by decide +kernel
theorem dX7_compile_140 : decode cX7_compile 140 = .ok (.aload_n 0, 1) := by decide +kernel
theorem dX7_compile_141 : decode cX7_compile 141 = .ok (.getfield 138, 3) := by decide +kernel
theorem dX7_compile_144 : decode cX7_compile 144 = .ok (.ifCond .eq 9, 3) := by decide +kernel
theorem dX7_compile_147 : decode cX7_compile 147 = .ok (.aload_n 0, 1) := by decide +kernel
theorem dX7_compile_148 : decode cX7_compile 148 = .ok (.iconst 1, 1) := by decide +kernel
theorem dX7_compile_149 : decode cX7_compile 149 = .ok (.invokevirtual 290, 3) := by decide +kernel
theorem dX7_compile_152 : decode cX7_compile 152 = .ok (.ireturn, 1) := by decide +kernel
theorem dX7_compile_153 : decode cX7_compile 153 = .ok (.aload_n 0, 1) := by decide +kernel
theorem dX7_compile_154 : decode cX7_compile 154 = .ok (.aload_n 0, 1) := by decide +kernel
theorem dX7_compile_155 : decode cX7_compile 155 = .ok (.getfield 247, 3) := by decide +kernel
theorem dX7_compile_158 : decode cX7_compile 158 = .ok (.putfield 294, 3) := by decide +kernel
theorem dX7_compile_161 : decode cX7_compile 161 = .ok (.iconst 0, 1) := by decide +kernel
theorem dX7_compile_162 : decode cX7_compile 162 = .ok (.istore_n 1, 1) := by decide +kernel
theorem dX7_compile_163 : decode cX7_compile 163 = .ok (.iload_n 1, 1) := by decide +kernel
theorem dX7_compile_164 : decode cX7_compile 164 = .ok (.iconst 3, 1) := by decide +kernel
theorem dX7_compile_165 : decode cX7_compile 165 = .ok (.aload_n 0, 1) := by decide +kernel
theorem dX7_compile_166 : decode cX7_compile 166 = .ok (.getfield 247, 3) := by decide +kernel
theorem dX7_compile_169 : decode cX7_compile 169 = .ok (.imul, 1) := by decide +kernel
theorem dX7_compile_170 : decode cX7_compile 170 = .ok (.if_icmp .ge 21, 3) := by decide +kernel
theorem dX7_compile_173 : decode cX7_compile 173 = .ok (.aload_n 0, 1) := by decide +kernel
theorem dX7_compile_174 : decode cX7_compile 174 = .ok (.getfield 82, 3) := by decide +kernel
theorem dX7_compile_177 : decode cX7_compile 177 = .ok (.iload_n 1, 1) := by decide +kernel
theorem dX7_compile_178 : decode cX7_compile 178 = .ok (.aload_n 0, 1) := by decide +kernel
theorem dX7_compile_179 : decode cX7_compile 179 = .ok (.getfield 79, 3) := by decide +kernel
theorem dX7_compile_182 : decode cX7_compile 182 = .ok (.iload_n 1, 1) := by decide +kernel
theorem dX7_compile_183 : decode cX7_compile 183 = .ok (.iaload, 1) := by decide +kernel
theorem dX7_compile_184 : decode cX7_compile 184 = .ok (.iastore, 1) := by decide +kernel
theorem dX7_compile_185 : decode cX7_compile 185 = .ok (.iinc 1 1, 3) := by decide +kernel
theorem dX7_compile_188 : decode cX7_compile 188 = .ok (.goto (-25), 3) := by decide +kernel
theorem dX7_compile_191 : decode cX7_compile 191 = .ok (.aload_n 0, 1) := by decide +kernel
theorem dX7_compile_192 : decode cX7_compile 192 = .ok (.iconst 0, 1) := by decide +kernel
theorem dX7_compile_193 : decode cX7_compile 193 = .ok (.putfield 297, 3) := by decide +kernel
theorem dX7_compile_196 : decode cX7_compile 196 = .ok (.aload_n 0, 1) := by decide +kernel
theorem dX7_compile_197 : decode cX7_compile 197 = .ok (.iconst 0, 1) := by decide +kernel
theorem dX7_compile_198 : decode cX7_compile 198 = .ok (.putfield 300, 3) := by decide +kernel
theorem dX7_compile_201 : decode cX7_compile 201 = .ok (.aload_n 0, 1) := by decide +kernel
theorem dX7_compile_202 : decode cX7_compile 202 = .ok (.iconst 0, 1) := by decide +kernel
theorem dX7_compile_203 : decode cX7_compile 203 = .ok (.putfield 303, 3) := by decide +kernel
theorem dX7_compile_206 : decode cX7_compile 206 = .ok (.aload_n 0, 1) := by decide +kernel
theorem dX7_compile_207 : decode cX7_compile 207 = .ok (.iconst 1, 1) := by decide +kernel
theorem dX7_compile_208 : decode cX7_compile 208 = .ok (.putfield 100, 3) := by decide +kernel
theorem dX7_compile_211 : decode cX7_compile 211 = .ok (.aload_n 0, 1) := by decide +kernel
theorem dX7_compile_212 : decode cX7_compile 212 = .ok (.iconst 1, 1) := by decide +kernel
theorem dX7_compile_213 : decode cX7_compile 213 = .ok (.putfield 103, 3) := by decide +kernel
theorem dX7_compile_216 : decode cX7_compile 216 = .ok (.aload_n 0, 1) := by decide +kernel
theorem dX7_compile_217 : decode cX7_compile 217 = .ok (.iconst 0, 1) := by decide +kernel
theorem dX7_compile_218 : decode cX7_compile 218 = .ok (.putfield 306, 3) := by decide +kernel
theorem dX7_compile_221 : decode cX7_compile 221 = .ok (.aload_n 0, 1) := by decide +kernel
theorem dX7_compile_222 : decode cX7_compile 222 = .ok (.iconst 0, 1) := by decide +kernel
theorem dX7_compile_223 : decode cX7_compile 223 = .ok (.putfield 309, 3) := by decide +kernel
theorem dX7_compile_226 : decode cX7_compile 226 = .ok (.aload_n 0, 1) := by decide +kernel
theorem dX7_compile_227 : decode cX7_compile 227 = .ok (.iconst 1, 1) := by decide +kernel
theorem dX7_compile_228 : decode cX7_compile 228 = .ok (.putfield 312, 3) := by decide +kernel
theorem dX7_compile_231 : decode cX7_compile 231 = .ok (.aload_n 0, 1) := by decide +kernel
theorem dX7_compile_232 : decode cX7_compile 232 = .ok (.iconst 0, 1) := by decide +kernel
theorem dX7_compile_233 : decode cX7_compile 233 = .ok (.putfield 315, 3) := by decide +kernel
theorem dX7_compile_236 : decode cX7_compile 236 = .ok (.aload_n 0, 1) := by decide +kernel
theorem dX7_compile_237 : decode cX7_compile 237 = .ok (.getfield 294, 3) := by decide +kernel
theorem dX7_compile_240 : decode cX7_compile 240 = .ok (.ireturn, 1) := by decide +kernel
theorem dX7_place_0 : decode cX7_place 0 = .ok (.aload_n 0, 1) := by decide +kernel
theorem dX7_place_1 : decode cX7_place 1 = .ok (.iconst 0, 1) := by decide +kernel
theorem dX7_place_2 : decode cX7_place 2 = .ok (.putfield 112, 3) := by decide +kernel
theorem dX7_place_5 : decode cX7_place 5 = .ok (.aload_n 0, 1) := by decide +kernel
theorem dX7_place_6 : decode cX7_place 6 = .ok (.getfield 16, 3) := by decide +kernel
theorem dX7_place_9 : decode cX7_place 9 = .ok (.ireturn, 1) := by decide +kernel
theorem dX7_code_0 : decode cX7_code 0 = .ok (.aload_n 0, 1) := by decide +kernel
theorem dX7_code_1 : decode cX7_code 1 = .ok (.iconst 0, 1) := by decide +kernel
theorem dX7_code_2 : decode cX7_code 2 = .ok (.putfield 112, 3) := by decide +kernel
theorem dX7_code_5 : decode cX7_code 5 = .ok (.iload_n 1, 1) := by decide +kernel
theorem dX7_code_6 : decode cX7_code 6 = .ok (.ifCond .lt 20, 3) := by decide +kernel
theorem dX7_code_9 : decode cX7_code 9 = .ok (.iload_n 1, 1) := by decide +kernel
theorem dX7_code_10 : decode cX7_code 10 = .ok (.aload_n 0, 1) := by decide +kernel
theorem dX7_code_11 : decode cX7_code 11 = .ok (.getfield 294, 3) := by decide +kernel
theorem dX7_code_14 : decode cX7_code 14 = .ok (.if_icmp .ge 12, 3) := by decide +kernel
theorem dX7_code_17 : decode cX7_code 17 = .ok (.iload_n 2, 1) := by decide +kernel
theorem dX7_code_18 : decode cX7_code 18 = .ok (.ifCond .lt 8, 3) := by decide +kernel
theorem dX7_code_21 : decode cX7_code 21 = .ok (.iload_n 2, 1) := by decide +kernel
theorem dX7_code_22 : decode cX7_code 22 = .ok (.iconst 2, 1) := by decide +kernel
theorem dX7_code_23 : decode cX7_code 23 = .ok (.if_icmp .le 7, 3) := by decide +kernel
theorem dX7_code_26 : decode cX7_code 26 = .ok (.iconst (-1), 1) := by decide +kernel
theorem dX7_code_27 : decode cX7_code 27 = .ok (.goto 13, 3) := by decide +kernel
theorem dX7_code_30 : decode cX7_code 30 = .ok (.aload_n 0, 1) := by decide +kernel
theorem dX7_code_31 : decode cX7_code 31 = .ok (.getfield 82, 3) := by decide +kernel
theorem dX7_code_34 : decode cX7_code 34 = .ok (.iconst 3, 1) := by decide +kernel
theorem dX7_code_35 : decode cX7_code 35 = .ok (.iload_n 1, 1) := by decide +kernel
theorem dX7_code_36 : decode cX7_code 36 = .ok (.imul, 1) := by decide +kernel
theorem dX7_code_37 : decode cX7_code 37 = .ok (.iload_n 2, 1) := by decide +kernel
theorem dX7_code_38 : decode cX7_code 38 = .ok (.iadd, 1) := by decide +kernel
theorem dX7_code_39 : decode cX7_code 39 = .ok (.iaload, 1) := by decide +kernel
theorem dX7_code_40 : decode cX7_code 40 = .ok (.ireturn, 1) := by decide +kernel
theorem dX7_isInt_0 : decode cX7_isInt 0 = .ok (.iload_n 0, 1) := by decide +kernel
theorem dX7_isInt_1 : decode cX7_isInt 1 = .ok (.iconst 1, 1) := by decide +kernel
theorem dX7_isInt_2 : decode cX7_isInt 2 = .ok (.iand, 1) := by decide +kernel
theorem dX7_isInt_3 : decode cX7_isInt 3 = .ok (.iconst 1, 1) := by decide +kernel
theorem dX7_isInt_4 : decode cX7_isInt 4 = .ok (.if_icmp .ne 7, 3) := by decide +kernel
theorem dX7_isInt_7 : decode cX7_isInt 7 = .ok (.iconst 1, 1) := by decide +kernel
theorem dX7_isInt_8 : decode cX7_isInt 8 = .ok (.goto 4, 3) := by decide +kernel
theorem dX7_isInt_11 : decode cX7_isInt 11 = .ok (.iconst 0, 1) := by decide +kernel
theorem dX7_isInt_12 : decode cX7_isInt 12 = .ok (.ireturn, 1) := by decide +kernel
theorem dX7_isPointer_0 : decode cX7_isPointer 0 = .ok (.iload_n 0, 1) := by decide +kernel
theorem dX7_isPointer_1 : decode cX7_isPointer 1 = .ok (.iconst 3, 1) := by decide +kernel
theorem dX7_isPointer_2 : decode cX7_isPointer 2 = .ok (.iand, 1) := by decide +kernel
theorem dX7_isPointer_3 : decode cX7_isPointer 3 = .ok (.ifCond .ne 7, 3) := by decide +kernel
theorem dX7_isPointer_6 : decode cX7_isPointer 6 = .ok (.iconst 1, 1) := by decide +kernel
theorem dX7_isPointer_7 : decode cX7_isPointer 7 = .ok (.goto 4, 3) := by decide +kernel
theorem dX7_isPointer_10 : decode cX7_isPointer 10 = .ok (.iconst 0, 1) := by decide +kernel
theorem dX7_isPointer_11 : decode cX7_isPointer 11 = .ok (.ireturn, 1) := by decide +kernel
theorem dX7_isTag_0 : decode cX7_isTag 0 = .ok (.iload_n 0, 1) := by decide +kernel
theorem dX7_isTag_1 : decode cX7_isTag 1 = .ok (.iconst 3, 1) := by decide +kernel
theorem dX7_isTag_2 : decode cX7_isTag 2 = .ok (.iand, 1) := by decide +kernel
theorem dX7_isTag_3 : decode cX7_isTag 3 = .ok (.iconst 2, 1) := by decide +kernel
theorem dX7_isTag_4 : decode cX7_isTag 4 = .ok (.if_icmp .ne 7, 3) := by decide +kernel
theorem dX7_isTag_7 : decode cX7_isTag 7 = .ok (.iconst 1, 1) := by decide +kernel
theorem dX7_isTag_8 : decode cX7_isTag 8 = .ok (.goto 4, 3) := by decide +kernel
theorem dX7_isTag_11 : decode cX7_isTag 11 = .ok (.iconst 0, 1) := by decide +kernel
theorem dX7_isTag_12 : decode cX7_isTag 12 = .ok (.ireturn, 1) := by decide +kernel
theorem dX7_blockKind_0 : decode cX7_blockKind 0 = .ok (.aload_n 0, 1) := by decide +kernel
theorem dX7_blockKind_1 : decode cX7_blockKind 1 = .ok (.getfield 94, 3) := by decide +kernel
theorem dX7_blockKind_4 : decode cX7_blockKind 4 = .ok (.iload_n 1, 1) := by decide +kernel
theorem dX7_blockKind_5 : decode cX7_blockKind 5 = .ok (.iconst 4, 1) := by decide +kernel
theorem dX7_blockKind_6 : decode cX7_blockKind 6 = .ok (.idiv, 1) := by decide +kernel
theorem dX7_blockKind_7 : decode cX7_blockKind 7 = .ok (.iaload, 1) := by decide +kernel
theorem dX7_blockKind_8 : decode cX7_blockKind 8 = .ok (.bipush 15, 2) := by decide +kernel
theorem dX7_blockKind_10 : decode cX7_blockKind 10 = .ok (.iand, 1) := by decide +kernel
theorem dX7_blockKind_11 : decode cX7_blockKind 11 = .ok (.ireturn, 1) := by decide +kernel
theorem dX7_blockSize_0 : decode cX7_blockSize 0 = .ok (.aload_n 0, 1) := by decide +kernel
theorem dX7_blockSize_1 : decode cX7_blockSize 1 = .ok (.getfield 94, 3) := by decide +kernel
theorem dX7_blockSize_4 : decode cX7_blockSize 4 = .ok (.iload_n 1, 1) := by decide +kernel
theorem dX7_blockSize_5 : decode cX7_blockSize 5 = .ok (.iconst 4, 1) := by decide +kernel
theorem dX7_blockSize_6 : decode cX7_blockSize 6 = .ok (.idiv, 1) := by decide +kernel
theorem dX7_blockSize_7 : decode cX7_blockSize 7 = .ok (.iaload, 1) := by decide +kernel
theorem dX7_blockSize_8 : decode cX7_blockSize 8 = .ok (.iconst 4, 1) := by decide +kernel
theorem dX7_blockSize_9 : decode cX7_blockSize 9 = .ok (.ishr, 1) := by decide +kernel
theorem dX7_blockSize_10 : decode cX7_blockSize 10 = .ok (.ireturn, 1) := by decide +kernel
theorem dX7_field_0 : decode cX7_field 0 = .ok (.aload_n 0, 1) := by decide +kernel
theorem dX7_field_1 : decode cX7_field 1 = .ok (.getfield 94, 3) := by decide +kernel
theorem dX7_field_4 : decode cX7_field 4 = .ok (.iload_n 1, 1) := by decide +kernel
theorem dX7_field_5 : decode cX7_field 5 = .ok (.iconst 4, 1) := by decide +kernel
theorem dX7_field_6 : decode cX7_field 6 = .ok (.idiv, 1) := by decide +kernel
theorem dX7_field_7 : decode cX7_field 7 = .ok (.iconst 1, 1) := by decide +kernel
theorem dX7_field_8 : decode cX7_field 8 = .ok (.iadd, 1) := by decide +kernel
theorem dX7_field_9 : decode cX7_field 9 = .ok (.iload_n 2, 1) := by decide +kernel
theorem dX7_field_10 : decode cX7_field 10 = .ok (.iadd, 1) := by decide +kernel
theorem dX7_field_11 : decode cX7_field 11 = .ok (.iaload, 1) := by decide +kernel
theorem dX7_field_12 : decode cX7_field 12 = .ok (.ireturn, 1) := by decide +kernel
theorem dX7_block_0 : decode cX7_block 0 = .ok (.aload_n 0, 1) := by decide +kernel
theorem dX7_block_1 : decode cX7_block 1 = .ok (.getfield 300, 3) := by decide +kernel
theorem dX7_block_4 : decode cX7_block 4 = .ok (.aload_n 0, 1) := by decide +kernel
theorem dX7_block_5 : decode cX7_block 5 = .ok (.getfield 297, 3) := by decide +kernel
theorem dX7_block_8 : decode cX7_block 8 = .ok (.iadd, 1) := by decide +kernel
theorem dX7_block_9 : decode cX7_block 9 = .ok (.istore 4, 2) := by decide +kernel
theorem dX7_block_11 : decode cX7_block 11 = .ok (.aload_n 0, 1) := by decide +kernel
theorem dX7_block_12 : decode cX7_block 12 = .ok (.getfield 94, 3) := by decide +kernel
theorem dX7_block_15 : decode cX7_block 15 = .ok (.iload 4, 2) := by decide +kernel
theorem dX7_block_17 : decode cX7_block 17 = .ok (.bipush 32, 2) := by decide +kernel
theorem dX7_block_19 : decode cX7_block 19 = .ok (.iload_n 1, 1) := by decide +kernel
theorem dX7_block_20 : decode cX7_block 20 = .ok (.iadd, 1) := by decide +kernel
theorem dX7_block_21 : decode cX7_block 21 = .ok (.iastore, 1) := by decide +kernel
theorem dX7_block_22 : decode cX7_block 22 = .ok (.aload_n 0, 1) := by decide +kernel
theorem dX7_block_23 : decode cX7_block 23 = .ok (.getfield 94, 3) := by decide +kernel
theorem dX7_block_26 : decode cX7_block 26 = .ok (.iload 4, 2) := by decide +kernel
theorem dX7_block_28 : decode cX7_block 28 = .ok (.iconst 1, 1) := by decide +kernel
theorem dX7_block_29 : decode cX7_block 29 = .ok (.iadd, 1) := by decide +kernel
theorem dX7_block_30 : decode cX7_block 30 = .ok (.iload_n 2, 1) := by decide +kernel
theorem dX7_block_31 : decode cX7_block 31 = .ok (.iastore, 1) := by decide +kernel
theorem dX7_block_32 : decode cX7_block 32 = .ok (.aload_n 0, 1) := by decide +kernel
theorem dX7_block_33 : decode cX7_block 33 = .ok (.getfield 94, 3) := by decide +kernel
theorem dX7_block_36 : decode cX7_block 36 = .ok (.iload 4, 2) := by decide +kernel
theorem dX7_block_38 : decode cX7_block 38 = .ok (.iconst 2, 1) := by decide +kernel
theorem dX7_block_39 : decode cX7_block 39 = .ok (.iadd, 1) := by decide +kernel
theorem dX7_block_40 : decode cX7_block 40 = .ok (.iload_n 3, 1) := by decide +kernel
theorem dX7_block_41 : decode cX7_block 41 = .ok (.iastore, 1) := by decide +kernel
theorem dX7_block_42 : decode cX7_block 42 = .ok (.aload_n 0, 1) := by decide +kernel
theorem dX7_block_43 : decode cX7_block 43 = .ok (.dup, 1) := by decide +kernel
theorem dX7_block_44 : decode cX7_block 44 = .ok (.getfield 297, 3) := by decide +kernel
theorem dX7_block_47 : decode cX7_block 47 = .ok (.iconst 3, 1) := by decide +kernel
theorem dX7_block_48 : decode cX7_block 48 = .ok (.iadd, 1) := by decide +kernel
theorem dX7_block_49 : decode cX7_block 49 = .ok (.putfield 297, 3) := by decide +kernel
theorem dX7_block_52 : decode cX7_block 52 = .ok (.iconst 4, 1) := by decide +kernel
theorem dX7_block_53 : decode cX7_block 53 = .ok (.iload 4, 2) := by decide +kernel
theorem dX7_block_55 : decode cX7_block 55 = .ok (.imul, 1) := by decide +kernel
theorem dX7_block_56 : decode cX7_block 56 = .ok (.ireturn, 1) := by decide +kernel
theorem dX7_move_0 : decode cX7_move 0 = .ok (.iload_n 1, 1) := by decide +kernel
theorem dX7_move_1 : decode cX7_move 1 = .ok (.invokestatic 318, 3) := by decide +kernel
theorem dX7_move_4 : decode cX7_move 4 = .ok (.ifCond .ne 5, 3) := by decide +kernel
theorem dX7_move_7 : decode cX7_move 7 = .ok (.iload_n 1, 1) := by decide +kernel
theorem dX7_move_8 : decode cX7_move 8 = .ok (.ireturn, 1) := by decide +kernel
theorem dX7_move_9 : decode cX7_move 9 = .ok (.iload_n 1, 1) := by decide +kernel
theorem dX7_move_10 : decode cX7_move 10 = .ok (.iconst 4, 1) := by decide +kernel
theorem dX7_move_11 : decode cX7_move 11 = .ok (.idiv, 1) := by decide +kernel
theorem dX7_move_12 : decode cX7_move 12 = .ok (.istore_n 3, 1) := by decide +kernel
theorem dX7_move_13 : decode cX7_move 13 = .ok (.aload_n 0, 1) := by decide +kernel
theorem dX7_move_14 : decode cX7_move 14 = .ok (.getfield 97, 3) := by decide +kernel
theorem dX7_move_17 : decode cX7_move 17 = .ok (.iload_n 3, 1) := by decide +kernel
theorem dX7_move_18 : decode cX7_move 18 = .ok (.iaload, 1) := by decide +kernel
theorem dX7_move_19 : decode cX7_move 19 = .ok (.ifCond .lt 12, 3) := by decide +kernel
theorem dX7_move_22 : decode cX7_move 22 = .ok (.iconst 4, 1) := by decide +kernel
theorem dX7_move_23 : decode cX7_move 23 = .ok (.aload_n 0, 1) := by decide +kernel
theorem dX7_move_24 : decode cX7_move 24 = .ok (.getfield 97, 3) := by decide +kernel
theorem dX7_move_27 : decode cX7_move 27 = .ok (.iload_n 3, 1) := by decide +kernel
theorem dX7_move_28 : decode cX7_move 28 = .ok (.iaload, 1) := by decide +kernel
theorem dX7_move_29 : decode cX7_move 29 = .ok (.imul, 1) := by decide +kernel
theorem dX7_move_30 : decode cX7_move 30 = .ok (.ireturn, 1) := by decide +kernel
theorem dX7_move_31 : decode cX7_move 31 = .ok (.iconst 1, 1) := by decide +kernel
theorem dX7_move_32 : decode cX7_move 32 = .ok (.aload_n 0, 1) := by decide +kernel
theorem dX7_move_33 : decode cX7_move 33 = .ok (.iload_n 1, 1) := by decide +kernel
theorem dX7_move_34 : decode cX7_move 34 = .ok (.invokevirtual 322, 3) := by decide +kernel
theorem dX7_move_37 : decode cX7_move 37 = .ok (.iadd, 1) := by decide +kernel
theorem dX7_move_38 : decode cX7_move 38 = .ok (.istore 4, 2) := by decide +kernel
theorem dX7_move_40 : decode cX7_move 40 = .ok (.aload_n 0, 1) := by decide +kernel
theorem dX7_move_41 : decode cX7_move 41 = .ok (.getfield 97, 3) := by decide +kernel
theorem dX7_move_44 : decode cX7_move 44 = .ok (.iload_n 3, 1) := by decide +kernel
theorem dX7_move_45 : decode cX7_move 45 = .ok (.iload_n 2, 1) := by decide +kernel
theorem dX7_move_46 : decode cX7_move 46 = .ok (.aload_n 0, 1) := by decide +kernel
theorem dX7_move_47 : decode cX7_move 47 = .ok (.getfield 297, 3) := by decide +kernel
theorem dX7_move_50 : decode cX7_move 50 = .ok (.iadd, 1) := by decide +kernel
theorem dX7_move_51 : decode cX7_move 51 = .ok (.iastore, 1) := by decide +kernel
theorem dX7_move_52 : decode cX7_move 52 = .ok (.iconst 0, 1) := by decide +kernel
theorem dX7_move_53 : decode cX7_move 53 = .ok (.istore 5, 2) := by decide +kernel
theorem dX7_move_55 : decode cX7_move 55 = .ok (.iload 5, 2) := by decide +kernel
theorem dX7_move_57 : decode cX7_move 57 = .ok (.iload 4, 2) := by decide +kernel
theorem dX7_move_59 : decode cX7_move 59 = .ok (.if_icmp .ge 32, 3) := by decide +kernel
theorem dX7_move_62 : decode cX7_move 62 = .ok (.aload_n 0, 1) := by decide +kernel
theorem dX7_move_63 : decode cX7_move 63 = .ok (.getfield 94, 3) := by decide +kernel
theorem dX7_move_66 : decode cX7_move 66 = .ok (.iload_n 2, 1) := by decide +kernel
theorem dX7_move_67 : decode cX7_move 67 = .ok (.aload_n 0, 1) := by decide +kernel
theorem dX7_move_68 : decode cX7_move 68 = .ok (.getfield 297, 3) := by decide +kernel
theorem dX7_move_71 : decode cX7_move 71 = .ok (.iadd, 1) := by decide +kernel
theorem dX7_move_72 : decode cX7_move 72 = .ok (.iload 5, 2) := by decide +kernel
theorem dX7_move_74 : decode cX7_move 74 = .ok (.iadd, 1) := by decide +kernel
theorem dX7_move_75 : decode cX7_move 75 = .ok (.aload_n 0, 1) := by decide +kernel
theorem dX7_move_76 : decode cX7_move 76 = .ok (.getfield 94, 3) := by decide +kernel
theorem dX7_move_79 : decode cX7_move 79 = .ok (.iload_n 3, 1) := by decide +kernel
theorem dX7_move_80 : decode cX7_move 80 = .ok (.iload 5, 2) := by decide +kernel
theorem dX7_move_82 : decode cX7_move 82 = .ok (.iadd, 1) := by decide +kernel
theorem dX7_move_83 : decode cX7_move 83 = .ok (.iaload, 1) := by decide +kernel
theorem dX7_move_84 : decode cX7_move 84 = .ok (.iastore, 1) := by decide +kernel
theorem dX7_move_85 : decode cX7_move 85 = .ok (.iinc 5 1, 3) := by decide +kernel
theorem dX7_move_88 : decode cX7_move 88 = .ok (.goto (-33), 3) := by decide +kernel
theorem dX7_move_91 : decode cX7_move 91 = .ok (.aload_n 0, 1) := by decide +kernel
theorem dX7_move_92 : decode cX7_move 92 = .ok (.dup, 1) := by decide +kernel
theorem dX7_move_93 : decode cX7_move 93 = .ok (.getfield 297, 3) := by decide +kernel
theorem dX7_move_96 : decode cX7_move 96 = .ok (.iload 4, 2) := by decide +kernel
theorem dX7_move_98 : decode cX7_move 98 = .ok (.iadd, 1) := by decide +kernel
theorem dX7_move_99 : decode cX7_move 99 = .ok (.putfield 297, 3) := by decide +kernel
theorem dX7_move_102 : decode cX7_move 102 = .ok (.iconst 4, 1) := by decide +kernel
theorem dX7_move_103 : decode cX7_move 103 = .ok (.aload_n 0, 1) := by decide +kernel
theorem dX7_move_104 : decode cX7_move 104 = .ok (.getfield 97, 3) := by decide +kernel
theorem dX7_move_107 : decode cX7_move 107 = .ok (.iload_n 3, 1) := by decide +kernel
theorem dX7_move_108 : decode cX7_move 108 = .ok (.iaload, 1) := by decide +kernel
theorem dX7_move_109 : decode cX7_move 109 = .ok (.imul, 1) := by decide +kernel
theorem dX7_move_110 : decode cX7_move 110 = .ok (.ireturn, 1) := by decide +kernel
theorem dX7_collect_0 : decode cX7_collect 0 = .ok (.aload_n 0, 1) := by decide +kernel
theorem dX7_collect_1 : decode cX7_collect 1 = .ok (.getfield 300, 3) := by decide +kernel
theorem dX7_collect_4 : decode cX7_collect 4 = .ok (.ifCond .ne 10, 3) := by decide +kernel
theorem dX7_collect_7 : decode cX7_collect 7 = .ok (.aload_n 0, 1) := by decide +kernel
theorem dX7_collect_8 : decode cX7_collect 8 = .ok (.getfield 109, 3) := by decide +kernel
theorem dX7_collect_11 : decode cX7_collect 11 = .ok (.goto 4, 3) := by decide +kernel
theorem dX7_collect_14 : decode cX7_collect 14 = .ok (.iconst 0, 1) := by decide +kernel
theorem dX7_collect_15 : decode cX7_collect 15 = .ok (.istore_n 1, 1) := by decide +kernel
theorem dX7_collect_16 : decode cX7_collect 16 = .ok (.iconst 0, 1) := by decide +kernel
theorem dX7_collect_17 : decode cX7_collect 17 = .ok (.istore_n 2, 1) := by decide +kernel
theorem dX7_collect_18 : decode cX7_collect 18 = .ok (.iload_n 2, 1) := by decide +kernel
theorem dX7_collect_19 : decode cX7_collect 19 = .ok (.sipush 400, 3) := by decide +kernel
theorem dX7_collect_22 : decode cX7_collect 22 = .ok (.if_icmp .ge 16, 3) := by decide +kernel
theorem dX7_collect_25 : decode cX7_collect 25 = .ok (.aload_n 0, 1) := by decide +kernel
theorem dX7_collect_26 : decode cX7_collect 26 = .ok (.getfield 97, 3) := by decide +kernel
theorem dX7_collect_29 : decode cX7_collect 29 = .ok (.iload_n 2, 1) := by decide +kernel
theorem dX7_collect_30 : decode cX7_collect 30 = .ok (.iconst (-1), 1) := by decide +kernel
theorem dX7_collect_31 : decode cX7_collect 31 = .ok (.iastore, 1) := by decide +kernel
theorem dX7_collect_32 : decode cX7_collect 32 = .ok (.iinc 2 1, 3) := by decide +kernel
theorem dX7_collect_35 : decode cX7_collect 35 = .ok (.goto (-17), 3) := by decide +kernel
theorem dX7_collect_38 : decode cX7_collect 38 = .ok (.aload_n 0, 1) := by decide +kernel
theorem dX7_collect_39 : decode cX7_collect 39 = .ok (.iconst 0, 1) := by decide +kernel
theorem dX7_collect_40 : decode cX7_collect 40 = .ok (.putfield 297, 3) := by decide +kernel
theorem dX7_collect_43 : decode cX7_collect 43 = .ok (.aload_n 0, 1) := by decide +kernel
theorem dX7_collect_44 : decode cX7_collect 44 = .ok (.aload_n 0, 1) := by decide +kernel
theorem dX7_collect_45 : decode cX7_collect 45 = .ok (.aload_n 0, 1) := by decide +kernel
theorem dX7_collect_46 : decode cX7_collect 46 = .ok (.getfield 100, 3) := by decide +kernel
theorem dX7_collect_49 : decode cX7_collect 49 = .ok (.iload_n 1, 1) := by decide +kernel
theorem dX7_collect_50 : decode cX7_collect 50 = .ok (.invokevirtual 325, 3) := by decide +kernel
theorem dX7_collect_53 : decode cX7_collect 53 = .ok (.putfield 100, 3) := by decide +kernel
theorem dX7_collect_56 : decode cX7_collect 56 = .ok (.aload_n 0, 1) := by decide +kernel
theorem dX7_collect_57 : decode cX7_collect 57 = .ok (.aload_n 0, 1) := by decide +kernel
theorem dX7_collect_58 : decode cX7_collect 58 = .ok (.aload_n 0, 1) := by decide +kernel
theorem dX7_collect_59 : decode cX7_collect 59 = .ok (.getfield 103, 3) := by decide +kernel
theorem dX7_collect_62 : decode cX7_collect 62 = .ok (.iload_n 1, 1) := by decide +kernel
theorem dX7_collect_63 : decode cX7_collect 63 = .ok (.invokevirtual 325, 3) := by decide +kernel
theorem dX7_collect_66 : decode cX7_collect 66 = .ok (.putfield 103, 3) := by decide +kernel
theorem dX7_collect_69 : decode cX7_collect 69 = .ok (.iconst 0, 1) := by decide +kernel
theorem dX7_collect_70 : decode cX7_collect 70 = .ok (.istore_n 2, 1) := by decide +kernel
theorem dX7_collect_71 : decode cX7_collect 71 = .ok (.iload_n 2, 1) := by decide +kernel
theorem dX7_collect_72 : decode cX7_collect 72 = .ok (.aload_n 0, 1) := by decide +kernel
theorem dX7_collect_73 : decode cX7_collect 73 = .ok (.getfield 306, 3) := by decide +kernel
theorem dX7_collect_76 : decode cX7_collect 76 = .ok (.if_icmp .ge 26, 3) := by decide +kernel
theorem dX7_collect_79 : decode cX7_collect 79 = .ok (.aload_n 0, 1) := by decide +kernel
theorem dX7_collect_80 : decode cX7_collect 80 = .ok (.getfield 106, 3) := by decide +kernel
theorem dX7_collect_83 : decode cX7_collect 83 = .ok (.iload_n 2, 1) := by decide +kernel
theorem dX7_collect_84 : decode cX7_collect 84 = .ok (.aload_n 0, 1) := by decide +kernel
theorem dX7_collect_85 : decode cX7_collect 85 = .ok (.aload_n 0, 1) := by decide +kernel
theorem dX7_collect_86 : decode cX7_collect 86 = .ok (.getfield 106, 3) := by decide +kernel
theorem dX7_collect_89 : decode cX7_collect 89 = .ok (.iload_n 2, 1) := by decide +kernel
theorem dX7_collect_90 : decode cX7_collect 90 = .ok (.iaload, 1) := by decide +kernel
theorem dX7_collect_91 : decode cX7_collect 91 = .ok (.iload_n 1, 1) := by decide +kernel
theorem dX7_collect_92 : decode cX7_collect 92 = .ok (.invokevirtual 325, 3) := by decide +kernel
theorem dX7_collect_95 : decode cX7_collect 95 = .ok (.iastore, 1) := by decide +kernel
theorem dX7_collect_96 : decode cX7_collect 96 = .ok (.iinc 2 1, 3) := by decide +kernel
theorem dX7_collect_99 : decode cX7_collect 99 = .ok (.goto (-28), 3) := by decide +kernel
theorem dX7_collect_102 : decode cX7_collect 102 = .ok (.iload_n 1, 1) := by decide +kernel
theorem dX7_collect_103 : decode cX7_collect 103 = .ok (.istore_n 2, 1) := by decide +kernel
theorem dX7_collect_104 : decode cX7_collect 104 = .ok (.iload_n 2, 1) := by decide +kernel
theorem dX7_collect_105 : decode cX7_collect 105 = .ok (.iload_n 1, 1) := by decide +kernel
theorem dX7_collect_106 : decode cX7_collect 106 = .ok (.aload_n 0, 1) := by decide +kernel
theorem dX7_collect_107 : decode cX7_collect 107 = .ok (.getfield 297, 3) := by decide +kernel
theorem dX7_collect_110 : decode cX7_collect 110 = .ok (.iadd, 1) := by decide +kernel
theorem dX7_collect_111 : decode cX7_collect 111 = .ok (.if_icmp .ge 59, 3) := by decide +kernel
theorem dX7_collect_114 : decode cX7_collect 114 = .ok (.aload_n 0, 1) := by decide +kernel
theorem dX7_collect_115 : decode cX7_collect 115 = .ok (.getfield 94, 3) := by decide +kernel
theorem dX7_collect_118 : decode cX7_collect 118 = .ok (.iload_n 2, 1) := by decide +kernel
theorem dX7_collect_119 : decode cX7_collect 119 = .ok (.iaload, 1) := by decide +kernel
theorem dX7_collect_120 : decode cX7_collect 120 = .ok (.iconst 4, 1) := by decide +kernel
theorem dX7_collect_121 : decode cX7_collect 121 = .ok (.ishr, 1) := by decide +kernel
theorem dX7_collect_122 : decode cX7_collect 122 = .ok (.istore_n 3, 1) := by decide +kernel
theorem dX7_collect_123 : decode cX7_collect 123 = .ok (.iconst 1, 1) := by decide +kernel
theorem dX7_collect_124 : decode cX7_collect 124 = .ok (.istore 4, 2) := by decide +kernel
theorem dX7_collect_126 : decode cX7_collect 126 = .ok (.iload 4, 2) := by decide +kernel
theorem dX7_collect_128 : decode cX7_collect 128 = .ok (.iload_n 3, 1) := by decide +kernel
theorem dX7_collect_129 : decode cX7_collect 129 = .ok (.if_icmp .gt 32, 3) := by decide +kernel
theorem dX7_collect_132 : decode cX7_collect 132 = .ok (.aload_n 0, 1) := by decide +kernel
theorem dX7_collect_133 : decode cX7_collect 133 = .ok (.getfield 94, 3) := by decide +kernel
theorem dX7_collect_136 : decode cX7_collect 136 = .ok (.iload_n 2, 1) := by decide +kernel
theorem dX7_collect_137 : decode cX7_collect 137 = .ok (.iload 4, 2) := by decide +kernel
theorem dX7_collect_139 : decode cX7_collect 139 = .ok (.iadd, 1) := by decide +kernel
theorem dX7_collect_140 : decode cX7_collect 140 = .ok (.aload_n 0, 1) := by decide +kernel
theorem dX7_collect_141 : decode cX7_collect 141 = .ok (.aload_n 0, 1) := by decide +kernel
theorem dX7_collect_142 : decode cX7_collect 142 = .ok (.getfield 94, 3) := by decide +kernel
theorem dX7_collect_145 : decode cX7_collect 145 = .ok (.iload_n 2, 1) := by decide +kernel
theorem dX7_collect_146 : decode cX7_collect 146 = .ok (.iload 4, 2) := by decide +kernel
theorem dX7_collect_148 : decode cX7_collect 148 = .ok (.iadd, 1) := by decide +kernel
theorem dX7_collect_149 : decode cX7_collect 149 = .ok (.iaload, 1) := by decide +kernel
theorem dX7_collect_150 : decode cX7_collect 150 = .ok (.iload_n 1, 1) := by decide +kernel
theorem dX7_collect_151 : decode cX7_collect 151 = .ok (.invokevirtual 325, 3) := by decide +kernel
theorem dX7_collect_154 : decode cX7_collect 154 = .ok (.iastore, 1) := by decide +kernel
theorem dX7_collect_155 : decode cX7_collect 155 = .ok (.iinc 4 1, 3) := by decide +kernel
theorem dX7_collect_158 : decode cX7_collect 158 = .ok (.goto (-32), 3) := by decide +kernel
theorem dX7_collect_161 : decode cX7_collect 161 = .ok (.iload_n 2, 1) := by decide +kernel
theorem dX7_collect_162 : decode cX7_collect 162 = .ok (.iconst 1, 1) := by decide +kernel
theorem dX7_collect_163 : decode cX7_collect 163 = .ok (.iload_n 3, 1) := by decide +kernel
theorem dX7_collect_164 : decode cX7_collect 164 = .ok (.iadd, 1) := by decide +kernel
theorem dX7_collect_165 : decode cX7_collect 165 = .ok (.iadd, 1) := by decide +kernel
theorem dX7_collect_166 : decode cX7_collect 166 = .ok (.istore_n 2, 1) := by decide +kernel
theorem dX7_collect_167 : decode cX7_collect 167 = .ok (.goto (-63), 3) := by decide +kernel
theorem dX7_collect_170 : decode cX7_collect 170 = .ok (.aload_n 0, 1) := by decide +kernel
theorem dX7_collect_171 : decode cX7_collect 171 = .ok (.iload_n 1, 1) := by decide +kernel
theorem dX7_collect_172 : decode cX7_collect 172 = .ok (.putfield 300, 3) := by decide +kernel
theorem dX7_collect_175 : decode cX7_collect 175 = .ok (.aload_n 0, 1) := by decide +kernel
theorem dX7_collect_176 : decode cX7_collect 176 = .ok (.dup, 1) := by decide +kernel
theorem dX7_collect_177 : decode cX7_collect 177 = .ok (.getfield 303, 3) := by decide +kernel
theorem dX7_collect_180 : decode cX7_collect 180 = .ok (.iconst 1, 1) := by decide +kernel
theorem dX7_collect_181 : decode cX7_collect 181 = .ok (.iadd, 1) := by decide +kernel
theorem dX7_collect_182 : decode cX7_collect 182 = .ok (.putfield 303, 3) := by decide +kernel
theorem dX7_collect_185 : decode cX7_collect 185 = .ok (.return_, 1) := by decide +kernel
theorem dX7_hasRoom_0 : decode cX7_hasRoom 0 = .ok (.aload_n 0, 1) := by decide +kernel
theorem dX7_hasRoom_1 : decode cX7_hasRoom 1 = .ok (.getfield 297, 3) := by decide +kernel
theorem dX7_hasRoom_4 : decode cX7_hasRoom 4 = .ok (.iload_n 1, 1) := by decide +kernel
theorem dX7_hasRoom_5 : decode cX7_hasRoom 5 = .ok (.iadd, 1) := by decide +kernel
theorem dX7_hasRoom_6 : decode cX7_hasRoom 6 = .ok (.aload_n 0, 1) := by decide +kernel
theorem dX7_hasRoom_7 : decode cX7_hasRoom 7 = .ok (.getfield 109, 3) := by decide +kernel
theorem dX7_hasRoom_10 : decode cX7_hasRoom 10 = .ok (.if_icmp .le 7, 3) := by decide +kernel
theorem dX7_hasRoom_13 : decode cX7_hasRoom 13 = .ok (.aload_n 0, 1) := by decide +kernel
theorem dX7_hasRoom_14 : decode cX7_hasRoom 14 = .ok (.invokevirtual 328, 3) := by decide +kernel
theorem dX7_hasRoom_17 : decode cX7_hasRoom 17 = .ok (.aload_n 0, 1) := by decide +kernel
theorem dX7_hasRoom_18 : decode cX7_hasRoom 18 = .ok (.getfield 297, 3) := by decide +kernel
theorem dX7_hasRoom_21 : decode cX7_hasRoom 21 = .ok (.iload_n 1, 1) := by decide +kernel
theorem dX7_hasRoom_22 : decode cX7_hasRoom 22 = .ok (.iadd, 1) := by decide +kernel
theorem dX7_hasRoom_23 : decode cX7_hasRoom 23 = .ok (.aload_n 0, 1) := by decide +kernel
theorem dX7_hasRoom_24 : decode cX7_hasRoom 24 = .ok (.getfield 109, 3) := by decide +kernel
theorem dX7_hasRoom_27 : decode cX7_hasRoom 27 = .ok (.if_icmp .gt 7, 3) := by decide +kernel
theorem dX7_hasRoom_30 : decode cX7_hasRoom 30 = .ok (.iconst 1, 1) := by decide +kernel
theorem dX7_hasRoom_31 : decode cX7_hasRoom 31 = .ok (.goto 4, 3) := by decide +kernel
theorem dX7_hasRoom_34 : decode cX7_hasRoom 34 = .ok (.iconst 0, 1) := by decide +kernel
theorem dX7_hasRoom_35 : decode cX7_hasRoom 35 = .ok (.ireturn, 1) := by decide +kernel
theorem dX7_a_0 : decode cX7_a 0 = .ok (.aload_n 0, 1) := by decide +kernel
theorem dX7_a_1 : decode cX7_a 1 = .ok (.getfield 82, 3) := by decide +kernel
theorem dX7_a_4 : decode cX7_a 4 = .ok (.iconst 3, 1) := by decide +kernel
theorem dX7_a_5 : decode cX7_a 5 = .ok (.aload_n 0, 1) := by decide +kernel
theorem dX7_a_6 : decode cX7_a 6 = .ok (.getfield 309, 3) := by decide +kernel
theorem dX7_a_9 : decode cX7_a 9 = .ok (.imul, 1) := by decide +kernel
theorem dX7_a_10 : decode cX7_a 10 = .ok (.iconst 1, 1) := by decide +kernel
theorem dX7_a_11 : decode cX7_a 11 = .ok (.iadd, 1) := by decide +kernel
theorem dX7_a_12 : decode cX7_a 12 = .ok (.iaload, 1) := by decide +kernel
theorem dX7_a_13 : decode cX7_a 13 = .ok (.ireturn, 1) := by decide +kernel
theorem dX7_stop_0 : decode cX7_stop 0 = .ok (.aload_n 0, 1) := by decide +kernel
theorem dX7_stop_1 : decode cX7_stop 1 = .ok (.iconst 3, 1) := by decide +kernel
theorem dX7_stop_2 : decode cX7_stop 2 = .ok (.putfield 312, 3) := by decide +kernel
theorem dX7_stop_5 : decode cX7_stop 5 = .ok (.aload_n 0, 1) := by decide +kernel
theorem dX7_stop_6 : decode cX7_stop 6 = .ok (.iload_n 1, 1) := by decide +kernel
theorem dX7_stop_7 : decode cX7_stop 7 = .ok (.putfield 315, 3) := by decide +kernel
theorem dX7_stop_10 : decode cX7_stop 10 = .ok (.iload_n 1, 1) := by decide +kernel
theorem dX7_stop_11 : decode cX7_stop 11 = .ok (.ireturn, 1) := by decide +kernel
theorem dX7_isFunction_0 : decode cX7_isFunction 0 = .ok (.iload_n 1, 1) := by decide +kernel
theorem dX7_isFunction_1 : decode cX7_isFunction 1 = .ok (.invokestatic 318, 3) := by decide +kernel
theorem dX7_isFunction_4 : decode cX7_isFunction 4 = .ok (.ifCond .eq 27, 3) := by decide +kernel
theorem dX7_isFunction_7 : decode cX7_isFunction 7 = .ok (.aload_n 0, 1) := by decide +kernel
theorem dX7_isFunction_8 : decode cX7_isFunction 8 = .ok (.iload_n 1, 1) := by decide +kernel
theorem dX7_isFunction_9 : decode cX7_isFunction 9 = .ok (.invokevirtual 331, 3) := by decide +kernel
theorem dX7_isFunction_12 : decode cX7_isFunction 12 = .ok (.bipush 8, 2) := by decide +kernel
theorem dX7_isFunction_14 : decode cX7_isFunction 14 = .ok (.if_icmp .eq 13, 3) := by decide +kernel
theorem dX7_isFunction_17 : decode cX7_isFunction 17 = .ok (.aload_n 0, 1) := by decide +kernel
theorem dX7_isFunction_18 : decode cX7_isFunction 18 = .ok (.iload_n 1, 1) := by decide +kernel
theorem dX7_isFunction_19 : decode cX7_isFunction 19 = .ok (.invokevirtual 331, 3) := by decide +kernel
theorem dX7_isFunction_22 : decode cX7_isFunction 22 = .ok (.bipush 9, 2) := by decide +kernel
theorem dX7_isFunction_24 : decode cX7_isFunction 24 = .ok (.if_icmp .ne 7, 3) := by decide +kernel
theorem dX7_isFunction_27 : decode cX7_isFunction 27 = .ok (.iconst 1, 1) := by decide +kernel
theorem dX7_isFunction_28 : decode cX7_isFunction 28 = .ok (.goto 4, 3) := by decide +kernel
theorem dX7_isFunction_31 : decode cX7_isFunction 31 = .ok (.iconst 0, 1) := by decide +kernel
theorem dX7_isFunction_32 : decode cX7_isFunction 32 = .ok (.ireturn, 1) := by decide +kernel
theorem dX7_isBuilt_0 : decode cX7_isBuilt 0 = .ok (.iload_n 1, 1) := by decide +kernel
theorem dX7_isBuilt_1 : decode cX7_isBuilt 1 = .ok (.invokestatic 334, 3) := by decide +kernel
theorem dX7_isBuilt_4 : decode cX7_isBuilt 4 = .ok (.ifCond .ne 20, 3) := by decide +kernel
theorem dX7_isBuilt_7 : decode cX7_isBuilt 7 = .ok (.iload_n 1, 1) := by decide +kernel
theorem dX7_isBuilt_8 : decode cX7_isBuilt 8 = .ok (.invokestatic 318, 3) := by decide +kernel
theorem dX7_isBuilt_11 : decode cX7_isBuilt 11 = .ok (.ifCond .eq 17, 3) := by decide +kernel
theorem dX7_isBuilt_14 : decode cX7_isBuilt 14 = .ok (.aload_n 0, 1) := by decide +kernel
theorem dX7_isBuilt_15 : decode cX7_isBuilt 15 = .ok (.iload_n 1, 1) := by decide +kernel
theorem dX7_isBuilt_16 : decode cX7_isBuilt 16 = .ok (.invokevirtual 331, 3) := by decide +kernel
theorem dX7_isBuilt_19 : decode cX7_isBuilt 19 = .ok (.bipush 8, 2) := by decide +kernel
theorem dX7_isBuilt_21 : decode cX7_isBuilt 21 = .ok (.if_icmp .ge 7, 3) := by decide +kernel
theorem dX7_isBuilt_24 : decode cX7_isBuilt 24 = .ok (.iconst 1, 1) := by decide +kernel
theorem dX7_isBuilt_25 : decode cX7_isBuilt 25 = .ok (.goto 4, 3) := by decide +kernel
theorem dX7_isBuilt_28 : decode cX7_isBuilt 28 = .ok (.iconst 0, 1) := by decide +kernel
theorem dX7_isBuilt_29 : decode cX7_isBuilt 29 = .ok (.ireturn, 1) := by decide +kernel
theorem dX7_tagOf_0 : decode cX7_tagOf 0 = .ok (.iload_n 1, 1) := by decide +kernel
theorem dX7_tagOf_1 : decode cX7_tagOf 1 = .ok (.invokestatic 334, 3) := by decide +kernel
theorem dX7_tagOf_4 : decode cX7_tagOf 4 = .ok (.ifCond .eq 9, 3) := by decide +kernel
theorem dX7_tagOf_7 : decode cX7_tagOf 7 = .ok (.iload_n 1, 1) := by decide +kernel
theorem dX7_tagOf_8 : decode cX7_tagOf 8 = .ok (.iconst 2, 1) := by decide +kernel
theorem dX7_tagOf_9 : decode cX7_tagOf 9 = .ok (.ishr, 1) := by decide +kernel
theorem dX7_tagOf_10 : decode cX7_tagOf 10 = .ok (.goto 8, 3) := by decide +kernel
theorem dX7_tagOf_13 : decode cX7_tagOf 13 = .ok (.aload_n 0, 1) := by decide +kernel
theorem dX7_tagOf_14 : decode cX7_tagOf 14 = .ok (.iload_n 1, 1) := by decide +kernel
theorem dX7_tagOf_15 : decode cX7_tagOf 15 = .ok (.invokevirtual 331, 3) := by decide +kernel
theorem dX7_tagOf_18 : decode cX7_tagOf 18 = .ok (.ireturn, 1) := by decide +kernel
theorem dX7_calculate_0 : decode cX7_calculate 0 = .ok (.aload_n 0, 1) := by decide +kernel
theorem dX7_calculate_1 : decode cX7_calculate 1 = .ok (.dup, 1) := by decide +kernel
theorem dX7_calculate_2 : decode cX7_calculate 2 = .ok (.getfield 306, 3) := by decide +kernel
theorem dX7_calculate_5 : decode cX7_calculate 5 = .ok (.iconst 1, 1) := by decide +kernel
theorem dX7_calculate_6 : decode cX7_calculate 6 = .ok (.isub, 1) := by decide +kernel
theorem dX7_calculate_7 : decode cX7_calculate 7 = .ok (.putfield 306, 3) := by decide +kernel
theorem dX7_calculate_10 : decode cX7_calculate 10 = .ok (.aload_n 0, 1) := by decide +kernel
theorem dX7_calculate_11 : decode cX7_calculate 11 = .ok (.getfield 106, 3) := by decide +kernel
theorem dX7_calculate_14 : decode cX7_calculate 14 = .ok (.aload_n 0, 1) := by decide +kernel
theorem dX7_calculate_15 : decode cX7_calculate 15 = .ok (.getfield 306, 3) := by decide +kernel
theorem dX7_calculate_18 : decode cX7_calculate 18 = .ok (.iaload, 1) := by decide +kernel
theorem dX7_calculate_19 : decode cX7_calculate 19 = .ok (.iconst 1, 1) := by decide +kernel
theorem dX7_calculate_20 : decode cX7_calculate 20 = .ok (.ishr, 1) := by decide +kernel
theorem dX7_calculate_21 : decode cX7_calculate 21 = .ok (.istore_n 2, 1) := by decide +kernel
theorem dX7_calculate_22 : decode cX7_calculate 22 = .ok (.aload_n 0, 1) := by decide +kernel
theorem dX7_calculate_23 : decode cX7_calculate 23 = .ok (.getfield 100, 3) := by decide +kernel
theorem dX7_calculate_26 : decode cX7_calculate 26 = .ok (.iconst 1, 1) := by decide +kernel
theorem dX7_calculate_27 : decode cX7_calculate 27 = .ok (.ishr, 1) := by decide +kernel
theorem dX7_calculate_28 : decode cX7_calculate 28 = .ok (.istore_n 3, 1) := by decide +kernel
theorem dX7_calculate_29 : decode cX7_calculate 29 = .ok (.iload_n 1, 1) := by decide +kernel
theorem dX7_calculate_30 : decode cX7_calculate 30 = .ok (.iconst 4, 1) := by decide +kernel
theorem dX7_calculate_31 : decode cX7_calculate 31 = .ok (.if_icmp .ne 9, 3) := by decide +kernel
theorem dX7_calculate_34 : decode cX7_calculate 34 = .ok (.iload_n 2, 1) := by decide +kernel
theorem dX7_calculate_35 : decode cX7_calculate 35 = .ok (.iload_n 3, 1) := by decide +kernel
theorem dX7_calculate_36 : decode cX7_calculate 36 = .ok (.iadd, 1) := by decide +kernel
theorem dX7_calculate_37 : decode cX7_calculate 37 = .ok (.goto 17, 3) := by decide +kernel
theorem dX7_calculate_40 : decode cX7_calculate 40 = .ok (.iload_n 1, 1) := by decide +kernel
theorem dX7_calculate_41 : decode cX7_calculate 41 = .ok (.iconst 5, 1) := by decide +kernel
theorem dX7_calculate_42 : decode cX7_calculate 42 = .ok (.if_icmp .ne 9, 3) := by decide +kernel
theorem dX7_calculate_45 : decode cX7_calculate 45 = .ok (.iload_n 2, 1) := by decide +kernel
theorem dX7_calculate_46 : decode cX7_calculate 46 = .ok (.iload_n 3, 1) := by decide +kernel
theorem dX7_calculate_47 : decode cX7_calculate 47 = .ok (.isub, 1) := by decide +kernel
theorem dX7_calculate_48 : decode cX7_calculate 48 = .ok (.goto 6, 3) := by decide +kernel
theorem dX7_calculate_51 : decode cX7_calculate 51 = .ok (.iload_n 2, 1) := by decide +kernel
theorem dX7_calculate_52 : decode cX7_calculate 52 = .ok (.iload_n 3, 1) := by decide +kernel
theorem dX7_calculate_53 : decode cX7_calculate 53 = .ok (.imul, 1) := by decide +kernel
theorem dX7_calculate_54 : decode cX7_calculate 54 = .ok (.istore 4, 2) := by decide +kernel
theorem dX7_calculate_56 : decode cX7_calculate 56 = .ok (.iload_n 1, 1) := by decide +kernel
theorem dX7_calculate_57 : decode cX7_calculate 57 = .ok (.bipush 7, 2) := by decide +kernel
theorem dX7_calculate_59 : decode cX7_calculate 59 = .ok (.if_icmp .ne 16, 3) := by decide +kernel
theorem dX7_calculate_62 : decode cX7_calculate 62 = .ok (.iload_n 2, 1) := by decide +kernel
theorem dX7_calculate_63 : decode cX7_calculate 63 = .ok (.iload_n 3, 1) := by decide +kernel
theorem dX7_calculate_64 : decode cX7_calculate 64 = .ok (.if_icmp .ge 7, 3) := by decide +kernel
theorem dX7_calculate_67 : decode cX7_calculate 67 = .ok (.iconst 1, 1) := by decide +kernel
theorem dX7_calculate_68 : decode cX7_calculate 68 = .ok (.goto 17, 3) := by decide +kernel
theorem dX7_calculate_71 : decode cX7_calculate 71 = .ok (.iconst 0, 1) := by decide +kernel
theorem dX7_calculate_72 : decode cX7_calculate 72 = .ok (.goto 13, 3) := by decide +kernel
theorem dX7_calculate_75 : decode cX7_calculate 75 = .ok (.iload_n 2, 1) := by decide +kernel
theorem dX7_calculate_76 : decode cX7_calculate 76 = .ok (.iload_n 3, 1) := by decide +kernel
theorem dX7_calculate_77 : decode cX7_calculate 77 = .ok (.if_icmp .ne 7, 3) := by decide +kernel
theorem dX7_calculate_80 : decode cX7_calculate 80 = .ok (.iconst 1, 1) := by decide +kernel
theorem dX7_calculate_81 : decode cX7_calculate 81 = .ok (.goto 4, 3) := by decide +kernel
theorem dX7_calculate_84 : decode cX7_calculate 84 = .ok (.iconst 0, 1) := by decide +kernel
theorem dX7_calculate_85 : decode cX7_calculate 85 = .ok (.istore 5, 2) := by decide +kernel
theorem dX7_calculate_87 : decode cX7_calculate 87 = .ok (.aload_n 0, 1) := by decide +kernel
theorem dX7_calculate_88 : decode cX7_calculate 88 = .ok (.iload_n 1, 1) := by decide +kernel
theorem dX7_calculate_89 : decode cX7_calculate 89 = .ok (.bipush 7, 2) := by decide +kernel
theorem dX7_calculate_91 : decode cX7_calculate 91 = .ok (.if_icmp .ge 12, 3) := by decide +kernel
theorem dX7_calculate_94 : decode cX7_calculate 94 = .ok (.iload 4, 2) := by decide +kernel
theorem dX7_calculate_96 : decode cX7_calculate 96 = .ok (.iconst 1, 1) := by decide +kernel
theorem dX7_calculate_97 : decode cX7_calculate 97 = .ok (.ishl, 1) := by decide +kernel
theorem dX7_calculate_98 : decode cX7_calculate 98 = .ok (.iconst 1, 1) := by decide +kernel
theorem dX7_calculate_99 : decode cX7_calculate 99 = .ok (.iadd, 1) := by decide +kernel
theorem dX7_calculate_100 : decode cX7_calculate 100 = .ok (.goto 14, 3) := by decide +kernel
theorem dX7_calculate_103 : decode cX7_calculate 103 = .ok (.iload 5, 2) := by decide +kernel
theorem dX7_calculate_105 : decode cX7_calculate 105 = .ok (.ifCond .eq 8, 3) := by decide +kernel
theorem dX7_calculate_108 : decode cX7_calculate 108 = .ok (.bipush 18, 2) := by decide +kernel
theorem dX7_calculate_110 : decode cX7_calculate 110 = .ok (.goto 4, 3) := by decide +kernel
theorem dX7_calculate_113 : decode cX7_calculate 113 = .ok (.iconst 2, 1) := by decide +kernel
theorem dX7_calculate_114 : decode cX7_calculate 114 = .ok (.putfield 100, 3) := by decide +kernel
theorem dX7_calculate_117 : decode cX7_calculate 117 = .ok (.return_, 1) := by decide +kernel
theorem dX7_findCase_0 : decode cX7_findCase 0 = .ok (.aload_n 0, 1) := by decide +kernel
theorem dX7_findCase_1 : decode cX7_findCase 1 = .ok (.aload_n 0, 1) := by decide +kernel
theorem dX7_findCase_2 : decode cX7_findCase 2 = .ok (.getfield 100, 3) := by decide +kernel
theorem dX7_findCase_5 : decode cX7_findCase 5 = .ok (.invokevirtual 337, 3) := by decide +kernel
theorem dX7_findCase_8 : decode cX7_findCase 8 = .ok (.istore_n 1, 1) := by decide +kernel
theorem dX7_findCase_9 : decode cX7_findCase 9 = .ok (.iconst 1, 1) := by decide +kernel
theorem dX7_findCase_10 : decode cX7_findCase 10 = .ok (.istore_n 2, 1) := by decide +kernel
theorem dX7_findCase_11 : decode cX7_findCase 11 = .ok (.iload_n 2, 1) := by decide +kernel
theorem dX7_findCase_12 : decode cX7_findCase 12 = .ok (.aload_n 0, 1) := by decide +kernel
theorem dX7_findCase_13 : decode cX7_findCase 13 = .ok (.invokevirtual 340, 3) := by decide +kernel
theorem dX7_findCase_16 : decode cX7_findCase 16 = .ok (.if_icmp .gt 44, 3) := by decide +kernel
theorem dX7_findCase_19 : decode cX7_findCase 19 = .ok (.aload_n 0, 1) := by decide +kernel
theorem dX7_findCase_20 : decode cX7_findCase 20 = .ok (.getfield 82, 3) := by decide +kernel
theorem dX7_findCase_23 : decode cX7_findCase 23 = .ok (.iconst 3, 1) := by decide +kernel
theorem dX7_findCase_24 : decode cX7_findCase 24 = .ok (.aload_n 0, 1) := by decide +kernel
theorem dX7_findCase_25 : decode cX7_findCase 25 = .ok (.getfield 309, 3) := by decide +kernel
theorem dX7_findCase_28 : decode cX7_findCase 28 = .ok (.iload_n 2, 1) := by decide +kernel
theorem dX7_findCase_29 : decode cX7_findCase 29 = .ok (.iadd, 1) := by decide +kernel
theorem dX7_findCase_30 : decode cX7_findCase 30 = .ok (.imul, 1) := by decide +kernel
theorem dX7_findCase_31 : decode cX7_findCase 31 = .ok (.iconst 1, 1) := by decide +kernel
theorem dX7_findCase_32 : decode cX7_findCase 32 = .ok (.iadd, 1) := by decide +kernel
theorem dX7_findCase_33 : decode cX7_findCase 33 = .ok (.iaload, 1) := by decide +kernel
theorem dX7_findCase_34 : decode cX7_findCase 34 = .ok (.iload_n 1, 1) := by decide +kernel
theorem dX7_findCase_35 : decode cX7_findCase 35 = .ok (.if_icmp .ne 19, 3) := by decide +kernel
theorem dX7_findCase_38 : decode cX7_findCase 38 = .ok (.aload_n 0, 1) := by decide +kernel
theorem dX7_findCase_39 : decode cX7_findCase 39 = .ok (.getfield 82, 3) := by decide +kernel
theorem dX7_findCase_42 : decode cX7_findCase 42 = .ok (.iconst 3, 1) := by decide +kernel
theorem dX7_findCase_43 : decode cX7_findCase 43 = .ok (.aload_n 0, 1) := by decide +kernel
theorem dX7_findCase_44 : decode cX7_findCase 44 = .ok (.getfield 309, 3) := by decide +kernel
theorem dX7_findCase_47 : decode cX7_findCase 47 = .ok (.iload_n 2, 1) := by decide +kernel
theorem dX7_findCase_48 : decode cX7_findCase 48 = .ok (.iadd, 1) := by decide +kernel
theorem dX7_findCase_49 : decode cX7_findCase 49 = .ok (.imul, 1) := by decide +kernel
theorem dX7_findCase_50 : decode cX7_findCase 50 = .ok (.iconst 2, 1) := by decide +kernel
theorem dX7_findCase_51 : decode cX7_findCase 51 = .ok (.iadd, 1) := by decide +kernel
theorem dX7_findCase_52 : decode cX7_findCase 52 = .ok (.iaload, 1) := by decide +kernel
theorem dX7_findCase_53 : decode cX7_findCase 53 = .ok (.ireturn, 1) := by decide +kernel
theorem dX7_findCase_54 : decode cX7_findCase 54 = .ok (.iinc 2 1, 3) := by decide +kernel
theorem dX7_findCase_57 : decode cX7_findCase 57 = .ok (.goto (-46), 3) := by decide +kernel
theorem dX7_findCase_60 : decode cX7_findCase 60 = .ok (.iconst (-1), 1) := by decide +kernel
theorem dX7_findCase_61 : decode cX7_findCase 61 = .ok (.ireturn, 1) := by decide +kernel
theorem dX7_wrong_0 : decode cX7_wrong 0 = .ok (.iload_n 1, 1) := by decide +kernel
theorem dX7_wrong_1 : decode cX7_wrong 1 = .ok (.iconst 4, 1) := by decide +kernel
theorem dX7_wrong_2 : decode cX7_wrong 2 = .ok (.if_icmp .lt 38, 3) := by decide +kernel
theorem dX7_wrong_5 : decode cX7_wrong 5 = .ok (.iload_n 1, 1) := by decide +kernel
theorem dX7_wrong_6 : decode cX7_wrong 6 = .ok (.bipush 8, 2) := by decide +kernel
theorem dX7_wrong_8 : decode cX7_wrong 8 = .ok (.if_icmp .gt 32, 3) := by decide +kernel
theorem dX7_wrong_11 : decode cX7_wrong 11 = .ok (.aload_n 0, 1) := by decide +kernel
theorem dX7_wrong_12 : decode cX7_wrong 12 = .ok (.getfield 106, 3) := by decide +kernel
theorem dX7_wrong_15 : decode cX7_wrong 15 = .ok (.aload_n 0, 1) := by decide +kernel
theorem dX7_wrong_16 : decode cX7_wrong 16 = .ok (.getfield 306, 3) := by decide +kernel
theorem dX7_wrong_19 : decode cX7_wrong 19 = .ok (.iconst 1, 1) := by decide +kernel
theorem dX7_wrong_20 : decode cX7_wrong 20 = .ok (.isub, 1) := by decide +kernel
theorem dX7_wrong_21 : decode cX7_wrong 21 = .ok (.iaload, 1) := by decide +kernel
theorem dX7_wrong_22 : decode cX7_wrong 22 = .ok (.invokestatic 344, 3) := by decide +kernel
theorem dX7_wrong_25 : decode cX7_wrong 25 = .ok (.ifCond .eq 13, 3) := by decide +kernel
theorem dX7_wrong_28 : decode cX7_wrong 28 = .ok (.aload_n 0, 1) := by decide +kernel
theorem dX7_wrong_29 : decode cX7_wrong 29 = .ok (.getfield 100, 3) := by decide +kernel
theorem dX7_wrong_32 : decode cX7_wrong 32 = .ok (.invokestatic 344, 3) := by decide +kernel
theorem dX7_wrong_35 : decode cX7_wrong 35 = .ok (.ifCond .ne 5, 3) := by decide +kernel
theorem dX7_wrong_38 : decode cX7_wrong 38 = .ok (.iconst 1, 1) := by decide +kernel
theorem dX7_wrong_39 : decode cX7_wrong 39 = .ok (.ireturn, 1) := by decide +kernel
theorem dX7_wrong_40 : decode cX7_wrong 40 = .ok (.iload_n 1, 1) := by decide +kernel
theorem dX7_wrong_41 : decode cX7_wrong 41 = .ok (.bipush 13, 2) := by decide +kernel
theorem dX7_wrong_43 : decode cX7_wrong 43 = .ok (.if_icmp .ne 16, 3) := by decide +kernel
theorem dX7_wrong_46 : decode cX7_wrong 46 = .ok (.aload_n 0, 1) := by decide +kernel
theorem dX7_wrong_47 : decode cX7_wrong 47 = .ok (.aload_n 0, 1) := by decide +kernel
theorem dX7_wrong_48 : decode cX7_wrong 48 = .ok (.getfield 100, 3) := by decide +kernel
theorem dX7_wrong_51 : decode cX7_wrong 51 = .ok (.invokevirtual 347, 3) := by decide +kernel
theorem dX7_wrong_54 : decode cX7_wrong 54 = .ok (.ifCond .ne 5, 3) := by decide +kernel
theorem dX7_wrong_57 : decode cX7_wrong 57 = .ok (.iconst 1, 1) := by decide +kernel
theorem dX7_wrong_58 : decode cX7_wrong 58 = .ok (.ireturn, 1) := by decide +kernel
theorem dX7_wrong_59 : decode cX7_wrong 59 = .ok (.iload_n 1, 1) := by decide +kernel
theorem dX7_wrong_60 : decode cX7_wrong 60 = .ok (.bipush 18, 2) := by decide +kernel
theorem dX7_wrong_62 : decode cX7_wrong 62 = .ok (.if_icmp .ne 23, 3) := by decide +kernel
theorem dX7_wrong_65 : decode cX7_wrong 65 = .ok (.aload_n 0, 1) := by decide +kernel
theorem dX7_wrong_66 : decode cX7_wrong 66 = .ok (.aload_n 0, 1) := by decide +kernel
theorem dX7_wrong_67 : decode cX7_wrong 67 = .ok (.getfield 100, 3) := by decide +kernel
theorem dX7_wrong_70 : decode cX7_wrong 70 = .ok (.invokevirtual 350, 3) := by decide +kernel
theorem dX7_wrong_73 : decode cX7_wrong 73 = .ok (.ifCond .eq 10, 3) := by decide +kernel
theorem dX7_wrong_76 : decode cX7_wrong 76 = .ok (.aload_n 0, 1) := by decide +kernel
theorem dX7_wrong_77 : decode cX7_wrong 77 = .ok (.invokevirtual 353, 3) := by decide +kernel
theorem dX7_wrong_80 : decode cX7_wrong 80 = .ok (.ifCond .ge 5, 3) := by decide +kernel
theorem dX7_wrong_83 : decode cX7_wrong 83 = .ok (.iconst 1, 1) := by decide +kernel
theorem dX7_wrong_84 : decode cX7_wrong 84 = .ok (.ireturn, 1) := by decide +kernel
theorem dX7_wrong_85 : decode cX7_wrong 85 = .ok (.iload_n 1, 1) := by decide +kernel
theorem dX7_wrong_86 : decode cX7_wrong 86 = .ok (.iconst 3, 1) := by decide +kernel
theorem dX7_wrong_87 : decode cX7_wrong 87 = .ok (.if_icmp .eq 9, 3) := by decide +kernel
theorem dX7_wrong_90 : decode cX7_wrong 90 = .ok (.iload_n 1, 1) := by decide +kernel
theorem dX7_wrong_91 : decode cX7_wrong 91 = .ok (.bipush 13, 2) := by decide +kernel
theorem dX7_wrong_93 : decode cX7_wrong 93 = .ok (.if_icmp .ne 16, 3) := by decide +kernel
theorem dX7_wrong_96 : decode cX7_wrong 96 = .ok (.aload_n 0, 1) := by decide +kernel
theorem dX7_wrong_97 : decode cX7_wrong 97 = .ok (.getfield 306, 3) := by decide +kernel
theorem dX7_wrong_100 : decode cX7_wrong 100 = .ok (.bipush 40, 2) := by decide +kernel
theorem dX7_wrong_102 : decode cX7_wrong 102 = .ok (.if_icmp .ne 7, 3) := by decide +kernel
theorem dX7_wrong_105 : decode cX7_wrong 105 = .ok (.iconst 3, 1) := by decide +kernel
theorem dX7_wrong_106 : decode cX7_wrong 106 = .ok (.goto 4, 3) := by decide +kernel
theorem dX7_wrong_109 : decode cX7_wrong 109 = .ok (.iconst 0, 1) := by decide +kernel
theorem dX7_wrong_110 : decode cX7_wrong 110 = .ok (.ireturn, 1) := by decide +kernel
theorem dX7_roomFor_0 : decode cX7_roomFor 0 = .ok (.iload_n 1, 1) := by decide +kernel
theorem dX7_roomFor_1 : decode cX7_roomFor 1 = .ok (.tableswitch 101 9 20 #[63, 63, 101, 101, 65, 63, 101, 101, 85, 101, 101, 94], 63) := by decide +kernel
theorem dX7_roomFor_64 : decode cX7_roomFor 64 = .ok (.iconst 3, 1) := by decide +kernel
theorem dX7_roomFor_65 : decode cX7_roomFor 65 = .ok (.ireturn, 1) := by decide +kernel
theorem dX7_roomFor_66 : decode cX7_roomFor 66 = .ok (.aload_n 0, 1) := by decide +kernel
theorem dX7_roomFor_67 : decode cX7_roomFor 67 = .ok (.aload_n 0, 1) := by decide +kernel
theorem dX7_roomFor_68 : decode cX7_roomFor 68 = .ok (.getfield 100, 3) := by decide +kernel
theorem dX7_roomFor_71 : decode cX7_roomFor 71 = .ok (.invokevirtual 331, 3) := by decide +kernel
theorem dX7_roomFor_74 : decode cX7_roomFor 74 = .ok (.bipush 9, 2) := by decide +kernel
theorem dX7_roomFor_76 : decode cX7_roomFor 76 = .ok (.if_icmp .ne 8, 3) := by decide +kernel
theorem dX7_roomFor_79 : decode cX7_roomFor 79 = .ok (.bipush 6, 2) := by decide +kernel
theorem dX7_roomFor_81 : decode cX7_roomFor 81 = .ok (.goto 4, 3) := by decide +kernel
theorem dX7_roomFor_84 : decode cX7_roomFor 84 = .ok (.iconst 3, 1) := by decide +kernel
theorem dX7_roomFor_85 : decode cX7_roomFor 85 = .ok (.ireturn, 1) := by decide +kernel
theorem dX7_roomFor_86 : decode cX7_roomFor 86 = .ok (.iconst 1, 1) := by decide +kernel
theorem dX7_roomFor_87 : decode cX7_roomFor 87 = .ok (.aload_n 0, 1) := by decide +kernel
theorem dX7_roomFor_88 : decode cX7_roomFor 88 = .ok (.invokevirtual 340, 3) := by decide +kernel
theorem dX7_roomFor_91 : decode cX7_roomFor 91 = .ok (.iconst 4, 1) := by decide +kernel
theorem dX7_roomFor_92 : decode cX7_roomFor 92 = .ok (.irem, 1) := by decide +kernel
theorem dX7_roomFor_93 : decode cX7_roomFor 93 = .ok (.iadd, 1) := by decide +kernel
theorem dX7_roomFor_94 : decode cX7_roomFor 94 = .ok (.ireturn, 1) := by decide +kernel
theorem dX7_roomFor_95 : decode cX7_roomFor 95 = .ok (.iconst 3, 1) := by decide +kernel
theorem dX7_roomFor_96 : decode cX7_roomFor 96 = .ok (.aload_n 0, 1) := by decide +kernel
theorem dX7_roomFor_97 : decode cX7_roomFor 97 = .ok (.invokevirtual 340, 3) := by decide +kernel
theorem dX7_roomFor_100 : decode cX7_roomFor 100 = .ok (.imul, 1) := by decide +kernel
theorem dX7_roomFor_101 : decode cX7_roomFor 101 = .ok (.ireturn, 1) := by decide +kernel
theorem dX7_roomFor_102 : decode cX7_roomFor 102 = .ok (.iconst 0, 1) := by decide +kernel
theorem dX7_roomFor_103 : decode cX7_roomFor 103 = .ok (.ireturn, 1) := by decide +kernel
theorem dX7_make_0 : decode cX7_make 0 = .ok (.aload_n 0, 1) := by decide +kernel
theorem dX7_make_1 : decode cX7_make 1 = .ok (.invokevirtual 340, 3) := by decide +kernel
theorem dX7_make_4 : decode cX7_make 4 = .ok (.iconst 4, 1) := by decide +kernel
theorem dX7_make_5 : decode cX7_make 5 = .ok (.irem, 1) := by decide +kernel
theorem dX7_make_6 : decode cX7_make 6 = .ok (.istore_n 1, 1) := by decide +kernel
theorem dX7_make_7 : decode cX7_make 7 = .ok (.aload_n 0, 1) := by decide +kernel
theorem dX7_make_8 : decode cX7_make 8 = .ok (.getfield 300, 3) := by decide +kernel
theorem dX7_make_11 : decode cX7_make 11 = .ok (.aload_n 0, 1) := by decide +kernel
theorem dX7_make_12 : decode cX7_make 12 = .ok (.getfield 297, 3) := by decide +kernel
theorem dX7_make_15 : decode cX7_make 15 = .ok (.iadd, 1) := by decide +kernel
theorem dX7_make_16 : decode cX7_make 16 = .ok (.istore_n 2, 1) := by decide +kernel
theorem dX7_make_17 : decode cX7_make 17 = .ok (.aload_n 0, 1) := by decide +kernel
theorem dX7_make_18 : decode cX7_make 18 = .ok (.getfield 94, 3) := by decide +kernel
theorem dX7_make_21 : decode cX7_make 21 = .ok (.iload_n 2, 1) := by decide +kernel
theorem dX7_make_22 : decode cX7_make 22 = .ok (.bipush 16, 2) := by decide +kernel
theorem dX7_make_24 : decode cX7_make 24 = .ok (.iload_n 1, 1) := by decide +kernel
theorem dX7_make_25 : decode cX7_make 25 = .ok (.imul, 1) := by decide +kernel
theorem dX7_make_26 : decode cX7_make 26 = .ok (.aload_n 0, 1) := by decide +kernel
theorem dX7_make_27 : decode cX7_make 27 = .ok (.invokevirtual 340, 3) := by decide +kernel
theorem dX7_make_30 : decode cX7_make 30 = .ok (.iadd, 1) := by decide +kernel
theorem dX7_make_31 : decode cX7_make 31 = .ok (.iastore, 1) := by decide +kernel
theorem dX7_make_32 : decode cX7_make 32 = .ok (.aload_n 0, 1) := by decide +kernel
theorem dX7_make_33 : decode cX7_make 33 = .ok (.dup, 1) := by decide +kernel
theorem dX7_make_34 : decode cX7_make 34 = .ok (.getfield 306, 3) := by decide +kernel
theorem dX7_make_37 : decode cX7_make 37 = .ok (.iload_n 1, 1) := by decide +kernel
theorem dX7_make_38 : decode cX7_make 38 = .ok (.iconst 1, 1) := by decide +kernel
theorem dX7_make_39 : decode cX7_make 39 = .ok (.isub, 1) := by decide +kernel
theorem dX7_make_40 : decode cX7_make 40 = .ok (.isub, 1) := by decide +kernel
theorem dX7_make_41 : decode cX7_make 41 = .ok (.putfield 306, 3) := by decide +kernel
theorem dX7_make_44 : decode cX7_make 44 = .ok (.iconst 0, 1) := by decide +kernel
theorem dX7_make_45 : decode cX7_make 45 = .ok (.istore_n 3, 1) := by decide +kernel
theorem dX7_make_46 : decode cX7_make 46 = .ok (.iload_n 3, 1) := by decide +kernel
theorem dX7_make_47 : decode cX7_make 47 = .ok (.iload_n 1, 1) := by decide +kernel
theorem dX7_make_48 : decode cX7_make 48 = .ok (.iconst 1, 1) := by decide +kernel
theorem dX7_make_49 : decode cX7_make 49 = .ok (.isub, 1) := by decide +kernel
theorem dX7_make_50 : decode cX7_make 50 = .ok (.if_icmp .ge 30, 3) := by decide +kernel
theorem dX7_make_53 : decode cX7_make 53 = .ok (.aload_n 0, 1) := by decide +kernel
theorem dX7_make_54 : decode cX7_make 54 = .ok (.getfield 94, 3) := by decide +kernel
theorem dX7_make_57 : decode cX7_make 57 = .ok (.iload_n 2, 1) := by decide +kernel
theorem dX7_make_58 : decode cX7_make 58 = .ok (.iconst 1, 1) := by decide +kernel
theorem dX7_make_59 : decode cX7_make 59 = .ok (.iadd, 1) := by decide +kernel
theorem dX7_make_60 : decode cX7_make 60 = .ok (.iload_n 3, 1) := by decide +kernel
theorem dX7_make_61 : decode cX7_make 61 = .ok (.iadd, 1) := by decide +kernel
theorem dX7_make_62 : decode cX7_make 62 = .ok (.aload_n 0, 1) := by decide +kernel
theorem dX7_make_63 : decode cX7_make 63 = .ok (.getfield 106, 3) := by decide +kernel
theorem dX7_make_66 : decode cX7_make 66 = .ok (.aload_n 0, 1) := by decide +kernel
theorem dX7_make_67 : decode cX7_make 67 = .ok (.getfield 306, 3) := by decide +kernel
theorem dX7_make_70 : decode cX7_make 70 = .ok (.iload_n 3, 1) := by decide +kernel
theorem dX7_make_71 : decode cX7_make 71 = .ok (.iadd, 1) := by decide +kernel
theorem dX7_make_72 : decode cX7_make 72 = .ok (.iaload, 1) := by decide +kernel
theorem dX7_make_73 : decode cX7_make 73 = .ok (.iastore, 1) := by decide +kernel
theorem dX7_make_74 : decode cX7_make 74 = .ok (.iinc 3 1, 3) := by decide +kernel
theorem dX7_make_77 : decode cX7_make 77 = .ok (.goto (-31), 3) := by decide +kernel
theorem dX7_make_80 : decode cX7_make 80 = .ok (.aload_n 0, 1) := by decide +kernel
theorem dX7_make_81 : decode cX7_make 81 = .ok (.getfield 94, 3) := by decide +kernel
theorem dX7_make_84 : decode cX7_make 84 = .ok (.iload_n 2, 1) := by decide +kernel
theorem dX7_make_85 : decode cX7_make 85 = .ok (.iload_n 1, 1) := by decide +kernel
theorem dX7_make_86 : decode cX7_make 86 = .ok (.iadd, 1) := by decide +kernel
theorem dX7_make_87 : decode cX7_make 87 = .ok (.aload_n 0, 1) := by decide +kernel
theorem dX7_make_88 : decode cX7_make 88 = .ok (.getfield 100, 3) := by decide +kernel
theorem dX7_make_91 : decode cX7_make 91 = .ok (.iastore, 1) := by decide +kernel
theorem dX7_make_92 : decode cX7_make 92 = .ok (.aload_n 0, 1) := by decide +kernel
theorem dX7_make_93 : decode cX7_make 93 = .ok (.dup, 1) := by decide +kernel
theorem dX7_make_94 : decode cX7_make 94 = .ok (.getfield 297, 3) := by decide +kernel
theorem dX7_make_97 : decode cX7_make 97 = .ok (.iconst 1, 1) := by decide +kernel
theorem dX7_make_98 : decode cX7_make 98 = .ok (.iload_n 1, 1) := by decide +kernel
theorem dX7_make_99 : decode cX7_make 99 = .ok (.iadd, 1) := by decide +kernel
theorem dX7_make_100 : decode cX7_make 100 = .ok (.iadd, 1) := by decide +kernel
theorem dX7_make_101 : decode cX7_make 101 = .ok (.putfield 297, 3) := by decide +kernel
theorem dX7_make_104 : decode cX7_make 104 = .ok (.aload_n 0, 1) := by decide +kernel
theorem dX7_make_105 : decode cX7_make 105 = .ok (.iconst 4, 1) := by decide +kernel
theorem dX7_make_106 : decode cX7_make 106 = .ok (.iload_n 2, 1) := by decide +kernel
theorem dX7_make_107 : decode cX7_make 107 = .ok (.imul, 1) := by decide +kernel
theorem dX7_make_108 : decode cX7_make 108 = .ok (.putfield 100, 3) := by decide +kernel
theorem dX7_make_111 : decode cX7_make 111 = .ok (.return_, 1) := by decide +kernel
theorem dX7_apply_0 : decode cX7_apply 0 = .ok (.aload_n 0, 1) := by decide +kernel
theorem dX7_apply_1 : decode cX7_apply 1 = .ok (.getfield 100, 3) := by decide +kernel
theorem dX7_apply_4 : decode cX7_apply 4 = .ok (.istore_n 1, 1) := by decide +kernel
theorem dX7_apply_5 : decode cX7_apply 5 = .ok (.aload_n 0, 1) := by decide +kernel
theorem dX7_apply_6 : decode cX7_apply 6 = .ok (.getfield 106, 3) := by decide +kernel
theorem dX7_apply_9 : decode cX7_apply 9 = .ok (.aload_n 0, 1) := by decide +kernel
theorem dX7_apply_10 : decode cX7_apply 10 = .ok (.getfield 306, 3) := by decide +kernel
theorem dX7_apply_13 : decode cX7_apply 13 = .ok (.iconst 1, 1) := by decide +kernel
theorem dX7_apply_14 : decode cX7_apply 14 = .ok (.isub, 1) := by decide +kernel
theorem dX7_apply_15 : decode cX7_apply 15 = .ok (.iaload, 1) := by decide +kernel
theorem dX7_apply_16 : decode cX7_apply 16 = .ok (.istore_n 2, 1) := by decide +kernel
theorem dX7_apply_17 : decode cX7_apply 17 = .ok (.aload_n 0, 1) := by decide +kernel
theorem dX7_apply_18 : decode cX7_apply 18 = .ok (.getfield 106, 3) := by decide +kernel
theorem dX7_apply_21 : decode cX7_apply 21 = .ok (.aload_n 0, 1) := by decide +kernel
theorem dX7_apply_22 : decode cX7_apply 22 = .ok (.getfield 306, 3) := by decide +kernel
theorem dX7_apply_25 : decode cX7_apply 25 = .ok (.iconst 1, 1) := by decide +kernel
theorem dX7_apply_26 : decode cX7_apply 26 = .ok (.isub, 1) := by decide +kernel
theorem dX7_apply_27 : decode cX7_apply 27 = .ok (.aload_n 0, 1) := by decide +kernel
theorem dX7_apply_28 : decode cX7_apply 28 = .ok (.getfield 103, 3) := by decide +kernel
theorem dX7_apply_31 : decode cX7_apply 31 = .ok (.iastore, 1) := by decide +kernel
theorem dX7_apply_32 : decode cX7_apply 32 = .ok (.aload_n 0, 1) := by decide +kernel
theorem dX7_apply_33 : decode cX7_apply 33 = .ok (.getfield 106, 3) := by decide +kernel
theorem dX7_apply_36 : decode cX7_apply 36 = .ok (.aload_n 0, 1) := by decide +kernel
theorem dX7_apply_37 : decode cX7_apply 37 = .ok (.getfield 306, 3) := by decide +kernel
theorem dX7_apply_40 : decode cX7_apply 40 = .ok (.iconst 2, 1) := by decide +kernel
theorem dX7_apply_41 : decode cX7_apply 41 = .ok (.aload_n 0, 1) := by decide +kernel
theorem dX7_apply_42 : decode cX7_apply 42 = .ok (.getfield 309, 3) := by decide +kernel
theorem dX7_apply_45 : decode cX7_apply 45 = .ok (.iconst 1, 1) := by decide +kernel
theorem dX7_apply_46 : decode cX7_apply 46 = .ok (.iadd, 1) := by decide +kernel
theorem dX7_apply_47 : decode cX7_apply 47 = .ok (.imul, 1) := by decide +kernel
theorem dX7_apply_48 : decode cX7_apply 48 = .ok (.iconst 1, 1) := by decide +kernel
theorem dX7_apply_49 : decode cX7_apply 49 = .ok (.iadd, 1) := by decide +kernel
theorem dX7_apply_50 : decode cX7_apply 50 = .ok (.iastore, 1) := by decide +kernel
theorem dX7_apply_51 : decode cX7_apply 51 = .ok (.aload_n 0, 1) := by decide +kernel
theorem dX7_apply_52 : decode cX7_apply 52 = .ok (.dup, 1) := by decide +kernel
theorem dX7_apply_53 : decode cX7_apply 53 = .ok (.getfield 306, 3) := by decide +kernel
theorem dX7_apply_56 : decode cX7_apply 56 = .ok (.iconst 1, 1) := by decide +kernel
theorem dX7_apply_57 : decode cX7_apply 57 = .ok (.iadd, 1) := by decide +kernel
theorem dX7_apply_58 : decode cX7_apply 58 = .ok (.putfield 306, 3) := by decide +kernel
theorem dX7_apply_61 : decode cX7_apply 61 = .ok (.aload_n 0, 1) := by decide +kernel
theorem dX7_apply_62 : decode cX7_apply 62 = .ok (.aload_n 0, 1) := by decide +kernel
theorem dX7_apply_63 : decode cX7_apply 63 = .ok (.iload_n 1, 1) := by decide +kernel
theorem dX7_apply_64 : decode cX7_apply 64 = .ok (.iconst 1, 1) := by decide +kernel
theorem dX7_apply_65 : decode cX7_apply 65 = .ok (.invokevirtual 356, 3) := by decide +kernel
theorem dX7_apply_68 : decode cX7_apply 68 = .ok (.putfield 103, 3) := by decide +kernel
theorem dX7_apply_71 : decode cX7_apply 71 = .ok (.aload_n 0, 1) := by decide +kernel
theorem dX7_apply_72 : decode cX7_apply 72 = .ok (.iload_n 1, 1) := by decide +kernel
theorem dX7_apply_73 : decode cX7_apply 73 = .ok (.invokevirtual 331, 3) := by decide +kernel
theorem dX7_apply_76 : decode cX7_apply 76 = .ok (.bipush 9, 2) := by decide +kernel
theorem dX7_apply_78 : decode cX7_apply 78 = .ok (.if_icmp .ne 18, 3) := by decide +kernel
theorem dX7_apply_81 : decode cX7_apply 81 = .ok (.aload_n 0, 1) := by decide +kernel
theorem dX7_apply_82 : decode cX7_apply 82 = .ok (.aload_n 0, 1) := by decide +kernel
theorem dX7_apply_83 : decode cX7_apply 83 = .ok (.bipush 10, 2) := by decide +kernel
theorem dX7_apply_85 : decode cX7_apply 85 = .ok (.iload_n 1, 1) := by decide +kernel
theorem dX7_apply_86 : decode cX7_apply 86 = .ok (.aload_n 0, 1) := by decide +kernel
theorem dX7_apply_87 : decode cX7_apply 87 = .ok (.getfield 103, 3) := by decide +kernel
theorem dX7_apply_90 : decode cX7_apply 90 = .ok (.invokevirtual 359, 3) := by decide +kernel
theorem dX7_apply_93 : decode cX7_apply 93 = .ok (.putfield 103, 3) := by decide +kernel
theorem dX7_apply_96 : decode cX7_apply 96 = .ok (.aload_n 0, 1) := by decide +kernel
theorem dX7_apply_97 : decode cX7_apply 97 = .ok (.aload_n 0, 1) := by decide +kernel
theorem dX7_apply_98 : decode cX7_apply 98 = .ok (.bipush 10, 2) := by decide +kernel
theorem dX7_apply_100 : decode cX7_apply 100 = .ok (.iload_n 2, 1) := by decide +kernel
theorem dX7_apply_101 : decode cX7_apply 101 = .ok (.aload_n 0, 1) := by decide +kernel
theorem dX7_apply_102 : decode cX7_apply 102 = .ok (.getfield 103, 3) := by decide +kernel
theorem dX7_apply_105 : decode cX7_apply 105 = .ok (.invokevirtual 359, 3) := by decide +kernel
theorem dX7_apply_108 : decode cX7_apply 108 = .ok (.putfield 103, 3) := by decide +kernel
theorem dX7_apply_111 : decode cX7_apply 111 = .ok (.aload_n 0, 1) := by decide +kernel
theorem dX7_apply_112 : decode cX7_apply 112 = .ok (.aload_n 0, 1) := by decide +kernel
theorem dX7_apply_113 : decode cX7_apply 113 = .ok (.iload_n 1, 1) := by decide +kernel
theorem dX7_apply_114 : decode cX7_apply 114 = .ok (.iconst 0, 1) := by decide +kernel
theorem dX7_apply_115 : decode cX7_apply 115 = .ok (.invokevirtual 356, 3) := by decide +kernel
theorem dX7_apply_118 : decode cX7_apply 118 = .ok (.iconst 1, 1) := by decide +kernel
theorem dX7_apply_119 : decode cX7_apply 119 = .ok (.ishr, 1) := by decide +kernel
theorem dX7_apply_120 : decode cX7_apply 120 = .ok (.putfield 309, 3) := by decide +kernel
theorem dX7_apply_123 : decode cX7_apply 123 = .ok (.return_, 1) := by decide +kernel
theorem dX7_simple_0 : decode cX7_simple 0 = .ok (.iload_n 1, 1) := by decide +kernel
theorem dX7_simple_1 : decode cX7_simple 1 = .ok (.tableswitch 296 1 20 #[95, 108, 160, 184, 184, 184, 184, 184, 190, 190, 296, 296, 296, 214, 108, 233, 246, 296, 296, 251], 95) := by decide +kernel
theorem dX7_simple_96 : decode cX7_simple 96 = .ok (.aload_n 0, 1) := by decide +kernel
theorem dX7_simple_97 : decode cX7_simple 97 = .ok (.iconst 2, 1) := by decide +kernel
theorem dX7_simple_98 : decode cX7_simple 98 = .ok (.aload_n 0, 1) := by decide +kernel
theorem dX7_simple_99 : decode cX7_simple 99 = .ok (.invokevirtual 340, 3) := by decide +kernel
theorem dX7_simple_102 : decode cX7_simple 102 = .ok (.imul, 1) := by decide +kernel
theorem dX7_simple_103 : decode cX7_simple 103 = .ok (.iconst 1, 1) := by decide +kernel
theorem dX7_simple_104 : decode cX7_simple 104 = .ok (.iadd, 1) := by decide +kernel
theorem dX7_simple_105 : decode cX7_simple 105 = .ok (.putfield 100, 3) := by decide +kernel
theorem dX7_simple_108 : decode cX7_simple 108 = .ok (.return_, 1) := by decide +kernel
theorem dX7_simple_109 : decode cX7_simple 109 = .ok (.aload_n 0, 1) := by decide +kernel
theorem dX7_simple_110 : decode cX7_simple 110 = .ok (.getfield 103, 3) := by decide +kernel
theorem dX7_simple_113 : decode cX7_simple 113 = .ok (.istore_n 2, 1) := by decide +kernel
theorem dX7_simple_114 : decode cX7_simple 114 = .ok (.iconst 0, 1) := by decide +kernel
theorem dX7_simple_115 : decode cX7_simple 115 = .ok (.istore_n 3, 1) := by decide +kernel
theorem dX7_simple_116 : decode cX7_simple 116 = .ok (.iload_n 3, 1) := by decide +kernel
theorem dX7_simple_117 : decode cX7_simple 117 = .ok (.aload_n 0, 1) := by decide +kernel
theorem dX7_simple_118 : decode cX7_simple 118 = .ok (.invokevirtual 340, 3) := by decide +kernel
theorem dX7_simple_121 : decode cX7_simple 121 = .ok (.if_icmp .ge 16, 3) := by decide +kernel
theorem dX7_simple_124 : decode cX7_simple 124 = .ok (.aload_n 0, 1) := by decide +kernel
theorem dX7_simple_125 : decode cX7_simple 125 = .ok (.iload_n 2, 1) := by decide +kernel
theorem dX7_simple_126 : decode cX7_simple 126 = .ok (.iconst 1, 1) := by decide +kernel
theorem dX7_simple_127 : decode cX7_simple 127 = .ok (.invokevirtual 356, 3) := by decide +kernel
theorem dX7_simple_130 : decode cX7_simple 130 = .ok (.istore_n 2, 1) := by decide +kernel
theorem dX7_simple_131 : decode cX7_simple 131 = .ok (.iinc 3 1, 3) := by decide +kernel
theorem dX7_simple_134 : decode cX7_simple 134 = .ok (.goto (-18), 3) := by decide +kernel
theorem dX7_simple_137 : decode cX7_simple 137 = .ok (.iload_n 1, 1) := by decide +kernel
theorem dX7_simple_138 : decode cX7_simple 138 = .ok (.iconst 2, 1) := by decide +kernel
theorem dX7_simple_139 : decode cX7_simple 139 = .ok (.if_icmp .ne 16, 3) := by decide +kernel
theorem dX7_simple_142 : decode cX7_simple 142 = .ok (.aload_n 0, 1) := by decide +kernel
theorem dX7_simple_143 : decode cX7_simple 143 = .ok (.aload_n 0, 1) := by decide +kernel
theorem dX7_simple_144 : decode cX7_simple 144 = .ok (.iload_n 2, 1) := by decide +kernel
theorem dX7_simple_145 : decode cX7_simple 145 = .ok (.iconst 0, 1) := by decide +kernel
theorem dX7_simple_146 : decode cX7_simple 146 = .ok (.invokevirtual 356, 3) := by decide +kernel
theorem dX7_simple_149 : decode cX7_simple 149 = .ok (.putfield 100, 3) := by decide +kernel
theorem dX7_simple_152 : decode cX7_simple 152 = .ok (.goto 8, 3) := by decide +kernel
theorem dX7_simple_155 : decode cX7_simple 155 = .ok (.aload_n 0, 1) := by decide +kernel
theorem dX7_simple_156 : decode cX7_simple 156 = .ok (.iload_n 2, 1) := by decide +kernel
theorem dX7_simple_157 : decode cX7_simple 157 = .ok (.putfield 103, 3) := by decide +kernel
theorem dX7_simple_160 : decode cX7_simple 160 = .ok (.return_, 1) := by decide +kernel
theorem dX7_simple_161 : decode cX7_simple 161 = .ok (.aload_n 0, 1) := by decide +kernel
theorem dX7_simple_162 : decode cX7_simple 162 = .ok (.getfield 106, 3) := by decide +kernel
theorem dX7_simple_165 : decode cX7_simple 165 = .ok (.aload_n 0, 1) := by decide +kernel
theorem dX7_simple_166 : decode cX7_simple 166 = .ok (.getfield 306, 3) := by decide +kernel
theorem dX7_simple_169 : decode cX7_simple 169 = .ok (.aload_n 0, 1) := by decide +kernel
theorem dX7_simple_170 : decode cX7_simple 170 = .ok (.getfield 100, 3) := by decide +kernel
theorem dX7_simple_173 : decode cX7_simple 173 = .ok (.iastore, 1) := by decide +kernel
theorem dX7_simple_174 : decode cX7_simple 174 = .ok (.aload_n 0, 1) := by decide +kernel
theorem dX7_simple_175 : decode cX7_simple 175 = .ok (.dup, 1) := by decide +kernel
theorem dX7_simple_176 : decode cX7_simple 176 = .ok (.getfield 306, 3) := by decide +kernel
theorem dX7_simple_179 : decode cX7_simple 179 = .ok (.iconst 1, 1) := by decide +kernel
theorem dX7_simple_180 : decode cX7_simple 180 = .ok (.iadd, 1) := by decide +kernel
theorem dX7_simple_181 : decode cX7_simple 181 = .ok (.putfield 306, 3) := by decide +kernel
theorem dX7_simple_184 : decode cX7_simple 184 = .ok (.return_, 1) := by decide +kernel
theorem dX7_simple_185 : decode cX7_simple 185 = .ok (.aload_n 0, 1) := by decide +kernel
theorem dX7_simple_186 : decode cX7_simple 186 = .ok (.iload_n 1, 1) := by decide +kernel
theorem dX7_simple_187 : decode cX7_simple 187 = .ok (.invokevirtual 363, 3) := by decide +kernel
theorem dX7_simple_190 : decode cX7_simple 190 = .ok (.return_, 1) := by decide +kernel
theorem dX7_simple_191 : decode cX7_simple 191 = .ok (.aload_n 0, 1) := by decide +kernel
theorem dX7_simple_192 : decode cX7_simple 192 = .ok (.aload_n 0, 1) := by decide +kernel
theorem dX7_simple_193 : decode cX7_simple 193 = .ok (.iload_n 1, 1) := by decide +kernel
theorem dX7_simple_194 : decode cX7_simple 194 = .ok (.iconst 1, 1) := by decide +kernel
theorem dX7_simple_195 : decode cX7_simple 195 = .ok (.isub, 1) := by decide +kernel
theorem dX7_simple_196 : decode cX7_simple 196 = .ok (.iconst 2, 1) := by decide +kernel
theorem dX7_simple_197 : decode cX7_simple 197 = .ok (.aload_n 0, 1) := by decide +kernel
theorem dX7_simple_198 : decode cX7_simple 198 = .ok (.invokevirtual 340, 3) := by decide +kernel
theorem dX7_simple_201 : decode cX7_simple 201 = .ok (.imul, 1) := by decide +kernel
theorem dX7_simple_202 : decode cX7_simple 202 = .ok (.iconst 1, 1) := by decide +kernel
theorem dX7_simple_203 : decode cX7_simple 203 = .ok (.iadd, 1) := by decide +kernel
theorem dX7_simple_204 : decode cX7_simple 204 = .ok (.aload_n 0, 1) := by decide +kernel
theorem dX7_simple_205 : decode cX7_simple 205 = .ok (.getfield 103, 3) := by decide +kernel
theorem dX7_simple_208 : decode cX7_simple 208 = .ok (.invokevirtual 359, 3) := by decide +kernel
theorem dX7_simple_211 : decode cX7_simple 211 = .ok (.putfield 100, 3) := by decide +kernel
theorem dX7_simple_214 : decode cX7_simple 214 = .ok (.return_, 1) := by decide +kernel
theorem dX7_simple_215 : decode cX7_simple 215 = .ok (.aload_n 0, 1) := by decide +kernel
theorem dX7_simple_216 : decode cX7_simple 216 = .ok (.aload_n 0, 1) := by decide +kernel
theorem dX7_simple_217 : decode cX7_simple 217 = .ok (.bipush 10, 2) := by decide +kernel
theorem dX7_simple_219 : decode cX7_simple 219 = .ok (.aload_n 0, 1) := by decide +kernel
theorem dX7_simple_220 : decode cX7_simple 220 = .ok (.getfield 100, 3) := by decide +kernel
theorem dX7_simple_223 : decode cX7_simple 223 = .ok (.aload_n 0, 1) := by decide +kernel
theorem dX7_simple_224 : decode cX7_simple 224 = .ok (.getfield 103, 3) := by decide +kernel
theorem dX7_simple_227 : decode cX7_simple 227 = .ok (.invokevirtual 359, 3) := by decide +kernel
theorem dX7_simple_230 : decode cX7_simple 230 = .ok (.putfield 103, 3) := by decide +kernel
theorem dX7_simple_233 : decode cX7_simple 233 = .ok (.return_, 1) := by decide +kernel
theorem dX7_simple_234 : decode cX7_simple 234 = .ok (.aload_n 0, 1) := by decide +kernel
theorem dX7_simple_235 : decode cX7_simple 235 = .ok (.iconst 4, 1) := by decide +kernel
theorem dX7_simple_236 : decode cX7_simple 236 = .ok (.aload_n 0, 1) := by decide +kernel
theorem dX7_simple_237 : decode cX7_simple 237 = .ok (.invokevirtual 340, 3) := by decide +kernel
theorem dX7_simple_240 : decode cX7_simple 240 = .ok (.imul, 1) := by decide +kernel
theorem dX7_simple_241 : decode cX7_simple 241 = .ok (.iconst 2, 1) := by decide +kernel
theorem dX7_simple_242 : decode cX7_simple 242 = .ok (.iadd, 1) := by decide +kernel
theorem dX7_simple_243 : decode cX7_simple 243 = .ok (.putfield 100, 3) := by decide +kernel
theorem dX7_simple_246 : decode cX7_simple 246 = .ok (.return_, 1) := by decide +kernel
theorem dX7_simple_247 : decode cX7_simple 247 = .ok (.aload_n 0, 1) := by decide +kernel
theorem dX7_simple_248 : decode cX7_simple 248 = .ok (.invokevirtual 366, 3) := by decide +kernel
theorem dX7_simple_251 : decode cX7_simple 251 = .ok (.return_, 1) := by decide +kernel
theorem dX7_simple_252 : decode cX7_simple 252 = .ok (.aload_n 0, 1) := by decide +kernel
theorem dX7_simple_253 : decode cX7_simple 253 = .ok (.getfield 100, 3) := by decide +kernel
theorem dX7_simple_256 : decode cX7_simple 256 = .ok (.istore_n 3, 1) := by decide +kernel
theorem dX7_simple_257 : decode cX7_simple 257 = .ok (.iconst 0, 1) := by decide +kernel
theorem dX7_simple_258 : decode cX7_simple 258 = .ok (.istore 4, 2) := by decide +kernel
theorem dX7_simple_260 : decode cX7_simple 260 = .ok (.iload 4, 2) := by decide +kernel
theorem dX7_simple_262 : decode cX7_simple 262 = .ok (.aload_n 0, 1) := by decide +kernel
theorem dX7_simple_263 : decode cX7_simple 263 = .ok (.invokevirtual 340, 3) := by decide +kernel
theorem dX7_simple_266 : decode cX7_simple 266 = .ok (.if_icmp .ge 30, 3) := by decide +kernel
theorem dX7_simple_269 : decode cX7_simple 269 = .ok (.aload_n 0, 1) := by decide +kernel
theorem dX7_simple_270 : decode cX7_simple 270 = .ok (.aload_n 0, 1) := by decide +kernel
theorem dX7_simple_271 : decode cX7_simple 271 = .ok (.bipush 10, 2) := by decide +kernel
theorem dX7_simple_273 : decode cX7_simple 273 = .ok (.aload_n 0, 1) := by decide +kernel
theorem dX7_simple_274 : decode cX7_simple 274 = .ok (.iload_n 3, 1) := by decide +kernel
theorem dX7_simple_275 : decode cX7_simple 275 = .ok (.iload 4, 2) := by decide +kernel
theorem dX7_simple_277 : decode cX7_simple 277 = .ok (.invokevirtual 356, 3) := by decide +kernel
theorem dX7_simple_280 : decode cX7_simple 280 = .ok (.aload_n 0, 1) := by decide +kernel
theorem dX7_simple_281 : decode cX7_simple 281 = .ok (.getfield 103, 3) := by decide +kernel
theorem dX7_simple_284 : decode cX7_simple 284 = .ok (.invokevirtual 359, 3) := by decide +kernel
theorem dX7_simple_287 : decode cX7_simple 287 = .ok (.putfield 103, 3) := by decide +kernel
theorem dX7_simple_290 : decode cX7_simple 290 = .ok (.iinc 4 1, 3) := by decide +kernel
theorem dX7_simple_293 : decode cX7_simple 293 = .ok (.goto (-33), 3) := by decide +kernel
theorem dX7_simple_296 : decode cX7_simple 296 = .ok (.return_, 1) := by decide +kernel
theorem dX7_simple_297 : decode cX7_simple 297 = .ok (.return_, 1) := by decide +kernel
theorem dX7_one_0 : decode cX7_one 0 = .ok (.aload_n 0, 1) := by decide +kernel
theorem dX7_one_1 : decode cX7_one 1 = .ok (.getfield 82, 3) := by decide +kernel
theorem dX7_one_4 : decode cX7_one 4 = .ok (.iconst 3, 1) := by decide +kernel
theorem dX7_one_5 : decode cX7_one 5 = .ok (.aload_n 0, 1) := by decide +kernel
theorem dX7_one_6 : decode cX7_one 6 = .ok (.getfield 309, 3) := by decide +kernel
theorem dX7_one_9 : decode cX7_one 9 = .ok (.imul, 1) := by decide +kernel
theorem dX7_one_10 : decode cX7_one 10 = .ok (.iaload, 1) := by decide +kernel
theorem dX7_one_11 : decode cX7_one 11 = .ok (.istore_n 1, 1) := by decide +kernel
theorem dX7_one_12 : decode cX7_one 12 = .ok (.aload_n 0, 1) := by decide +kernel
theorem dX7_one_13 : decode cX7_one 13 = .ok (.iload_n 1, 1) := by decide +kernel
theorem dX7_one_14 : decode cX7_one 14 = .ok (.invokevirtual 369, 3) := by decide +kernel
theorem dX7_one_17 : decode cX7_one 17 = .ok (.istore_n 2, 1) := by decide +kernel
theorem dX7_one_18 : decode cX7_one 18 = .ok (.iload_n 2, 1) := by decide +kernel
theorem dX7_one_19 : decode cX7_one 19 = .ok (.ifCond .eq 9, 3) := by decide +kernel
theorem dX7_one_22 : decode cX7_one 22 = .ok (.aload_n 0, 1) := by decide +kernel
theorem dX7_one_23 : decode cX7_one 23 = .ok (.iload_n 2, 1) := by decide +kernel
theorem dX7_one_24 : decode cX7_one 24 = .ok (.invokevirtual 372, 3) := by decide +kernel
theorem dX7_one_27 : decode cX7_one 27 = .ok (.ireturn, 1) := by decide +kernel
theorem dX7_one_28 : decode cX7_one 28 = .ok (.aload_n 0, 1) := by decide +kernel
theorem dX7_one_29 : decode cX7_one 29 = .ok (.iload_n 1, 1) := by decide +kernel
theorem dX7_one_30 : decode cX7_one 30 = .ok (.invokevirtual 375, 3) := by decide +kernel
theorem dX7_one_33 : decode cX7_one 33 = .ok (.istore_n 3, 1) := by decide +kernel
theorem dX7_one_34 : decode cX7_one 34 = .ok (.iload_n 3, 1) := by decide +kernel
theorem dX7_one_35 : decode cX7_one 35 = .ok (.ifCond .le 17, 3) := by decide +kernel
theorem dX7_one_38 : decode cX7_one 38 = .ok (.aload_n 0, 1) := by decide +kernel
theorem dX7_one_39 : decode cX7_one 39 = .ok (.iload_n 3, 1) := by decide +kernel
theorem dX7_one_40 : decode cX7_one 40 = .ok (.invokevirtual 378, 3) := by decide +kernel
theorem dX7_one_43 : decode cX7_one 43 = .ok (.ifCond .ne 9, 3) := by decide +kernel
theorem dX7_one_46 : decode cX7_one 46 = .ok (.aload_n 0, 1) := by decide +kernel
theorem dX7_one_47 : decode cX7_one 47 = .ok (.iconst 2, 1) := by decide +kernel
theorem dX7_one_48 : decode cX7_one 48 = .ok (.invokevirtual 372, 3) := by decide +kernel
theorem dX7_one_51 : decode cX7_one 51 = .ok (.ireturn, 1) := by decide +kernel
theorem dX7_one_52 : decode cX7_one 52 = .ok (.iload_n 1, 1) := by decide +kernel
theorem dX7_one_53 : decode cX7_one 53 = .ok (.ifCond .ne 11, 3) := by decide +kernel
theorem dX7_one_56 : decode cX7_one 56 = .ok (.aload_n 0, 1) := by decide +kernel
theorem dX7_one_57 : decode cX7_one 57 = .ok (.iconst 2, 1) := by decide +kernel
theorem dX7_one_58 : decode cX7_one 58 = .ok (.putfield 312, 3) := by decide +kernel
theorem dX7_one_61 : decode cX7_one 61 = .ok (.goto 114, 3) := by decide +kernel
theorem dX7_one_64 : decode cX7_one 64 = .ok (.iload_n 1, 1) := by decide +kernel
theorem dX7_one_65 : decode cX7_one 65 = .ok (.bipush 11, 2) := by decide +kernel
theorem dX7_one_67 : decode cX7_one 67 = .ok (.if_icmp .ne 14, 3) := by decide +kernel
theorem dX7_one_70 : decode cX7_one 70 = .ok (.aload_n 0, 1) := by decide +kernel
theorem dX7_one_71 : decode cX7_one 71 = .ok (.aload_n 0, 1) := by decide +kernel
theorem dX7_one_72 : decode cX7_one 72 = .ok (.invokevirtual 340, 3) := by decide +kernel
theorem dX7_one_75 : decode cX7_one 75 = .ok (.putfield 309, 3) := by decide +kernel
theorem dX7_one_78 : decode cX7_one 78 = .ok (.goto 97, 3) := by decide +kernel
theorem dX7_one_81 : decode cX7_one 81 = .ok (.iload_n 1, 1) := by decide +kernel
theorem dX7_one_82 : decode cX7_one 82 = .ok (.bipush 18, 2) := by decide +kernel
theorem dX7_one_84 : decode cX7_one 84 = .ok (.if_icmp .ne 14, 3) := by decide +kernel
theorem dX7_one_87 : decode cX7_one 87 = .ok (.aload_n 0, 1) := by decide +kernel
theorem dX7_one_88 : decode cX7_one 88 = .ok (.aload_n 0, 1) := by decide +kernel
theorem dX7_one_89 : decode cX7_one 89 = .ok (.invokevirtual 353, 3) := by decide +kernel
theorem dX7_one_92 : decode cX7_one 92 = .ok (.putfield 309, 3) := by decide +kernel
theorem dX7_one_95 : decode cX7_one 95 = .ok (.goto 80, 3) := by decide +kernel
theorem dX7_one_98 : decode cX7_one 98 = .ok (.iload_n 1, 1) := by decide +kernel
theorem dX7_one_99 : decode cX7_one 99 = .ok (.bipush 13, 2) := by decide +kernel
theorem dX7_one_101 : decode cX7_one 101 = .ok (.if_icmp .ne 10, 3) := by decide +kernel
theorem dX7_one_104 : decode cX7_one 104 = .ok (.aload_n 0, 1) := by decide +kernel
theorem dX7_one_105 : decode cX7_one 105 = .ok (.invokevirtual 381, 3) := by decide +kernel
theorem dX7_one_108 : decode cX7_one 108 = .ok (.goto 67, 3) := by decide +kernel
theorem dX7_one_111 : decode cX7_one 111 = .ok (.iload_n 1, 1) := by decide +kernel
theorem dX7_one_112 : decode cX7_one 112 = .ok (.bipush 12, 2) := by decide +kernel
theorem dX7_one_114 : decode cX7_one 114 = .ok (.if_icmp .ne 46, 3) := by decide +kernel
theorem dX7_one_117 : decode cX7_one 117 = .ok (.aload_n 0, 1) := by decide +kernel
theorem dX7_one_118 : decode cX7_one 118 = .ok (.dup, 1) := by decide +kernel
theorem dX7_one_119 : decode cX7_one 119 = .ok (.getfield 306, 3) := by decide +kernel
theorem dX7_one_122 : decode cX7_one 122 = .ok (.iconst 2, 1) := by decide +kernel
theorem dX7_one_123 : decode cX7_one 123 = .ok (.isub, 1) := by decide +kernel
theorem dX7_one_124 : decode cX7_one 124 = .ok (.putfield 306, 3) := by decide +kernel
theorem dX7_one_127 : decode cX7_one 127 = .ok (.aload_n 0, 1) := by decide +kernel
theorem dX7_one_128 : decode cX7_one 128 = .ok (.aload_n 0, 1) := by decide +kernel
theorem dX7_one_129 : decode cX7_one 129 = .ok (.getfield 106, 3) := by decide +kernel
theorem dX7_one_132 : decode cX7_one 132 = .ok (.aload_n 0, 1) := by decide +kernel
theorem dX7_one_133 : decode cX7_one 133 = .ok (.getfield 306, 3) := by decide +kernel
theorem dX7_one_136 : decode cX7_one 136 = .ok (.iaload, 1) := by decide +kernel
theorem dX7_one_137 : decode cX7_one 137 = .ok (.putfield 103, 3) := by decide +kernel
theorem dX7_one_140 : decode cX7_one 140 = .ok (.aload_n 0, 1) := by decide +kernel
theorem dX7_one_141 : decode cX7_one 141 = .ok (.aload_n 0, 1) := by decide +kernel
theorem dX7_one_142 : decode cX7_one 142 = .ok (.getfield 106, 3) := by decide +kernel
theorem dX7_one_145 : decode cX7_one 145 = .ok (.aload_n 0, 1) := by decide +kernel
theorem dX7_one_146 : decode cX7_one 146 = .ok (.getfield 306, 3) := by decide +kernel
theorem dX7_one_149 : decode cX7_one 149 = .ok (.iconst 1, 1) := by decide +kernel
theorem dX7_one_150 : decode cX7_one 150 = .ok (.iadd, 1) := by decide +kernel
theorem dX7_one_151 : decode cX7_one 151 = .ok (.iaload, 1) := by decide +kernel
theorem dX7_one_152 : decode cX7_one 152 = .ok (.iconst 1, 1) := by decide +kernel
theorem dX7_one_153 : decode cX7_one 153 = .ok (.ishr, 1) := by decide +kernel
theorem dX7_one_154 : decode cX7_one 154 = .ok (.putfield 309, 3) := by decide +kernel
theorem dX7_one_157 : decode cX7_one 157 = .ok (.goto 18, 3) := by decide +kernel
theorem dX7_one_160 : decode cX7_one 160 = .ok (.aload_n 0, 1) := by decide +kernel
theorem dX7_one_161 : decode cX7_one 161 = .ok (.iload_n 1, 1) := by decide +kernel
theorem dX7_one_162 : decode cX7_one 162 = .ok (.invokevirtual 384, 3) := by decide +kernel
theorem dX7_one_165 : decode cX7_one 165 = .ok (.aload_n 0, 1) := by decide +kernel
theorem dX7_one_166 : decode cX7_one 166 = .ok (.dup, 1) := by decide +kernel
theorem dX7_one_167 : decode cX7_one 167 = .ok (.getfield 309, 3) := by decide +kernel
theorem dX7_one_170 : decode cX7_one 170 = .ok (.iconst 1, 1) := by decide +kernel
theorem dX7_one_171 : decode cX7_one 171 = .ok (.iadd, 1) := by decide +kernel
theorem dX7_one_172 : decode cX7_one 172 = .ok (.putfield 309, 3) := by decide +kernel
theorem dX7_one_175 : decode cX7_one 175 = .ok (.iconst 0, 1) := by decide +kernel
theorem dX7_one_176 : decode cX7_one 176 = .ok (.ireturn, 1) := by decide +kernel
theorem dX7_run_0 : decode cX7_run 0 = .ok (.aload_n 0, 1) := by decide +kernel
theorem dX7_run_1 : decode cX7_run 1 = .ok (.iconst 0, 1) := by decide +kernel
theorem dX7_run_2 : decode cX7_run 2 = .ok (.putfield 112, 3) := by decide +kernel
theorem dX7_run_5 : decode cX7_run 5 = .ok (.iload_n 1, 1) := by decide +kernel
theorem dX7_run_6 : decode cX7_run 6 = .ok (.ifCond .lt 10, 3) := by decide +kernel
theorem dX7_run_9 : decode cX7_run 9 = .ok (.iload_n 1, 1) := by decide +kernel
theorem dX7_run_10 : decode cX7_run 10 = .ok (.sipush 500, 3) := by decide +kernel
theorem dX7_run_13 : decode cX7_run 13 = .ok (.if_icmp .le 9, 3) := by decide +kernel
theorem dX7_run_16 : decode cX7_run 16 = .ok (.aload_n 0, 1) := by decide +kernel
theorem dX7_run_17 : decode cX7_run 17 = .ok (.iconst 1, 1) := by decide +kernel
theorem dX7_run_18 : decode cX7_run 18 = .ok (.invokevirtual 290, 3) := by decide +kernel
theorem dX7_run_21 : decode cX7_run 21 = .ok (.ireturn, 1) := by decide +kernel
theorem dX7_run_22 : decode cX7_run 22 = .ok (.aload_n 0, 1) := by decide +kernel
theorem dX7_run_23 : decode cX7_run 23 = .ok (.getfield 312, 3) := by decide +kernel
theorem dX7_run_26 : decode cX7_run 26 = .ok (.iconst 1, 1) := by decide +kernel
theorem dX7_run_27 : decode cX7_run 27 = .ok (.if_icmp .eq 9, 3) := by decide +kernel
theorem dX7_run_30 : decode cX7_run 30 = .ok (.aload_n 0, 1) := by decide +kernel
theorem dX7_run_31 : decode cX7_run 31 = .ok (.iconst 2, 1) := by decide +kernel
theorem dX7_run_32 : decode cX7_run 32 = .ok (.invokevirtual 290, 3) := by decide +kernel
theorem dX7_run_35 : decode cX7_run 35 = .ok (.ireturn, 1) := by decide +kernel
theorem dX7_run_36 : decode cX7_run 36 = .ok (.iconst 0, 1) := by decide +kernel
theorem dX7_run_37 : decode cX7_run 37 = .ok (.istore_n 2, 1) := by decide +kernel
theorem dX7_run_38 : decode cX7_run 38 = .ok (.iload_n 2, 1) := by decide +kernel
theorem dX7_run_39 : decode cX7_run 39 = .ok (.iload_n 1, 1) := by decide +kernel
theorem dX7_run_40 : decode cX7_run 40 = .ok (.if_icmp .ge 30, 3) := by decide +kernel
theorem dX7_run_43 : decode cX7_run 43 = .ok (.aload_n 0, 1) := by decide +kernel
theorem dX7_run_44 : decode cX7_run 44 = .ok (.getfield 312, 3) := by decide +kernel
theorem dX7_run_47 : decode cX7_run 47 = .ok (.iconst 1, 1) := by decide +kernel
theorem dX7_run_48 : decode cX7_run 48 = .ok (.if_icmp .ne 22, 3) := by decide +kernel
theorem dX7_run_51 : decode cX7_run 51 = .ok (.aload_n 0, 1) := by decide +kernel
theorem dX7_run_52 : decode cX7_run 52 = .ok (.invokevirtual 387, 3) := by decide +kernel
theorem dX7_run_55 : decode cX7_run 55 = .ok (.ifCond .eq 9, 3) := by decide +kernel
theorem dX7_run_58 : decode cX7_run 58 = .ok (.aload_n 0, 1) := by decide +kernel
theorem dX7_run_59 : decode cX7_run 59 = .ok (.iconst 3, 1) := by decide +kernel
theorem dX7_run_60 : decode cX7_run 60 = .ok (.invokevirtual 290, 3) := by decide +kernel
theorem dX7_run_63 : decode cX7_run 63 = .ok (.ireturn, 1) := by decide +kernel
theorem dX7_run_64 : decode cX7_run 64 = .ok (.iinc 2 1, 3) := by decide +kernel
theorem dX7_run_67 : decode cX7_run 67 = .ok (.goto (-29), 3) := by decide +kernel
theorem dX7_run_70 : decode cX7_run 70 = .ok (.iload_n 2, 1) := by decide +kernel
theorem dX7_run_71 : decode cX7_run 71 = .ok (.ireturn, 1) := by decide +kernel
theorem dX7_state_0 : decode cX7_state 0 = .ok (.aload_n 0, 1) := by decide +kernel
theorem dX7_state_1 : decode cX7_state 1 = .ok (.iconst 0, 1) := by decide +kernel
theorem dX7_state_2 : decode cX7_state 2 = .ok (.putfield 112, 3) := by decide +kernel
theorem dX7_state_5 : decode cX7_state 5 = .ok (.aload_n 0, 1) := by decide +kernel
theorem dX7_state_6 : decode cX7_state 6 = .ok (.getfield 312, 3) := by decide +kernel
theorem dX7_state_9 : decode cX7_state 9 = .ok (.ireturn, 1) := by decide +kernel
theorem dX7_why_0 : decode cX7_why 0 = .ok (.aload_n 0, 1) := by decide +kernel
theorem dX7_why_1 : decode cX7_why 1 = .ok (.iconst 0, 1) := by decide +kernel
theorem dX7_why_2 : decode cX7_why 2 = .ok (.putfield 112, 3) := by decide +kernel
theorem dX7_why_5 : decode cX7_why 5 = .ok (.aload_n 0, 1) := by decide +kernel
theorem dX7_why_6 : decode cX7_why 6 = .ok (.getfield 315, 3) := by decide +kernel
theorem dX7_why_9 : decode cX7_why 9 = .ok (.ireturn, 1) := by decide +kernel
theorem dX7_next_0 : decode cX7_next 0 = .ok (.aload_n 0, 1) := by decide +kernel
theorem dX7_next_1 : decode cX7_next 1 = .ok (.iconst 0, 1) := by decide +kernel
theorem dX7_next_2 : decode cX7_next 2 = .ok (.putfield 112, 3) := by decide +kernel
theorem dX7_next_5 : decode cX7_next 5 = .ok (.aload_n 0, 1) := by decide +kernel
theorem dX7_next_6 : decode cX7_next 6 = .ok (.getfield 309, 3) := by decide +kernel
theorem dX7_next_9 : decode cX7_next 9 = .ok (.ireturn, 1) := by decide +kernel
theorem dX7_depth_0 : decode cX7_depth 0 = .ok (.aload_n 0, 1) := by decide +kernel
theorem dX7_depth_1 : decode cX7_depth 1 = .ok (.iconst 0, 1) := by decide +kernel
theorem dX7_depth_2 : decode cX7_depth 2 = .ok (.putfield 112, 3) := by decide +kernel
theorem dX7_depth_5 : decode cX7_depth 5 = .ok (.aload_n 0, 1) := by decide +kernel
theorem dX7_depth_6 : decode cX7_depth 6 = .ok (.getfield 306, 3) := by decide +kernel
theorem dX7_depth_9 : decode cX7_depth 9 = .ok (.ireturn, 1) := by decide +kernel
theorem dX7_used_0 : decode cX7_used 0 = .ok (.aload_n 0, 1) := by decide +kernel
theorem dX7_used_1 : decode cX7_used 1 = .ok (.iconst 0, 1) := by decide +kernel
theorem dX7_used_2 : decode cX7_used 2 = .ok (.putfield 112, 3) := by decide +kernel
theorem dX7_used_5 : decode cX7_used 5 = .ok (.aload_n 0, 1) := by decide +kernel
theorem dX7_used_6 : decode cX7_used 6 = .ok (.getfield 297, 3) := by decide +kernel
theorem dX7_used_9 : decode cX7_used 9 = .ok (.ireturn, 1) := by decide +kernel
theorem dX7_reach_0 : decode cX7_reach 0 = .ok (.iload_n 1, 1) := by decide +kernel
theorem dX7_reach_1 : decode cX7_reach 1 = .ok (.invokestatic 318, 3) := by decide +kernel
theorem dX7_reach_4 : decode cX7_reach 4 = .ok (.ifCond .eq 23, 3) := by decide +kernel
theorem dX7_reach_7 : decode cX7_reach 7 = .ok (.aload_n 0, 1) := by decide +kernel
theorem dX7_reach_8 : decode cX7_reach 8 = .ok (.getfield 97, 3) := by decide +kernel
theorem dX7_reach_11 : decode cX7_reach 11 = .ok (.iload_n 1, 1) := by decide +kernel
theorem dX7_reach_12 : decode cX7_reach 12 = .ok (.iconst 4, 1) := by decide +kernel
theorem dX7_reach_13 : decode cX7_reach 13 = .ok (.idiv, 1) := by decide +kernel
theorem dX7_reach_14 : decode cX7_reach 14 = .ok (.iaload, 1) := by decide +kernel
theorem dX7_reach_15 : decode cX7_reach 15 = .ok (.ifCond .ge 12, 3) := by decide +kernel
theorem dX7_reach_18 : decode cX7_reach 18 = .ok (.aload_n 0, 1) := by decide +kernel
theorem dX7_reach_19 : decode cX7_reach 19 = .ok (.getfield 97, 3) := by decide +kernel
theorem dX7_reach_22 : decode cX7_reach 22 = .ok (.iload_n 1, 1) := by decide +kernel
theorem dX7_reach_23 : decode cX7_reach 23 = .ok (.iconst 4, 1) := by decide +kernel
theorem dX7_reach_24 : decode cX7_reach 24 = .ok (.idiv, 1) := by decide +kernel
theorem dX7_reach_25 : decode cX7_reach 25 = .ok (.iconst 0, 1) := by decide +kernel
theorem dX7_reach_26 : decode cX7_reach 26 = .ok (.iastore, 1) := by decide +kernel
theorem dX7_reach_27 : decode cX7_reach 27 = .ok (.return_, 1) := by decide +kernel
theorem dX7_live_0 : decode cX7_live 0 = .ok (.aload_n 0, 1) := by decide +kernel
theorem dX7_live_1 : decode cX7_live 1 = .ok (.iconst 0, 1) := by decide +kernel
theorem dX7_live_2 : decode cX7_live 2 = .ok (.putfield 112, 3) := by decide +kernel
theorem dX7_live_5 : decode cX7_live 5 = .ok (.iconst 0, 1) := by decide +kernel
theorem dX7_live_6 : decode cX7_live 6 = .ok (.istore_n 1, 1) := by decide +kernel
theorem dX7_live_7 : decode cX7_live 7 = .ok (.iload_n 1, 1) := by decide +kernel
theorem dX7_live_8 : decode cX7_live 8 = .ok (.sipush 400, 3) := by decide +kernel
theorem dX7_live_11 : decode cX7_live 11 = .ok (.if_icmp .ge 16, 3) := by decide +kernel
theorem dX7_live_14 : decode cX7_live 14 = .ok (.aload_n 0, 1) := by decide +kernel
theorem dX7_live_15 : decode cX7_live 15 = .ok (.getfield 97, 3) := by decide +kernel
theorem dX7_live_18 : decode cX7_live 18 = .ok (.iload_n 1, 1) := by decide +kernel
theorem dX7_live_19 : decode cX7_live 19 = .ok (.iconst (-1), 1) := by decide +kernel
theorem dX7_live_20 : decode cX7_live 20 = .ok (.iastore, 1) := by decide +kernel
theorem dX7_live_21 : decode cX7_live 21 = .ok (.iinc 1 1, 3) := by decide +kernel
theorem dX7_live_24 : decode cX7_live 24 = .ok (.goto (-17), 3) := by decide +kernel
theorem dX7_live_27 : decode cX7_live 27 = .ok (.aload_n 0, 1) := by decide +kernel
theorem dX7_live_28 : decode cX7_live 28 = .ok (.aload_n 0, 1) := by decide +kernel
theorem dX7_live_29 : decode cX7_live 29 = .ok (.getfield 100, 3) := by decide +kernel
theorem dX7_live_32 : decode cX7_live 32 = .ok (.invokevirtual 390, 3) := by decide +kernel
theorem dX7_live_35 : decode cX7_live 35 = .ok (.aload_n 0, 1) := by decide +kernel
theorem dX7_live_36 : decode cX7_live 36 = .ok (.aload_n 0, 1) := by decide +kernel
theorem dX7_live_37 : decode cX7_live 37 = .ok (.getfield 103, 3) := by decide +kernel
theorem dX7_live_40 : decode cX7_live 40 = .ok (.invokevirtual 390, 3) := by decide +kernel
theorem dX7_live_43 : decode cX7_live 43 = .ok (.iconst 0, 1) := by decide +kernel
theorem dX7_live_44 : decode cX7_live 44 = .ok (.istore_n 1, 1) := by decide +kernel
theorem dX7_live_45 : decode cX7_live 45 = .ok (.iload_n 1, 1) := by decide +kernel
theorem dX7_live_46 : decode cX7_live 46 = .ok (.aload_n 0, 1) := by decide +kernel
theorem dX7_live_47 : decode cX7_live 47 = .ok (.getfield 306, 3) := by decide +kernel
theorem dX7_live_50 : decode cX7_live 50 = .ok (.if_icmp .ge 19, 3) := by decide +kernel
theorem dX7_live_53 : decode cX7_live 53 = .ok (.aload_n 0, 1) := by decide +kernel
theorem dX7_live_54 : decode cX7_live 54 = .ok (.aload_n 0, 1) := by decide +kernel
theorem dX7_live_55 : decode cX7_live 55 = .ok (.getfield 106, 3) := by decide +kernel
theorem dX7_live_58 : decode cX7_live 58 = .ok (.iload_n 1, 1) := by decide +kernel
theorem dX7_live_59 : decode cX7_live 59 = .ok (.iaload, 1) := by decide +kernel
theorem dX7_live_60 : decode cX7_live 60 = .ok (.invokevirtual 390, 3) := by decide +kernel
theorem dX7_live_63 : decode cX7_live 63 = .ok (.iinc 1 1, 3) := by decide +kernel
theorem dX7_live_66 : decode cX7_live 66 = .ok (.goto (-21), 3) := by decide +kernel
theorem dX7_live_69 : decode cX7_live 69 = .ok (.iconst 0, 1) := by decide +kernel
theorem dX7_live_70 : decode cX7_live 70 = .ok (.istore_n 1, 1) := by decide +kernel
theorem dX7_live_71 : decode cX7_live 71 = .ok (.iconst 1, 1) := by decide +kernel
theorem dX7_live_72 : decode cX7_live 72 = .ok (.istore_n 2, 1) := by decide +kernel
theorem dX7_live_73 : decode cX7_live 73 = .ok (.iload_n 2, 1) := by decide +kernel
theorem dX7_live_74 : decode cX7_live 74 = .ok (.ifCond .eq 111, 3) := by decide +kernel
theorem dX7_live_77 : decode cX7_live 77 = .ok (.iconst 0, 1) := by decide +kernel
theorem dX7_live_78 : decode cX7_live 78 = .ok (.istore_n 2, 1) := by decide +kernel
theorem dX7_live_79 : decode cX7_live 79 = .ok (.aload_n 0, 1) := by decide +kernel
theorem dX7_live_80 : decode cX7_live 80 = .ok (.getfield 300, 3) := by decide +kernel
theorem dX7_live_83 : decode cX7_live 83 = .ok (.istore_n 3, 1) := by decide +kernel
theorem dX7_live_84 : decode cX7_live 84 = .ok (.iload_n 3, 1) := by decide +kernel
theorem dX7_live_85 : decode cX7_live 85 = .ok (.aload_n 0, 1) := by decide +kernel
theorem dX7_live_86 : decode cX7_live 86 = .ok (.getfield 300, 3) := by decide +kernel
theorem dX7_live_89 : decode cX7_live 89 = .ok (.aload_n 0, 1) := by decide +kernel
theorem dX7_live_90 : decode cX7_live 90 = .ok (.getfield 297, 3) := by decide +kernel
theorem dX7_live_93 : decode cX7_live 93 = .ok (.iadd, 1) := by decide +kernel
theorem dX7_live_94 : decode cX7_live 94 = .ok (.if_icmp .ge 88, 3) := by decide +kernel
theorem dX7_live_97 : decode cX7_live 97 = .ok (.aload_n 0, 1) := by decide +kernel
theorem dX7_live_98 : decode cX7_live 98 = .ok (.getfield 97, 3) := by decide +kernel
theorem dX7_live_101 : decode cX7_live 101 = .ok (.iload_n 3, 1) := by decide +kernel
theorem dX7_live_102 : decode cX7_live 102 = .ok (.iaload, 1) := by decide +kernel
theorem dX7_live_103 : decode cX7_live 103 = .ok (.ifCond .eq 6, 3) := by decide +kernel
theorem dX7_live_106 : decode cX7_live 106 = .ok (.goto 60, 3) := by decide +kernel
theorem dX7_live_109 : decode cX7_live 109 = .ok (.aload_n 0, 1) := by decide +kernel
theorem dX7_live_110 : decode cX7_live 110 = .ok (.getfield 97, 3) := by decide +kernel
theorem dX7_live_113 : decode cX7_live 113 = .ok (.iload_n 3, 1) := by decide +kernel
theorem dX7_live_114 : decode cX7_live 114 = .ok (.iconst 1, 1) := by decide +kernel
theorem dX7_live_115 : decode cX7_live 115 = .ok (.iastore, 1) := by decide +kernel
theorem dX7_live_116 : decode cX7_live 116 = .ok (.iconst 1, 1) := by decide +kernel
theorem dX7_live_117 : decode cX7_live 117 = .ok (.istore_n 2, 1) := by decide +kernel
theorem dX7_live_118 : decode cX7_live 118 = .ok (.iload_n 1, 1) := by decide +kernel
theorem dX7_live_119 : decode cX7_live 119 = .ok (.iconst 1, 1) := by decide +kernel
theorem dX7_live_120 : decode cX7_live 120 = .ok (.aload_n 0, 1) := by decide +kernel
theorem dX7_live_121 : decode cX7_live 121 = .ok (.getfield 94, 3) := by decide +kernel
theorem dX7_live_124 : decode cX7_live 124 = .ok (.iload_n 3, 1) := by decide +kernel
theorem dX7_live_125 : decode cX7_live 125 = .ok (.iaload, 1) := by decide +kernel
theorem dX7_live_126 : decode cX7_live 126 = .ok (.iconst 4, 1) := by decide +kernel
theorem dX7_live_127 : decode cX7_live 127 = .ok (.ishr, 1) := by decide +kernel
theorem dX7_live_128 : decode cX7_live 128 = .ok (.iadd, 1) := by decide +kernel
theorem dX7_live_129 : decode cX7_live 129 = .ok (.iadd, 1) := by decide +kernel
theorem dX7_live_130 : decode cX7_live 130 = .ok (.istore_n 1, 1) := by decide +kernel
theorem dX7_live_131 : decode cX7_live 131 = .ok (.iconst 1, 1) := by decide +kernel
theorem dX7_live_132 : decode cX7_live 132 = .ok (.istore 4, 2) := by decide +kernel
theorem dX7_live_134 : decode cX7_live 134 = .ok (.iload 4, 2) := by decide +kernel
theorem dX7_live_136 : decode cX7_live 136 = .ok (.aload_n 0, 1) := by decide +kernel
theorem dX7_live_137 : decode cX7_live 137 = .ok (.getfield 94, 3) := by decide +kernel
theorem dX7_live_140 : decode cX7_live 140 = .ok (.iload_n 3, 1) := by decide +kernel
theorem dX7_live_141 : decode cX7_live 141 = .ok (.iaload, 1) := by decide +kernel
theorem dX7_live_142 : decode cX7_live 142 = .ok (.iconst 4, 1) := by decide +kernel
theorem dX7_live_143 : decode cX7_live 143 = .ok (.ishr, 1) := by decide +kernel
theorem dX7_live_144 : decode cX7_live 144 = .ok (.if_icmp .gt 22, 3) := by decide +kernel
theorem dX7_live_147 : decode cX7_live 147 = .ok (.aload_n 0, 1) := by decide +kernel
theorem dX7_live_148 : decode cX7_live 148 = .ok (.aload_n 0, 1) := by decide +kernel
theorem dX7_live_149 : decode cX7_live 149 = .ok (.getfield 94, 3) := by decide +kernel
theorem dX7_live_152 : decode cX7_live 152 = .ok (.iload_n 3, 1) := by decide +kernel
theorem dX7_live_153 : decode cX7_live 153 = .ok (.iload 4, 2) := by decide +kernel
theorem dX7_live_155 : decode cX7_live 155 = .ok (.iadd, 1) := by decide +kernel
theorem dX7_live_156 : decode cX7_live 156 = .ok (.iaload, 1) := by decide +kernel
theorem dX7_live_157 : decode cX7_live 157 = .ok (.invokevirtual 390, 3) := by decide +kernel
theorem dX7_live_160 : decode cX7_live 160 = .ok (.iinc 4 1, 3) := by decide +kernel
theorem dX7_live_163 : decode cX7_live 163 = .ok (.goto (-29), 3) := by decide +kernel
theorem dX7_live_166 : decode cX7_live 166 = .ok (.iload_n 3, 1) := by decide +kernel
theorem dX7_live_167 : decode cX7_live 167 = .ok (.iconst 1, 1) := by decide +kernel
theorem dX7_live_168 : decode cX7_live 168 = .ok (.aload_n 0, 1) := by decide +kernel
theorem dX7_live_169 : decode cX7_live 169 = .ok (.getfield 94, 3) := by decide +kernel
theorem dX7_live_172 : decode cX7_live 172 = .ok (.iload_n 3, 1) := by decide +kernel
theorem dX7_live_173 : decode cX7_live 173 = .ok (.iaload, 1) := by decide +kernel
theorem dX7_live_174 : decode cX7_live 174 = .ok (.iconst 4, 1) := by decide +kernel
theorem dX7_live_175 : decode cX7_live 175 = .ok (.ishr, 1) := by decide +kernel
theorem dX7_live_176 : decode cX7_live 176 = .ok (.iadd, 1) := by decide +kernel
theorem dX7_live_177 : decode cX7_live 177 = .ok (.iadd, 1) := by decide +kernel
theorem dX7_live_178 : decode cX7_live 178 = .ok (.istore_n 3, 1) := by decide +kernel
theorem dX7_live_179 : decode cX7_live 179 = .ok (.goto (-95), 3) := by decide +kernel
theorem dX7_live_182 : decode cX7_live 182 = .ok (.goto (-109), 3) := by decide +kernel
theorem dX7_live_185 : decode cX7_live 185 = .ok (.iload_n 1, 1) := by decide +kernel
theorem dX7_live_186 : decode cX7_live 186 = .ok (.ireturn, 1) := by decide +kernel
theorem dX7_collections_0 : decode cX7_collections 0 = .ok (.aload_n 0, 1) := by decide +kernel
theorem dX7_collections_1 : decode cX7_collections 1 = .ok (.iconst 0, 1) := by decide +kernel
theorem dX7_collections_2 : decode cX7_collections 2 = .ok (.putfield 112, 3) := by decide +kernel
theorem dX7_collections_5 : decode cX7_collections 5 = .ok (.aload_n 0, 1) := by decide +kernel
theorem dX7_collections_6 : decode cX7_collections 6 = .ok (.getfield 303, 3) := by decide +kernel
theorem dX7_collections_9 : decode cX7_collections 9 = .ok (.ireturn, 1) := by decide +kernel
theorem dX7_follow_0 : decode cX7_follow 0 = .ok (.aload_n 0, 1) := by decide +kernel
theorem dX7_follow_1 : decode cX7_follow 1 = .ok (.getfield 100, 3) := by decide +kernel
theorem dX7_follow_4 : decode cX7_follow 4 = .ok (.istore_n 2, 1) := by decide +kernel
theorem dX7_follow_5 : decode cX7_follow 5 = .ok (.iload_n 1, 1) := by decide +kernel
theorem dX7_follow_6 : decode cX7_follow 6 = .ok (.istore_n 3, 1) := by decide +kernel
theorem dX7_follow_7 : decode cX7_follow 7 = .ok (.iload_n 3, 1) := by decide +kernel
theorem dX7_follow_8 : decode cX7_follow 8 = .ok (.iconst 3, 1) := by decide +kernel
theorem dX7_follow_9 : decode cX7_follow 9 = .ok (.iand, 1) := by decide +kernel
theorem dX7_follow_10 : decode cX7_follow 10 = .ok (.ifCond .eq 21, 3) := by decide +kernel
theorem dX7_follow_13 : decode cX7_follow 13 = .ok (.aload_n 0, 1) := by decide +kernel
theorem dX7_follow_14 : decode cX7_follow 14 = .ok (.iload_n 2, 1) := by decide +kernel
theorem dX7_follow_15 : decode cX7_follow 15 = .ok (.iload_n 3, 1) := by decide +kernel
theorem dX7_follow_16 : decode cX7_follow 16 = .ok (.iconst 3, 1) := by decide +kernel
theorem dX7_follow_17 : decode cX7_follow 17 = .ok (.iand, 1) := by decide +kernel
theorem dX7_follow_18 : decode cX7_follow 18 = .ok (.iconst 1, 1) := by decide +kernel
theorem dX7_follow_19 : decode cX7_follow 19 = .ok (.isub, 1) := by decide +kernel
theorem dX7_follow_20 : decode cX7_follow 20 = .ok (.invokevirtual 356, 3) := by decide +kernel
theorem dX7_follow_23 : decode cX7_follow 23 = .ok (.istore_n 2, 1) := by decide +kernel
theorem dX7_follow_24 : decode cX7_follow 24 = .ok (.iload_n 3, 1) := by decide +kernel
theorem dX7_follow_25 : decode cX7_follow 25 = .ok (.iconst 2, 1) := by decide +kernel
theorem dX7_follow_26 : decode cX7_follow 26 = .ok (.iushr, 1) := by decide +kernel
theorem dX7_follow_27 : decode cX7_follow 27 = .ok (.istore_n 3, 1) := by decide +kernel
theorem dX7_follow_28 : decode cX7_follow 28 = .ok (.goto (-21), 3) := by decide +kernel
theorem dX7_follow_31 : decode cX7_follow 31 = .ok (.iload_n 2, 1) := by decide +kernel
theorem dX7_follow_32 : decode cX7_follow 32 = .ok (.ireturn, 1) := by decide +kernel
theorem dX7_kindOf_0 : decode cX7_kindOf 0 = .ok (.aload_n 0, 1) := by decide +kernel
theorem dX7_kindOf_1 : decode cX7_kindOf 1 = .ok (.iload_n 1, 1) := by decide +kernel
theorem dX7_kindOf_2 : decode cX7_kindOf 2 = .ok (.invokevirtual 393, 3) := by decide +kernel
theorem dX7_kindOf_5 : decode cX7_kindOf 5 = .ok (.istore_n 2, 1) := by decide +kernel
theorem dX7_kindOf_6 : decode cX7_kindOf 6 = .ok (.iload_n 2, 1) := by decide +kernel
theorem dX7_kindOf_7 : decode cX7_kindOf 7 = .ok (.invokestatic 344, 3) := by decide +kernel
theorem dX7_kindOf_10 : decode cX7_kindOf 10 = .ok (.ifCond .eq 7, 3) := by decide +kernel
theorem dX7_kindOf_13 : decode cX7_kindOf 13 = .ok (.iconst 1, 1) := by decide +kernel
theorem dX7_kindOf_14 : decode cX7_kindOf 14 = .ok (.goto 16, 3) := by decide +kernel
theorem dX7_kindOf_17 : decode cX7_kindOf 17 = .ok (.aload_n 0, 1) := by decide +kernel
theorem dX7_kindOf_18 : decode cX7_kindOf 18 = .ok (.iload_n 2, 1) := by decide +kernel
theorem dX7_kindOf_19 : decode cX7_kindOf 19 = .ok (.invokevirtual 350, 3) := by decide +kernel
theorem dX7_kindOf_22 : decode cX7_kindOf 22 = .ok (.ifCond .eq 7, 3) := by decide +kernel
theorem dX7_kindOf_25 : decode cX7_kindOf 25 = .ok (.iconst 2, 1) := by decide +kernel
theorem dX7_kindOf_26 : decode cX7_kindOf 26 = .ok (.goto 4, 3) := by decide +kernel
theorem dX7_kindOf_29 : decode cX7_kindOf 29 = .ok (.iconst 3, 1) := by decide +kernel
theorem dX7_kindOf_30 : decode cX7_kindOf 30 = .ok (.ireturn, 1) := by decide +kernel
theorem dX7_ends_0 : decode cX7_ends 0 = .ok (.aload_n 0, 1) := by decide +kernel
theorem dX7_ends_1 : decode cX7_ends 1 = .ok (.getfield 100, 3) := by decide +kernel
theorem dX7_ends_4 : decode cX7_ends 4 = .ok (.istore_n 2, 1) := by decide +kernel
theorem dX7_ends_5 : decode cX7_ends 5 = .ok (.iload_n 1, 1) := by decide +kernel
theorem dX7_ends_6 : decode cX7_ends 6 = .ok (.istore_n 3, 1) := by decide +kernel
theorem dX7_ends_7 : decode cX7_ends 7 = .ok (.iload_n 3, 1) := by decide +kernel
theorem dX7_ends_8 : decode cX7_ends 8 = .ok (.iconst 3, 1) := by decide +kernel
theorem dX7_ends_9 : decode cX7_ends 9 = .ok (.iand, 1) := by decide +kernel
theorem dX7_ends_10 : decode cX7_ends 10 = .ok (.ifCond .eq 53, 3) := by decide +kernel
theorem dX7_ends_13 : decode cX7_ends 13 = .ok (.iload_n 2, 1) := by decide +kernel
theorem dX7_ends_14 : decode cX7_ends 14 = .ok (.invokestatic 318, 3) := by decide +kernel
theorem dX7_ends_17 : decode cX7_ends 17 = .ok (.ifCond .ne 5, 3) := by decide +kernel
theorem dX7_ends_20 : decode cX7_ends 20 = .ok (.iconst 0, 1) := by decide +kernel
theorem dX7_ends_21 : decode cX7_ends 21 = .ok (.ireturn, 1) := by decide +kernel
theorem dX7_ends_22 : decode cX7_ends 22 = .ok (.aload_n 0, 1) := by decide +kernel
theorem dX7_ends_23 : decode cX7_ends 23 = .ok (.iload_n 2, 1) := by decide +kernel
theorem dX7_ends_24 : decode cX7_ends 24 = .ok (.invokevirtual 331, 3) := by decide +kernel
theorem dX7_ends_27 : decode cX7_ends 27 = .ok (.bipush 7, 2) := by decide +kernel
theorem dX7_ends_29 : decode cX7_ends 29 = .ok (.if_icmp .gt 14, 3) := by decide +kernel
theorem dX7_ends_32 : decode cX7_ends 32 = .ok (.iload_n 3, 1) := by decide +kernel
theorem dX7_ends_33 : decode cX7_ends 33 = .ok (.iconst 3, 1) := by decide +kernel
theorem dX7_ends_34 : decode cX7_ends 34 = .ok (.iand, 1) := by decide +kernel
theorem dX7_ends_35 : decode cX7_ends 35 = .ok (.aload_n 0, 1) := by decide +kernel
theorem dX7_ends_36 : decode cX7_ends 36 = .ok (.iload_n 2, 1) := by decide +kernel
theorem dX7_ends_37 : decode cX7_ends 37 = .ok (.invokevirtual 322, 3) := by decide +kernel
theorem dX7_ends_40 : decode cX7_ends 40 = .ok (.if_icmp .le 5, 3) := by decide +kernel
theorem dX7_ends_43 : decode cX7_ends 43 = .ok (.iconst 0, 1) := by decide +kernel
theorem dX7_ends_44 : decode cX7_ends 44 = .ok (.ireturn, 1) := by decide +kernel
theorem dX7_ends_45 : decode cX7_ends 45 = .ok (.aload_n 0, 1) := by decide +kernel
theorem dX7_ends_46 : decode cX7_ends 46 = .ok (.iload_n 2, 1) := by decide +kernel
theorem dX7_ends_47 : decode cX7_ends 47 = .ok (.iload_n 3, 1) := by decide +kernel
theorem dX7_ends_48 : decode cX7_ends 48 = .ok (.iconst 3, 1) := by decide +kernel
theorem dX7_ends_49 : decode cX7_ends 49 = .ok (.iand, 1) := by decide +kernel
theorem dX7_ends_50 : decode cX7_ends 50 = .ok (.iconst 1, 1) := by decide +kernel
theorem dX7_ends_51 : decode cX7_ends 51 = .ok (.isub, 1) := by decide +kernel
theorem dX7_ends_52 : decode cX7_ends 52 = .ok (.invokevirtual 356, 3) := by decide +kernel
theorem dX7_ends_55 : decode cX7_ends 55 = .ok (.istore_n 2, 1) := by decide +kernel
theorem dX7_ends_56 : decode cX7_ends 56 = .ok (.iload_n 3, 1) := by decide +kernel
theorem dX7_ends_57 : decode cX7_ends 57 = .ok (.iconst 2, 1) := by decide +kernel
theorem dX7_ends_58 : decode cX7_ends 58 = .ok (.iushr, 1) := by decide +kernel
theorem dX7_ends_59 : decode cX7_ends 59 = .ok (.istore_n 3, 1) := by decide +kernel
theorem dX7_ends_60 : decode cX7_ends 60 = .ok (.goto (-53), 3) := by decide +kernel
theorem dX7_ends_63 : decode cX7_ends 63 = .ok (.iconst 1, 1) := by decide +kernel
theorem dX7_ends_64 : decode cX7_ends 64 = .ok (.ireturn, 1) := by decide +kernel
theorem dX7_kind_0 : decode cX7_kind 0 = .ok (.aload_n 0, 1) := by decide +kernel
theorem dX7_kind_1 : decode cX7_kind 1 = .ok (.iconst 0, 1) := by decide +kernel
theorem dX7_kind_2 : decode cX7_kind 2 = .ok (.putfield 112, 3) := by decide +kernel
theorem dX7_kind_5 : decode cX7_kind 5 = .ok (.aload_n 0, 1) := by decide +kernel
theorem dX7_kind_6 : decode cX7_kind 6 = .ok (.iload_n 1, 1) := by decide +kernel
theorem dX7_kind_7 : decode cX7_kind 7 = .ok (.invokevirtual 396, 3) := by decide +kernel
theorem dX7_kind_10 : decode cX7_kind 10 = .ok (.ifCond .eq 11, 3) := by decide +kernel
theorem dX7_kind_13 : decode cX7_kind 13 = .ok (.aload_n 0, 1) := by decide +kernel
theorem dX7_kind_14 : decode cX7_kind 14 = .ok (.iload_n 1, 1) := by decide +kernel
theorem dX7_kind_15 : decode cX7_kind 15 = .ok (.invokevirtual 399, 3) := by decide +kernel
theorem dX7_kind_18 : decode cX7_kind 18 = .ok (.goto 4, 3) := by decide +kernel
theorem dX7_kind_21 : decode cX7_kind 21 = .ok (.iconst 0, 1) := by decide +kernel
theorem dX7_kind_22 : decode cX7_kind 22 = .ok (.ireturn, 1) := by decide +kernel
theorem dX7_value_0 : decode cX7_value 0 = .ok (.aload_n 0, 1) := by decide +kernel
theorem dX7_value_1 : decode cX7_value 1 = .ok (.iconst 0, 1) := by decide +kernel
theorem dX7_value_2 : decode cX7_value 2 = .ok (.putfield 112, 3) := by decide +kernel
theorem dX7_value_5 : decode cX7_value 5 = .ok (.aload_n 0, 1) := by decide +kernel
theorem dX7_value_6 : decode cX7_value 6 = .ok (.iload_n 1, 1) := by decide +kernel
theorem dX7_value_7 : decode cX7_value 7 = .ok (.invokevirtual 396, 3) := by decide +kernel
theorem dX7_value_10 : decode cX7_value 10 = .ok (.ifCond .ne 5, 3) := by decide +kernel
theorem dX7_value_13 : decode cX7_value 13 = .ok (.iconst 0, 1) := by decide +kernel
theorem dX7_value_14 : decode cX7_value 14 = .ok (.ireturn, 1) := by decide +kernel
theorem dX7_value_15 : decode cX7_value 15 = .ok (.aload_n 0, 1) := by decide +kernel
theorem dX7_value_16 : decode cX7_value 16 = .ok (.iload_n 1, 1) := by decide +kernel
theorem dX7_value_17 : decode cX7_value 17 = .ok (.invokevirtual 393, 3) := by decide +kernel
theorem dX7_value_20 : decode cX7_value 20 = .ok (.istore_n 2, 1) := by decide +kernel
theorem dX7_value_21 : decode cX7_value 21 = .ok (.iload_n 2, 1) := by decide +kernel
theorem dX7_value_22 : decode cX7_value 22 = .ok (.invokestatic 344, 3) := by decide +kernel
theorem dX7_value_25 : decode cX7_value 25 = .ok (.ifCond .eq 9, 3) := by decide +kernel
theorem dX7_value_28 : decode cX7_value 28 = .ok (.iload_n 2, 1) := by decide +kernel
theorem dX7_value_29 : decode cX7_value 29 = .ok (.iconst 1, 1) := by decide +kernel
theorem dX7_value_30 : decode cX7_value 30 = .ok (.ishr, 1) := by decide +kernel
theorem dX7_value_31 : decode cX7_value 31 = .ok (.goto 27, 3) := by decide +kernel
theorem dX7_value_34 : decode cX7_value 34 = .ok (.aload_n 0, 1) := by decide +kernel
theorem dX7_value_35 : decode cX7_value 35 = .ok (.iload_n 2, 1) := by decide +kernel
theorem dX7_value_36 : decode cX7_value 36 = .ok (.invokevirtual 350, 3) := by decide +kernel
theorem dX7_value_39 : decode cX7_value 39 = .ok (.ifCond .eq 11, 3) := by decide +kernel
theorem dX7_value_42 : decode cX7_value 42 = .ok (.aload_n 0, 1) := by decide +kernel
theorem dX7_value_43 : decode cX7_value 43 = .ok (.iload_n 2, 1) := by decide +kernel
theorem dX7_value_44 : decode cX7_value 44 = .ok (.invokevirtual 337, 3) := by decide +kernel
theorem dX7_value_47 : decode cX7_value 47 = .ok (.goto 11, 3) := by decide +kernel
theorem dX7_value_50 : decode cX7_value 50 = .ok (.aload_n 0, 1) := by decide +kernel
theorem dX7_value_51 : decode cX7_value 51 = .ok (.iload_n 2, 1) := by decide +kernel
theorem dX7_value_52 : decode cX7_value 52 = .ok (.iconst 0, 1) := by decide +kernel
theorem dX7_value_53 : decode cX7_value 53 = .ok (.invokevirtual 356, 3) := by decide +kernel
theorem dX7_value_56 : decode cX7_value 56 = .ok (.iconst 1, 1) := by decide +kernel
theorem dX7_value_57 : decode cX7_value 57 = .ok (.ishr, 1) := by decide +kernel
theorem dX7_value_58 : decode cX7_value 58 = .ok (.ireturn, 1) := by decide +kernel
end
section
/-! THE JUDGEMENT. A picture cj_G of the heap is a function: what thing lies at an address. cj_J says of a place in a method: from here, with this picture, the method comes to its end, returns v with a picture G' such that Qr v G', or throws a thing of the kind E with Qx E G'. cj_T is the contract of a method, cj_J the walk of its body. -/
abbrev cj_E : Type := (Nat × vp_A) ⊕ (Nat × List Value)
abbrev cj_G : Type := Nat → Option cj_E
def cj_tl : List FieldType := [.int, .char, .boolean, .long]
def cj_cd (tys : List (ClassId × FieldType)) (t : Nat) : ClassId := match tys[t]? with
  | some q => q.1
  | none => default
def cj_tr (tys : List (ClassId × FieldType)) : cj_E → va_E
  | .inl (t, a) => .inl (cj_cd tys t, a)
  | .inr o => .inr o
def cj_is (tys : List (ClassId × FieldType)) (ws : va_W) (G : cj_G) : Prop := (∀ (a : Nat) (x : cj_E), G a = some x → ∃ k : Nat, ws[k]? = some (a, cj_tr tys x)) ∧ ∀ (k a : Nat) (e : va_E), ws[k]? = some (a, e) → ∃ x : cj_E, G a = some x
def cj_up (G : cj_G) (a : Nat) (x : cj_E) : cj_G := fun b => if b = a then some x else G b
theorem cj_up_s {G : cj_G} {a : Nat} {x : cj_E} : cj_up G a x a = some x := by simp [cj_up]
theorem cj_up_n {G : cj_G} {a b : Nat} {x : cj_E} (h : b ≠ a) : cj_up G a x b = G b := by simp [cj_up, h]
theorem cj_up_ne {G : cj_G} {a b : Nat} {x e : cj_E} (hb : G b = some e) (ha : G a = none) : cj_up G a x b = some e := by
  have h : b ≠ a := fun h => by rw [h, ha] at hb; cases hb
  rw [cj_up_n h]; exact hb
theorem cj_is.set {tys : List (ClassId × FieldType)} {ws : va_W} {G : cj_G} {A : Nat → Prop} {k a : Nat} {e0 : va_E} {x : cj_E} (h : cj_is tys ws G) (hD : va_D A ws) (hk : ws[k]? = some (a, e0)) : cj_is tys (ws.set k (a, cj_tr tys x)) (cj_up G a x) := by
  have hlt : k < ws.length := (List.getElem?_eq_some_iff.mp hk).1
  refine ⟨fun b y hb => ?_, fun j b e hj => ?_⟩
  · by_cases hba : b = a
    · subst hba
      rw [cj_up_s] at hb
      cases hb
      exact ⟨k, by simp [List.getElem?_set, hlt]⟩
    · rw [cj_up_n hba] at hb
      obtain ⟨j, hj⟩ := h.1 b y hb
      have hjk : k ≠ j := fun e => by subst e; rw [hk] at hj; cases hj; exact hba rfl
      exact ⟨j, by rw [List.getElem?_set_ne hjk]; exact hj⟩
  · by_cases hjk : k = j
    · subst hjk
      simp [List.getElem?_set, hlt] at hj
      exact ⟨x, by rw [← hj.1]; exact cj_up_s⟩
    · rw [List.getElem?_set_ne hjk] at hj
      obtain ⟨y, hy⟩ := h.2 j b e hj
      have hba : b ≠ a := fun e9 => hjk (hD.1 k j _ _ hk hj e9.symm)
      exact ⟨y, by rw [cj_up_n hba]; exact hy⟩
theorem cj_is.push {tys : List (ClassId × FieldType)} {ws : va_W} {G : cj_G} {A : Nat → Prop} {q : Nat} {x : cj_E} (h : cj_is tys ws G) (hD : va_D A (ws ++ [(q, cj_tr tys x)])) : cj_is tys (ws ++ [(q, cj_tr tys x)]) (cj_up G q x) ∧ G q = none := by
  have hq : G q = none := by
    cases hg : G q with
    | none => rfl
    | some y =>
      obtain ⟨k, hk⟩ := h.1 q y hg
      have hlt : k < ws.length := (List.getElem?_eq_some_iff.mp hk).1
      have h1 : (ws ++ [(q, cj_tr tys x)])[k]? = some (q, cj_tr tys y) := by rw [List.getElem?_append_left hlt]; exact hk
      have h2 : (ws ++ [(q, cj_tr tys x)])[ws.length]? = some (q, cj_tr tys x) := by simp
      have := hD.1 k ws.length _ _ h1 h2 rfl
      omega
  refine ⟨⟨fun b y hb => ?_, fun j b e hj => ?_⟩, hq⟩
  · by_cases hba : b = q
    · subst hba
      rw [cj_up_s] at hb
      cases hb
      exact ⟨ws.length, by simp⟩
    · rw [cj_up_n hba] at hb
      obtain ⟨j, hj⟩ := h.1 b y hb
      have hlt : j < ws.length := (List.getElem?_eq_some_iff.mp hj).1
      exact ⟨j, by rw [List.getElem?_append_left hlt]; exact hj⟩
  · by_cases hba : b = q
    · subst hba; exact ⟨x, cj_up_s⟩
    · rcases Nat.lt_or_ge j ws.length with hlt | hge
      · rw [List.getElem?_append_left hlt] at hj
        obtain ⟨y, hy⟩ := h.2 j b e hj
        exact ⟨y, by rw [cj_up_n hba]; exact hy⟩
      · rw [List.getElem?_append_right hge] at hj
        rcases Nat.eq_zero_or_pos (j - ws.length) with h0 | h0
        · rw [h0] at hj
          simp at hj
          exact absurd hj.1.symm hba
        · obtain ⟨n9, hn9⟩ := Nat.exists_eq_succ_of_ne_zero (Nat.pos_iff_ne_zero.mp h0)
          rw [hn9] at hj
          simp at hj
/-- the heap H has the picture G; its things lie in A -/
def cj_W (D : va_G) (tys : List (ClassId × FieldType)) (A : Nat → Prop) (G : cj_G) (H : Heap) : Prop := ∃ ws : va_W, va_P D vwCl ws H ∧ va_D A ws ∧ cj_is tys ws G
theorem cj_W.weaken {D : va_G} {tys : List (ClassId × FieldType)} {A B : Nat → Prop} {G : cj_G} {H : Heap} (h : cj_W D tys A G H) (hAB : ∀ q, A q → B q) : cj_W D tys B G H := by
  obtain ⟨ws, h1, h2, h3⟩ := h
  exact ⟨ws, h1, h2.weaken (fun _ _ _ h => hAB _ h), h3⟩
theorem cj_W.lt {D : va_G} {tys : List (ClassId × FieldType)} {A : Nat → Prop} {G : cj_G} {H : Heap} (h : cj_W D tys A G H) {a : Nat} {x : cj_E} (ha : G a = some x) : a < H.size ∧ A a := by
  obtain ⟨ws, h1, h2, h3⟩ := h
  obtain ⟨k, hk⟩ := h3.1 a x ha
  exact ⟨(h1 k _ hk).lt, h2.2 k _ hk⟩
theorem cj_W.kept {D : va_G} {tys : List (ClassId × FieldType)} {A : Nat → Prop} {G : cj_G} {H H1 : Heap} (h : cj_W D tys A G H) (hq : ∀ q : Nat, q < H.size → H1[q]? = H[q]?) : cj_W D tys A G H1 := by
  obtain ⟨ws, h1, h2, h3⟩ := h
  exact ⟨ws, h1.kept (fun k q hk => hq _ (h1 k q hk).lt), h2, h3⟩
/-- the words that every method is given: the good ones of the tables -/
def cj_all : List Cond := lw_tbl.filter goodWord
theorem cj_all_of {w : Cond} (h : w ∈ lw_tbl) (g : goodWord w = true) : w ∈ cj_all := List.mem_filter.mpr ⟨h, g⟩
/-- a method: its name, bytes, number of locals, kind of answer -/
abbrev cj_M : Type := MethodName × ByteArray × Nat × Option FieldType
def cj_ws (M : cj_M) : List Cond := .code M.1 M.2.1 M.2.2.1 M.2.2.2 :: cj_all
def cj_rm (d k n : Nat) : Room := { frames := d, cells := k, slots := n, locals := 48 * d }
/-- the links between nest mates -/
def cj_nest : List (String × Nat × MethodName) := [(RX6, 19, yX3_init), (RX6, 26, yX0_init), (RX1, 50, yX6_isTag), (RX1, 53, yX6_tagOf), (RX1, 56, yX6_isInt), (RX1, 68, yX6_intOf), (RX3, 55, yX4_init), (RX3, 136, yX6_fieldsOf), (RX2, 86, yX6_isInt), (RX2, 98, yX6_fieldsOf), (RX2, 122, yX6_wordOfInt), (RX2, 142, yX6_intOf), (RX2, 151, yX6_wordOfTag)]
def cj_strs : List (String × Nat × String) := [(RX3, 50, "the text is ill"), (RX6, 77, "a run has 0 to 500 instructions"), (RX6, 88, "the machine can't go on"), (RX6, 97, "the machine stopped")]
def cj_exc : List String := ["java/lang/IllegalArgumentException", "java/lang/IllegalStateException", "java/lang/UnsupportedOperationException"]
def cj_dec : List MethodName := [⟨"java/lang/Throwable", "<init>", "(Ljava/lang/String;)V"⟩, ⟨"java/lang/Exception", "<init>", "(Ljava/lang/String;)V"⟩, ⟨"java/lang/RuntimeException", "<init>", "(Ljava/lang/String;)V"⟩]
def cj_B (U : State) : Prop := (∀ q ∈ cj_nest, va_Nw (.methodLinkNest q.1 q.2.1 q.2.2 RX6) U) ∧ (∀ q ∈ cj_strs, ∃ sa : Nat, vk_R q.1 q.2.1 q.2.2 sa U) ∧ (∀ X ∈ cj_exc, va_Nw (.castable X X) U) ∧ ∀ y ∈ cj_dec, va_Nw (.declares y) U
theorem cj_B.warm {s U : State} (hW : s.WarmedH U.vm) (h : cj_B s) : cj_B U := ⟨fun q hq => va_Nw.warmM hW (h.1 q hq), fun q hq => by obtain ⟨sa, h1⟩ := h.2.1 q hq; exact ⟨sa, vk_R.warm hW h1⟩, fun X hX => va_Nw.warmC hW (h.2.2.1 X hX), fun y hy => va_Nw.warmD hW (h.2.2.2 y hy)⟩
def cj_Z (A : Nat → Prop) (U : State) (H : Heap) : Prop := vx_Zq Bundle.tN "UNASSIGNED_STACK" Bundle.steD A U H ∧ vx_Zq Bundle.tN "SUPPRESSED_SENTINEL" Bundle.listD A U H
def cj_A (G : cj_G) (sz : Nat) : Nat → Prop := fun q => G q ≠ none ∨ sz ≤ q
def cj_P (D : va_G) (tys : List (ClassId × FieldType)) (G : cj_G) (sz : Nat) : State → Prop := fun U => U.heap.size = sz ∧ va_K D vwCl tys U ∧ cj_B U ∧ cj_Z (cj_A G sz) U U.heap ∧ cj_W D tys (fun _ => True) G U.heap
def cj_Q (D : va_G) (tys : List (ClassId × FieldType)) (A : Nat → Prop) (Qr : Option Value → cj_G → Prop) : Array Value → State → Outcome → State → Prop := fun _ st o t => (∃ (v : Option Value) (G' : cj_G), o = .returned v ∧ Qr v G' ∧ cj_W D tys A G' t.heap) ∧ va_F A st t
def cj_X (D : va_G) (tys : List (ClassId × FieldType)) (A : Nat → Prop) (Qx : String → cj_G → Prop) : String → State → State → Prop := fun E st t => (∃ G' : cj_G, Qx E G' ∧ cj_W D tys A G' t.heap) ∧ va_F A st t
/-- THE CONTRACT of a method at given arguments and a given picture: d frames, k new cells of n slots are enough -/
def cj_T (M : cj_M) (d k n : Nat) (av : List Value) (G : cj_G) (Qr : Option Value → cj_G → Prop) (Qx : String → cj_G → Prop) : Prop :=
  ∀ l : Launch, l.stackTraces = false → ∀ (D : va_G) (tys : List (ClassId × FieldType)), tys.map (fun q => q.2) = cj_tl → ∀ sz : Nat, vx_Met l M.1 (cj_ws M) (cj_rm d k n) (va_Pc av (cj_P D tys G sz)) (cj_Q D tys (cj_A G sz) Qr) (cj_X D tys (cj_A G sz) Qx) k n (cj_A G sz)
/-- what holds all through a body -/
def cj_C (M : cj_M) (p : Program) (l : Launch) (s : State) (m : MethodId) (args : Array Value) (meth : Method) (c : Code) (D : va_G) (tys : List (ClassId × FieldType)) (A : Nat → Prop) : Prop :=
  p.tables.exec = Jvm.exec ∧ c.code = M.2.1 ∧ c.maxLocals = M.2.2.1 ∧ s.vm.findClass M.1.cls = some m.cls ∧ (∀ w ∈ cj_all, w.before args s = true) ∧ meth.sig.returnType = M.2.2.2 ∧ meth.locks = false ∧ (∀ x ∈ c.exceptionTable.toList, False) ∧ l.stackTraces = false ∧ va_K D vwCl tys s ∧ tys.map (fun q => q.2) = cj_tl ∧ cj_B s ∧ cj_Z A s s.heap ∧ (∀ q, s.heap.size ≤ q → A q) ∧ meth.name = M.1.name
section CJC
variable {M : cj_M} {p : Program} {l : Launch} {s : State} {m : MethodId} {args : Array Value} {meth : Method} {c : Code} {D : va_G} {tys : List (ClassId × FieldType)} {A : Nat → Prop}
theorem cj_C.x (C : cj_C M p l s m args meth c D tys A) : p.tables.exec = Jvm.exec := C.1
theorem cj_C.b (C : cj_C M p l s m args meth c D tys A) : c.code = M.2.1 := C.2.1
theorem cj_C.ml (C : cj_C M p l s m args meth c D tys A) : c.maxLocals = M.2.2.1 := C.2.2.1
theorem cj_C.own (C : cj_C M p l s m args meth c D tys A) : s.vm.findClass M.1.cls = some m.cls := C.2.2.2.1
theorem cj_C.ts (C : cj_C M p l s m args meth c D tys A) : ∀ w ∈ cj_all, w.before args s = true := C.2.2.2.2.1
theorem cj_C.r (C : cj_C M p l s m args meth c D tys A) : meth.sig.returnType = M.2.2.2 := C.2.2.2.2.2.1
theorem cj_C.lk (C : cj_C M p l s m args meth c D tys A) : meth.locks = false := C.2.2.2.2.2.2.1
theorem cj_C.tb (C : cj_C M p l s m args meth c D tys A) : ∀ x ∈ c.exceptionTable.toList, False := C.2.2.2.2.2.2.2.1
theorem cj_C.tr (C : cj_C M p l s m args meth c D tys A) : l.stackTraces = false := C.2.2.2.2.2.2.2.2.1
theorem cj_C.K (C : cj_C M p l s m args meth c D tys A) : va_K D vwCl tys s := C.2.2.2.2.2.2.2.2.2.1
theorem cj_C.ty (C : cj_C M p l s m args meth c D tys A) : tys.map (fun q => q.2) = cj_tl := C.2.2.2.2.2.2.2.2.2.2.1
theorem cj_C.B (C : cj_C M p l s m args meth c D tys A) : cj_B s := C.2.2.2.2.2.2.2.2.2.2.2.1
theorem cj_C.Z (C : cj_C M p l s m args meth c D tys A) : cj_Z A s s.heap := C.2.2.2.2.2.2.2.2.2.2.2.2.1
theorem cj_C.fr (C : cj_C M p l s m args meth c D tys A) : ∀ q, s.heap.size ≤ q → A q := C.2.2.2.2.2.2.2.2.2.2.2.2.2.1
theorem cj_C.nm (C : cj_C M p l s m args meth c D tys A) : meth.name = M.1.name := C.2.2.2.2.2.2.2.2.2.2.2.2.2.2
theorem cj_C.tyAt (C : cj_C M p l s m args meth c D tys A) {t : Nat} {ty : FieldType} (ht : cj_tl[t]? = some ty) : tys[t]? = some (cj_cd tys t, ty) := by
  have h1 : (tys.map (fun q => q.2))[t]? = some ty := by rw [C.ty]; exact ht
  rw [List.getElem?_map] at h1
  cases h2 : tys[t]? with
  | none => rw [h2] at h1; cases h1
  | some q =>
    rw [h2] at h1
    have h3 : q.2 = ty := Option.some.inj h1
    unfold cj_cd
    rw [h2, ← h3]
end CJC
def cj_J (M : cj_M) (d k0 n0 : Nat) (Qr : Option Value → cj_G → Prop) (Qx : String → cj_G → Prop) (k n pc : Nat) (lv : List (Nat × Value)) (st : List Value) (G : cj_G) : Prop :=
  ∀ (p : Program) (l : Launch) (e : Env) (s : State) (m : MethodId) (args : Array Value) (below : List Frame) (meth : Method) (c : Code) (D : va_G) (tys : List (ClassId × FieldType)) (A : Nat → Prop) (H : Heap) (locs : List Loc) (c0 s0 : Nat) (ls : Array Slot),
    cj_C M p l s m args meth c D tys A → cj_W D tys A G H → va_S A s.heap H locs → c0 + k ≤ k0 → s0 + n ≤ n0 → lv_has ls M.2.2.1 lv →
    W p l e (cj_rm d k0 n0) s m args below meth c H locs c0 s0 (vx_MQ below (cj_Q D tys A Qr) (cj_X D tys A Qx) args s k0 n0 A) (F0 m pc ls st)
/-- what the locals' list says of a place -/
def cj_lg : List (Nat × Value) → Nat → Option Value
  | [], _ => none
  | (j, v) :: t, i => if j = i then some v else cj_lg t i
theorem cj_lg_mem {lv : List (Nat × Value)} {i : Nat} {v : Value} (h : cj_lg lv i = some v) : (i, v) ∈ lv := by
  induction lv with
  | nil => cases h
  | cons q t ih =>
    obtain ⟨j, w⟩ := q
    unfold cj_lg at h
    by_cases hj : j = i
    · rw [if_pos hj] at h; cases h; rw [hj]; exact List.mem_cons_self
    · rw [if_neg hj] at h; exact List.mem_cons_of_mem _ (ih h)
theorem cj_lga {ls : Array Slot} {nL : Nat} {lv : List (Nat × Value)} {i : Nat} {v : Value} (h : lv_has ls nL lv) (hl : cj_lg lv i = some v) : ls[i]? = some (.val v) := h.2.2 (i, v) (cj_lg_mem hl)
section CJ
variable {M : cj_M} {d k0 n0 k n pc : Nat} {Qr : Option Value → cj_G → Prop} {Qx : String → cj_G → Prop} {lv lv' : List (Nat × Value)} {st : List Value} {G : cj_G}
/-- fewer locals are known: enough -/
theorem cj_sub (h : ∀ q ∈ lv', q ∈ lv) (kk : cj_J M d k0 n0 Qr Qx k n pc lv' st G) : cj_J M d k0 n0 Qr Qx k n pc lv st G := by
  intro p l e s m args below meth c D tys A H locs c0 s0 ls C W0 S hc hn hl
  exact kk p l e s m args below meth c D tys A H locs c0 s0 ls C W0 S hc hn ⟨hl.1, hl.2.1, fun q hq => hl.2.2 q (h q hq)⟩
theorem cj_fewer {k' n' : Nat} (h1 : k' ≤ k) (h2 : n' ≤ n) (kk : cj_J M d k0 n0 Qr Qx k' n' pc lv st G) : cj_J M d k0 n0 Qr Qx k n pc lv st G := by
  intro p l e s m args below meth c D tys A H locs c0 s0 ls C W0 S hc hn hl
  exact kk p l e s m args below meth c D tys A H locs c0 s0 ls C W0 S (by omega) (by omega) hl
theorem cj_eqG {G' : cj_G} (h : G = G') (kk : cj_J M d k0 n0 Qr Qx k n pc lv st G') : cj_J M d k0 n0 Qr Qx k n pc lv st G := h ▸ kk
theorem cj_iconst {z : Int} {v : Int32} (hd : decode M.2.1 pc = .ok (.iconst z, 1)) (hv : Int32.ofInt z = v) (kk : cj_J M d k0 n0 Qr Qx k n (pc + 1) lv (.int v :: st) G) : cj_J M d k0 n0 Qr Qx k n pc lv st G := by
  intro p l e s m args below meth c D tys A H locs c0 s0 ls C W0 S hc hn hl
  exact lv_iconst C.x C.b hd hv (kk p l e s m args below meth c D tys A H locs c0 s0 ls C W0 S hc hn hl)
theorem cj_bipush {z : Int} {v : Int32} (hd : decode M.2.1 pc = .ok (.bipush z, 2)) (hv : (Int8.ofInt z).toInt32 = v) (kk : cj_J M d k0 n0 Qr Qx k n (pc + 2) lv (.int v :: st) G) : cj_J M d k0 n0 Qr Qx k n pc lv st G := by
  intro p l e s m args below meth c D tys A H locs c0 s0 ls C W0 S hc hn hl
  exact lv_bipush C.x C.b hd hv (kk p l e s m args below meth c D tys A H locs c0 s0 ls C W0 S hc hn hl)
theorem cj_sipush {z : Int} {v : Int32} (hd : decode M.2.1 pc = .ok (.sipush z, 3)) (hv : (Int16.ofInt z).toInt32 = v) (kk : cj_J M d k0 n0 Qr Qx k n (pc + 3) lv (.int v :: st) G) : cj_J M d k0 n0 Qr Qx k n pc lv st G := by
  intro p l e s m args below meth c D tys A H locs c0 s0 ls C W0 S hc hn hl
  exact lv_sipush C.x C.b hd hv (kk p l e s m args below meth c D tys A H locs c0 s0 ls C W0 S hc hn hl)
theorem cj_iload_n {j : Fin 4} {x : Int32} (hd : decode M.2.1 pc = .ok (.iload_n j, 1)) (hg : cj_lg lv j = some (.int x)) (kk : cj_J M d k0 n0 Qr Qx k n (pc + 1) lv (.int x :: st) G) : cj_J M d k0 n0 Qr Qx k n pc lv st G := by
  intro p l e s m args below meth c D tys A H locs c0 s0 ls C W0 S hc hn hl
  exact lv_iload_n C.x C.b hd rfl (cj_lga hl hg) (kk p l e s m args below meth c D tys A H locs c0 s0 ls C W0 S hc hn hl)
theorem cj_iload {i : Nat} {x : Int32} (hd : decode M.2.1 pc = .ok (.iload i, 2)) (hg : cj_lg lv i = some (.int x)) (kk : cj_J M d k0 n0 Qr Qx k n (pc + 2) lv (.int x :: st) G) : cj_J M d k0 n0 Qr Qx k n pc lv st G := by
  intro p l e s m args below meth c D tys A H locs c0 s0 ls C W0 S hc hn hl
  exact lv_iload C.x C.b hd (cj_lga hl hg) (kk p l e s m args below meth c D tys A H locs c0 s0 ls C W0 S hc hn hl)
theorem cj_aload_n {j : Fin 4} {x : Nat} (hd : decode M.2.1 pc = .ok (.aload_n j, 1)) (hg : cj_lg lv j = some (.ref x)) (kk : cj_J M d k0 n0 Qr Qx k n (pc + 1) lv (.ref x :: st) G) : cj_J M d k0 n0 Qr Qx k n pc lv st G := by
  intro p l e s m args below meth c D tys A H locs c0 s0 ls C W0 S hc hn hl
  exact lv_aload_n C.x C.b hd rfl (cj_lga hl hg) (kk p l e s m args below meth c D tys A H locs c0 s0 ls C W0 S hc hn hl)
theorem cj_aload {i : Nat} {x : Nat} (hd : decode M.2.1 pc = .ok (.aload i, 2)) (hg : cj_lg lv i = some (.ref x)) (kk : cj_J M d k0 n0 Qr Qx k n (pc + 2) lv (.ref x :: st) G) : cj_J M d k0 n0 Qr Qx k n pc lv st G := by
  intro p l e s m args below meth c D tys A H locs c0 s0 ls C W0 S hc hn hl
  exact lv_aload C.x C.b hd (cj_lga hl hg) (kk p l e s m args below meth c D tys A H locs c0 s0 ls C W0 S hc hn hl)
theorem cj_aload_nN {j : Fin 4} (hd : decode M.2.1 pc = .ok (.aload_n j, 1)) (hg : cj_lg lv j = some .null) (kk : cj_J M d k0 n0 Qr Qx k n (pc + 1) lv (.null :: st) G) : cj_J M d k0 n0 Qr Qx k n pc lv st G := by
  intro p l e s m args below meth c D tys A H locs c0 s0 ls C W0 S hc hn hl
  exact lv_aload_nN C.x C.b hd rfl (cj_lga hl hg) (kk p l e s m args below meth c D tys A H locs c0 s0 ls C W0 S hc hn hl)
theorem cj_aloadN {i : Nat} (hd : decode M.2.1 pc = .ok (.aload i, 2)) (hg : cj_lg lv i = some .null) (kk : cj_J M d k0 n0 Qr Qx k n (pc + 2) lv (.null :: st) G) : cj_J M d k0 n0 Qr Qx k n pc lv st G := by
  intro p l e s m args below meth c D tys A H locs c0 s0 ls C W0 S hc hn hl
  exact lv_aloadN C.x C.b hd (cj_lga hl hg) (kk p l e s m args below meth c D tys A H locs c0 s0 ls C W0 S hc hn hl)
theorem cj_istore_n {j : Fin 4} {x : Int32} (hd : decode M.2.1 pc = .ok (.istore_n j, 1)) (hi : (j : Nat) < M.2.2.1) (hv : ((j : Nat), Value.int x) :: lv.filter (fun q => !(q.1 == (j : Nat)) && !(q.1 + 1 == (j : Nat) && q.2.category == 2)) = lv') (kk : cj_J M d k0 n0 Qr Qx k n (pc + 1) lv' st G) : cj_J M d k0 n0 Qr Qx k n pc lv (Value.int x :: st) G := by
  intro p l e s m args below meth c D tys A H locs c0 s0 ls C W0 S hc hn hl
  exact lv_istore_n C.x C.b hd rfl hl hi hv (fun ls' hl' => kk p l e s m args below meth c D tys A H locs c0 s0 ls' C W0 S hc hn hl')
theorem cj_istore {i : Nat} {x : Int32} (hd : decode M.2.1 pc = .ok (.istore i, 2)) (hi : i < M.2.2.1) (hv : (i, Value.int x) :: lv.filter (fun q => !(q.1 == i) && !(q.1 + 1 == i && q.2.category == 2)) = lv') (kk : cj_J M d k0 n0 Qr Qx k n (pc + 2) lv' st G) : cj_J M d k0 n0 Qr Qx k n pc lv (Value.int x :: st) G := by
  intro p l e s m args below meth c D tys A H locs c0 s0 ls C W0 S hc hn hl
  exact lv_istore C.x C.b hd hl hi hv (fun ls' hl' => kk p l e s m args below meth c D tys A H locs c0 s0 ls' C W0 S hc hn hl')
theorem cj_astore_n {j : Fin 4} {x : Nat} (hd : decode M.2.1 pc = .ok (.astore_n j, 1)) (hi : (j : Nat) < M.2.2.1) (hv : ((j : Nat), Value.ref x) :: lv.filter (fun q => !(q.1 == (j : Nat)) && !(q.1 + 1 == (j : Nat) && q.2.category == 2)) = lv') (kk : cj_J M d k0 n0 Qr Qx k n (pc + 1) lv' st G) : cj_J M d k0 n0 Qr Qx k n pc lv (Value.ref x :: st) G := by
  intro p l e s m args below meth c D tys A H locs c0 s0 ls C W0 S hc hn hl
  exact lv_astore_n C.x C.b hd rfl hl hi hv (fun ls' hl' => kk p l e s m args below meth c D tys A H locs c0 s0 ls' C W0 S hc hn hl')
theorem cj_astore {i : Nat} {x : Nat} (hd : decode M.2.1 pc = .ok (.astore i, 2)) (hi : i < M.2.2.1) (hv : (i, Value.ref x) :: lv.filter (fun q => !(q.1 == i) && !(q.1 + 1 == i && q.2.category == 2)) = lv') (kk : cj_J M d k0 n0 Qr Qx k n (pc + 2) lv' st G) : cj_J M d k0 n0 Qr Qx k n pc lv (Value.ref x :: st) G := by
  intro p l e s m args below meth c D tys A H locs c0 s0 ls C W0 S hc hn hl
  exact lv_astore C.x C.b hd hl hi hv (fun ls' hl' => kk p l e s m args below meth c D tys A H locs c0 s0 ls' C W0 S hc hn hl')
theorem cj_astore_nN {j : Fin 4} (hd : decode M.2.1 pc = .ok (.astore_n j, 1)) (hi : (j : Nat) < M.2.2.1) (hv : ((j : Nat), Value.null) :: lv.filter (fun q => !(q.1 == (j : Nat)) && !(q.1 + 1 == (j : Nat) && q.2.category == 2)) = lv') (kk : cj_J M d k0 n0 Qr Qx k n (pc + 1) lv' st G) : cj_J M d k0 n0 Qr Qx k n pc lv (Value.null :: st) G := by
  intro p l e s m args below meth c D tys A H locs c0 s0 ls C W0 S hc hn hl
  exact lv_astore_nN C.x C.b hd rfl hl hi hv (fun ls' hl' => kk p l e s m args below meth c D tys A H locs c0 s0 ls' C W0 S hc hn hl')
theorem cj_astoreN {i : Nat} (hd : decode M.2.1 pc = .ok (.astore i, 2)) (hi : i < M.2.2.1) (hv : (i, Value.null) :: lv.filter (fun q => !(q.1 == i) && !(q.1 + 1 == i && q.2.category == 2)) = lv') (kk : cj_J M d k0 n0 Qr Qx k n (pc + 2) lv' st G) : cj_J M d k0 n0 Qr Qx k n pc lv (Value.null :: st) G := by
  intro p l e s m args below meth c D tys A H locs c0 s0 ls C W0 S hc hn hl
  exact lv_astoreN C.x C.b hd hl hi hv (fun ls' hl' => kk p l e s m args below meth c D tys A H locs c0 s0 ls' C W0 S hc hn hl')
theorem cj_iinc {i : Nat} {z : Int} {x v : Int32} (hd : decode M.2.1 pc = .ok (.iinc i z, 3)) (hg : cj_lg lv i = some (.int x)) (hw : x + Int32.ofInt z = v) (hi : i < M.2.2.1) (hv : (i, Value.int v) :: lv.filter (fun q => !(q.1 == i) && !(q.1 + 1 == i && q.2.category == 2)) = lv') (kk : cj_J M d k0 n0 Qr Qx k n (pc + 3) lv' st G) : cj_J M d k0 n0 Qr Qx k n pc lv st G := by
  intro p l e s m args below meth c D tys A H locs c0 s0 ls C W0 S hc hn hl
  obtain ⟨q, hq⟩ := List.getElem?_of_mem (cj_lg_mem hg)
  exact lv_iinc C.x C.b hd hl hq hw hi hv (fun ls' hl' => kk p l e s m args below meth c D tys A H locs c0 s0 ls' C W0 S hc hn hl')
theorem cj_iadd {x y : Int32} (hd : decode M.2.1 pc = .ok (.iadd, 1))  (kk : cj_J M d k0 n0 Qr Qx k n (pc + 1) lv (.int (x + y) :: st) G) : cj_J M d k0 n0 Qr Qx k n pc lv (.int y :: .int x :: st) G := by
  intro p l e s m args below meth c D tys A H locs c0 s0 ls C W0 S hc hn hl
  exact lv_iadd C.x C.b hd (kk p l e s m args below meth c D tys A H locs c0 s0 ls C W0 S hc hn hl)
theorem cj_isub {x y : Int32} (hd : decode M.2.1 pc = .ok (.isub, 1))  (kk : cj_J M d k0 n0 Qr Qx k n (pc + 1) lv (.int (x - y) :: st) G) : cj_J M d k0 n0 Qr Qx k n pc lv (.int y :: .int x :: st) G := by
  intro p l e s m args below meth c D tys A H locs c0 s0 ls C W0 S hc hn hl
  exact lv_isub C.x C.b hd (kk p l e s m args below meth c D tys A H locs c0 s0 ls C W0 S hc hn hl)
theorem cj_imul {x y : Int32} (hd : decode M.2.1 pc = .ok (.imul, 1))  (kk : cj_J M d k0 n0 Qr Qx k n (pc + 1) lv (.int (x * y) :: st) G) : cj_J M d k0 n0 Qr Qx k n pc lv (.int y :: .int x :: st) G := by
  intro p l e s m args below meth c D tys A H locs c0 s0 ls C W0 S hc hn hl
  exact lv_imul C.x C.b hd (kk p l e s m args below meth c D tys A H locs c0 s0 ls C W0 S hc hn hl)
theorem cj_iand {x y : Int32} (hd : decode M.2.1 pc = .ok (.iand, 1))  (kk : cj_J M d k0 n0 Qr Qx k n (pc + 1) lv (.int (x &&& y) :: st) G) : cj_J M d k0 n0 Qr Qx k n pc lv (.int y :: .int x :: st) G := by
  intro p l e s m args below meth c D tys A H locs c0 s0 ls C W0 S hc hn hl
  exact lv_iand C.x C.b hd (kk p l e s m args below meth c D tys A H locs c0 s0 ls C W0 S hc hn hl)
theorem cj_ior {x y : Int32} (hd : decode M.2.1 pc = .ok (.ior, 1))  (kk : cj_J M d k0 n0 Qr Qx k n (pc + 1) lv (.int (x ||| y) :: st) G) : cj_J M d k0 n0 Qr Qx k n pc lv (.int y :: .int x :: st) G := by
  intro p l e s m args below meth c D tys A H locs c0 s0 ls C W0 S hc hn hl
  exact lv_ior C.x C.b hd (kk p l e s m args below meth c D tys A H locs c0 s0 ls C W0 S hc hn hl)
theorem cj_ixor {x y : Int32} (hd : decode M.2.1 pc = .ok (.ixor, 1))  (kk : cj_J M d k0 n0 Qr Qx k n (pc + 1) lv (.int (x ^^^ y) :: st) G) : cj_J M d k0 n0 Qr Qx k n pc lv (.int y :: .int x :: st) G := by
  intro p l e s m args below meth c D tys A H locs c0 s0 ls C W0 S hc hn hl
  exact lv_ixor C.x C.b hd (kk p l e s m args below meth c D tys A H locs c0 s0 ls C W0 S hc hn hl)
theorem cj_ishl {x y : Int32} (hd : decode M.2.1 pc = .ok (.ishl, 1))  (kk : cj_J M d k0 n0 Qr Qx k n (pc + 1) lv (.int (x <<< (y &&& 31)) :: st) G) : cj_J M d k0 n0 Qr Qx k n pc lv (.int y :: .int x :: st) G := by
  intro p l e s m args below meth c D tys A H locs c0 s0 ls C W0 S hc hn hl
  exact lv_ishl C.x C.b hd (kk p l e s m args below meth c D tys A H locs c0 s0 ls C W0 S hc hn hl)
theorem cj_ishr {x y : Int32} (hd : decode M.2.1 pc = .ok (.ishr, 1))  (kk : cj_J M d k0 n0 Qr Qx k n (pc + 1) lv (.int (x >>> (y &&& 31)) :: st) G) : cj_J M d k0 n0 Qr Qx k n pc lv (.int y :: .int x :: st) G := by
  intro p l e s m args below meth c D tys A H locs c0 s0 ls C W0 S hc hn hl
  exact lv_ishr C.x C.b hd (kk p l e s m args below meth c D tys A H locs c0 s0 ls C W0 S hc hn hl)
theorem cj_idiv {x y : Int32} (hd : decode M.2.1 pc = .ok (.idiv, 1)) (h0 : ¬ y = 0) (kk : cj_J M d k0 n0 Qr Qx k n (pc + 1) lv (.int (x / y) :: st) G) : cj_J M d k0 n0 Qr Qx k n pc lv (.int y :: .int x :: st) G := by
  intro p l e s m args below meth c D tys A H locs c0 s0 ls C W0 S hc hn hl
  exact lv_idiv C.x C.b hd h0 (kk p l e s m args below meth c D tys A H locs c0 s0 ls C W0 S hc hn hl)
theorem cj_irem {x y : Int32} (hd : decode M.2.1 pc = .ok (.irem, 1)) (h0 : ¬ y = 0) (kk : cj_J M d k0 n0 Qr Qx k n (pc + 1) lv (.int (x - x / y * y) :: st) G) : cj_J M d k0 n0 Qr Qx k n pc lv (.int y :: .int x :: st) G := by
  intro p l e s m args below meth c D tys A H locs c0 s0 ls C W0 S hc hn hl
  exact lv_irem C.x C.b hd h0 (kk p l e s m args below meth c D tys A H locs c0 s0 ls C W0 S hc hn hl)
theorem cj_ineg {x : Int32} (hd : decode M.2.1 pc = .ok (.ineg, 1))  (kk : cj_J M d k0 n0 Qr Qx k n (pc + 1) lv (.int (-x) :: st) G) : cj_J M d k0 n0 Qr Qx k n pc lv (.int x :: st) G := by
  intro p l e s m args below meth c D tys A H locs c0 s0 ls C W0 S hc hn hl
  exact lv_ineg C.x C.b hd (kk p l e s m args below meth c D tys A H locs c0 s0 ls C W0 S hc hn hl)
theorem cj_iushr {x y v : Int32} (hd : decode M.2.1 pc = .ok (.iushr, 1)) (hv : (x.toUInt32 >>> (y.toUInt32 &&& Int32.toUInt32 31)).toInt32 = v) (kk : cj_J M d k0 n0 Qr Qx k n (pc + 1) lv (.int v :: st) G) : cj_J M d k0 n0 Qr Qx k n pc lv (.int y :: .int x :: st) G := by
  intro p l e s m args below meth c D tys A H locs c0 s0 ls C W0 S hc hn hl
  exact lv_iushr C.x C.b hd hv (kk p l e s m args below meth c D tys A H locs c0 s0 ls C W0 S hc hn hl)
theorem cj_i2c {x v : Int32} (hd : decode M.2.1 pc = .ok (.i2c, 1)) (hv : (x.toUInt32 % 65536).toInt32 = v) (kk : cj_J M d k0 n0 Qr Qx k n (pc + 1) lv (.int v :: st) G) : cj_J M d k0 n0 Qr Qx k n pc lv (.int x :: st) G := by
  intro p l e s m args below meth c D tys A H locs c0 s0 ls C W0 S hc hn hl
  exact lv_i2c C.x C.b hd hv (kk p l e s m args below meth c D tys A H locs c0 s0 ls C W0 S hc hn hl)
theorem cj_i2l {x : Int32} {v : Int64} (hd : decode M.2.1 pc = .ok (.i2l, 1)) (hv : x.toInt64 = v) (kk : cj_J M d k0 n0 Qr Qx k n (pc + 1) lv (.long v :: st) G) : cj_J M d k0 n0 Qr Qx k n pc lv (.int x :: st) G := by
  intro p l e s m args below meth c D tys A H locs c0 s0 ls C W0 S hc hn hl
  exact lv_i2l C.x C.b hd hv (kk p l e s m args below meth c D tys A H locs c0 s0 ls C W0 S hc hn hl)
theorem cj_dup {va : Value} (hd : decode M.2.1 pc = .ok (.dup, 1)) (hva : va.category = 1) (kk : cj_J M d k0 n0 Qr Qx k n (pc + 1) lv (va :: va :: st) G) : cj_J M d k0 n0 Qr Qx k n pc lv (va :: st) G := by
  intro p l e s m args below meth c D tys A H locs c0 s0 ls C W0 S hc hn hl
  exact lv_dup C.x C.b hd hva (kk p l e s m args below meth c D tys A H locs c0 s0 ls C W0 S hc hn hl)
theorem cj_pop {va : Value} (hd : decode M.2.1 pc = .ok (.pop, 1)) (hva : va.category = 1) (kk : cj_J M d k0 n0 Qr Qx k n (pc + 1) lv st G) : cj_J M d k0 n0 Qr Qx k n pc lv (va :: st) G := by
  intro p l e s m args below meth c D tys A H locs c0 s0 ls C W0 S hc hn hl
  exact lv_pop C.x C.b hd hva (kk p l e s m args below meth c D tys A H locs c0 s0 ls C W0 S hc hn hl)
theorem cj_dup_x1 {va vb : Value} (hd : decode M.2.1 pc = .ok (.dup_x1, 1)) (hva : va.category = 1) (hvb : vb.category = 1) (kk : cj_J M d k0 n0 Qr Qx k n (pc + 1) lv (va :: vb :: va :: st) G) : cj_J M d k0 n0 Qr Qx k n pc lv (va :: vb :: st) G := by
  intro p l e s m args below meth c D tys A H locs c0 s0 ls C W0 S hc hn hl
  exact lv_dup_x1 C.x C.b hd hva hvb (kk p l e s m args below meth c D tys A H locs c0 s0 ls C W0 S hc hn hl)
theorem cj_dup2_11 {va vb : Value} (hd : decode M.2.1 pc = .ok (.dup2, 1)) (hva : va.category = 1) (hvb : vb.category = 1) (kk : cj_J M d k0 n0 Qr Qx k n (pc + 1) lv (va :: vb :: va :: vb :: st) G) : cj_J M d k0 n0 Qr Qx k n pc lv (va :: vb :: st) G := by
  intro p l e s m args below meth c D tys A H locs c0 s0 ls C W0 S hc hn hl
  exact lv_dup2_11 C.x C.b hd hva hvb (kk p l e s m args below meth c D tys A H locs c0 s0 ls C W0 S hc hn hl)
theorem cj_null  (hd : decode M.2.1 pc = .ok (.aconst_null, 1))  (kk : cj_J M d k0 n0 Qr Qx k n (pc + 1) lv (.null :: st) G) : cj_J M d k0 n0 Qr Qx k n pc lv st G := by
  intro p l e s m args below meth c D tys A H locs c0 s0 ls C W0 S hc hn hl
  exact lv_null C.x C.b hd (kk p l e s m args below meth c D tys A H locs c0 s0 ls C W0 S hc hn hl)
theorem cj_if_eq {x : Int32} {off : Int} {tgt : Nat} (hd : decode M.2.1 pc = .ok (.ifCond .eq off, 3)) (ht : (pc : Int) + off = (tgt : Int)) (kt : x = 0 → cj_J M d k0 n0 Qr Qx k n tgt lv st G) (kf : ¬ x = 0 → cj_J M d k0 n0 Qr Qx k n (pc + 3) lv st G) : cj_J M d k0 n0 Qr Qx k n pc lv (.int x :: st) G := by
  intro p l e s m args below meth c D tys A H locs c0 s0 ls C W0 S hc hn hl
  exact lv_if_eq C.x C.b hd ht (fun h => kt h p l e s m args below meth c D tys A H locs c0 s0 ls C W0 S hc hn hl) (fun h => kf h p l e s m args below meth c D tys A H locs c0 s0 ls C W0 S hc hn hl)
theorem cj_icmp_eq {x y : Int32} {off : Int} {tgt : Nat} (hd : decode M.2.1 pc = .ok (.if_icmp .eq off, 3)) (ht : (pc : Int) + off = (tgt : Int)) (kt : x = y → cj_J M d k0 n0 Qr Qx k n tgt lv st G) (kf : ¬ x = y → cj_J M d k0 n0 Qr Qx k n (pc + 3) lv st G) : cj_J M d k0 n0 Qr Qx k n pc lv (.int y :: .int x :: st) G := by
  intro p l e s m args below meth c D tys A H locs c0 s0 ls C W0 S hc hn hl
  exact lv_icmp_eq C.x C.b hd ht (fun h => kt h p l e s m args below meth c D tys A H locs c0 s0 ls C W0 S hc hn hl) (fun h => kf h p l e s m args below meth c D tys A H locs c0 s0 ls C W0 S hc hn hl)
theorem cj_if_ne {x : Int32} {off : Int} {tgt : Nat} (hd : decode M.2.1 pc = .ok (.ifCond .ne off, 3)) (ht : (pc : Int) + off = (tgt : Int)) (kt : ¬ x = 0 → cj_J M d k0 n0 Qr Qx k n tgt lv st G) (kf : x = 0 → cj_J M d k0 n0 Qr Qx k n (pc + 3) lv st G) : cj_J M d k0 n0 Qr Qx k n pc lv (.int x :: st) G := by
  intro p l e s m args below meth c D tys A H locs c0 s0 ls C W0 S hc hn hl
  exact lv_if_ne C.x C.b hd ht (fun h => kt h p l e s m args below meth c D tys A H locs c0 s0 ls C W0 S hc hn hl) (fun h => kf h p l e s m args below meth c D tys A H locs c0 s0 ls C W0 S hc hn hl)
theorem cj_icmp_ne {x y : Int32} {off : Int} {tgt : Nat} (hd : decode M.2.1 pc = .ok (.if_icmp .ne off, 3)) (ht : (pc : Int) + off = (tgt : Int)) (kt : ¬ x = y → cj_J M d k0 n0 Qr Qx k n tgt lv st G) (kf : x = y → cj_J M d k0 n0 Qr Qx k n (pc + 3) lv st G) : cj_J M d k0 n0 Qr Qx k n pc lv (.int y :: .int x :: st) G := by
  intro p l e s m args below meth c D tys A H locs c0 s0 ls C W0 S hc hn hl
  exact lv_icmp_ne C.x C.b hd ht (fun h => kt h p l e s m args below meth c D tys A H locs c0 s0 ls C W0 S hc hn hl) (fun h => kf h p l e s m args below meth c D tys A H locs c0 s0 ls C W0 S hc hn hl)
theorem cj_if_lt {x : Int32} {off : Int} {tgt : Nat} (hd : decode M.2.1 pc = .ok (.ifCond .lt off, 3)) (ht : (pc : Int) + off = (tgt : Int)) (kt : x < 0 → cj_J M d k0 n0 Qr Qx k n tgt lv st G) (kf : ¬ x < 0 → cj_J M d k0 n0 Qr Qx k n (pc + 3) lv st G) : cj_J M d k0 n0 Qr Qx k n pc lv (.int x :: st) G := by
  intro p l e s m args below meth c D tys A H locs c0 s0 ls C W0 S hc hn hl
  exact lv_if_lt C.x C.b hd ht (fun h => kt h p l e s m args below meth c D tys A H locs c0 s0 ls C W0 S hc hn hl) (fun h => kf h p l e s m args below meth c D tys A H locs c0 s0 ls C W0 S hc hn hl)
theorem cj_icmp_lt {x y : Int32} {off : Int} {tgt : Nat} (hd : decode M.2.1 pc = .ok (.if_icmp .lt off, 3)) (ht : (pc : Int) + off = (tgt : Int)) (kt : x < y → cj_J M d k0 n0 Qr Qx k n tgt lv st G) (kf : ¬ x < y → cj_J M d k0 n0 Qr Qx k n (pc + 3) lv st G) : cj_J M d k0 n0 Qr Qx k n pc lv (.int y :: .int x :: st) G := by
  intro p l e s m args below meth c D tys A H locs c0 s0 ls C W0 S hc hn hl
  exact lv_icmp_lt C.x C.b hd ht (fun h => kt h p l e s m args below meth c D tys A H locs c0 s0 ls C W0 S hc hn hl) (fun h => kf h p l e s m args below meth c D tys A H locs c0 s0 ls C W0 S hc hn hl)
theorem cj_if_ge {x : Int32} {off : Int} {tgt : Nat} (hd : decode M.2.1 pc = .ok (.ifCond .ge off, 3)) (ht : (pc : Int) + off = (tgt : Int)) (kt : 0 ≤ x → cj_J M d k0 n0 Qr Qx k n tgt lv st G) (kf : ¬ 0 ≤ x → cj_J M d k0 n0 Qr Qx k n (pc + 3) lv st G) : cj_J M d k0 n0 Qr Qx k n pc lv (.int x :: st) G := by
  intro p l e s m args below meth c D tys A H locs c0 s0 ls C W0 S hc hn hl
  exact lv_if_ge C.x C.b hd ht (fun h => kt h p l e s m args below meth c D tys A H locs c0 s0 ls C W0 S hc hn hl) (fun h => kf h p l e s m args below meth c D tys A H locs c0 s0 ls C W0 S hc hn hl)
theorem cj_icmp_ge {x y : Int32} {off : Int} {tgt : Nat} (hd : decode M.2.1 pc = .ok (.if_icmp .ge off, 3)) (ht : (pc : Int) + off = (tgt : Int)) (kt : y ≤ x → cj_J M d k0 n0 Qr Qx k n tgt lv st G) (kf : ¬ y ≤ x → cj_J M d k0 n0 Qr Qx k n (pc + 3) lv st G) : cj_J M d k0 n0 Qr Qx k n pc lv (.int y :: .int x :: st) G := by
  intro p l e s m args below meth c D tys A H locs c0 s0 ls C W0 S hc hn hl
  exact lv_icmp_ge C.x C.b hd ht (fun h => kt h p l e s m args below meth c D tys A H locs c0 s0 ls C W0 S hc hn hl) (fun h => kf h p l e s m args below meth c D tys A H locs c0 s0 ls C W0 S hc hn hl)
theorem cj_if_gt {x : Int32} {off : Int} {tgt : Nat} (hd : decode M.2.1 pc = .ok (.ifCond .gt off, 3)) (ht : (pc : Int) + off = (tgt : Int)) (kt : 0 < x → cj_J M d k0 n0 Qr Qx k n tgt lv st G) (kf : ¬ 0 < x → cj_J M d k0 n0 Qr Qx k n (pc + 3) lv st G) : cj_J M d k0 n0 Qr Qx k n pc lv (.int x :: st) G := by
  intro p l e s m args below meth c D tys A H locs c0 s0 ls C W0 S hc hn hl
  exact lv_if_gt C.x C.b hd ht (fun h => kt h p l e s m args below meth c D tys A H locs c0 s0 ls C W0 S hc hn hl) (fun h => kf h p l e s m args below meth c D tys A H locs c0 s0 ls C W0 S hc hn hl)
theorem cj_icmp_gt {x y : Int32} {off : Int} {tgt : Nat} (hd : decode M.2.1 pc = .ok (.if_icmp .gt off, 3)) (ht : (pc : Int) + off = (tgt : Int)) (kt : y < x → cj_J M d k0 n0 Qr Qx k n tgt lv st G) (kf : ¬ y < x → cj_J M d k0 n0 Qr Qx k n (pc + 3) lv st G) : cj_J M d k0 n0 Qr Qx k n pc lv (.int y :: .int x :: st) G := by
  intro p l e s m args below meth c D tys A H locs c0 s0 ls C W0 S hc hn hl
  exact lv_icmp_gt C.x C.b hd ht (fun h => kt h p l e s m args below meth c D tys A H locs c0 s0 ls C W0 S hc hn hl) (fun h => kf h p l e s m args below meth c D tys A H locs c0 s0 ls C W0 S hc hn hl)
theorem cj_if_le {x : Int32} {off : Int} {tgt : Nat} (hd : decode M.2.1 pc = .ok (.ifCond .le off, 3)) (ht : (pc : Int) + off = (tgt : Int)) (kt : x ≤ 0 → cj_J M d k0 n0 Qr Qx k n tgt lv st G) (kf : ¬ x ≤ 0 → cj_J M d k0 n0 Qr Qx k n (pc + 3) lv st G) : cj_J M d k0 n0 Qr Qx k n pc lv (.int x :: st) G := by
  intro p l e s m args below meth c D tys A H locs c0 s0 ls C W0 S hc hn hl
  exact lv_if_le C.x C.b hd ht (fun h => kt h p l e s m args below meth c D tys A H locs c0 s0 ls C W0 S hc hn hl) (fun h => kf h p l e s m args below meth c D tys A H locs c0 s0 ls C W0 S hc hn hl)
theorem cj_icmp_le {x y : Int32} {off : Int} {tgt : Nat} (hd : decode M.2.1 pc = .ok (.if_icmp .le off, 3)) (ht : (pc : Int) + off = (tgt : Int)) (kt : x ≤ y → cj_J M d k0 n0 Qr Qx k n tgt lv st G) (kf : ¬ x ≤ y → cj_J M d k0 n0 Qr Qx k n (pc + 3) lv st G) : cj_J M d k0 n0 Qr Qx k n pc lv (.int y :: .int x :: st) G := by
  intro p l e s m args below meth c D tys A H locs c0 s0 ls C W0 S hc hn hl
  exact lv_icmp_le C.x C.b hd ht (fun h => kt h p l e s m args below meth c D tys A H locs c0 s0 ls C W0 S hc hn hl) (fun h => kf h p l e s m args below meth c D tys A H locs c0 s0 ls C W0 S hc hn hl)
theorem cj_goto {off : Int} {tgt : Nat} (hd : decode M.2.1 pc = .ok (.goto off, 3)) (ht : (pc : Int) + off = (tgt : Int)) (kk : cj_J M d k0 n0 Qr Qx k n tgt lv st G) : cj_J M d k0 n0 Qr Qx k n pc lv st G := by
  intro p l e s m args below meth c D tys A H locs c0 s0 ls C W0 S hc hn hl
  exact lv_goto C.x C.b hd ht (kk p l e s m args below meth c D tys A H locs c0 s0 ls C W0 S hc hn hl)
theorem cj_ifnonnull {x : Nat} {off : Int} {tgt : Nat} (hd : decode M.2.1 pc = .ok (.ifnonnull off, 3)) (ht : (pc : Int) + off = (tgt : Int)) (kk : cj_J M d k0 n0 Qr Qx k n tgt lv st G) : cj_J M d k0 n0 Qr Qx k n pc lv (.ref x :: st) G := by
  intro p l e s m args below meth c D tys A H locs c0 s0 ls C W0 S hc hn hl
  exact lv_ifnonnull C.x C.b hd ht (kk p l e s m args below meth c D tys A H locs c0 s0 ls C W0 S hc hn hl)
theorem cj_ifnull {x : Nat} {off : Int} (hd : decode M.2.1 pc = .ok (.ifnull off, 3))  (kk : cj_J M d k0 n0 Qr Qx k n (pc + 3) lv st G) : cj_J M d k0 n0 Qr Qx k n pc lv (.ref x :: st) G := by
  intro p l e s m args below meth c D tys A H locs c0 s0 ls C W0 S hc hn hl
  exact lv_ifnull C.x C.b hd (kk p l e s m args below meth c D tys A H locs c0 s0 ls C W0 S hc hn hl)
theorem cj_ifnullN {off : Int} {tgt : Nat} (hd : decode M.2.1 pc = .ok (.ifnull off, 3)) (ht : (pc : Int) + off = (tgt : Int)) (kk : cj_J M d k0 n0 Qr Qx k n tgt lv st G) : cj_J M d k0 n0 Qr Qx k n pc lv (.null :: st) G := by
  intro p l e s m args below meth c D tys A H locs c0 s0 ls C W0 S hc hn hl
  exact lv_ifnullN C.x C.b hd ht (kk p l e s m args below meth c D tys A H locs c0 s0 ls C W0 S hc hn hl)
theorem cj_ifnonnullN {off : Int} (hd : decode M.2.1 pc = .ok (.ifnonnull off, 3))  (kk : cj_J M d k0 n0 Qr Qx k n (pc + 3) lv st G) : cj_J M d k0 n0 Qr Qx k n pc lv (.null :: st) G := by
  intro p l e s m args below meth c D tys A H locs c0 s0 ls C W0 S hc hn hl
  exact lv_ifnonnullN C.x C.b hd (kk p l e s m args below meth c D tys A H locs c0 s0 ls C W0 S hc hn hl)
theorem cj_tableOut {dflt lo hi : Int} {offs : Array Int} {len : Nat} {x : Int32} {tgt : Nat} (hd : decode M.2.1 pc = .ok (.tableswitch dflt lo hi offs, len)) (h : x.toInt < lo ∨ hi < x.toInt) (ht : (pc : Int) + dflt = (tgt : Int)) (kk : cj_J M d k0 n0 Qr Qx k n tgt lv st G) : cj_J M d k0 n0 Qr Qx k n pc lv (.int x :: st) G := by
  intro p l e s m args below meth c D tys A H locs c0 s0 ls C W0 S hc hn hl
  exact lv_tableOut C.x C.b hd h ht (kk p l e s m args below meth c D tys A H locs c0 s0 ls C W0 S hc hn hl)
theorem cj_tableIn {dflt lo hi : Int} {offs : Array Int} {len : Nat} {x : Int32} {off : Int} {tgt : Nat} (hd : decode M.2.1 pc = .ok (.tableswitch dflt lo hi offs, len)) (h1 : ¬ x.toInt < lo) (h2 : ¬ hi < x.toInt) (ho : offs[(x.toInt - lo).toNat]? = some off) (ht : (pc : Int) + off = (tgt : Int)) (kk : cj_J M d k0 n0 Qr Qx k n tgt lv st G) : cj_J M d k0 n0 Qr Qx k n pc lv (.int x :: st) G := by
  intro p l e s m args below meth c D tys A H locs c0 s0 ls C W0 S hc hn hl
  exact lv_tableIn C.x C.b hd h1 h2 ho ht (kk p l e s m args below meth c D tys A H locs c0 s0 ls C W0 S hc hn hl)
theorem cj_lookup {dflt : Int} {ps : Array (Int × Int)} {len : Nat} {x : Int32} {off : Int} {tgt : Nat} (hd : decode M.2.1 pc = .ok (.lookupswitch dflt ps, len)) (hp : (ps.toList.zip (ps.toList.drop 1)).all (fun (a, next) => a.1 < next.1) = true) (ho : Op.lookupswitch.offset ps.toList dflt x.toInt = off) (ht : (pc : Int) + off = (tgt : Int)) (kk : cj_J M d k0 n0 Qr Qx k n tgt lv st G) : cj_J M d k0 n0 Qr Qx k n pc lv (.int x :: st) G := by
  intro p l e s m args below meth c D tys A H locs c0 s0 ls C W0 S hc hn hl
  exact lv_lookup C.x C.b hd hp ho ht (kk p l e s m args below meth c D tys A H locs c0 s0 ls C W0 S hc hn hl)
/-! fields -/
def cj_fl (own : String) (index ci kf : Nat) (ty : FieldType) (fin : Bool) : Prop := ∃ (C : String) (T : u_T) (N : Nat) (tyf : Nat → FieldType), vwCl[ci]? = some (C, T, N) ∧ kf < N ∧ (∀ w ∈ u_ws C T N, w ∈ cj_all) ∧ (∀ k, k < N → parseFieldDescriptor (T k).2.2.1 = some (tyf k)) ∧ (∀ a, a < N → ∀ b, b < N → a ≠ b → (T a).2.1 ≠ (T b).2.1) ∧ Cond.fieldLink own index (T kf).1 (T kf).2.1 (T kf).2.2.1 ∈ cj_all ∧ parseFieldDescriptor (T kf).2.2.1 = some ty ∧ (T kf).2.2.2 = fin ∧ (T kf).1 = C
theorem cj_get {index ci kf a : Nat} {ty : FieldType} {fin : Bool} {fs : List Value} {v : Value} (hf : cj_fl M.1.cls index ci kf ty fin) (hd : decode M.2.1 pc = .ok (.getfield index, 3)) (hG : G a = some (.inr (ci, fs))) (hv : fs[kf]? = some v) (kk : cj_J M d k0 n0 Qr Qx k n (pc + 3) lv (v :: st) G) : cj_J M d k0 n0 Qr Qx k n pc lv (.ref a :: st) G := by
  intro p l e s m args below meth c D tys A H locs c0 s0 ls C W0 S hc hn hl
  obtain ⟨Cn, T, N, tyf, h1, h2, h3, h4, h5, h6, h7, h8, h9⟩ := hf
  obtain ⟨ws, hP, hD, hI⟩ := id W0
  obtain ⟨q, hq⟩ := hI.1 a _ hG
  exact va_get C.x C.b C.ts h3 C.own C.K hP q hq h1 kf h2 (C.ts _ h6) (fun _ h => h) hv hd (kk p l e s m args below meth c D tys A H locs c0 s0 ls C W0 S hc hn hl)
theorem cj_put {index ci kf a : Nat} {ty : FieldType} {fs : List Value} {v : Value} (hf : cj_fl M.1.cls index ci kf ty false) (hd : decode M.2.1 pc = .ok (.putfield index, 3)) (hG : G a = some (.inr (ci, fs))) (hnw : narrow ty v = v) (hft : fits ty v = true) (hlen : kf < fs.length) (kk : cj_J M d k0 n0 Qr Qx k n (pc + 3) lv st (cj_up G a (.inr (ci, fs.set kf v)))) : cj_J M d k0 n0 Qr Qx k n pc lv (v :: .ref a :: st) G := by
  intro p l e s m args below meth c D tys A H locs c0 s0 ls C W0 S hc hn hl
  obtain ⟨Cn, T, N, tyf, h1, h2, h3, h4, h5, h6, h7, h8, h9⟩ := hf
  obtain ⟨ws, hP, hD, hI⟩ := W0
  obtain ⟨q, hq⟩ := hI.1 a _ hG
  exact va_put C.x C.b C.ts h3 tyf h4 h5 C.own C.K hP hD S q hq h1 kf h2 (C.ts _ h6) (fun _ h => h) h8 h7 hnw hft hlen hd (fun H1 locs1 P1 D1 S1 => kk p l e s m args below meth c D tys A H1 locs1 c0 s0 ls C ⟨_, P1, D1, hI.set (x := .inr (ci, fs.set kf v)) hD hq⟩ S1 hc hn hl)
theorem cj_putF {index ci kf a : Nat} {ty : FieldType} {fs : List Value} {v : Value} (hf : cj_fl M.1.cls index ci kf ty true) (hin : M.1.name = "<init>") (hown : (vwCl[ci]?).map (fun q => q.1) = some M.1.cls) (hd : decode M.2.1 pc = .ok (.putfield index, 3)) (hG : G a = some (.inr (ci, fs))) (hnw : narrow ty v = v) (hft : fits ty v = true) (hlen : kf < fs.length) (kk : cj_J M d k0 n0 Qr Qx k n (pc + 3) lv st (cj_up G a (.inr (ci, fs.set kf v)))) : cj_J M d k0 n0 Qr Qx k n pc lv (v :: .ref a :: st) G := by
  intro p l e s m args below meth c D tys A H locs c0 s0 ls C W0 S hc hn hl
  obtain ⟨Cn, T, N, tyf, h1, h2, h3, h4, h5, h6, h7, h8, h9⟩ := hf
  obtain ⟨ws, hP, hD, hI⟩ := W0
  obtain ⟨q, hq⟩ := hI.1 a _ hG
  have hdecl : (T kf).1 = M.1.cls := by rw [h1] at hown; exact h9.trans (Option.some.inj hown)
  exact va_putF C.x C.b C.ts h3 tyf h4 h5 C.own C.K hP hD S q hq h1 kf h2 (C.ts _ h6) (fun _ h => h) h8 (C.nm.trans hin) hdecl h7 hnw hft hlen hd (fun H1 locs1 P1 D1 S1 => kk p l e s m args below meth c D tys A H1 locs1 c0 s0 ls C ⟨_, P1, D1, hI.set (x := .inr (ci, fs.set kf v)) hD hq⟩ S1 hc hn hl)
/-! arrays -/
theorem cj_iald {a z : Nat} {f : Nat → Int32} {i : Int32} (hd : decode M.2.1 pc = .ok (.iaload, 1)) (hG : G a = some (.inl (0, z, .inl f))) (hin : vp_in i z) (kk : cj_J M d k0 n0 Qr Qx k n (pc + 1) lv (.int (f i.toNatClampNeg) :: st) G) : cj_J M d k0 n0 Qr Qx k n pc lv (.int i :: .ref a :: st) G := by
  intro p l e s m args below meth c D tys A H locs c0 s0 ls C W0 S hc hn hl
  obtain ⟨ws, hP, hD, hI⟩ := id W0
  obtain ⟨q, hq⟩ := hI.1 a _ hG
  exact va_iald C.x C.b C.K hP q 0 hq (C.tyAt rfl) hin hd (kk p l e s m args below meth c D tys A H locs c0 s0 ls C W0 S hc hn hl)
theorem cj_cald {a z : Nat} {f : Nat → Int32} {i : Int32} (hd : decode M.2.1 pc = .ok (.caload, 1)) (hG : G a = some (.inl (1, z, .inl f))) (hin : vp_in i z) (kk : cj_J M d k0 n0 Qr Qx k n (pc + 1) lv (.int (f i.toNatClampNeg) :: st) G) : cj_J M d k0 n0 Qr Qx k n pc lv (.int i :: .ref a :: st) G := by
  intro p l e s m args below meth c D tys A H locs c0 s0 ls C W0 S hc hn hl
  obtain ⟨ws, hP, hD, hI⟩ := id W0
  obtain ⟨q, hq⟩ := hI.1 a _ hG
  exact va_cald C.x C.b C.K hP q 1 hq (C.tyAt rfl) hin hd (kk p l e s m args below meth c D tys A H locs c0 s0 ls C W0 S hc hn hl)
theorem cj_zald {a z : Nat} {f : Nat → Int32} {i : Int32} (hd : decode M.2.1 pc = .ok (.baload, 1)) (hG : G a = some (.inl (2, z, .inl f))) (hin : vp_in i z) (kk : cj_J M d k0 n0 Qr Qx k n (pc + 1) lv (.int (f i.toNatClampNeg) :: st) G) : cj_J M d k0 n0 Qr Qx k n pc lv (.int i :: .ref a :: st) G := by
  intro p l e s m args below meth c D tys A H locs c0 s0 ls C W0 S hc hn hl
  obtain ⟨ws, hP, hD, hI⟩ := id W0
  obtain ⟨q, hq⟩ := hI.1 a _ hG
  exact va_zald C.x C.b C.K hP q 2 hq (C.tyAt rfl) hin hd (kk p l e s m args below meth c D tys A H locs c0 s0 ls C W0 S hc hn hl)
theorem cj_iast {a z : Nat} {f : Nat → Int32} {i x : Int32} (hd : decode M.2.1 pc = .ok (.iastore, 1)) (hG : G a = some (.inl (0, z, .inl f))) (hin : vp_in i z) (kk : cj_J M d k0 n0 Qr Qx k n (pc + 1) lv st (cj_up G a (.inl (0, z, .inl (upd f i.toNatClampNeg x))))) : cj_J M d k0 n0 Qr Qx k n pc lv (.int x :: .int i :: .ref a :: st) G := by
  intro p l e s m args below meth c D tys A H locs c0 s0 ls C W0 S hc hn hl
  obtain ⟨ws, hP, hD, hI⟩ := W0
  obtain ⟨q, hq⟩ := hI.1 a _ hG
  exact va_iast C.x C.b C.K hP hD S q 0 hq (C.tyAt rfl) hin hd (fun H1 locs1 P1 D1 S1 => kk p l e s m args below meth c D tys A H1 locs1 c0 s0 ls C ⟨_, P1, D1, hI.set (x := (.inl (0, z, .inl (upd f i.toNatClampNeg x)))) hD hq⟩ S1 hc hn hl)
theorem cj_cast {a z : Nat} {f : Nat → Int32} {i x : Int32} (hd : decode M.2.1 pc = .ok (.castore, 1)) (hG : G a = some (.inl (1, z, .inl f))) (hin : vp_in i z) (kk : cj_J M d k0 n0 Qr Qx k n (pc + 1) lv st (cj_up G a (.inl (1, z, .inl (upd f i.toNatClampNeg (vp_nar .char x)))))) : cj_J M d k0 n0 Qr Qx k n pc lv (.int x :: .int i :: .ref a :: st) G := by
  intro p l e s m args below meth c D tys A H locs c0 s0 ls C W0 S hc hn hl
  obtain ⟨ws, hP, hD, hI⟩ := W0
  obtain ⟨q, hq⟩ := hI.1 a _ hG
  exact va_cast C.x C.b C.K hP hD S q 1 hq (C.tyAt rfl) hin hd (fun H1 locs1 P1 D1 S1 => kk p l e s m args below meth c D tys A H1 locs1 c0 s0 ls C ⟨_, P1, D1, hI.set (x := (.inl (1, z, .inl (upd f i.toNatClampNeg (vp_nar .char x))))) hD hq⟩ S1 hc hn hl)
theorem cj_zast {a z : Nat} {f : Nat → Int32} {i x : Int32} (hd : decode M.2.1 pc = .ok (.bastore, 1)) (hG : G a = some (.inl (2, z, .inl f))) (hin : vp_in i z) (kk : cj_J M d k0 n0 Qr Qx k n (pc + 1) lv st (cj_up G a (.inl (2, z, .inl (upd f i.toNatClampNeg (vp_nar .boolean x)))))) : cj_J M d k0 n0 Qr Qx k n pc lv (.int x :: .int i :: .ref a :: st) G := by
  intro p l e s m args below meth c D tys A H locs c0 s0 ls C W0 S hc hn hl
  obtain ⟨ws, hP, hD, hI⟩ := W0
  obtain ⟨q, hq⟩ := hI.1 a _ hG
  exact va_zast C.x C.b C.K hP hD S q 2 hq (C.tyAt rfl) hin hd (fun H1 locs1 P1 D1 S1 => kk p l e s m args below meth c D tys A H1 locs1 c0 s0 ls C ⟨_, P1, D1, hI.set (x := (.inl (2, z, .inl (upd f i.toNatClampNeg (vp_nar .boolean x))))) hD hq⟩ S1 hc hn hl)
theorem cj_alen {a t : Nat} {x : vp_A} {ty : FieldType} {v : Int32} (hd : decode M.2.1 pc = .ok (.arraylength, 1)) (hG : G a = some (.inl (t, x))) (ht : cj_tl[t]? = some ty) (hv : Int32.ofNat x.1 = v) (kk : cj_J M d k0 n0 Qr Qx k n (pc + 1) lv (.int v :: st) G) : cj_J M d k0 n0 Qr Qx k n pc lv (.ref a :: st) G := by
  intro p l e s m args below meth c D tys A H locs c0 s0 ls C W0 S hc hn hl
  obtain ⟨ws, hP, hD, hI⟩ := id W0
  obtain ⟨q, hq⟩ := hI.1 a _ hG
  exact va_alen C.x C.b C.K hP q t hq (C.tyAt ht) hv hd (kk p l e s m args below meth c D tys A H locs c0 s0 ls C W0 S hc hn hl)
/-! new things -/
theorem cj_new {index ci N : Nat} {Cn : String} {T : u_T} {tyf : Nat → FieldType} {fs : List Value} (hcl : vwCl[ci]? = some (Cn, T, N)) (hw : ∀ w ∈ u_ws Cn T N, w ∈ cj_all) (hty : ∀ k, k < N → parseFieldDescriptor (T k).2.2.1 = some (tyf k)) (h1 : Cond.classLink M.1.cls index Cn ∈ cj_all) (h2 : Cond.instantiable Cn N ∈ cj_all) (h3 : Cond.initialized Cn ∈ cj_all) (hfs : ∀ j, j < N → defaultValue (tyf j) = vp_V fs j) (hd : decode M.2.1 pc = .ok (.new index, 3))
    (kk : ∀ q : Nat, G q = none → cj_J M d k0 n0 Qr Qx k n (pc + 3) lv (.ref q :: st) (cj_up G q (.inr (ci, fs)))) : cj_J M d k0 n0 Qr Qx (k + 1) (n + N) pc lv st G := by
  intro p l e s m args below meth c D tys A H locs c0 s0 ls C W0 S hc hn hl
  obtain ⟨ws, hP, hD, hI⟩ := W0
  exact va_new C.x C.b C.ts hw tyf hty C.own (C.ts _ h1) (C.ts _ h2) (C.ts _ h3) C.K hP hD S C.fr hcl hfs (show c0 + 1 ≤ k0 by omega) (show s0 + N ≤ n0 by omega) hd (fun q H1 P1 D1 S1 => by
    obtain ⟨i1, i2⟩ := hI.push (x := .inr (ci, fs)) D1
    exact kk q i2 p l e s m args below meth c D tys A H1 locs (c0 + 1) (s0 + N) ls C ⟨_, P1, D1, i1⟩ S1 (by omega) (by omega) hl)
theorem cj_newa {at0 : ArrayType} {t N : Nat} {z : Int32} {a0 : vp_A} {ty : FieldType} (hty : newarray.typeOf at0 = ty) (hp : ∀ C : String, ty ≠ .object C) (ht : cj_tl[t]? = some ty) (h1 : Cond.arrayClass ty ∈ cj_all) (ha : ∀ cA : ClassId, vp_cell cA a0 = arrV cA N (fun _ => defaultValue ty)) (hz : ¬ z < 0) (hN : z.toNatClampNeg = N) (hby : N * componentBytes ty ≤ 536870912) (hd : decode M.2.1 pc = .ok (.newarray at0, 2))
    (kk : ∀ q : Nat, G q = none → cj_J M d k0 n0 Qr Qx k n (pc + 2) lv (.ref q :: st) (cj_up G q (.inl (t, a0)))) : cj_J M d k0 n0 Qr Qx (k + 1) (n + N) pc lv (.int z :: st) G := by
  intro p l e s m args below meth c D tys A H locs c0 s0 ls C W0 S hc hn hl
  obtain ⟨ws, hP, hD, hI⟩ := W0
  refine va_newa C.x C.b (by rw [hty]; exact C.ts _ h1) hty C.K hP hD S C.fr ha hz hN hby (show c0 + 1 ≤ k0 by omega) (show s0 + N ≤ n0 by omega) hd (fun q cA H1 K1 P1 D1 S1 => ?_)
  have e1 : cA = cj_cd tys t := by
    have g1 := (K1.2 tys.length (cA, ty) (by simp)).2
    have g2 := (C.K.2 t _ (C.tyAt ht)).2
    cases ty with
    | object C9 => exact absurd rfl (hp C9)
    | _ => exact Option.some.inj (g1.symm.trans g2)
  subst e1
  obtain ⟨i1, i2⟩ := hI.push (x := .inl (t, a0)) D1
  exact kk q i2 p l e s m args below meth c D tys A H1 locs (c0 + 1) (s0 + N) ls C ⟨_, P1, D1, i1⟩ S1 (by omega) (by omega) hl
/-! the ends -/
theorem cj_iret {x : Int32} (hr : M.2.2.2 = some .int) (hd : decode M.2.1 pc = .ok (.ireturn, 1)) (hq : Qr (some (.int x)) G) : cj_J M d k0 n0 Qr Qx k n pc lv [.int x] G := by
  intro p l e s m args below meth c D tys A H locs c0 s0 ls C W0 S hc hn hl
  refine W.widen (k := k0) (n := n0) (by omega) (by omega) ?_
  exact vx_ret (W.iret C.x C.b (C.r.trans hr) (fun t ht hW => ⟨⟨_, G, rfl, hq, by rw [ht]; exact W0⟩, S.F ht⟩) S.2.2 hd C.lk)
theorem cj_zret {x : Int32} {ty : FieldType} (hr : M.2.2.2 = some ty) (hnw : narrow ty (.int x) = .int x) (hd : decode M.2.1 pc = .ok (.ireturn, 1)) (hq : Qr (some (.int x)) G) : cj_J M d k0 n0 Qr Qx k n pc lv [.int x] G := by
  intro p l e s m args below meth c D tys A H locs c0 s0 ls C W0 S hc hn hl
  refine W.widen (k := k0) (n := n0) (by omega) (by omega) ?_
  exact vx_ret (W.zret C.x C.b (C.r.trans hr) hnw (fun t ht hW => ⟨⟨_, G, rfl, hq, by rw [ht]; exact W0⟩, S.F ht⟩) S.2.2 hd C.lk)
theorem cj_vret (hr : M.2.2.2 = none) (hd : decode M.2.1 pc = .ok (.return_, 1)) (hq : Qr none G) : cj_J M d k0 n0 Qr Qx k n pc lv [] G := by
  intro p l e s m args below meth c D tys A H locs c0 s0 ls C W0 S hc hn hl
  refine W.widen (k := k0) (n := n0) (by omega) (by omega) ?_
  exact vx_ret (W.vret C.x C.b (C.r.trans hr) (fun t ht hW => ⟨⟨_, G, rfl, hq, by rw [ht]; exact W0⟩, S.F ht⟩) S.2.2 hd C.lk)
theorem cj_aret {a : Nat} {nm : String} (hr : M.2.2.2 = some (.object nm)) (hd : decode M.2.1 pc = .ok (.areturn, 1)) (hq : Qr (some (.ref a)) G) : cj_J M d k0 n0 Qr Qx k n pc lv [.ref a] G := by
  intro p l e s m args below meth c D tys A H locs c0 s0 ls C W0 S hc hn hl
  refine W.widen (k := k0) (n := n0) (by omega) (by omega) ?_
  exact vx_ret (W.aret C.x C.b (C.r.trans hr) (Or.inl ⟨nm, rfl⟩) (Or.inr ⟨a, rfl⟩) (fun t ht hW => ⟨⟨_, G, rfl, hq, by rw [ht]; exact W0⟩, S.F ht⟩) S.2.2 hd C.lk)
/-! a body gives a contract -/
theorem cj_T_of {av : List Value} (hy : plainName M.1.cls = true) (hlen : (lg_sl av).length ≤ M.2.2.1) (kk : cj_J M d k n Qr Qx k n 0 (lv_args 0 av) [] G) : cj_T M d k n av G Qr Qx := by
  intro l hl9 D tys hty sz
  refine vx_ofW (cc := M.2.1) (maxL := M.2.2.1) (ret := M.2.2.2) hy rfl ?_
  intro p e s m args below meth c s₁ B hml htab hv
  obtain ⟨rfl, hsz, hK, hB, hZ, hW⟩ := hv
  have hts := atoms_spec (ws := cj_ws M) B.pre
  have hown : s.vm.findClass M.1.cls = some m.cls := findClass_of_methodNamed B.named
  have hnm : meth.name = M.1.name := (name_of_methodNamed B.named B.method).1
  subst hsz
  have hl := lv_entry av (n := M.2.2.1) hlen
  rw [lg_entry_eq]
  generalize (lg_sl av ++ List.replicate (M.2.2.1 - (lg_sl av).length) Slot.unset).toArray = ls at hl ⊢
  have hW2 : cj_W D tys (cj_A G s.heap.size) G s.heap := by
    obtain ⟨ws, h1, h2, h3⟩ := hW
    exact ⟨ws, h1, ⟨h2.1, fun k9 q hk => by obtain ⟨x, hx⟩ := h3.2 k9 q.1 q.2 hk; exact Or.inl (by rw [hx]; simp)⟩, h3⟩
  exact kk p l e s m _ below meth c D tys (cj_A G s.heap.size) s.heap [] 0 0 ls ⟨B.exec, B.bytes, hml, hown, fun w hw => hts w (List.mem_cons_of_mem _ hw), B.returns, B.notSynchronized, htab, hl9, hK, hty, hB, hZ, fun q h => Or.inr h, hnm⟩ hW2 va_S.rf (by omega) (by omega) hl
theorem cj_T.mono {av : List Value} {Qr' : Option Value → cj_G → Prop} {Qx' : String → cj_G → Prop} (h : cj_T M d k n av G Qr Qx) (hr : ∀ v G', Qr v G' → Qr' v G') (hx : ∀ E G', Qx E G' → Qx' E G') : cj_T M d k n av G Qr' Qx' := by
  intro l hl9 D tys hty sz p e ha hc hk s m args below hf happ hP hK
  obtain ⟨t, o, h1, h2, h3, hQ⟩ := h l hl9 D tys hty sz p e ha hc hk s m args below hf happ hP hK
  refine ⟨t, o, h1, h2, h3, ?_⟩
  rcases hQ with ⟨⟨⟨v, G', e1, e2, e3⟩, hF⟩, L, hL⟩ | ⟨q, e1, E, ce, L, ⟨⟨G', x1, x2⟩, x3⟩, x4⟩
  · exact Or.inl ⟨⟨⟨v, G', e1, hr v G' e2, e3⟩, hF⟩, L, hL⟩
  · exact Or.inr ⟨q, e1, E, ce, L, ⟨⟨G', hx E G' x1, x2⟩, x3⟩, x4⟩
end CJ
end
section
/-! CALLS, over pictures -/
section CK
variable {M M' : cj_M} {d k0 n0 k n pc d' k' n' : Nat} {Qr Qr' : Option Value → cj_G → Prop} {Qx Qx' : String → cj_G → Prop} {lv : List (Nat × Value)} {st st0 rest As : List Value} {G : cj_G}
theorem cj_P.blind {D : va_G} {tys : List (ClassId × FieldType)} {sz : Nat} {av : List Value} : FrameBlind (va_Pc av (cj_P D tys G sz)) := by
  intro a U g mk h
  obtain ⟨h0, h1, h2, h3, h4, h5⟩ := h
  exact ⟨h0, h1, va_K.moved (u := U) (U := U.calling g mk a) (Vm.Alike.refl U.vm) h2, cj_B.warm (s := U) (U := U.calling g mk a) (State.WarmedH.refl U) h3, ⟨vx_Zq.moved (u := U) (U := U.calling g mk a) (Vm.Alike.refl U.vm) h4.1, vx_Zq.moved (u := U) (U := U.calling g mk a) (Vm.Alike.refl U.vm) h4.2⟩, h5⟩
section CK1
variable {p : Program} {l : Launch} {e : Env} {s : State} {m : MethodId} {args : Array Value} {below : List Frame} {meth : Method} {c : Code} {D : va_G} {tys : List (ClassId × FieldType)} {A : Nat → Prop} {H : Heap} {locs : List Loc} {c0 s0 : Nat} {ls : Array Slot}
theorem cj_sub_A (C : cj_C M p l s m args meth c D tys A) (W0 : cj_W D tys A G H) (S : va_S A s.heap H locs) : ∀ q, cj_A G H.size q → A q := by
  intro q h
  rcases h with h | h
  · cases hg : G q with
    | none => exact absurd hg h
    | some x => exact (W0.lt hg).2
  · exact C.fr q (Nat.le_trans S.1 h)
theorem cj_pre (C : cj_C M p l s m args meth c D tys A) (W0 : cj_W D tys A G H) (S : va_S A s.heap H locs) (U : State) (hU : U.heap = H) (hW : s.WarmedH U.vm) : cj_P D tys G H.size U := by
  have hsub := cj_sub_A C W0 S
  refine ⟨by rw [hU], va_K.moved hW.alike C.K, cj_B.warm hW C.B, ?_, by rw [hU]; exact W0.weaken (fun _ _ => trivial)⟩
  rw [hU]
  exact ⟨((vx_Zq.moved hW.alike (C.Z.1.kept S.2.1)).narrow hsub), ((vx_Zq.moved hW.alike (C.Z.2.kept S.2.1)).narrow hsub)⟩
/-- what a run of a callee gives, the rest of the body behind it -/
theorem cj_run (C : cj_C M p l s m args meth c D tys A) (W0 : cj_W D tys A G H) (S : va_S A s.heap H locs) (hc : c0 + (k + k') ≤ k0) (hn : s0 + (n + n') ≤ n0) (hl : lv_has ls M.2.2.1 lv) {av : Array Value}
    (hr : vx_Run p l e (cj_rm d k0 n0) s m args below meth c H locs c0 s0 k' n' (F0 m pc ls st0) rest (cj_Q D tys (cj_A G H.size) Qr' av) (cj_X D tys (cj_A G H.size) Qx') (cj_A G H.size))
    (kk : ∀ (v : Option Value) (G' : cj_G), Qr' v G' → cj_J M d k0 n0 Qr Qx k n (pc + 3) lv (v.toList ++ rest) G') (kx : ∀ (E : String) (G' : cj_G), Qx' E G' → Qx E G') :
    W p l e (cj_rm d k0 n0) s m args below meth c H locs c0 s0 (vx_MQ below (cj_Q D tys A Qr) (cj_X D tys A Qx) args s k0 n0 A) (F0 m pc ls st0) := by
  have hsub := cj_sub_A C W0 S
  intro T hT X
  rcases hr T hT X with ⟨v, st₀, t, T', L, h0, X', hL, e1, e2, ⟨⟨v', G', hv, hq, hw⟩, hF⟩, st⟩ | ⟨q, st₀, t, T', L, E, ce, h0, X', hL, e1, e2, ⟨⟨G', hq, hw⟩, hF⟩, hce, hcv, hcl, st⟩
  · cases hv
    obtain ⟨k1, k2, k3⟩ := vx_keep (A0 := A) (H0 := s.heap) h0 e1 S (fun q _ h => hsub q h) hsub hL hF
    obtain ⟨t2, a1, b1⟩ := kk v G' hq p l e s m args below meth c D tys A T'.heap (locs ++ L) (c0 + k') (s0 + n') ls C (by rw [e1]; exact hw.weaken hsub) k3 (by omega) (by omega) hl T' rfl X'
    exact ⟨t2, st t2 a1, b1⟩
  · obtain ⟨k1, k2, k3⟩ := vx_keep (A0 := A) (H0 := s.heap) h0 e1 S (fun q _ h => hsub q h) hsub hL hF
    have hx : vx_W p l e (cj_rm d k0 n0) s m args below meth c T'.heap (locs ++ L) (c0 + k') (s0 + n') (vx_MQ below (cj_Q D tys A Qr) (cj_X D tys A Qx) args s k0 n0 A) (F0 m pc ls rest) q :=
      vx_out (E := E) (fun x hx => absurd hx (fun h => C.tb x h)) C.lk (by rw [e1]; exact hce) hcv hcl (fun t9 ht9 _ => ⟨⟨G', kx E G' hq, by rw [ht9, e1]; exact hw.weaken hsub⟩, k3.F ht9⟩) k3.2.2 (by omega) (by omega)
    obtain ⟨t2, a1, b1⟩ := hx T' rfl X'
    exact ⟨t2, st.trans a1, b1⟩
end CK1
/-- the words of a method that is called -/
def cj_mw (M' : cj_M) (np : Nat) : Prop := Cond.code M'.1 M'.2.1 M'.2.2.1 M'.2.2.2 ∈ cj_all ∧ Cond.initialized M'.1.cls ∈ cj_all ∧ (M'.1.cls ≠ "java/lang/invoke/MethodHandle" ∧ M'.1.cls ≠ "java/lang/invoke/VarHandle") ∧ (parseMethodDescriptor M'.1.desc).map (fun d => d.parameters.length) = some np ∧ M'.2.2.1 ≤ 29
theorem cj_mw.good {np : Nat} (h : cj_mw M' np) : GoodIn cj_all (cj_ws M') := by
  intro w hw
  rcases List.mem_cons.mp hw with rfl | hw
  · exact ⟨h.1, good_of_word (List.mem_filter.mp h.1).2⟩
  · exact ⟨hw, good_of_word (List.mem_filter.mp hw).2⟩
theorem cj_mw.len {np : Nat} (h : cj_mw M' np) : ∀ sig, parseMethodDescriptor M'.1.desc = some sig → np = sig.parameters.length := by
  intro sig hs
  have h2 := h.2.2.2.1
  rw [hs] at h2
  exact (Option.some.inj h2).symm
theorem cj_cb {np index : Nat} {s : State} {args : Array Value} {own : String} (h : cj_mw M' np) (hts : ∀ w ∈ cj_all, w.before args s = true) (hd : d' + 1 ≤ d) (hlink : Cond.methodLink own index M'.1 ∈ cj_all) : CallB (cj_rm d k0 n0) s args own index M'.1 M'.2.1 M'.2.2.1 M'.2.2.2 (cj_ws M') (cj_rm d' k' n') k' n' np := by
  have h29 := h.2.2.2.2
  refine ⟨rfl, rfl, hd, ?_, pay_in hts h.good, List.mem_cons_self, hts _ h.1, hts _ h.2.1, h.2.2.1, h.len, hts _ hlink⟩
  show 8 + (M'.2.2.1 + 11) + 48 * d' ≤ 48 * d
  omega
/-- a method on an object of its own class -/
def cj_lV (own : String) (index : Nat) (y : MethodName) : Prop := Cond.methodLink own index y ∈ cj_all ∧ Cond.instanceMethod y ∈ cj_all ∧ Cond.selects y.cls y y ∈ cj_all
theorem cj_callV {index np ci b : Nat} {fs : List Value} (hd : decode M.2.1 pc = .ok (.invokevirtual index, 3)) (lk : cj_lV M.1.cls index M'.1) (mw : cj_mw M' np) (hT : cj_T M' d' k' n' (.ref b :: As) G Qr' Qx') (hdd : d' + 1 ≤ d) (hn : As.length = np) (hst : st0 = As.reverse ++ .ref b :: rest) (h8 : (rest.map fun v => v.category).sum ≤ 8) (hG : G b = some (.inr (ci, fs))) (hcl : (vwCl[ci]?).map (fun q => q.1) = some M'.1.cls)
    (kk : ∀ (v : Option Value) (G' : cj_G), Qr' v G' → cj_J M d k0 n0 Qr Qx k n (pc + 3) lv (v.toList ++ rest) G') (kx : ∀ (E : String) (G' : cj_G), Qx' E G' → Qx E G') : cj_J M d k0 n0 Qr Qx (k + k') (n + n') pc lv st0 G := by
  intro p l e s m args below meth c D tys A H locs c0 s0 ls C W0 S hc hn9 hl
  obtain ⟨ws, hP, hD, hI⟩ := id W0
  obtain ⟨q, hq⟩ := hI.1 b _ hG
  cases hcc : vwCl[ci]? with
  | none => rw [hcc] at hcl; cases hcl
  | some r =>
    rw [hcc] at hcl
    have hr1 : r.1 = M'.1.cls := Option.some.inj hcl
    have hrecv := va_recv C.K hP (ci := ci) (q0 := q) hcc hq
    rw [hr1] at hrecv
    refine cj_run (av := (Value.ref b :: As).toArray) C W0 S hc hn9 hl (vx_runV (bytes := M'.2.1) (maxL := M'.2.2.1) (ret := M'.2.2.2) (As := As) (rest := rest) (C := M'.1.cls) ⟨C.x, C.b, C.ml, C.own, C.ts⟩ (hT l C.tr D tys C.ty H.size) ⟨cj_cb mw C.ts hdd lk.1, C.ts _ lk.2.1, C.ts _ lk.2.2⟩ ⟨cj_P.blind, hrecv, fun U hU hW => ⟨rfl, cj_pre C W0 S U hU hW⟩⟩ rfl hn hl.1 hst (lv_room h8) hd ⟨by show c0 + k' ≤ k0; omega, by show s0 + n' ≤ n0; omega⟩) kk kx
theorem cj_callS {index np : Nat} (hd : decode M.2.1 pc = .ok (.invokestatic index, 3)) (lk : Cond.methodLink M.1.cls index M'.1 ∈ cj_all ∧ Cond.static M'.1 ∈ cj_all) (mw : cj_mw M' np) (hT : cj_T M' d' k' n' As G Qr' Qx') (hdd : d' + 1 ≤ d) (hn : As.length = np) (hst : st0 = As.reverse ++ rest) (h8 : (rest.map fun v => v.category).sum ≤ 8)
    (kk : ∀ (v : Option Value) (G' : cj_G), Qr' v G' → cj_J M d k0 n0 Qr Qx k n (pc + 3) lv (v.toList ++ rest) G') (kx : ∀ (E : String) (G' : cj_G), Qx' E G' → Qx E G') : cj_J M d k0 n0 Qr Qx (k + k') (n + n') pc lv st0 G := by
  intro p l e s m args below meth c D tys A H locs c0 s0 ls C W0 S hc hn9 hl
  exact cj_run (av := As.toArray) C W0 S hc hn9 hl (vx_runS (bytes := M'.2.1) (maxL := M'.2.2.1) (ret := M'.2.2.2) (As := As) (rest := rest) ⟨C.x, C.b, C.ml, C.own, C.ts⟩ (hT l C.tr D tys C.ty H.size) ⟨cj_cb mw C.ts hdd lk.1, C.ts _ lk.2⟩ ⟨cj_P.blind, fun U hU hW => ⟨rfl, cj_pre C W0 S U hU hW⟩⟩ rfl hn hl.1 hst (lv_room h8) hd ⟨by show c0 + k' ≤ k0; omega, by show s0 + n' ≤ n0; omega⟩) kk kx
/-- a method that never throws -/
theorem cj_T.met {av : List Value} (h : cj_T M d k n av G Qr (fun _ _ => False)) {l : Launch} (hl : l.stackTraces = false) {D : va_G} {tys : List (ClassId × FieldType)} (hty : tys.map (fun q => q.2) = cj_tl) (sz : Nat) : Met l M.1 (cj_ws M) (cj_rm d k n) (va_Pc av (cj_P D tys G sz)) (cj_Q D tys (cj_A G sz) Qr) k n (cj_A G sz) := by
  intro p e ha hc hk s m args below hf happ hP hK
  obtain ⟨t, o, h1, h2, h3, hQ⟩ := h l hl D tys hty sz p e ha hc hk s m args below hf happ hP hK
  refine ⟨t, o, h1, h2, h3, ?_⟩
  rcases hQ with h | ⟨q, e1, E, ce, L, ⟨⟨G', x1, x2⟩, x3⟩, x4⟩
  · exact h
  · exact absurd x1 id
theorem cj_callI {index np b : Nat} (hd : decode M.2.1 pc = .ok (.invokespecial index, 3)) (lk : Cond.methodLink M.1.cls index M'.1 ∈ cj_all ∧ Cond.instanceMethod M'.1 ∈ cj_all ∧ M'.1.name = "<init>" ∧ M'.2.2.2 = none) (mw : cj_mw M' np) (hT : cj_T M' d' k' n' (.ref b :: As) G Qr' (fun _ _ => False)) (hdd : d' + 1 ≤ d) (hn : As.length = np) (hst : st0 = As.reverse ++ .ref b :: rest) (h8 : (rest.map fun v => v.category).sum ≤ 8)
    (kk : ∀ (v : Option Value) (G' : cj_G), Qr' v G' → cj_J M d k0 n0 Qr Qx k n (pc + 3) lv (v.toList ++ rest) G') : cj_J M d k0 n0 Qr Qx (k + k') (n + n') pc lv st0 G := by
  intro p l e s m args below meth c D tys A H locs c0 s0 ls C W0 S hc hn9 hl
  have hM := hT.met C.tr (D := D) C.ty H.size
  have hcb := cj_cb (k0 := k0) (n0 := n0) (k' := k') (n' := n') mw C.ts hdd lk.1
  rw [lk.2.2.2] at hcb
  refine cj_run (av := (Value.ref b :: As).toArray) (Qx' := fun _ _ => False) C W0 S hc hn9 hl ?_ kk (fun _ _ h => absurd h id)
  intro T hT9 X
  exact Or.inl (va_runI (bytes := M'.2.1) (maxL := M'.2.2.1) (As := As) (rest := rest) ⟨C.x, C.b, C.ml, C.own, C.ts⟩ hM ⟨hcb, lk.2.2.1, C.ts _ lk.2.1⟩ ⟨cj_P.blind, fun U hU hW => ⟨rfl, cj_pre C W0 S U hU hW⟩⟩ rfl hn hl.1 hst (lv_room h8) hd ⟨by show c0 + k' ≤ k0; omega, by show s0 + n' ≤ n0; omega⟩ T hT9 X)
/-- a private static of a nest mate -/
theorem cj_callSN {index np : Nat} (hd : decode M.2.1 pc = .ok (.invokestatic index, 3)) (lk : (M.1.cls, index, M'.1) ∈ cj_nest ∧ Cond.static M'.1 ∈ cj_all) (mw : cj_mw M' np) (hT : cj_T M' d' k' n' As G Qr' (fun _ _ => False)) (hdd : d' + 1 ≤ d) (hn : As.length = np) (hst : st0 = As.reverse ++ rest) (h8 : (rest.map fun v => v.category).sum ≤ 8)
    (kk : ∀ (v : Option Value) (G' : cj_G), Qr' v G' → cj_J M d k0 n0 Qr Qx k n (pc + 3) lv (v.toList ++ rest) G') : cj_J M d k0 n0 Qr Qx (k + k') (n + n') pc lv st0 G := by
  intro p l e s m args below meth c D tys A H locs c0 s0 ls C W0 S hc hn9 hl
  have h29 := mw.2.2.2.2
  have hM := hT.met C.tr (D := D) C.ty H.size
  have hcn : va_CN (cj_rm d k0 n0) s args M.1.cls index M'.1 RX6 M'.2.1 M'.2.2.1 M'.2.2.2 (cj_ws M') (cj_rm d' k' n') k' n' np := by
    refine ⟨⟨rfl, rfl, hdd, ?_, pay_in C.ts mw.good, List.mem_cons_self⟩, C.ts _ mw.1, C.ts _ mw.2.1, mw.2.2.1, mw.len, va_Nw.use rfl (C.B.1 _ lk.1)⟩
    show 8 + (M'.2.2.1 + 11) + 48 * d' ≤ 48 * d
    omega
  refine cj_run (av := As.toArray) (Qx' := fun _ _ => False) C W0 S hc hn9 hl ?_ kk (fun _ _ h => absurd h id)
  intro T hT9 X
  exact Or.inl (va_runSN (host := RX6) (bytes := M'.2.1) (maxL := M'.2.2.1) (ret := M'.2.2.2) (As := As) (rest := rest) ⟨C.x, C.b, C.ml, C.own, C.ts⟩ hM ⟨hcn, C.ts _ lk.2, trivial⟩ ⟨cj_P.blind, fun U hU hW => ⟨rfl, cj_pre C W0 S U hU hW⟩⟩ rfl hn hl.1 hst (lv_room h8) hd ⟨by show c0 + k' ≤ k0; omega, by show s0 + n' ≤ n0; omega⟩ T hT9 X)
/-- a private constructor of a nest mate -/
theorem cj_callIN {index np b : Nat} (hd : decode M.2.1 pc = .ok (.invokespecial index, 3)) (lk : (M.1.cls, index, M'.1) ∈ cj_nest ∧ Cond.instanceMethod M'.1 ∈ cj_all ∧ M'.1.name = "<init>" ∧ M'.2.2.2 = none) (mw : cj_mw M' np) (hT : cj_T M' d' k' n' (.ref b :: As) G Qr' (fun _ _ => False)) (hdd : d' + 1 ≤ d) (hn : As.length = np) (hst : st0 = As.reverse ++ .ref b :: rest) (h8 : (rest.map fun v => v.category).sum ≤ 8)
    (kk : ∀ (v : Option Value) (G' : cj_G), Qr' v G' → cj_J M d k0 n0 Qr Qx k n (pc + 3) lv (v.toList ++ rest) G') : cj_J M d k0 n0 Qr Qx (k + k') (n + n') pc lv st0 G := by
  intro p l e s m args below meth c D tys A H locs c0 s0 ls C W0 S hc hn9 hl
  have h29 := mw.2.2.2.2
  have hM := hT.met C.tr (D := D) C.ty H.size
  have hcn : va_CN (cj_rm d k0 n0) s args M.1.cls index M'.1 RX6 M'.2.1 M'.2.2.1 none (cj_ws M') (cj_rm d' k' n') k' n' np := by
    have hcw : Cond.code M'.1 M'.2.1 M'.2.2.1 none ∈ cj_ws M' := by rw [← lk.2.2.2]; exact List.mem_cons_self
    have hcd : (Cond.code M'.1 M'.2.1 M'.2.2.1 none).before args s = true := by rw [← lk.2.2.2]; exact C.ts _ mw.1
    refine ⟨⟨rfl, rfl, hdd, ?_, pay_in C.ts mw.good, hcw⟩, hcd, C.ts _ mw.2.1, mw.2.2.1, mw.len, va_Nw.use rfl (C.B.1 _ lk.1)⟩
    show 8 + (M'.2.2.1 + 11) + 48 * d' ≤ 48 * d
    omega
  refine cj_run (av := (Value.ref b :: As).toArray) (Qx' := fun _ _ => False) C W0 S hc hn9 hl ?_ kk (fun _ _ h => absurd h id)
  intro T hT9 X
  exact Or.inl (va_runIN (host := RX6) (bytes := M'.2.1) (maxL := M'.2.2.1) (As := As) (rest := rest) ⟨C.x, C.b, C.ml, C.own, C.ts⟩ hM ⟨hcn, lk.2.2.1, C.ts _ lk.2.1⟩ ⟨cj_P.blind, fun U hU hW => ⟨rfl, cj_pre C W0 S U hU hW⟩⟩ rfl hn hl.1 hst (lv_room h8) hd ⟨by show c0 + k' ≤ k0; omega, by show s0 + n' ≤ n0; omega⟩ T hT9 X)
/-- Object.<init> -/
theorem cj_obj {index a : Nat} (hd : decode M.2.1 pc = .ok (.invokespecial index, 3)) (lk : Cond.methodLink M.1.cls index Lib.objectInit ∈ cj_all ∧ Cond.instanceMethod Lib.objectInit ∈ cj_all ∧ Cond.code Lib.objectInit ⟨#[0xb1]⟩ 1 none ∈ cj_all) (hdd : 1 ≤ d) (h8 : (rest.map fun v => v.category).sum ≤ 8) (kk : cj_J M d k0 n0 Qr Qx k n (pc + 3) lv rest G) : cj_J M d k0 n0 Qr Qx k n pc lv (.ref a :: rest) G := by
  intro p l e s m args below meth c D tys A H locs c0 s0 ls C W0 S hc hn9 hl
  have h9 := lv_room (m := m) (pc := pc) (ls := ls) (rest := .ref a :: rest) h8
  refine W.objInit C.x C.b C.own (C.ts _ lk.1) (C.ts _ lk.2.1) (C.ts _ lk.2.2) rfl (by rw [C.ml]; exact hl.1) rfl hd hdd (by show _ ≤ 48 * d; omega) ?_
  exact kk p l e s m args below meth c D tys A H locs c0 s0 ls C W0 S hc hn9 hl
/-- Math.max, Math.min of ints -/
theorem cj_max {index : Nat} {x y : Int32} (hd : decode M.2.1 pc = .ok (.invokestatic index, 3)) (lk : Cond.methodLink M.1.cls index Lib.Math.max.name ∈ cj_all ∧ Cond.static Lib.Math.max.name ∈ cj_all ∧ Cond.initialized "java/lang/Math" ∈ cj_all ∧ Cond.code Lib.Math.max.name Lib.Math.max.code 2 (some .int) ∈ cj_all) (hdd : 1 ≤ d) (h8 : (rest.map fun v => v.category).sum ≤ 8) (kk : cj_J M d k0 n0 Qr Qx k n (pc + 3) lv (.int (if x < y then y else x) :: rest) G) : cj_J M d k0 n0 Qr Qx k n pc lv (.int y :: .int x :: rest) G := by
  intro p l e s m args below meth c D tys A H locs c0 s0 ls C W0 S hc hn9 hl
  refine va_mmax C.x C.b (by rw [C.ml]; exact hl.1.symm) C.own (C.ts _ lk.1) (C.ts _ lk.2.1) (C.ts _ lk.2.2.1) (C.ts _ lk.2.2.2) hdd (by show _ ≤ 48 * d; omega) (by show c0 ≤ k0; omega) (by show s0 ≤ n0; omega) hd ?_
  exact kk p l e s m args below meth c D tys A H locs c0 s0 ls C W0 S hc hn9 hl
theorem cj_min {index : Nat} {x y : Int32} (hd : decode M.2.1 pc = .ok (.invokestatic index, 3)) (lk : Cond.methodLink M.1.cls index Lib.Math.min.name ∈ cj_all ∧ Cond.static Lib.Math.min.name ∈ cj_all ∧ Cond.initialized "java/lang/Math" ∈ cj_all ∧ Cond.code Lib.Math.min.name Lib.Math.min.code 2 (some .int) ∈ cj_all) (hdd : 1 ≤ d) (h8 : (rest.map fun v => v.category).sum ≤ 8) (kk : cj_J M d k0 n0 Qr Qx k n (pc + 3) lv (.int (if y < x then y else x) :: rest) G) : cj_J M d k0 n0 Qr Qx k n pc lv (.int y :: .int x :: rest) G := by
  intro p l e s m args below meth c D tys A H locs c0 s0 ls C W0 S hc hn9 hl
  refine va_mmin C.x C.b (by rw [C.ml]; exact hl.1.symm) C.own (C.ts _ lk.1) (C.ts _ lk.2.1) (C.ts _ lk.2.2.1) (C.ts _ lk.2.2.2) hdd (by show _ ≤ 48 * d; omega) (by show c0 ≤ k0; omega) (by show s0 ≤ n0; omega) hd ?_
  exact kk p l e s m args below meth c D tys A H locs c0 s0 ls C W0 S hc hn9 hl
/-- System.arraycopy between two int arrays -/
theorem cj_copyi {index a0 a1 z0 z1 : Nat} {f g : Nat → Int32} {sp dp z : Int32} (hd : decode M.2.1 pc = .ok (.invokestatic index, 3)) (lk : Cond.methodLink M.1.cls index arraycopyName ∈ cj_all ∧ Cond.native arraycopyName ∈ cj_all ∧ Cond.static arraycopyName ∈ cj_all ∧ Cond.initialized "java/lang/System" ∈ cj_all) (hdd : 1 ≤ d) (h8 : (rest.map fun v => v.category).sum ≤ 8) (hG0 : G a0 = some (.inl (0, z0, .inl f))) (hG1 : G a1 = some (.inl (0, z1, .inl g))) (h1 : ¬ sp < 0) (h2 : ¬ dp < 0) (h3 : ¬ z < 0) (h4 : sp.toNatClampNeg + z.toNatClampNeg ≤ z0) (h5 : dp.toNatClampNeg + z.toNatClampNeg ≤ z1)
    (kk : cj_J M d k0 n0 Qr Qx k n (pc + 3) lv rest (cj_up G a1 (.inl (0, z1, .inl (va_cpy f g sp.toNatClampNeg dp.toNatClampNeg z.toNatClampNeg))))) : cj_J M d k0 n0 Qr Qx k n pc lv (.int z :: .int dp :: .ref a1 :: .int sp :: .ref a0 :: rest) G := by
  intro p l e s m args below meth c D tys A H locs c0 s0 ls C W0 S hc hn9 hl
  obtain ⟨ws, hP, hD, hI⟩ := W0
  obtain ⟨q0, hq0⟩ := hI.1 a0 _ hG0
  obtain ⟨q1, hq1⟩ := hI.1 a1 _ hG1
  refine va_copyi C.x C.b (by rw [C.ml]; exact hl.1.symm) C.own (C.ts _ lk.1) (C.ts _ lk.2.1) (C.ts _ lk.2.2.1) (C.ts _ lk.2.2.2) C.K hP hD S q0 q1 0 0 hq0 hq1 (C.tyAt rfl) (C.tyAt rfl) rfl h1 h2 h3 h4 h5 (fun _ _ => rfl) hdd ?_ hd (fun H1 locs1 P1 D1 S1 => ?_)
  · have h9 : nativeFrameWords "java/lang/System" "arraycopy" 5 ≤ 20 := by decide +kernel
    show _ ≤ 48 * d
    omega
  · exact kk p l e s m args below meth c D tys A H1 locs1 c0 s0 ls C ⟨_, P1, D1, hI.set (x := .inl (0, z1, .inl (va_cpy f g sp.toNatClampNeg dp.toNatClampNeg z.toNatClampNeg))) hD hq1⟩ S1 hc hn9 hl
/-- throw new E("text") -/
theorem cj_throw {ik is ic : Nat} {X text : String} {names : List String} (hl9 : Bundle.fit X = true ∧ (∀ n ∈ names, Bundle.fit n = true) ∧ Cond.classLink M.1.cls ik X ∈ cj_all ∧ Cond.initialized X ∈ cj_all ∧ (M.1.cls, is, text) ∈ cj_strs ∧ X ∈ cj_exc ∧ (∀ w ∈ (vx_atS M.1.cls ic X names).filter goodWord, w ∈ cj_all) ∧ (∀ w ∈ (vx_atS M.1.cls ic X names).filter (fun w => !goodWord w), w ∈ Cond.castable X X :: cj_dec.map Cond.declares) ∧ (∀ w ∈ Cond.classLink M.1.cls ik X :: Cond.initialized X :: vx_atS M.1.cls ic X names, vx_ot w = true) ∧ names.length ≤ 2)
    (d0 : decode M.2.1 pc = .ok (.new ik, 3)) (d3 : decode M.2.1 (pc + 3) = .ok (.dup, 1)) (d4 : decode M.2.1 (pc + 4) = .ok (.ldc is, 2)) (d6 : decode M.2.1 (pc + 6) = .ok (.invokespecial ic, 3)) (d9 : decode M.2.1 (pc + 9) = .ok (.athrow, 1)) (hdd : 6 ≤ d) (h8 : (rest.map fun v => v.category).sum ≤ 8) (hq : Qx X G) : cj_J M d k0 n0 Qr Qx (k + 1) (n + 6) pc lv rest G := by
  intro p l e s m args below meth c D tys A H locs c0 s0 ls C W0 S hc hn9 hl
  obtain ⟨f1, f2, f3, f4, f5, f6, f7, f8, f9, f10⟩ := hl9
  obtain ⟨sa, hsa⟩ := C.B.2.1 _ f5
  have hat : ∀ w ∈ vx_atS M.1.cls ic X names, w.before args s = true := vx_hat (fun w hw => C.ts _ (f7 w hw)) f8 (vx_c (va_Nw.use rfl (C.B.2.2.1 X f6)) (fun w hw => by obtain ⟨y, hy, rfl⟩ := List.mem_map.mp hw; exact va_Nw.use rfl (C.B.2.2.2 y hy)))
  exact vx_throwS C.x C.b C.tr C.own f1 f2 (C.ts _ f3) (C.ts _ f4) hsa hat f9 C.Z.1 C.Z.2 S (by rw [C.ml]; exact hl.1) d0 d3 d4 d6 d9 (fun x hx => absurd hx (fun h => C.tb x h)) (by show names.length + 3 < d; omega) (by show _ ≤ 48 * d; omega) (by show c0 + 1 ≤ k0; omega) (by show s0 + 6 ≤ n0; omega) C.lk
    (fun t hvm hz hk => ⟨⟨G, hq, W0.kept hk⟩, ⟨Nat.le_trans S.1 hz, fun q h1 h2 => by rw [hk q (Nat.lt_of_lt_of_le h1 S.1)]; exact S.2.1 q h1 h2⟩⟩) S.2.2 (by omega) (by omega)
end CK
end
section
theorem cj_at {w : Cond} (i : Nat) (h : lw_tbl[i]? = some w) (g : goodWord w = true) : w ∈ cj_all := cj_all_of (List.mem_of_getElem? h) g
theorem uw_X0 : ∀ w ∈ u_ws RX0 TX0 2, w ∈ cj_all := by decide +kernel
theorem uw_X1 : ∀ w ∈ u_ws RX1 TX1 6, w ∈ cj_all := by decide +kernel
theorem uw_X2 : ∀ w ∈ u_ws RX2 TX2 9, w ∈ cj_all := by decide +kernel
theorem uw_X3 : ∀ w ∈ u_ws RX3 TX3 6, w ∈ cj_all := by decide +kernel
theorem uw_X4 : ∀ w ∈ u_ws RX4 TX4 2, w ∈ cj_all := by decide +kernel
theorem uw_X5 : ∀ w ∈ u_ws RX5 TX5 5, w ∈ cj_all := by decide +kernel
theorem uw_X6 : ∀ w ∈ u_ws RX6 TX6 5, w ∈ cj_all := by decide +kernel
theorem uw_X7 : ∀ w ∈ u_ws RX7 TX7 57, w ∈ cj_all := by decide +kernel
theorem ac_int : Cond.arrayClass .int ∈ cj_all := cj_at 171 (by decide +kernel) rfl
theorem ac_char : Cond.arrayClass .char ∈ cj_all := cj_at 155 (by decide +kernel) rfl
theorem ac_boolean : Cond.arrayClass .boolean ∈ cj_all := cj_at 1019 (by decide +kernel) rfl
theorem ac_long : Cond.arrayClass .long ∈ cj_all := cj_at 1344 (by decide +kernel) rfl
theorem thX3_48 : Bundle.fit "java/lang/IllegalArgumentException" = true ∧ (∀ n ∈ (["java/lang/RuntimeException", "java/lang/Exception"] : List String), Bundle.fit n = true) ∧ Cond.classLink RX3 48 "java/lang/IllegalArgumentException" ∈ cj_all ∧ Cond.initialized "java/lang/IllegalArgumentException" ∈ cj_all ∧ (RX3, 50, "the text is ill") ∈ cj_strs ∧ "java/lang/IllegalArgumentException" ∈ cj_exc ∧ (∀ w ∈ (vx_atS RX3 52 "java/lang/IllegalArgumentException" ["java/lang/RuntimeException", "java/lang/Exception"]).filter goodWord, w ∈ cj_all) ∧ (∀ w ∈ (vx_atS RX3 52 "java/lang/IllegalArgumentException" ["java/lang/RuntimeException", "java/lang/Exception"]).filter (fun w => !goodWord w), w ∈ Cond.castable "java/lang/IllegalArgumentException" "java/lang/IllegalArgumentException" :: cj_dec.map Cond.declares) ∧ (∀ w ∈ Cond.classLink RX3 48 "java/lang/IllegalArgumentException" :: Cond.initialized "java/lang/IllegalArgumentException" :: vx_atS RX3 52 "java/lang/IllegalArgumentException" ["java/lang/RuntimeException", "java/lang/Exception"], vx_ot w = true) ∧ (["java/lang/RuntimeException", "java/lang/Exception"] : List String).length ≤ 2 := ⟨by decide +kernel, by decide +kernel, cj_at 418 (by decide +kernel) rfl, cj_at 114 (by decide +kernel) rfl, by decide +kernel, by decide +kernel, by decide +kernel, by decide +kernel, by decide +kernel, by decide⟩
theorem thX6_75 : Bundle.fit "java/lang/IllegalArgumentException" = true ∧ (∀ n ∈ (["java/lang/RuntimeException", "java/lang/Exception"] : List String), Bundle.fit n = true) ∧ Cond.classLink RX6 75 "java/lang/IllegalArgumentException" ∈ cj_all ∧ Cond.initialized "java/lang/IllegalArgumentException" ∈ cj_all ∧ (RX6, 77, "a run has 0 to 500 instructions") ∈ cj_strs ∧ "java/lang/IllegalArgumentException" ∈ cj_exc ∧ (∀ w ∈ (vx_atS RX6 79 "java/lang/IllegalArgumentException" ["java/lang/RuntimeException", "java/lang/Exception"]).filter goodWord, w ∈ cj_all) ∧ (∀ w ∈ (vx_atS RX6 79 "java/lang/IllegalArgumentException" ["java/lang/RuntimeException", "java/lang/Exception"]).filter (fun w => !goodWord w), w ∈ Cond.castable "java/lang/IllegalArgumentException" "java/lang/IllegalArgumentException" :: cj_dec.map Cond.declares) ∧ (∀ w ∈ Cond.classLink RX6 75 "java/lang/IllegalArgumentException" :: Cond.initialized "java/lang/IllegalArgumentException" :: vx_atS RX6 79 "java/lang/IllegalArgumentException" ["java/lang/RuntimeException", "java/lang/Exception"], vx_ot w = true) ∧ (["java/lang/RuntimeException", "java/lang/Exception"] : List String).length ≤ 2 := ⟨by decide +kernel, by decide +kernel, cj_at 699 (by decide +kernel) rfl, cj_at 114 (by decide +kernel) rfl, by decide +kernel, by decide +kernel, by decide +kernel, by decide +kernel, by decide +kernel, by decide⟩
theorem thX6_86 : Bundle.fit "java/lang/IllegalStateException" = true ∧ (∀ n ∈ (["java/lang/RuntimeException", "java/lang/Exception"] : List String), Bundle.fit n = true) ∧ Cond.classLink RX6 86 "java/lang/IllegalStateException" ∈ cj_all ∧ Cond.initialized "java/lang/IllegalStateException" ∈ cj_all ∧ (RX6, 88, "the machine can't go on") ∈ cj_strs ∧ "java/lang/IllegalStateException" ∈ cj_exc ∧ (∀ w ∈ (vx_atS RX6 90 "java/lang/IllegalStateException" ["java/lang/RuntimeException", "java/lang/Exception"]).filter goodWord, w ∈ cj_all) ∧ (∀ w ∈ (vx_atS RX6 90 "java/lang/IllegalStateException" ["java/lang/RuntimeException", "java/lang/Exception"]).filter (fun w => !goodWord w), w ∈ Cond.castable "java/lang/IllegalStateException" "java/lang/IllegalStateException" :: cj_dec.map Cond.declares) ∧ (∀ w ∈ Cond.classLink RX6 86 "java/lang/IllegalStateException" :: Cond.initialized "java/lang/IllegalStateException" :: vx_atS RX6 90 "java/lang/IllegalStateException" ["java/lang/RuntimeException", "java/lang/Exception"], vx_ot w = true) ∧ (["java/lang/RuntimeException", "java/lang/Exception"] : List String).length ≤ 2 := ⟨by decide +kernel, by decide +kernel, cj_at 702 (by decide +kernel) rfl, cj_at 117 (by decide +kernel) rfl, by decide +kernel, by decide +kernel, by decide +kernel, by decide +kernel, by decide +kernel, by decide⟩
theorem thX6_95 : Bundle.fit "java/lang/UnsupportedOperationException" = true ∧ (∀ n ∈ (["java/lang/RuntimeException", "java/lang/Exception"] : List String), Bundle.fit n = true) ∧ Cond.classLink RX6 95 "java/lang/UnsupportedOperationException" ∈ cj_all ∧ Cond.initialized "java/lang/UnsupportedOperationException" ∈ cj_all ∧ (RX6, 97, "the machine stopped") ∈ cj_strs ∧ "java/lang/UnsupportedOperationException" ∈ cj_exc ∧ (∀ w ∈ (vx_atS RX6 99 "java/lang/UnsupportedOperationException" ["java/lang/RuntimeException", "java/lang/Exception"]).filter goodWord, w ∈ cj_all) ∧ (∀ w ∈ (vx_atS RX6 99 "java/lang/UnsupportedOperationException" ["java/lang/RuntimeException", "java/lang/Exception"]).filter (fun w => !goodWord w), w ∈ Cond.castable "java/lang/UnsupportedOperationException" "java/lang/UnsupportedOperationException" :: cj_dec.map Cond.declares) ∧ (∀ w ∈ Cond.classLink RX6 95 "java/lang/UnsupportedOperationException" :: Cond.initialized "java/lang/UnsupportedOperationException" :: vx_atS RX6 99 "java/lang/UnsupportedOperationException" ["java/lang/RuntimeException", "java/lang/Exception"], vx_ot w = true) ∧ (["java/lang/RuntimeException", "java/lang/Exception"] : List String).length ≤ 2 := ⟨by decide +kernel, by decide +kernel, cj_at 825 (by decide +kernel) rfl, cj_at 120 (by decide +kernel) rfl, by decide +kernel, by decide +kernel, by decide +kernel, by decide +kernel, by decide +kernel, by decide⟩
end
section
/-! LINKS, by program: methods as cj_M, the words of calls and fields by their places in the tables -/
def mX6_init : cj_M := (yX6_init, cX6_init, 3, none)
theorem mwX6_init : cj_mw mX6_init 1 := ⟨cj_at 125 (by decide +kernel) rfl, cj_at 104 (by decide +kernel) rfl, ⟨by decide +kernel, by decide +kernel⟩, by decide +kernel, by decide +kernel⟩
def mX3_init : cj_M := (yX3_init, cX3_init, 1, none)
theorem mwX3_init : cj_mw mX3_init 0 := ⟨cj_at 133 (by decide +kernel) rfl, cj_at 105 (by decide +kernel) rfl, ⟨by decide +kernel, by decide +kernel⟩, by decide +kernel, by decide +kernel⟩
def mX0_init : cj_M := (yX0_init, cX0_init, 1, none)
theorem mwX0_init : cj_mw mX0_init 0 := ⟨cj_at 160 (by decide +kernel) rfl, cj_at 106 (by decide +kernel) rfl, ⟨by decide +kernel, by decide +kernel⟩, by decide +kernel, by decide +kernel⟩
def mJ9_min_7cf53 : cj_M := (yJ9_min_7cf53, cJ9_min_7cf53, 2, (some .int))
theorem mwJ9_min_7cf53 : cj_mw mJ9_min_7cf53 2 := ⟨cj_at 174 (by decide +kernel) rfl, cj_at 107 (by decide +kernel) rfl, ⟨by decide +kernel, by decide +kernel⟩, by decide +kernel, by decide +kernel⟩
def mJ9_max_7cf53 : cj_M := (yJ9_max_7cf53, cJ9_max_7cf53, 2, (some .int))
theorem mwJ9_max_7cf53 : cj_mw mJ9_max_7cf53 2 := ⟨cj_at 177 (by decide +kernel) rfl, cj_at 107 (by decide +kernel) rfl, ⟨by decide +kernel, by decide +kernel⟩, by decide +kernel, by decide +kernel⟩
def mX1_init : cj_M := (yX1_init, cX1_init, 2, none)
theorem mwX1_init : cj_mw mX1_init 1 := ⟨cj_at 184 (by decide +kernel) rfl, cj_at 109 (by decide +kernel) rfl, ⟨by decide +kernel, by decide +kernel⟩, by decide +kernel, by decide +kernel⟩
def mX2_init : cj_M := (yX2_init, cX2_init, 3, none)
theorem mwX2_init : cj_mw mX2_init 2 := ⟨cj_at 210 (by decide +kernel) rfl, cj_at 108 (by decide +kernel) rfl, ⟨by decide +kernel, by decide +kernel⟩, by decide +kernel, by decide +kernel⟩
def mX6_write : cj_M := (yX6_write, cX6_write, 2, (some .boolean))
theorem mwX6_write : cj_mw mX6_write 1 := ⟨cj_at 263 (by decide +kernel) rfl, cj_at 104 (by decide +kernel) rfl, ⟨by decide +kernel, by decide +kernel⟩, by decide +kernel, by decide +kernel⟩
def mX6_place : cj_M := (yX6_place, cX6_place, 1, (some .int))
theorem mwX6_place : cj_mw mX6_place 0 := ⟨cj_at 267 (by decide +kernel) rfl, cj_at 104 (by decide +kernel) rfl, ⟨by decide +kernel, by decide +kernel⟩, by decide +kernel, by decide +kernel⟩
def mX6_code : cj_M := (yX6_code, cX6_code, 3, (some .int))
theorem mwX6_code : cj_mw mX6_code 2 := ⟨cj_at 271 (by decide +kernel) rfl, cj_at 104 (by decide +kernel) rfl, ⟨by decide +kernel, by decide +kernel⟩, by decide +kernel, by decide +kernel⟩
def mX0_part : cj_M := (yX0_part, cX0_part, 3, (some .int))
theorem mwX0_part : cj_mw mX0_part 2 := ⟨cj_at 275 (by decide +kernel) rfl, cj_at 106 (by decide +kernel) rfl, ⟨by decide +kernel, by decide +kernel⟩, by decide +kernel, by decide +kernel⟩
def mX6_state : cj_M := (yX6_state, cX6_state, 1, (some .int))
theorem mwX6_state : cj_mw mX6_state 0 := ⟨cj_at 279 (by decide +kernel) rfl, cj_at 104 (by decide +kernel) rfl, ⟨by decide +kernel, by decide +kernel⟩, by decide +kernel, by decide +kernel⟩
def mX2_condition : cj_M := (yX2_condition, cX2_condition, 1, (some .int))
theorem mwX2_condition : cj_mw mX2_condition 0 := ⟨cj_at 283 (by decide +kernel) rfl, cj_at 108 (by decide +kernel) rfl, ⟨by decide +kernel, by decide +kernel⟩, by decide +kernel, by decide +kernel⟩
def mX6_why : cj_M := (yX6_why, cX6_why, 1, (some .int))
theorem mwX6_why : cj_mw mX6_why 0 := ⟨cj_at 287 (by decide +kernel) rfl, cj_at 104 (by decide +kernel) rfl, ⟨by decide +kernel, by decide +kernel⟩, by decide +kernel, by decide +kernel⟩
def mX6_next : cj_M := (yX6_next, cX6_next, 1, (some .int))
theorem mwX6_next : cj_mw mX6_next 0 := ⟨cj_at 291 (by decide +kernel) rfl, cj_at 104 (by decide +kernel) rfl, ⟨by decide +kernel, by decide +kernel⟩, by decide +kernel, by decide +kernel⟩
def mX6_depth : cj_M := (yX6_depth, cX6_depth, 1, (some .int))
theorem mwX6_depth : cj_mw mX6_depth 0 := ⟨cj_at 295 (by decide +kernel) rfl, cj_at 104 (by decide +kernel) rfl, ⟨by decide +kernel, by decide +kernel⟩, by decide +kernel, by decide +kernel⟩
def mX6_used : cj_M := (yX6_used, cX6_used, 1, (some .int))
theorem mwX6_used : cj_mw mX6_used 0 := ⟨cj_at 299 (by decide +kernel) rfl, cj_at 104 (by decide +kernel) rfl, ⟨by decide +kernel, by decide +kernel⟩, by decide +kernel, by decide +kernel⟩
def mX6_live : cj_M := (yX6_live, cX6_live, 1, (some .int))
theorem mwX6_live : cj_mw mX6_live 0 := ⟨cj_at 303 (by decide +kernel) rfl, cj_at 104 (by decide +kernel) rfl, ⟨by decide +kernel, by decide +kernel⟩, by decide +kernel, by decide +kernel⟩
def mX2_copyReachable : cj_M := (yX2_copyReachable, cX2_copyReachable, 2, (some .int))
theorem mwX2_copyReachable : cj_mw mX2_copyReachable 0 := ⟨cj_at 307 (by decide +kernel) rfl, cj_at 108 (by decide +kernel) rfl, ⟨by decide +kernel, by decide +kernel⟩, by decide +kernel, by decide +kernel⟩
def mX1_beginCopy : cj_M := (yX1_beginCopy, cX1_beginCopy, 1, none)
theorem mwX1_beginCopy : cj_mw mX1_beginCopy 0 := ⟨cj_at 311 (by decide +kernel) rfl, cj_at 109 (by decide +kernel) rfl, ⟨by decide +kernel, by decide +kernel⟩, by decide +kernel, by decide +kernel⟩
def mJ7_fill_53178 : cj_M := (yJ7_fill_53178, cJ7_fill_53178, 4, none)
theorem mwJ7_fill_53178 : cj_mw mJ7_fill_53178 2 := ⟨cj_at 314 (by decide +kernel) rfl, cj_at 118 (by decide +kernel) rfl, ⟨by decide +kernel, by decide +kernel⟩, by decide +kernel, by decide +kernel⟩
def mX1_copy : cj_M := (yX1_copy, cX1_copy, 4, (some .int))
theorem mwX1_copy : cj_mw mX1_copy 1 := ⟨cj_at 318 (by decide +kernel) rfl, cj_at 109 (by decide +kernel) rfl, ⟨by decide +kernel, by decide +kernel⟩, by decide +kernel, by decide +kernel⟩
def mX1_isPointer : cj_M := (yX1_isPointer, cX1_isPointer, 2, (some .boolean))
theorem mwX1_isPointer : cj_mw mX1_isPointer 1 := ⟨cj_at 322 (by decide +kernel) rfl, cj_at 109 (by decide +kernel) rfl, ⟨by decide +kernel, by decide +kernel⟩, by decide +kernel, by decide +kernel⟩
def mX1_copyTheRest : cj_M := (yX1_copyTheRest, cX1_copyTheRest, 4, none)
theorem mwX1_copyTheRest : cj_mw mX1_copyTheRest 0 := ⟨cj_at 329 (by decide +kernel) rfl, cj_at 109 (by decide +kernel) rfl, ⟨by decide +kernel, by decide +kernel⟩, by decide +kernel, by decide +kernel⟩
def mX6_collections : cj_M := (yX6_collections, cX6_collections, 1, (some .int))
theorem mwX6_collections : cj_mw mX6_collections 0 := ⟨cj_at 335 (by decide +kernel) rfl, cj_at 104 (by decide +kernel) rfl, ⟨by decide +kernel, by decide +kernel⟩, by decide +kernel, by decide +kernel⟩
def mX6_kind : cj_M := (yX6_kind, cX6_kind, 2, (some .int))
theorem mwX6_kind : cj_mw mX6_kind 1 := ⟨cj_at 339 (by decide +kernel) rfl, cj_at 104 (by decide +kernel) rfl, ⟨by decide +kernel, by decide +kernel⟩, by decide +kernel, by decide +kernel⟩
def mX2_wordAt : cj_M := (yX2_wordAt, cX2_wordAt, 5, (some .int))
theorem mwX2_wordAt : cj_mw mX2_wordAt 1 := ⟨cj_at 343 (by decide +kernel) rfl, cj_at 108 (by decide +kernel) rfl, ⟨by decide +kernel, by decide +kernel⟩, by decide +kernel, by decide +kernel⟩
def mX1_constructorOf : cj_M := (yX1_constructorOf, cX1_constructorOf, 3, (some .int))
theorem mwX1_constructorOf : cj_mw mX1_constructorOf 1 := ⟨cj_at 347 (by decide +kernel) rfl, cj_at 109 (by decide +kernel) rfl, ⟨by decide +kernel, by decide +kernel⟩, by decide +kernel, by decide +kernel⟩
def mX6_isTag : cj_M := (yX6_isTag, cX6_isTag, 1, (some .boolean))
theorem mwX6_isTag : cj_mw mX6_isTag 1 := ⟨cj_at 350 (by decide +kernel) rfl, cj_at 104 (by decide +kernel) rfl, ⟨by decide +kernel, by decide +kernel⟩, by decide +kernel, by decide +kernel⟩
def mX6_tagOf : cj_M := (yX6_tagOf, cX6_tagOf, 1, (some .int))
theorem mwX6_tagOf : cj_mw mX6_tagOf 1 := ⟨cj_at 353 (by decide +kernel) rfl, cj_at 104 (by decide +kernel) rfl, ⟨by decide +kernel, by decide +kernel⟩, by decide +kernel, by decide +kernel⟩
def mX1_blockKind : cj_M := (yX1_blockKind, cX1_blockKind, 2, (some .int))
theorem mwX1_blockKind : cj_mw mX1_blockKind 1 := ⟨cj_at 357 (by decide +kernel) rfl, cj_at 109 (by decide +kernel) rfl, ⟨by decide +kernel, by decide +kernel⟩, by decide +kernel, by decide +kernel⟩
def mX1_wordOf : cj_M := (yX1_wordOf, cX1_wordOf, 4, (some .int))
theorem mwX1_wordOf : cj_mw mX1_wordOf 2 := ⟨cj_at 361 (by decide +kernel) rfl, cj_at 109 (by decide +kernel) rfl, ⟨by decide +kernel, by decide +kernel⟩, by decide +kernel, by decide +kernel⟩
def mX1_blockWords : cj_M := (yX1_blockWords, cX1_blockWords, 2, (some .int))
theorem mwX1_blockWords : cj_mw mX1_blockWords 1 := ⟨cj_at 365 (by decide +kernel) rfl, cj_at 109 (by decide +kernel) rfl, ⟨by decide +kernel, by decide +kernel⟩, by decide +kernel, by decide +kernel⟩
def mX1_sort : cj_M := (yX1_sort, cX1_sort, 2, (some .int))
theorem mwX1_sort : cj_mw mX1_sort 1 := ⟨cj_at 369 (by decide +kernel) rfl, cj_at 109 (by decide +kernel) rfl, ⟨by decide +kernel, by decide +kernel⟩, by decide +kernel, by decide +kernel⟩
def mX6_isInt : cj_M := (yX6_isInt, cX6_isInt, 1, (some .boolean))
theorem mwX6_isInt : cj_mw mX6_isInt 1 := ⟨cj_at 372 (by decide +kernel) rfl, cj_at 104 (by decide +kernel) rfl, ⟨by decide +kernel, by decide +kernel⟩, by decide +kernel, by decide +kernel⟩
def mX1_isFunction : cj_M := (yX1_isFunction, cX1_isFunction, 3, (some .boolean))
theorem mwX1_isFunction : cj_mw mX1_isFunction 1 := ⟨cj_at 377 (by decide +kernel) rfl, cj_at 109 (by decide +kernel) rfl, ⟨by decide +kernel, by decide +kernel⟩, by decide +kernel, by decide +kernel⟩
def mX6_value : cj_M := (yX6_value, cX6_value, 2, (some .int))
theorem mwX6_value : cj_mw mX6_value 1 := ⟨cj_at 381 (by decide +kernel) rfl, cj_at 104 (by decide +kernel) rfl, ⟨by decide +kernel, by decide +kernel⟩, by decide +kernel, by decide +kernel⟩
def mX1_meaning : cj_M := (yX1_meaning, cX1_meaning, 2, (some .int))
theorem mwX1_meaning : cj_mw mX1_meaning 1 := ⟨cj_at 385 (by decide +kernel) rfl, cj_at 109 (by decide +kernel) rfl, ⟨by decide +kernel, by decide +kernel⟩, by decide +kernel, by decide +kernel⟩
def mX6_intOf : cj_M := (yX6_intOf, cX6_intOf, 1, (some .int))
theorem mwX6_intOf : cj_mw mX6_intOf 1 := ⟨cj_at 389 (by decide +kernel) rfl, cj_at 104 (by decide +kernel) rfl, ⟨by decide +kernel, by decide +kernel⟩, by decide +kernel, by decide +kernel⟩
def mL_cell : cj_M := (yL_cell, cL_cell, 2, (some .int))
theorem mwL_cell : cj_mw mL_cell 2 := ⟨cj_at 393 (by decide +kernel) rfl, cj_at 103 (by decide +kernel) rfl, ⟨by decide +kernel, by decide +kernel⟩, by decide +kernel, by decide +kernel⟩
def mX6_compile : cj_M := (yX6_compile, cX6_compile, 3, (some .int))
theorem mwX6_compile : cj_mw mX6_compile 0 := ⟨cj_at 401 (by decide +kernel) rfl, cj_at 104 (by decide +kernel) rfl, ⟨by decide +kernel, by decide +kernel⟩, by decide +kernel, by decide +kernel⟩
def mX3_read : cj_M := (yX3_read, cX3_read, 4, (some (.object "ClosureHeap$Row")))
theorem mwX3_read : cj_mw mX3_read 2 := ⟨cj_at 405 (by decide +kernel) rfl, cj_at 105 (by decide +kernel) rfl, ⟨by decide +kernel, by decide +kernel⟩, by decide +kernel, by decide +kernel⟩
def mX3_leaveOutBlanks : cj_M := (yX3_leaveOutBlanks, cX3_leaveOutBlanks, 4, none)
theorem mwX3_leaveOutBlanks : cj_mw mX3_leaveOutBlanks 2 := ⟨cj_at 409 (by decide +kernel) rfl, cj_at 105 (by decide +kernel) rfl, ⟨by decide +kernel, by decide +kernel⟩, by decide +kernel, by decide +kernel⟩
def mX3_expression : cj_M := (yX3_expression, cX3_expression, 6, (some (.object "ClosureHeap$Row")))
theorem mwX3_expression : cj_mw mX3_expression 1 := ⟨cj_at 413 (by decide +kernel) rfl, cj_at 105 (by decide +kernel) rfl, ⟨by decide +kernel, by decide +kernel⟩, by decide +kernel, by decide +kernel⟩
def mX3_refuse : cj_M := (yX3_refuse, cX3_refuse, 1, none)
theorem mwX3_refuse : cj_mw mX3_refuse 0 := ⟨cj_at 417 (by decide +kernel) rfl, cj_at 105 (by decide +kernel) rfl, ⟨by decide +kernel, by decide +kernel⟩, by decide +kernel, by decide +kernel⟩
def mX4_init : cj_M := (yX4_init, cX4_init, 1, none)
theorem mwX4_init : cj_mw mX4_init 0 := ⟨cj_at 490 (by decide +kernel) rfl, cj_at 115 (by decide +kernel) rfl, ⟨by decide +kernel, by decide +kernel⟩, by decide +kernel, by decide +kernel⟩
def mX3_beginsHead : cj_M := (yX3_beginsHead, cX3_beginsHead, 2, (some .boolean))
theorem mwX3_beginsHead : cj_mw mX3_beginsHead 0 := ⟨cj_at 503 (by decide +kernel) rfl, cj_at 105 (by decide +kernel) rfl, ⟨by decide +kernel, by decide +kernel⟩, by decide +kernel, by decide +kernel⟩
def mX3_peek : cj_M := (yX3_peek, cX3_peek, 1, (some .char))
theorem mwX3_peek : cj_mw mX3_peek 0 := ⟨cj_at 507 (by decide +kernel) rfl, cj_at 105 (by decide +kernel) rfl, ⟨by decide +kernel, by decide +kernel⟩, by decide +kernel, by decide +kernel⟩
def mX3_characterAt : cj_M := (yX3_characterAt, cX3_characterAt, 2, (some .char))
theorem mwX3_characterAt : cj_mw mX3_characterAt 1 := ⟨cj_at 511 (by decide +kernel) rfl, cj_at 105 (by decide +kernel) rfl, ⟨by decide +kernel, by decide +kernel⟩, by decide +kernel, by decide +kernel⟩
def mX3_isName : cj_M := (yX3_isName, cX3_isName, 1, (some .boolean))
theorem mwX3_isName : cj_mw mX3_isName 1 := ⟨cj_at 514 (by decide +kernel) rfl, cj_at 105 (by decide +kernel) rfl, ⟨by decide +kernel, by decide +kernel⟩, by decide +kernel, by decide +kernel⟩
def mX3_head : cj_M := (yX3_head, cX3_head, 5, none)
theorem mwX3_head : cj_mw mX3_head 3 := ⟨cj_at 518 (by decide +kernel) rfl, cj_at 105 (by decide +kernel) rfl, ⟨by decide +kernel, by decide +kernel⟩, by decide +kernel, by decide +kernel⟩
def mX3_function : cj_M := (yX3_function, cX3_function, 4, none)
theorem mwX3_function : cj_mw mX3_function 2 := ⟨cj_at 522 (by decide +kernel) rfl, cj_at 105 (by decide +kernel) rfl, ⟨by decide +kernel, by decide +kernel⟩, by decide +kernel, by decide +kernel⟩
def mX3_takeName : cj_M := (yX3_takeName, cX3_takeName, 2, (some .char))
theorem mwX3_takeName : cj_mw mX3_takeName 0 := ⟨cj_at 526 (by decide +kernel) rfl, cj_at 105 (by decide +kernel) rfl, ⟨by decide +kernel, by decide +kernel⟩, by decide +kernel, by decide +kernel⟩
def mX3_bind : cj_M := (yX3_bind, cX3_bind, 2, none)
theorem mwX3_bind : cj_mw mX3_bind 1 := ⟨cj_at 530 (by decide +kernel) rfl, cj_at 105 (by decide +kernel) rfl, ⟨by decide +kernel, by decide +kernel⟩, by decide +kernel, by decide +kernel⟩
def mX3_label : cj_M := (yX3_label, cX3_label, 0, (some (.object "ClosureHeap$Step")))
theorem mwX3_label : cj_mw mX3_label 0 := ⟨cj_at 533 (by decide +kernel) rfl, cj_at 105 (by decide +kernel) rfl, ⟨by decide +kernel, by decide +kernel⟩, by decide +kernel, by decide +kernel⟩
def mX5_init : cj_M := (yX5_init, cX5_init, 4, none)
theorem mwX5_init : cj_mw mX5_init 3 := ⟨cj_at 538 (by decide +kernel) rfl, cj_at 116 (by decide +kernel) rfl, ⟨by decide +kernel, by decide +kernel⟩, by decide +kernel, by decide +kernel⟩
def mX3_openFunction : cj_M := (yX3_openFunction, cX3_openFunction, 5, none)
theorem mwX3_openFunction : cj_mw mX3_openFunction 3 := ⟨cj_at 568 (by decide +kernel) rfl, cj_at 105 (by decide +kernel) rfl, ⟨by decide +kernel, by decide +kernel⟩, by decide +kernel, by decide +kernel⟩
def mX4_add : cj_M := (yX4_add, cX4_add, 2, none)
theorem mwX4_add : cj_mw mX4_add 1 := ⟨cj_at 572 (by decide +kernel) rfl, cj_at 115 (by decide +kernel) rfl, ⟨by decide +kernel, by decide +kernel⟩, by decide +kernel, by decide +kernel⟩
def mX4_addFirst : cj_M := (yX4_addFirst, cX4_addFirst, 2, none)
theorem mwX4_addFirst : cj_mw mX4_addFirst 1 := ⟨cj_at 576 (by decide +kernel) rfl, cj_at 115 (by decide +kernel) rfl, ⟨by decide +kernel, by decide +kernel⟩, by decide +kernel, by decide +kernel⟩
def mX3_boundFunction : cj_M := (yX3_boundFunction, cX3_boundFunction, 7, none)
theorem mwX3_boundFunction : cj_mw mX3_boundFunction 3 := ⟨cj_at 580 (by decide +kernel) rfl, cj_at 105 (by decide +kernel) rfl, ⟨by decide +kernel, by decide +kernel⟩, by decide +kernel, by decide +kernel⟩
def mX3_expect : cj_M := (yX3_expect, cX3_expect, 2, none)
theorem mwX3_expect : cj_mw mX3_expect 1 := ⟨cj_at 584 (by decide +kernel) rfl, cj_at 105 (by decide +kernel) rfl, ⟨by decide +kernel, by decide +kernel⟩, by decide +kernel, by decide +kernel⟩
def mX4_append : cj_M := (yX4_append, cX4_append, 2, none)
theorem mwX4_append : cj_mw mX4_append 1 := ⟨cj_at 588 (by decide +kernel) rfl, cj_at 115 (by decide +kernel) rfl, ⟨by decide +kernel, by decide +kernel⟩, by decide +kernel, by decide +kernel⟩
def mX4_add_ : cj_M := (yX4_add_, cX4_add_, 3, none)
theorem mwX4_add_ : cj_mw mX4_add_ 2 := ⟨cj_at 592 (by decide +kernel) rfl, cj_at 115 (by decide +kernel) rfl, ⟨by decide +kernel, by decide +kernel⟩, by decide +kernel, by decide +kernel⟩
def mX3_boundValue : cj_M := (yX3_boundValue, cX3_boundValue, 5, none)
theorem mwX3_boundValue : cj_mw mX3_boundValue 3 := ⟨cj_at 599 (by decide +kernel) rfl, cj_at 105 (by decide +kernel) rfl, ⟨by decide +kernel, by decide +kernel⟩, by decide +kernel, by decide +kernel⟩
def mX3_match : cj_M := (yX3_match, cX3_match, 10, (some (.object "ClosureHeap$Row")))
theorem mwX3_match : cj_mw mX3_match 1 := ⟨cj_at 603 (by decide +kernel) rfl, cj_at 105 (by decide +kernel) rfl, ⟨by decide +kernel, by decide +kernel⟩, by decide +kernel, by decide +kernel⟩
def mX3_comparison : cj_M := (yX3_comparison, cX3_comparison, 4, (some (.object "ClosureHeap$Row")))
theorem mwX3_comparison : cj_mw mX3_comparison 1 := ⟨cj_at 607 (by decide +kernel) rfl, cj_at 105 (by decide +kernel) rfl, ⟨by decide +kernel, by decide +kernel⟩, by decide +kernel, by decide +kernel⟩
def mX3_sum : cj_M := (yX3_sum, cX3_sum, 4, (some (.object "ClosureHeap$Row")))
theorem mwX3_sum : cj_mw mX3_sum 1 := ⟨cj_at 611 (by decide +kernel) rfl, cj_at 105 (by decide +kernel) rfl, ⟨by decide +kernel, by decide +kernel⟩, by decide +kernel, by decide +kernel⟩
def mX3_product : cj_M := (yX3_product, cX3_product, 3, (some (.object "ClosureHeap$Row")))
theorem mwX3_product : cj_mw mX3_product 1 := ⟨cj_at 615 (by decide +kernel) rfl, cj_at 105 (by decide +kernel) rfl, ⟨by decide +kernel, by decide +kernel⟩, by decide +kernel, by decide +kernel⟩
def mX3_application : cj_M := (yX3_application, cX3_application, 6, (some (.object "ClosureHeap$Row")))
theorem mwX3_application : cj_mw mX3_application 1 := ⟨cj_at 619 (by decide +kernel) rfl, cj_at 105 (by decide +kernel) rfl, ⟨by decide +kernel, by decide +kernel⟩, by decide +kernel, by decide +kernel⟩
def mX3_atom : cj_M := (yX3_atom, cX3_atom, 4, (some (.object "ClosureHeap$Row")))
theorem mwX3_atom : cj_mw mX3_atom 1 := ⟨cj_at 623 (by decide +kernel) rfl, cj_at 105 (by decide +kernel) rfl, ⟨by decide +kernel, by decide +kernel⟩, by decide +kernel, by decide +kernel⟩
def mX3_isDigit : cj_M := (yX3_isDigit, cX3_isDigit, 1, (some .boolean))
theorem mwX3_isDigit : cj_mw mX3_isDigit 1 := ⟨cj_at 626 (by decide +kernel) rfl, cj_at 105 (by decide +kernel) rfl, ⟨by decide +kernel, by decide +kernel⟩, by decide +kernel, by decide +kernel⟩
def mX3_numeral : cj_M := (yX3_numeral, cX3_numeral, 3, (some (.object "ClosureHeap$Row")))
theorem mwX3_numeral : cj_mw mX3_numeral 0 := ⟨cj_at 630 (by decide +kernel) rfl, cj_at 105 (by decide +kernel) rfl, ⟨by decide +kernel, by decide +kernel⟩, by decide +kernel, by decide +kernel⟩
def mX3_rowOf : cj_M := (yX3_rowOf, cX3_rowOf, 3, (some (.object "ClosureHeap$Row")))
theorem mwX3_rowOf : cj_mw mX3_rowOf 2 := ⟨cj_at 633 (by decide +kernel) rfl, cj_at 105 (by decide +kernel) rfl, ⟨by decide +kernel, by decide +kernel⟩, by decide +kernel, by decide +kernel⟩
def mX3_access : cj_M := (yX3_access, cX3_access, 2, (some (.object "ClosureHeap$Row")))
theorem mwX3_access : cj_mw mX3_access 0 := ⟨cj_at 637 (by decide +kernel) rfl, cj_at 105 (by decide +kernel) rfl, ⟨by decide +kernel, by decide +kernel⟩, by decide +kernel, by decide +kernel⟩
def mX3_furtherOn : cj_M := (yX3_furtherOn, cX3_furtherOn, 3, (some .int))
theorem mwX3_furtherOn : cj_mw mX3_furtherOn 1 := ⟨cj_at 641 (by decide +kernel) rfl, cj_at 105 (by decide +kernel) rfl, ⟨by decide +kernel, by decide +kernel⟩, by decide +kernel, by decide +kernel⟩
def mX3_isConstructor : cj_M := (yX3_isConstructor, cX3_isConstructor, 1, (some .boolean))
theorem mwX3_isConstructor : cj_mw mX3_isConstructor 1 := ⟨cj_at 644 (by decide +kernel) rfl, cj_at 105 (by decide +kernel) rfl, ⟨by decide +kernel, by decide +kernel⟩, by decide +kernel, by decide +kernel⟩
def mX3_construction : cj_M := (yX3_construction, cX3_construction, 6, (some (.object "ClosureHeap$Row")))
theorem mwX3_construction : cj_mw mX3_construction 1 := ⟨cj_at 648 (by decide +kernel) rfl, cj_at 105 (by decide +kernel) rfl, ⟨by decide +kernel, by decide +kernel⟩, by decide +kernel, by decide +kernel⟩
def mX3_takeTagNotIn : cj_M := (yX3_takeTagNotIn, cX3_takeTagNotIn, 4, (some .int))
theorem mwX3_takeTagNotIn : cj_mw mX3_takeTagNotIn 1 := ⟨cj_at 652 (by decide +kernel) rfl, cj_at 105 (by decide +kernel) rfl, ⟨by decide +kernel, by decide +kernel⟩, by decide +kernel, by decide +kernel⟩
def mX6_fieldsOf : cj_M := (yX6_fieldsOf, cX6_fieldsOf, 1, (some .int))
theorem mwX6_fieldsOf : cj_mw mX6_fieldsOf 1 := ⟨cj_at 655 (by decide +kernel) rfl, cj_at 104 (by decide +kernel) rfl, ⟨by decide +kernel, by decide +kernel⟩, by decide +kernel, by decide +kernel⟩
def mX3_beginsAtom : cj_M := (yX3_beginsAtom, cX3_beginsAtom, 1, (some .boolean))
theorem mwX3_beginsAtom : cj_mw mX3_beginsAtom 1 := ⟨cj_at 658 (by decide +kernel) rfl, cj_at 105 (by decide +kernel) rfl, ⟨by decide +kernel, by decide +kernel⟩, by decide +kernel, by decide +kernel⟩
def mX4_operate : cj_M := (yX4_operate, cX4_operate, 3, none)
theorem mwX4_operate : cj_mw mX4_operate 2 := ⟨cj_at 662 (by decide +kernel) rfl, cj_at 115 (by decide +kernel) rfl, ⟨by decide +kernel, by decide +kernel⟩, by decide +kernel, by decide +kernel⟩
def mX3_caseBody : cj_M := (yX3_caseBody, cX3_caseBody, 9, none)
theorem mwX3_caseBody : cj_mw mX3_caseBody 4 := ⟨cj_at 668 (by decide +kernel) rfl, cj_at 105 (by decide +kernel) rfl, ⟨by decide +kernel, by decide +kernel⟩, by decide +kernel, by decide +kernel⟩
def mX0_replaceBy : cj_M := (yX0_replaceBy, cX0_replaceBy, 4, (some .boolean))
theorem mwX0_replaceBy : cj_mw mX0_replaceBy 1 := ⟨cj_at 672 (by decide +kernel) rfl, cj_at 106 (by decide +kernel) rfl, ⟨by decide +kernel, by decide +kernel⟩, by decide +kernel, by decide +kernel⟩
def mX4_countPlaces : cj_M := (yX4_countPlaces, cX4_countPlaces, 3, (some .int))
theorem mwX4_countPlaces : cj_mw mX4_countPlaces 0 := ⟨cj_at 676 (by decide +kernel) rfl, cj_at 115 (by decide +kernel) rfl, ⟨by decide +kernel, by decide +kernel⟩, by decide +kernel, by decide +kernel⟩
def mX0_store : cj_M := (yX0_store, cX0_store, 5, none)
theorem mwX0_store : cj_mw mX0_store 1 := ⟨cj_at 680 (by decide +kernel) rfl, cj_at 106 (by decide +kernel) rfl, ⟨by decide +kernel, by decide +kernel⟩, by decide +kernel, by decide +kernel⟩
def mX2_beginAnew : cj_M := (yX2_beginAnew, cX2_beginAnew, 1, none)
theorem mwX2_beginAnew : cj_mw mX2_beginAnew 0 := ⟨cj_at 685 (by decide +kernel) rfl, cj_at 108 (by decide +kernel) rfl, ⟨by decide +kernel, by decide +kernel⟩, by decide +kernel, by decide +kernel⟩
def mX1_clear : cj_M := (yX1_clear, cX1_clear, 1, none)
theorem mwX1_clear : cj_mw mX1_clear 0 := ⟨cj_at 689 (by decide +kernel) rfl, cj_at 109 (by decide +kernel) rfl, ⟨by decide +kernel, by decide +kernel⟩, by decide +kernel, by decide +kernel⟩
def mX6_run : cj_M := (yX6_run, cX6_run, 3, (some .int))
theorem mwX6_run : cj_mw mX6_run 1 := ⟨cj_at 698 (by decide +kernel) rfl, cj_at 104 (by decide +kernel) rfl, ⟨by decide +kernel, by decide +kernel⟩, by decide +kernel, by decide +kernel⟩
def mX2_doUpTo : cj_M := (yX2_doUpTo, cX2_doUpTo, 5, (some .int))
theorem mwX2_doUpTo : cj_mw mX2_doUpTo 1 := ⟨cj_at 721 (by decide +kernel) rfl, cj_at 108 (by decide +kernel) rfl, ⟨by decide +kernel, by decide +kernel⟩, by decide +kernel, by decide +kernel⟩
def mX2_hindrance : cj_M := (yX2_hindrance, cX2_hindrance, 4, (some .int))
theorem mwX2_hindrance : cj_mw mX2_hindrance 2 := ⟨cj_at 726 (by decide +kernel) rfl, cj_at 108 (by decide +kernel) rfl, ⟨by decide +kernel, by decide +kernel⟩, by decide +kernel, by decide +kernel⟩
def mX2_isWrong : cj_M := (yX2_isWrong, cX2_isWrong, 3, (some .boolean))
theorem mwX2_isWrong : cj_mw mX2_isWrong 2 := ⟨cj_at 730 (by decide +kernel) rfl, cj_at 108 (by decide +kernel) rfl, ⟨by decide +kernel, by decide +kernel⟩, by decide +kernel, by decide +kernel⟩
def mX2_top : cj_M := (yX2_top, cX2_top, 1, (some .int))
theorem mwX2_top : cj_mw mX2_top 0 := ⟨cj_at 734 (by decide +kernel) rfl, cj_at 108 (by decide +kernel) rfl, ⟨by decide +kernel, by decide +kernel⟩, by decide +kernel, by decide +kernel⟩
def mX2_placeOfCase : cj_M := (yX2_placeOfCase, cX2_placeOfCase, 4, (some .int))
theorem mwX2_placeOfCase : cj_mw mX2_placeOfCase 1 := ⟨cj_at 739 (by decide +kernel) rfl, cj_at 108 (by decide +kernel) rfl, ⟨by decide +kernel, by decide +kernel⟩, by decide +kernel, by decide +kernel⟩
def mX2_growth : cj_M := (yX2_growth, cX2_growth, 1, (some .int))
theorem mwX2_growth : cj_mw mX2_growth 1 := ⟨cj_at 744 (by decide +kernel) rfl, cj_at 108 (by decide +kernel) rfl, ⟨by decide +kernel, by decide +kernel⟩, by decide +kernel, by decide +kernel⟩
def mX2_wordsMade : cj_M := (yX2_wordsMade, cX2_wordsMade, 3, (some .int))
theorem mwX2_wordsMade : cj_mw mX2_wordsMade 2 := ⟨cj_at 748 (by decide +kernel) rfl, cj_at 108 (by decide +kernel) rfl, ⟨by decide +kernel, by decide +kernel⟩, by decide +kernel, by decide +kernel⟩
def mX1_hasRoomFor : cj_M := (yX1_hasRoomFor, cX1_hasRoomFor, 2, (some .boolean))
theorem mwX1_hasRoomFor : cj_mw mX1_hasRoomFor 1 := ⟨cj_at 754 (by decide +kernel) rfl, cj_at 109 (by decide +kernel) rfl, ⟨by decide +kernel, by decide +kernel⟩, by decide +kernel, by decide +kernel⟩
def mX2_collect : cj_M := (yX2_collect, cX2_collect, 2, none)
theorem mwX2_collect : cj_mw mX2_collect 0 := ⟨cj_at 758 (by decide +kernel) rfl, cj_at 108 (by decide +kernel) rfl, ⟨by decide +kernel, by decide +kernel⟩, by decide +kernel, by decide +kernel⟩
def mX1_useOtherHalf : cj_M := (yX1_useOtherHalf, cX1_useOtherHalf, 2, none)
theorem mwX1_useOtherHalf : cj_mw mX1_useOtherHalf 0 := ⟨cj_at 763 (by decide +kernel) rfl, cj_at 109 (by decide +kernel) rfl, ⟨by decide +kernel, by decide +kernel⟩, by decide +kernel, by decide +kernel⟩
def mX2_perform : cj_M := (yX2_perform, cX2_perform, 4, none)
theorem mwX2_perform : cj_mw mX2_perform 2 := ⟨cj_at 767 (by decide +kernel) rfl, cj_at 108 (by decide +kernel) rfl, ⟨by decide +kernel, by decide +kernel⟩, by decide +kernel, by decide +kernel⟩
def mX6_wordOfInt : cj_M := (yX6_wordOfInt, cX6_wordOfInt, 1, (some .int))
theorem mwX6_wordOfInt : cj_mw mX6_wordOfInt 1 := ⟨cj_at 770 (by decide +kernel) rfl, cj_at 104 (by decide +kernel) rfl, ⟨by decide +kernel, by decide +kernel⟩, by decide +kernel, by decide +kernel⟩
def mX2_furtherOn : cj_M := (yX2_furtherOn, cX2_furtherOn, 4, (some .int))
theorem mwX2_furtherOn : cj_mw mX2_furtherOn 1 := ⟨cj_at 774 (by decide +kernel) rfl, cj_at 108 (by decide +kernel) rfl, ⟨by decide +kernel, by decide +kernel⟩, by decide +kernel, by decide +kernel⟩
def mX2_push : cj_M := (yX2_push, cX2_push, 2, none)
theorem mwX2_push : cj_mw mX2_push 1 := ⟨cj_at 778 (by decide +kernel) rfl, cj_at 108 (by decide +kernel) rfl, ⟨by decide +kernel, by decide +kernel⟩, by decide +kernel, by decide +kernel⟩
def mX1_putPair : cj_M := (yX1_putPair, cX1_putPair, 5, (some .int))
theorem mwX1_putPair : cj_mw mX1_putPair 3 := ⟨cj_at 782 (by decide +kernel) rfl, cj_at 109 (by decide +kernel) rfl, ⟨by decide +kernel, by decide +kernel⟩, by decide +kernel, by decide +kernel⟩
def mX1_beginBlock : cj_M := (yX1_beginBlock, cX1_beginBlock, 4, (some .int))
theorem mwX1_beginBlock : cj_mw mX1_beginBlock 2 := ⟨cj_at 786 (by decide +kernel) rfl, cj_at 109 (by decide +kernel) rfl, ⟨by decide +kernel, by decide +kernel⟩, by decide +kernel, by decide +kernel⟩
def mX1_put : cj_M := (yX1_put, cX1_put, 2, none)
theorem mwX1_put : cj_mw mX1_put 1 := ⟨cj_at 790 (by decide +kernel) rfl, cj_at 109 (by decide +kernel) rfl, ⟨by decide +kernel, by decide +kernel⟩, by decide +kernel, by decide +kernel⟩
def mX2_pop : cj_M := (yX2_pop, cX2_pop, 2, (some .int))
theorem mwX2_pop : cj_mw mX2_pop 0 := ⟨cj_at 794 (by decide +kernel) rfl, cj_at 108 (by decide +kernel) rfl, ⟨by decide +kernel, by decide +kernel⟩, by decide +kernel, by decide +kernel⟩
def mX2_enterFunction : cj_M := (yX2_enterFunction, cX2_enterFunction, 3, (some .int))
theorem mwX2_enterFunction : cj_mw mX2_enterFunction 1 := ⟨cj_at 800 (by decide +kernel) rfl, cj_at 108 (by decide +kernel) rfl, ⟨by decide +kernel, by decide +kernel⟩, by decide +kernel, by decide +kernel⟩
def mX2_bind : cj_M := (yX2_bind, cX2_bind, 2, none)
theorem mwX2_bind : cj_mw mX2_bind 1 := ⟨cj_at 804 (by decide +kernel) rfl, cj_at 108 (by decide +kernel) rfl, ⟨by decide +kernel, by decide +kernel⟩, by decide +kernel, by decide +kernel⟩
def mX6_wordOfTag : cj_M := (yX6_wordOfTag, cX6_wordOfTag, 1, (some .int))
theorem mwX6_wordOfTag : cj_mw mX6_wordOfTag 1 := ⟨cj_at 807 (by decide +kernel) rfl, cj_at 104 (by decide +kernel) rfl, ⟨by decide +kernel, by decide +kernel⟩, by decide +kernel, by decide +kernel⟩
def mX2_make : cj_M := (yX2_make, cX2_make, 6, none)
theorem mwX2_make : cj_mw mX2_make 1 := ⟨cj_at 811 (by decide +kernel) rfl, cj_at 108 (by decide +kernel) rfl, ⟨by decide +kernel, by decide +kernel⟩, by decide +kernel, by decide +kernel⟩
def mX2_open : cj_M := (yX2_open, cX2_open, 3, none)
theorem mwX2_open : cj_mw mX2_open 1 := ⟨cj_at 817 (by decide +kernel) rfl, cj_at 108 (by decide +kernel) rfl, ⟨by decide +kernel, by decide +kernel⟩, by decide +kernel, by decide +kernel⟩
def mX2_operate : cj_M := (yX2_operate, cX2_operate, 4, none)
theorem mwX2_operate : cj_mw mX2_operate 1 := ⟨cj_at 821 (by decide +kernel) rfl, cj_at 108 (by decide +kernel) rfl, ⟨by decide +kernel, by decide +kernel⟩, by decide +kernel, by decide +kernel⟩
def mX2_wordOfTruth : cj_M := (yX2_wordOfTruth, cX2_wordOfTruth, 1, (some .int))
theorem mwX2_wordOfTruth : cj_mw mX2_wordOfTruth 1 := ⟨cj_at 824 (by decide +kernel) rfl, cj_at 108 (by decide +kernel) rfl, ⟨by decide +kernel, by decide +kernel⟩, by decide +kernel, by decide +kernel⟩
def mX7_init : cj_M := (yX7_init, cX7_init, 2, none)
theorem mwX7_init : cj_mw mX7_init 1 := ⟨cj_at 845 (by decide +kernel) rfl, cj_at 110 (by decide +kernel) rfl, ⟨by decide +kernel, by decide +kernel⟩, by decide +kernel, by decide +kernel⟩
def mX7_thrown : cj_M := (yX7_thrown, cX7_thrown, 1, (some .int))
theorem mwX7_thrown : cj_mw mX7_thrown 0 := ⟨cj_at 1023 (by decide +kernel) rfl, cj_at 110 (by decide +kernel) rfl, ⟨by decide +kernel, by decide +kernel⟩, by decide +kernel, by decide +kernel⟩
def mX7_write : cj_M := (yX7_write, cX7_write, 2, (some .boolean))
theorem mwX7_write : cj_mw mX7_write 1 := ⟨cj_at 1027 (by decide +kernel) rfl, cj_at 110 (by decide +kernel) rfl, ⟨by decide +kernel, by decide +kernel⟩, by decide +kernel, by decide +kernel⟩
def mX7_compile : cj_M := (yX7_compile, cX7_compile, 2, (some .int))
theorem mwX7_compile : cj_mw mX7_compile 0 := ⟨cj_at 1031 (by decide +kernel) rfl, cj_at 110 (by decide +kernel) rfl, ⟨by decide +kernel, by decide +kernel⟩, by decide +kernel, by decide +kernel⟩
def mX7_readText : cj_M := (yX7_readText, cX7_readText, 1, none)
theorem mwX7_readText : cj_mw mX7_readText 0 := ⟨cj_at 1035 (by decide +kernel) rfl, cj_at 110 (by decide +kernel) rfl, ⟨by decide +kernel, by decide +kernel⟩, by decide +kernel, by decide +kernel⟩
def mX7_begin : cj_M := (yX7_begin, cX7_begin, 3, none)
theorem mwX7_begin : cj_mw mX7_begin 2 := ⟨cj_at 1039 (by decide +kernel) rfl, cj_at 110 (by decide +kernel) rfl, ⟨by decide +kernel, by decide +kernel⟩, by decide +kernel, by decide +kernel⟩
def mX7_completed : cj_M := (yX7_completed, cX7_completed, 5, none)
theorem mwX7_completed : cj_mw mX7_completed 1 := ⟨cj_at 1043 (by decide +kernel) rfl, cj_at 110 (by decide +kernel) rfl, ⟨by decide +kernel, by decide +kernel⟩, by decide +kernel, by decide +kernel⟩
def mX7_node : cj_M := (yX7_node, cX7_node, 4, (some .int))
theorem mwX7_node : cj_mw mX7_node 2 := ⟨cj_at 1047 (by decide +kernel) rfl, cj_at 110 (by decide +kernel) rfl, ⟨by decide +kernel, by decide +kernel⟩, by decide +kernel, by decide +kernel⟩
def mX7_addChild : cj_M := (yX7_addChild, cX7_addChild, 4, none)
theorem mwX7_addChild : cj_mw mX7_addChild 2 := ⟨cj_at 1051 (by decide +kernel) rfl, cj_at 110 (by decide +kernel) rfl, ⟨by decide +kernel, by decide +kernel⟩, by decide +kernel, by decide +kernel⟩
def mX7_want : cj_M := (yX7_want, cX7_want, 2, none)
theorem mwX7_want : cj_mw mX7_want 1 := ⟨cj_at 1055 (by decide +kernel) rfl, cj_at 110 (by decide +kernel) rfl, ⟨by decide +kernel, by decide +kernel⟩, by decide +kernel, by decide +kernel⟩
def mX7_look : cj_M := (yX7_look, cX7_look, 1, (some .char))
theorem mwX7_look : cj_mw mX7_look 0 := ⟨cj_at 1059 (by decide +kernel) rfl, cj_at 110 (by decide +kernel) rfl, ⟨by decide +kernel, by decide +kernel⟩, by decide +kernel, by decide +kernel⟩
def mX7_bind : cj_M := (yX7_bind, cX7_bind, 2, none)
theorem mwX7_bind : cj_mw mX7_bind 1 := ⟨cj_at 1063 (by decide +kernel) rfl, cj_at 110 (by decide +kernel) rfl, ⟨by decide +kernel, by decide +kernel⟩, by decide +kernel, by decide +kernel⟩
def mX7_head : cj_M := (yX7_head, cX7_head, 3, none)
theorem mwX7_head : cj_mw mX7_head 2 := ⟨cj_at 1067 (by decide +kernel) rfl, cj_at 110 (by decide +kernel) rfl, ⟨by decide +kernel, by decide +kernel⟩, by decide +kernel, by decide +kernel⟩
def mX7_fieldEnds : cj_M := (yX7_fieldEnds, cX7_fieldEnds, 3, none)
theorem mwX7_fieldEnds : cj_mw mX7_fieldEnds 2 := ⟨cj_at 1071 (by decide +kernel) rfl, cj_at 110 (by decide +kernel) rfl, ⟨by decide +kernel, by decide +kernel⟩, by decide +kernel, by decide +kernel⟩
def mX7_push : cj_M := (yX7_push, cX7_push, 2, none)
theorem mwX7_push : cj_mw mX7_push 1 := ⟨cj_at 1075 (by decide +kernel) rfl, cj_at 110 (by decide +kernel) rfl, ⟨by decide +kernel, by decide +kernel⟩, by decide +kernel, by decide +kernel⟩
def mX7_caseEnds : cj_M := (yX7_caseEnds, cX7_caseEnds, 1, none)
theorem mwX7_caseEnds : cj_mw mX7_caseEnds 0 := ⟨cj_at 1079 (by decide +kernel) rfl, cj_at 110 (by decide +kernel) rfl, ⟨by decide +kernel, by decide +kernel⟩, by decide +kernel, by decide +kernel⟩
def mX7_readHead : cj_M := (yX7_readHead, cX7_readHead, 3, none)
theorem mwX7_readHead : cj_mw mX7_readHead 0 := ⟨cj_at 1083 (by decide +kernel) rfl, cj_at 110 (by decide +kernel) rfl, ⟨by decide +kernel, by decide +kernel⟩, by decide +kernel, by decide +kernel⟩
def mX7_wantName : cj_M := (yX7_wantName, cX7_wantName, 2, (some .char))
theorem mwX7_wantName : cj_mw mX7_wantName 0 := ⟨cj_at 1087 (by decide +kernel) rfl, cj_at 110 (by decide +kernel) rfl, ⟨by decide +kernel, by decide +kernel⟩, by decide +kernel, by decide +kernel⟩
def mX7_isName : cj_M := (yX7_isName, cX7_isName, 1, (some .boolean))
theorem mwX7_isName : cj_mw mX7_isName 1 := ⟨cj_at 1090 (by decide +kernel) rfl, cj_at 110 (by decide +kernel) rfl, ⟨by decide +kernel, by decide +kernel⟩, by decide +kernel, by decide +kernel⟩
def mX7_behind : cj_M := (yX7_behind, cX7_behind, 1, (some .char))
theorem mwX7_behind : cj_mw mX7_behind 0 := ⟨cj_at 1094 (by decide +kernel) rfl, cj_at 110 (by decide +kernel) rfl, ⟨by decide +kernel, by decide +kernel⟩, by decide +kernel, by decide +kernel⟩
def mX7_readFix : cj_M := (yX7_readFix, cX7_readFix, 4, none)
theorem mwX7_readFix : cj_mw mX7_readFix 0 := ⟨cj_at 1098 (by decide +kernel) rfl, cj_at 110 (by decide +kernel) rfl, ⟨by decide +kernel, by decide +kernel⟩, by decide +kernel, by decide +kernel⟩
def mX7_readAtom : cj_M := (yX7_readAtom, cX7_readAtom, 3, none)
theorem mwX7_readAtom : cj_mw mX7_readAtom 0 := ⟨cj_at 1102 (by decide +kernel) rfl, cj_at 110 (by decide +kernel) rfl, ⟨by decide +kernel, by decide +kernel⟩, by decide +kernel, by decide +kernel⟩
def mX7_isDigit : cj_M := (yX7_isDigit, cX7_isDigit, 1, (some .boolean))
theorem mwX7_isDigit : cj_mw mX7_isDigit 1 := ⟨cj_at 1105 (by decide +kernel) rfl, cj_at 110 (by decide +kernel) rfl, ⟨by decide +kernel, by decide +kernel⟩, by decide +kernel, by decide +kernel⟩
def mX7_readNumeral : cj_M := (yX7_readNumeral, cX7_readNumeral, 3, none)
theorem mwX7_readNumeral : cj_mw mX7_readNumeral 0 := ⟨cj_at 1109 (by decide +kernel) rfl, cj_at 110 (by decide +kernel) rfl, ⟨by decide +kernel, by decide +kernel⟩, by decide +kernel, by decide +kernel⟩
def mX7_readName : cj_M := (yX7_readName, cX7_readName, 2, none)
theorem mwX7_readName : cj_mw mX7_readName 0 := ⟨cj_at 1113 (by decide +kernel) rfl, cj_at 110 (by decide +kernel) rfl, ⟨by decide +kernel, by decide +kernel⟩, by decide +kernel, by decide +kernel⟩
def mX7_isConstructor : cj_M := (yX7_isConstructor, cX7_isConstructor, 1, (some .boolean))
theorem mwX7_isConstructor : cj_mw mX7_isConstructor 1 := ⟨cj_at 1116 (by decide +kernel) rfl, cj_at 110 (by decide +kernel) rfl, ⟨by decide +kernel, by decide +kernel⟩, by decide +kernel, by decide +kernel⟩
def mX7_readBehind : cj_M := (yX7_readBehind, cX7_readBehind, 4, none)
theorem mwX7_readBehind : cj_mw mX7_readBehind 0 := ⟨cj_at 1120 (by decide +kernel) rfl, cj_at 110 (by decide +kernel) rfl, ⟨by decide +kernel, by decide +kernel⟩, by decide +kernel, by decide +kernel⟩
def mX7_beginsAtom : cj_M := (yX7_beginsAtom, cX7_beginsAtom, 1, (some .boolean))
theorem mwX7_beginsAtom : cj_mw mX7_beginsAtom 1 := ⟨cj_at 1123 (by decide +kernel) rfl, cj_at 110 (by decide +kernel) rfl, ⟨by decide +kernel, by decide +kernel⟩, by decide +kernel, by decide +kernel⟩
def mX7_join : cj_M := (yX7_join, cX7_join, 3, none)
theorem mwX7_join : cj_mw mX7_join 2 := ⟨cj_at 1127 (by decide +kernel) rfl, cj_at 110 (by decide +kernel) rfl, ⟨by decide +kernel, by decide +kernel⟩, by decide +kernel, by decide +kernel⟩
def mX7_settle : cj_M := (yX7_settle, cX7_settle, 6, none)
theorem mwX7_settle : cj_mw mX7_settle 1 := ⟨cj_at 1131 (by decide +kernel) rfl, cj_at 110 (by decide +kernel) rfl, ⟨by decide +kernel, by decide +kernel⟩, by decide +kernel, by decide +kernel⟩
def mX7_rank : cj_M := (yX7_rank, cX7_rank, 1, (some .int))
theorem mwX7_rank : cj_mw mX7_rank 1 := ⟨cj_at 1134 (by decide +kernel) rfl, cj_at 110 (by decide +kernel) rfl, ⟨by decide +kernel, by decide +kernel⟩, by decide +kernel, by decide +kernel⟩
def mX7_readCase : cj_M := (yX7_readCase, cX7_readCase, 7, none)
theorem mwX7_readCase : cj_mw mX7_readCase 0 := ⟨cj_at 1138 (by decide +kernel) rfl, cj_at 110 (by decide +kernel) rfl, ⟨by decide +kernel, by decide +kernel⟩, by decide +kernel, by decide +kernel⟩
def mX7_childAt : cj_M := (yX7_childAt, cX7_childAt, 5, (some .int))
theorem mwX7_childAt : cj_mw mX7_childAt 2 := ⟨cj_at 1142 (by decide +kernel) rfl, cj_at 110 (by decide +kernel) rfl, ⟨by decide +kernel, by decide +kernel⟩, by decide +kernel, by decide +kernel⟩
def mX7_makeCode : cj_M := (yX7_makeCode, cX7_makeCode, 1, none)
theorem mwX7_makeCode : cj_mw mX7_makeCode 0 := ⟨cj_at 1146 (by decide +kernel) rfl, cj_at 110 (by decide +kernel) rfl, ⟨by decide +kernel, by decide +kernel⟩, by decide +kernel, by decide +kernel⟩
def mX7_todoEmit : cj_M := (yX7_todoEmit, cX7_todoEmit, 3, none)
theorem mwX7_todoEmit : cj_mw mX7_todoEmit 2 := ⟨cj_at 1150 (by decide +kernel) rfl, cj_at 110 (by decide +kernel) rfl, ⟨by decide +kernel, by decide +kernel⟩, by decide +kernel, by decide +kernel⟩
def mX7_todo : cj_M := (yX7_todo, cX7_todo, 4, none)
theorem mwX7_todo : cj_mw mX7_todo 3 := ⟨cj_at 1154 (by decide +kernel) rfl, cj_at 110 (by decide +kernel) rfl, ⟨by decide +kernel, by decide +kernel⟩, by decide +kernel, by decide +kernel⟩
def mX7_todoNode : cj_M := (yX7_todoNode, cX7_todoNode, 2, none)
theorem mwX7_todoNode : cj_mw mX7_todoNode 1 := ⟨cj_at 1158 (by decide +kernel) rfl, cj_at 110 (by decide +kernel) rfl, ⟨by decide +kernel, by decide +kernel⟩, by decide +kernel, by decide +kernel⟩
def mX7_doWork : cj_M := (yX7_doWork, cX7_doWork, 5, none)
theorem mwX7_doWork : cj_mw mX7_doWork 0 := ⟨cj_at 1162 (by decide +kernel) rfl, cj_at 110 (by decide +kernel) rfl, ⟨by decide +kernel, by decide +kernel⟩, by decide +kernel, by decide +kernel⟩
def mX7_generate : cj_M := (yX7_generate, cX7_generate, 4, none)
theorem mwX7_generate : cj_mw mX7_generate 1 := ⟨cj_at 1166 (by decide +kernel) rfl, cj_at 110 (by decide +kernel) rfl, ⟨by decide +kernel, by decide +kernel⟩, by decide +kernel, by decide +kernel⟩
def mX7_emit : cj_M := (yX7_emit, cX7_emit, 4, none)
theorem mwX7_emit : cj_mw mX7_emit 3 := ⟨cj_at 1170 (by decide +kernel) rfl, cj_at 110 (by decide +kernel) rfl, ⟨by decide +kernel, by decide +kernel⟩, by decide +kernel, by decide +kernel⟩
def mX7_generateBuilt : cj_M := (yX7_generateBuilt, cX7_generateBuilt, 3, none)
theorem mwX7_generateBuilt : cj_mw mX7_generateBuilt 1 := ⟨cj_at 1174 (by decide +kernel) rfl, cj_at 110 (by decide +kernel) rfl, ⟨by decide +kernel, by decide +kernel⟩, by decide +kernel, by decide +kernel⟩
def mX7_set : cj_M := (yX7_set, cX7_set, 4, none)
theorem mwX7_set : cj_mw mX7_set 3 := ⟨cj_at 1178 (by decide +kernel) rfl, cj_at 110 (by decide +kernel) rfl, ⟨by decide +kernel, by decide +kernel⟩, by decide +kernel, by decide +kernel⟩
def mX7_generateSwitch : cj_M := (yX7_generateSwitch, cX7_generateSwitch, 5, none)
theorem mwX7_generateSwitch : cj_mw mX7_generateSwitch 1 := ⟨cj_at 1182 (by decide +kernel) rfl, cj_at 110 (by decide +kernel) rfl, ⟨by decide +kernel, by decide +kernel⟩, by decide +kernel, by decide +kernel⟩
def mX7_endMatch : cj_M := (yX7_endMatch, cX7_endMatch, 4, none)
theorem mwX7_endMatch : cj_mw mX7_endMatch 1 := ⟨cj_at 1186 (by decide +kernel) rfl, cj_at 110 (by decide +kernel) rfl, ⟨by decide +kernel, by decide +kernel⟩, by decide +kernel, by decide +kernel⟩
def mX7_fail : cj_M := (yX7_fail, cX7_fail, 2, (some .int))
theorem mwX7_fail : cj_mw mX7_fail 1 := ⟨cj_at 1190 (by decide +kernel) rfl, cj_at 110 (by decide +kernel) rfl, ⟨by decide +kernel, by decide +kernel⟩, by decide +kernel, by decide +kernel⟩
def mX7_place : cj_M := (yX7_place, cX7_place, 1, (some .int))
theorem mwX7_place : cj_mw mX7_place 0 := ⟨cj_at 1194 (by decide +kernel) rfl, cj_at 110 (by decide +kernel) rfl, ⟨by decide +kernel, by decide +kernel⟩, by decide +kernel, by decide +kernel⟩
def mX7_code : cj_M := (yX7_code, cX7_code, 3, (some .int))
theorem mwX7_code : cj_mw mX7_code 2 := ⟨cj_at 1198 (by decide +kernel) rfl, cj_at 110 (by decide +kernel) rfl, ⟨by decide +kernel, by decide +kernel⟩, by decide +kernel, by decide +kernel⟩
def mX7_run : cj_M := (yX7_run, cX7_run, 3, (some .int))
theorem mwX7_run : cj_mw mX7_run 1 := ⟨cj_at 1202 (by decide +kernel) rfl, cj_at 110 (by decide +kernel) rfl, ⟨by decide +kernel, by decide +kernel⟩, by decide +kernel, by decide +kernel⟩
def mX7_one : cj_M := (yX7_one, cX7_one, 4, (some .int))
theorem mwX7_one : cj_mw mX7_one 0 := ⟨cj_at 1206 (by decide +kernel) rfl, cj_at 110 (by decide +kernel) rfl, ⟨by decide +kernel, by decide +kernel⟩, by decide +kernel, by decide +kernel⟩
def mX7_wrong : cj_M := (yX7_wrong, cX7_wrong, 2, (some .int))
theorem mwX7_wrong : cj_mw mX7_wrong 1 := ⟨cj_at 1210 (by decide +kernel) rfl, cj_at 110 (by decide +kernel) rfl, ⟨by decide +kernel, by decide +kernel⟩, by decide +kernel, by decide +kernel⟩
def mX7_isInt : cj_M := (yX7_isInt, cX7_isInt, 1, (some .boolean))
theorem mwX7_isInt : cj_mw mX7_isInt 1 := ⟨cj_at 1213 (by decide +kernel) rfl, cj_at 110 (by decide +kernel) rfl, ⟨by decide +kernel, by decide +kernel⟩, by decide +kernel, by decide +kernel⟩
def mX7_isFunction : cj_M := (yX7_isFunction, cX7_isFunction, 2, (some .boolean))
theorem mwX7_isFunction : cj_mw mX7_isFunction 1 := ⟨cj_at 1217 (by decide +kernel) rfl, cj_at 110 (by decide +kernel) rfl, ⟨by decide +kernel, by decide +kernel⟩, by decide +kernel, by decide +kernel⟩
def mX7_isPointer : cj_M := (yX7_isPointer, cX7_isPointer, 1, (some .boolean))
theorem mwX7_isPointer : cj_mw mX7_isPointer 1 := ⟨cj_at 1220 (by decide +kernel) rfl, cj_at 110 (by decide +kernel) rfl, ⟨by decide +kernel, by decide +kernel⟩, by decide +kernel, by decide +kernel⟩
def mX7_blockKind : cj_M := (yX7_blockKind, cX7_blockKind, 2, (some .int))
theorem mwX7_blockKind : cj_mw mX7_blockKind 1 := ⟨cj_at 1224 (by decide +kernel) rfl, cj_at 110 (by decide +kernel) rfl, ⟨by decide +kernel, by decide +kernel⟩, by decide +kernel, by decide +kernel⟩
def mX7_isBuilt : cj_M := (yX7_isBuilt, cX7_isBuilt, 2, (some .boolean))
theorem mwX7_isBuilt : cj_mw mX7_isBuilt 1 := ⟨cj_at 1228 (by decide +kernel) rfl, cj_at 110 (by decide +kernel) rfl, ⟨by decide +kernel, by decide +kernel⟩, by decide +kernel, by decide +kernel⟩
def mX7_isTag : cj_M := (yX7_isTag, cX7_isTag, 1, (some .boolean))
theorem mwX7_isTag : cj_mw mX7_isTag 1 := ⟨cj_at 1231 (by decide +kernel) rfl, cj_at 110 (by decide +kernel) rfl, ⟨by decide +kernel, by decide +kernel⟩, by decide +kernel, by decide +kernel⟩
def mX7_findCase : cj_M := (yX7_findCase, cX7_findCase, 3, (some .int))
theorem mwX7_findCase : cj_mw mX7_findCase 0 := ⟨cj_at 1235 (by decide +kernel) rfl, cj_at 110 (by decide +kernel) rfl, ⟨by decide +kernel, by decide +kernel⟩, by decide +kernel, by decide +kernel⟩
def mX7_tagOf : cj_M := (yX7_tagOf, cX7_tagOf, 2, (some .int))
theorem mwX7_tagOf : cj_mw mX7_tagOf 1 := ⟨cj_at 1239 (by decide +kernel) rfl, cj_at 110 (by decide +kernel) rfl, ⟨by decide +kernel, by decide +kernel⟩, by decide +kernel, by decide +kernel⟩
def mX7_a : cj_M := (yX7_a, cX7_a, 1, (some .int))
theorem mwX7_a : cj_mw mX7_a 0 := ⟨cj_at 1243 (by decide +kernel) rfl, cj_at 110 (by decide +kernel) rfl, ⟨by decide +kernel, by decide +kernel⟩, by decide +kernel, by decide +kernel⟩
def mX7_stop : cj_M := (yX7_stop, cX7_stop, 2, (some .int))
theorem mwX7_stop : cj_mw mX7_stop 1 := ⟨cj_at 1247 (by decide +kernel) rfl, cj_at 110 (by decide +kernel) rfl, ⟨by decide +kernel, by decide +kernel⟩, by decide +kernel, by decide +kernel⟩
def mX7_roomFor : cj_M := (yX7_roomFor, cX7_roomFor, 2, (some .int))
theorem mwX7_roomFor : cj_mw mX7_roomFor 1 := ⟨cj_at 1251 (by decide +kernel) rfl, cj_at 110 (by decide +kernel) rfl, ⟨by decide +kernel, by decide +kernel⟩, by decide +kernel, by decide +kernel⟩
def mX7_hasRoom : cj_M := (yX7_hasRoom, cX7_hasRoom, 2, (some .boolean))
theorem mwX7_hasRoom : cj_mw mX7_hasRoom 1 := ⟨cj_at 1255 (by decide +kernel) rfl, cj_at 110 (by decide +kernel) rfl, ⟨by decide +kernel, by decide +kernel⟩, by decide +kernel, by decide +kernel⟩
def mX7_collect : cj_M := (yX7_collect, cX7_collect, 5, none)
theorem mwX7_collect : cj_mw mX7_collect 0 := ⟨cj_at 1259 (by decide +kernel) rfl, cj_at 110 (by decide +kernel) rfl, ⟨by decide +kernel, by decide +kernel⟩, by decide +kernel, by decide +kernel⟩
def mX7_move : cj_M := (yX7_move, cX7_move, 6, (some .int))
theorem mwX7_move : cj_mw mX7_move 2 := ⟨cj_at 1263 (by decide +kernel) rfl, cj_at 110 (by decide +kernel) rfl, ⟨by decide +kernel, by decide +kernel⟩, by decide +kernel, by decide +kernel⟩
def mX7_blockSize : cj_M := (yX7_blockSize, cX7_blockSize, 2, (some .int))
theorem mwX7_blockSize : cj_mw mX7_blockSize 1 := ⟨cj_at 1267 (by decide +kernel) rfl, cj_at 110 (by decide +kernel) rfl, ⟨by decide +kernel, by decide +kernel⟩, by decide +kernel, by decide +kernel⟩
def mX7_apply : cj_M := (yX7_apply, cX7_apply, 3, none)
theorem mwX7_apply : cj_mw mX7_apply 0 := ⟨cj_at 1271 (by decide +kernel) rfl, cj_at 110 (by decide +kernel) rfl, ⟨by decide +kernel, by decide +kernel⟩, by decide +kernel, by decide +kernel⟩
def mX7_field : cj_M := (yX7_field, cX7_field, 3, (some .int))
theorem mwX7_field : cj_mw mX7_field 2 := ⟨cj_at 1275 (by decide +kernel) rfl, cj_at 110 (by decide +kernel) rfl, ⟨by decide +kernel, by decide +kernel⟩, by decide +kernel, by decide +kernel⟩
def mX7_block : cj_M := (yX7_block, cX7_block, 5, (some .int))
theorem mwX7_block : cj_mw mX7_block 3 := ⟨cj_at 1279 (by decide +kernel) rfl, cj_at 110 (by decide +kernel) rfl, ⟨by decide +kernel, by decide +kernel⟩, by decide +kernel, by decide +kernel⟩
def mX7_simple : cj_M := (yX7_simple, cX7_simple, 5, none)
theorem mwX7_simple : cj_mw mX7_simple 1 := ⟨cj_at 1283 (by decide +kernel) rfl, cj_at 110 (by decide +kernel) rfl, ⟨by decide +kernel, by decide +kernel⟩, by decide +kernel, by decide +kernel⟩
def mX7_calculate : cj_M := (yX7_calculate, cX7_calculate, 6, none)
theorem mwX7_calculate : cj_mw mX7_calculate 1 := ⟨cj_at 1287 (by decide +kernel) rfl, cj_at 110 (by decide +kernel) rfl, ⟨by decide +kernel, by decide +kernel⟩, by decide +kernel, by decide +kernel⟩
def mX7_make : cj_M := (yX7_make, cX7_make, 4, none)
theorem mwX7_make : cj_mw mX7_make 0 := ⟨cj_at 1291 (by decide +kernel) rfl, cj_at 110 (by decide +kernel) rfl, ⟨by decide +kernel, by decide +kernel⟩, by decide +kernel, by decide +kernel⟩
def mX7_state : cj_M := (yX7_state, cX7_state, 1, (some .int))
theorem mwX7_state : cj_mw mX7_state 0 := ⟨cj_at 1295 (by decide +kernel) rfl, cj_at 110 (by decide +kernel) rfl, ⟨by decide +kernel, by decide +kernel⟩, by decide +kernel, by decide +kernel⟩
def mX7_why : cj_M := (yX7_why, cX7_why, 1, (some .int))
theorem mwX7_why : cj_mw mX7_why 0 := ⟨cj_at 1299 (by decide +kernel) rfl, cj_at 110 (by decide +kernel) rfl, ⟨by decide +kernel, by decide +kernel⟩, by decide +kernel, by decide +kernel⟩
def mX7_next : cj_M := (yX7_next, cX7_next, 1, (some .int))
theorem mwX7_next : cj_mw mX7_next 0 := ⟨cj_at 1303 (by decide +kernel) rfl, cj_at 110 (by decide +kernel) rfl, ⟨by decide +kernel, by decide +kernel⟩, by decide +kernel, by decide +kernel⟩
def mX7_depth : cj_M := (yX7_depth, cX7_depth, 1, (some .int))
theorem mwX7_depth : cj_mw mX7_depth 0 := ⟨cj_at 1307 (by decide +kernel) rfl, cj_at 110 (by decide +kernel) rfl, ⟨by decide +kernel, by decide +kernel⟩, by decide +kernel, by decide +kernel⟩
def mX7_used : cj_M := (yX7_used, cX7_used, 1, (some .int))
theorem mwX7_used : cj_mw mX7_used 0 := ⟨cj_at 1311 (by decide +kernel) rfl, cj_at 110 (by decide +kernel) rfl, ⟨by decide +kernel, by decide +kernel⟩, by decide +kernel, by decide +kernel⟩
def mX7_live : cj_M := (yX7_live, cX7_live, 5, (some .int))
theorem mwX7_live : cj_mw mX7_live 0 := ⟨cj_at 1315 (by decide +kernel) rfl, cj_at 110 (by decide +kernel) rfl, ⟨by decide +kernel, by decide +kernel⟩, by decide +kernel, by decide +kernel⟩
def mX7_reach : cj_M := (yX7_reach, cX7_reach, 2, none)
theorem mwX7_reach : cj_mw mX7_reach 1 := ⟨cj_at 1319 (by decide +kernel) rfl, cj_at 110 (by decide +kernel) rfl, ⟨by decide +kernel, by decide +kernel⟩, by decide +kernel, by decide +kernel⟩
def mX7_collections : cj_M := (yX7_collections, cX7_collections, 1, (some .int))
theorem mwX7_collections : cj_mw mX7_collections 0 := ⟨cj_at 1323 (by decide +kernel) rfl, cj_at 110 (by decide +kernel) rfl, ⟨by decide +kernel, by decide +kernel⟩, by decide +kernel, by decide +kernel⟩
def mX7_kind : cj_M := (yX7_kind, cX7_kind, 2, (some .int))
theorem mwX7_kind : cj_mw mX7_kind 1 := ⟨cj_at 1327 (by decide +kernel) rfl, cj_at 110 (by decide +kernel) rfl, ⟨by decide +kernel, by decide +kernel⟩, by decide +kernel, by decide +kernel⟩
def mX7_ends : cj_M := (yX7_ends, cX7_ends, 4, (some .boolean))
theorem mwX7_ends : cj_mw mX7_ends 1 := ⟨cj_at 1331 (by decide +kernel) rfl, cj_at 110 (by decide +kernel) rfl, ⟨by decide +kernel, by decide +kernel⟩, by decide +kernel, by decide +kernel⟩
def mX7_kindOf : cj_M := (yX7_kindOf, cX7_kindOf, 3, (some .int))
theorem mwX7_kindOf : cj_mw mX7_kindOf 1 := ⟨cj_at 1335 (by decide +kernel) rfl, cj_at 110 (by decide +kernel) rfl, ⟨by decide +kernel, by decide +kernel⟩, by decide +kernel, by decide +kernel⟩
def mX7_follow : cj_M := (yX7_follow, cX7_follow, 4, (some .int))
theorem mwX7_follow : cj_mw mX7_follow 1 := ⟨cj_at 1339 (by decide +kernel) rfl, cj_at 110 (by decide +kernel) rfl, ⟨by decide +kernel, by decide +kernel⟩, by decide +kernel, by decide +kernel⟩
def mX7_value : cj_M := (yX7_value, cX7_value, 3, (some .int))
theorem mwX7_value : cj_mw mX7_value 1 := ⟨cj_at 1343 (by decide +kernel) rfl, cj_at 110 (by decide +kernel) rfl, ⟨by decide +kernel, by decide +kernel⟩, by decide +kernel, by decide +kernel⟩
theorem flX3_9 : cj_fl RX3 9 3 0 (tyX3 0) true := ⟨RX3, TX3, 6, tyX3, rfl, by decide, uw_X3, tyX3_ok, nmX3, cj_at 135 (by decide +kernel) rfl, tyX3_ok 0 (by decide), rfl, rfl⟩
theorem flX3_15 : cj_fl RX3 15 3 1 (tyX3 1) false := ⟨RX3, TX3, 6, tyX3, rfl, by decide, uw_X3, tyX3_ok, nmX3, cj_at 136 (by decide +kernel) rfl, tyX3_ok 1 (by decide), rfl, rfl⟩
theorem flX3_19 : cj_fl RX3 19 3 2 (tyX3 2) false := ⟨RX3, TX3, 6, tyX3, rfl, by decide, uw_X3, tyX3_ok, nmX3, cj_at 137 (by decide +kernel) rfl, tyX3_ok 2 (by decide), rfl, rfl⟩
theorem flX3_22 : cj_fl RX3 22 3 3 (tyX3 3) true := ⟨RX3, TX3, 6, tyX3, rfl, by decide, uw_X3, tyX3_ok, nmX3, cj_at 138 (by decide +kernel) rfl, tyX3_ok 3 (by decide), rfl, rfl⟩
theorem flX3_25 : cj_fl RX3 25 3 4 (tyX3 4) false := ⟨RX3, TX3, 6, tyX3, rfl, by decide, uw_X3, tyX3_ok, nmX3, cj_at 139 (by decide +kernel) rfl, tyX3_ok 4 (by decide), rfl, rfl⟩
theorem flX3_28 : cj_fl RX3 28 3 5 (tyX3 5) false := ⟨RX3, TX3, 6, tyX3, rfl, by decide, uw_X3, tyX3_ok, nmX3, cj_at 140 (by decide +kernel) rfl, tyX3_ok 5 (by decide), rfl, rfl⟩
theorem flX6_69 : cj_fl RX6 69 3 5 (tyX3 5) false := ⟨RX3, TX3, 6, tyX3, rfl, by decide, uw_X3, tyX3_ok, nmX3, cj_at 141 (by decide +kernel) rfl, tyX3_ok 5 (by decide), rfl, rfl⟩
theorem flX0_11 : cj_fl RX0 11 0 0 (tyX0 0) true := ⟨RX0, TX0, 2, tyX0, rfl, by decide, uw_X0, tyX0_ok, nmX0, cj_at 162 (by decide +kernel) rfl, tyX0_ok 0 (by decide), rfl, rfl⟩
theorem flX0_15 : cj_fl RX0 15 0 1 (tyX0 1) false := ⟨RX0, TX0, 2, tyX0, rfl, by decide, uw_X0, tyX0_ok, nmX0, cj_at 163 (by decide +kernel) rfl, tyX0_ok 1 (by decide), rfl, rfl⟩
theorem flX2_48 : cj_fl RX2 48 0 1 (tyX0 1) false := ⟨RX0, TX0, 2, tyX0, rfl, by decide, uw_X0, tyX0_ok, nmX0, cj_at 164 (by decide +kernel) rfl, tyX0_ok 1 (by decide), rfl, rfl⟩
theorem flX6_68 : cj_fl RX6 68 0 1 (tyX0 1) false := ⟨RX0, TX0, 2, tyX0, rfl, by decide, uw_X0, tyX0_ok, nmX0, cj_at 165 (by decide +kernel) rfl, tyX0_ok 1 (by decide), rfl, rfl⟩
theorem flX1_21 : cj_fl RX1 21 1 0 (tyX1 0) false := ⟨RX1, TX1, 6, tyX1, rfl, by decide, uw_X1, tyX1_ok, nmX1, cj_at 186 (by decide +kernel) rfl, tyX1_ok 0 (by decide), rfl, rfl⟩
theorem flX1_25 : cj_fl RX1 25 1 1 (tyX1 1) false := ⟨RX1, TX1, 6, tyX1, rfl, by decide, uw_X1, tyX1_ok, nmX1, cj_at 187 (by decide +kernel) rfl, tyX1_ok 1 (by decide), rfl, rfl⟩
theorem flX1_28 : cj_fl RX1 28 1 2 (tyX1 2) true := ⟨RX1, TX1, 6, tyX1, rfl, by decide, uw_X1, tyX1_ok, nmX1, cj_at 188 (by decide +kernel) rfl, tyX1_ok 2 (by decide), rfl, rfl⟩
theorem flX1_9 : cj_fl RX1 9 1 3 (tyX1 3) false := ⟨RX1, TX1, 6, tyX1, rfl, by decide, uw_X1, tyX1_ok, nmX1, cj_at 189 (by decide +kernel) rfl, tyX1_ok 3 (by decide), rfl, rfl⟩
theorem flX6_113 : cj_fl RX6 113 1 3 (tyX1 3) false := ⟨RX1, TX1, 6, tyX1, rfl, by decide, uw_X1, tyX1_ok, nmX1, cj_at 190 (by decide +kernel) rfl, tyX1_ok 3 (by decide), rfl, rfl⟩
theorem flX1_15 : cj_fl RX1 15 1 4 (tyX1 4) false := ⟨RX1, TX1, 6, tyX1, rfl, by decide, uw_X1, tyX1_ok, nmX1, cj_at 191 (by decide +kernel) rfl, tyX1_ok 4 (by decide), rfl, rfl⟩
theorem flX2_119 : cj_fl RX2 119 1 4 (tyX1 4) false := ⟨RX1, TX1, 6, tyX1, rfl, by decide, uw_X1, tyX1_ok, nmX1, cj_at 192 (by decide +kernel) rfl, tyX1_ok 4 (by decide), rfl, rfl⟩
theorem flX1_18 : cj_fl RX1 18 1 5 (tyX1 5) false := ⟨RX1, TX1, 6, tyX1, rfl, by decide, uw_X1, tyX1_ok, nmX1, cj_at 193 (by decide +kernel) rfl, tyX1_ok 5 (by decide), rfl, rfl⟩
theorem flX6_119 : cj_fl RX6 119 1 5 (tyX1 5) false := ⟨RX1, TX1, 6, tyX1, rfl, by decide, uw_X1, tyX1_ok, nmX1, cj_at 194 (by decide +kernel) rfl, tyX1_ok 5 (by decide), rfl, rfl⟩
theorem flX2_35 : cj_fl RX2 35 2 0 (tyX2 0) true := ⟨RX2, TX2, 9, tyX2, rfl, by decide, uw_X2, tyX2_ok, nmX2, cj_at 212 (by decide +kernel) rfl, tyX2_ok 0 (by decide), rfl, rfl⟩
theorem flX2_39 : cj_fl RX2 39 2 1 (tyX2 1) true := ⟨RX2, TX2, 9, tyX2, rfl, by decide, uw_X2, tyX2_ok, nmX2, cj_at 213 (by decide +kernel) rfl, tyX2_ok 1 (by decide), rfl, rfl⟩
theorem flX6_109 : cj_fl RX6 109 2 1 (tyX2 1) true := ⟨RX2, TX2, 9, tyX2, rfl, by decide, uw_X2, tyX2_ok, nmX2, cj_at 214 (by decide +kernel) rfl, tyX2_ok 1 (by decide), rfl, rfl⟩
theorem flX2_9 : cj_fl RX2 9 2 2 (tyX2 2) true := ⟨RX2, TX2, 9, tyX2, rfl, by decide, uw_X2, tyX2_ok, nmX2, cj_at 215 (by decide +kernel) rfl, tyX2_ok 2 (by decide), rfl, rfl⟩
theorem flX2_15 : cj_fl RX2 15 2 3 (tyX2 3) false := ⟨RX2, TX2, 9, tyX2, rfl, by decide, uw_X2, tyX2_ok, nmX2, cj_at 216 (by decide +kernel) rfl, tyX2_ok 3 (by decide), rfl, rfl⟩
theorem flX6_106 : cj_fl RX6 106 2 3 (tyX2 3) false := ⟨RX2, TX2, 9, tyX2, rfl, by decide, uw_X2, tyX2_ok, nmX2, cj_at 217 (by decide +kernel) rfl, tyX2_ok 3 (by decide), rfl, rfl⟩
theorem flX2_19 : cj_fl RX2 19 2 4 (tyX2 4) false := ⟨RX2, TX2, 9, tyX2, rfl, by decide, uw_X2, tyX2_ok, nmX2, cj_at 218 (by decide +kernel) rfl, tyX2_ok 4 (by decide), rfl, rfl⟩
theorem flX2_22 : cj_fl RX2 22 2 5 (tyX2 5) false := ⟨RX2, TX2, 9, tyX2, rfl, by decide, uw_X2, tyX2_ok, nmX2, cj_at 219 (by decide +kernel) rfl, tyX2_ok 5 (by decide), rfl, rfl⟩
theorem flX2_25 : cj_fl RX2 25 2 6 (tyX2 6) false := ⟨RX2, TX2, 9, tyX2, rfl, by decide, uw_X2, tyX2_ok, nmX2, cj_at 220 (by decide +kernel) rfl, tyX2_ok 6 (by decide), rfl, rfl⟩
theorem flX6_103 : cj_fl RX6 103 2 6 (tyX2 6) false := ⟨RX2, TX2, 9, tyX2, rfl, by decide, uw_X2, tyX2_ok, nmX2, cj_at 221 (by decide +kernel) rfl, tyX2_ok 6 (by decide), rfl, rfl⟩
theorem flX2_28 : cj_fl RX2 28 2 7 (tyX2 7) false := ⟨RX2, TX2, 9, tyX2, rfl, by decide, uw_X2, tyX2_ok, nmX2, cj_at 222 (by decide +kernel) rfl, tyX2_ok 7 (by decide), rfl, rfl⟩
theorem flX2_32 : cj_fl RX2 32 2 8 (tyX2 8) false := ⟨RX2, TX2, 9, tyX2, rfl, by decide, uw_X2, tyX2_ok, nmX2, cj_at 223 (by decide +kernel) rfl, tyX2_ok 8 (by decide), rfl, rfl⟩
theorem flX6_100 : cj_fl RX6 100 2 8 (tyX2 8) false := ⟨RX2, TX2, 9, tyX2, rfl, by decide, uw_X2, tyX2_ok, nmX2, cj_at 224 (by decide +kernel) rfl, tyX2_ok 8 (by decide), rfl, rfl⟩
theorem flX6_9 : cj_fl RX6 9 6 0 (tyX6 0) true := ⟨RX6, TX6, 5, tyX6, rfl, by decide, uw_X6, tyX6_ok, nmX6, cj_at 244 (by decide +kernel) rfl, tyX6_ok 0 (by decide), rfl, rfl⟩
theorem flX6_13 : cj_fl RX6 13 6 1 (tyX6 1) false := ⟨RX6, TX6, 5, tyX6, rfl, by decide, uw_X6, tyX6_ok, nmX6, cj_at 245 (by decide +kernel) rfl, tyX6_ok 1 (by decide), rfl, rfl⟩
theorem flX6_20 : cj_fl RX6 20 6 2 (tyX6 2) true := ⟨RX6, TX6, 5, tyX6, rfl, by decide, uw_X6, tyX6_ok, nmX6, cj_at 246 (by decide +kernel) rfl, tyX6_ok 2 (by decide), rfl, rfl⟩
theorem flX6_27 : cj_fl RX6 27 6 3 (tyX6 3) true := ⟨RX6, TX6, 5, tyX6, rfl, by decide, uw_X6, tyX6_ok, nmX6, cj_at 247 (by decide +kernel) rfl, tyX6_ok 3 (by decide), rfl, rfl⟩
theorem flX6_50 : cj_fl RX6 50 6 4 (tyX6 4) true := ⟨RX6, TX6, 5, tyX6, rfl, by decide, uw_X6, tyX6_ok, nmX6, cj_at 248 (by decide +kernel) rfl, tyX6_ok 4 (by decide), rfl, rfl⟩
theorem flX4_9 : cj_fl RX4 9 4 0 (tyX4 0) false := ⟨RX4, TX4, 2, tyX4, rfl, by decide, uw_X4, tyX4_ok, nmX4, cj_at 492 (by decide +kernel) rfl, tyX4_ok 0 (by decide), rfl, rfl⟩
theorem flX0_25 : cj_fl RX0 25 4 0 (tyX4 0) false := ⟨RX4, TX4, 2, tyX4, rfl, by decide, uw_X4, tyX4_ok, nmX4, cj_at 493 (by decide +kernel) rfl, tyX4_ok 0 (by decide), rfl, rfl⟩
theorem flX4_15 : cj_fl RX4 15 4 1 (tyX4 1) false := ⟨RX4, TX4, 2, tyX4, rfl, by decide, uw_X4, tyX4_ok, nmX4, cj_at 494 (by decide +kernel) rfl, tyX4_ok 1 (by decide), rfl, rfl⟩
theorem flX5_17 : cj_fl RX5 17 5 0 (tyX5 0) true := ⟨RX5, TX5, 5, tyX5, rfl, by decide, uw_X5, tyX5_ok, nmX5, cj_at 540 (by decide +kernel) rfl, tyX5_ok 0 (by decide), rfl, rfl⟩
theorem flX0_29 : cj_fl RX0 29 5 0 (tyX5 0) true := ⟨RX5, TX5, 5, tyX5, rfl, by decide, uw_X5, tyX5_ok, nmX5, cj_at 541 (by decide +kernel) rfl, tyX5_ok 0 (by decide), rfl, rfl⟩
theorem flX4_41 : cj_fl RX4 41 5 0 (tyX5 0) true := ⟨RX5, TX5, 5, tyX5, rfl, by decide, uw_X5, tyX5_ok, nmX5, cj_at 542 (by decide +kernel) rfl, tyX5_ok 0 (by decide), rfl, rfl⟩
theorem flX5_20 : cj_fl RX5 20 5 1 (tyX5 1) false := ⟨RX5, TX5, 5, tyX5, rfl, by decide, uw_X5, tyX5_ok, nmX5, cj_at 543 (by decide +kernel) rfl, tyX5_ok 1 (by decide), rfl, rfl⟩
theorem flX0_47 : cj_fl RX0 47 5 1 (tyX5 1) false := ⟨RX5, TX5, 5, tyX5, rfl, by decide, uw_X5, tyX5_ok, nmX5, cj_at 544 (by decide +kernel) rfl, tyX5_ok 1 (by decide), rfl, rfl⟩
theorem flX3_133 : cj_fl RX3 133 5 1 (tyX5 1) false := ⟨RX5, TX5, 5, tyX5, rfl, by decide, uw_X5, tyX5_ok, nmX5, cj_at 545 (by decide +kernel) rfl, tyX5_ok 1 (by decide), rfl, rfl⟩
theorem flX5_23 : cj_fl RX5 23 5 2 (tyX5 2) true := ⟨RX5, TX5, 5, tyX5, rfl, by decide, uw_X5, tyX5_ok, nmX5, cj_at 546 (by decide +kernel) rfl, tyX5_ok 2 (by decide), rfl, rfl⟩
theorem flX0_44 : cj_fl RX0 44 5 2 (tyX5 2) true := ⟨RX5, TX5, 5, tyX5, rfl, by decide, uw_X5, tyX5_ok, nmX5, cj_at 547 (by decide +kernel) rfl, tyX5_ok 2 (by decide), rfl, rfl⟩
theorem flX5_7 : cj_fl RX5 7 5 3 (tyX5 3) false := ⟨RX5, TX5, 5, tyX5, rfl, by decide, uw_X5, tyX5_ok, nmX5, cj_at 548 (by decide +kernel) rfl, tyX5_ok 3 (by decide), rfl, rfl⟩
theorem flX0_41 : cj_fl RX0 41 5 3 (tyX5 3) false := ⟨RX5, TX5, 5, tyX5, rfl, by decide, uw_X5, tyX5_ok, nmX5, cj_at 549 (by decide +kernel) rfl, tyX5_ok 3 (by decide), rfl, rfl⟩
theorem flX4_37 : cj_fl RX4 37 5 3 (tyX5 3) false := ⟨RX5, TX5, 5, tyX5, rfl, by decide, uw_X5, tyX5_ok, nmX5, cj_at 550 (by decide +kernel) rfl, tyX5_ok 3 (by decide), rfl, rfl⟩
theorem flX5_13 : cj_fl RX5 13 5 4 (tyX5 4) false := ⟨RX5, TX5, 5, tyX5, rfl, by decide, uw_X5, tyX5_ok, nmX5, cj_at 551 (by decide +kernel) rfl, tyX5_ok 4 (by decide), rfl, rfl⟩
theorem flX4_18 : cj_fl RX4 18 5 4 (tyX5 4) false := ⟨RX5, TX5, 5, tyX5, rfl, by decide, uw_X5, tyX5_ok, nmX5, cj_at 552 (by decide +kernel) rfl, tyX5_ok 4 (by decide), rfl, rfl⟩
theorem flX0_38 : cj_fl RX0 38 5 4 (tyX5 4) false := ⟨RX5, TX5, 5, tyX5, rfl, by decide, uw_X5, tyX5_ok, nmX5, cj_at 553 (by decide +kernel) rfl, tyX5_ok 4 (by decide), rfl, rfl⟩
theorem flX7_112 : cj_fl RX7 112 7 0 (tyX7 0) false := ⟨RX7, TX7, 57, tyX7, rfl, by decide, uw_X7, tyX7_ok, nmX7, cj_at 847 (by decide +kernel) rfl, tyX7_ok 0 (by decide), rfl, rfl⟩
theorem flX7_115 : cj_fl RX7 115 7 1 (tyX7 1) false := ⟨RX7, TX7, 57, tyX7, rfl, by decide, uw_X7, tyX7_ok, nmX7, cj_at 848 (by decide +kernel) rfl, tyX7_ok 1 (by decide), rfl, rfl⟩
theorem flX7_7 : cj_fl RX7 7 7 2 (tyX7 2) true := ⟨RX7, TX7, 57, tyX7, rfl, by decide, uw_X7, tyX7_ok, nmX7, cj_at 849 (by decide +kernel) rfl, tyX7_ok 2 (by decide), rfl, rfl⟩
theorem flX7_121 : cj_fl RX7 121 7 3 (tyX7 3) false := ⟨RX7, TX7, 57, tyX7, rfl, by decide, uw_X7, tyX7_ok, nmX7, cj_at 850 (by decide +kernel) rfl, tyX7_ok 3 (by decide), rfl, rfl⟩
theorem flX7_13 : cj_fl RX7 13 7 4 (tyX7 4) true := ⟨RX7, TX7, 57, tyX7, rfl, by decide, uw_X7, tyX7_ok, nmX7, cj_at 851 (by decide +kernel) rfl, tyX7_ok 4 (by decide), rfl, rfl⟩
theorem flX7_118 : cj_fl RX7 118 7 5 (tyX7 5) false := ⟨RX7, TX7, 57, tyX7, rfl, by decide, uw_X7, tyX7_ok, nmX7, cj_at 852 (by decide +kernel) rfl, tyX7_ok 5 (by decide), rfl, rfl⟩
theorem flX7_138 : cj_fl RX7 138 7 6 (tyX7 6) false := ⟨RX7, TX7, 57, tyX7, rfl, by decide, uw_X7, tyX7_ok, nmX7, cj_at 853 (by decide +kernel) rfl, tyX7_ok 6 (by decide), rfl, rfl⟩
theorem flX7_16 : cj_fl RX7 16 7 7 (tyX7 7) false := ⟨RX7, TX7, 57, tyX7, rfl, by decide, uw_X7, tyX7_ok, nmX7, cj_at 854 (by decide +kernel) rfl, tyX7_ok 7 (by decide), rfl, rfl⟩
theorem flX7_142 : cj_fl RX7 142 7 8 (tyX7 8) false := ⟨RX7, TX7, 57, tyX7, rfl, by decide, uw_X7, tyX7_ok, nmX7, cj_at 855 (by decide +kernel) rfl, tyX7_ok 8 (by decide), rfl, rfl⟩
theorem flX7_20 : cj_fl RX7 20 7 9 (tyX7 9) true := ⟨RX7, TX7, 57, tyX7, rfl, by decide, uw_X7, tyX7_ok, nmX7, cj_at 856 (by decide +kernel) rfl, tyX7_ok 9 (by decide), rfl, rfl⟩
theorem flX7_24 : cj_fl RX7 24 7 10 (tyX7 10) true := ⟨RX7, TX7, 57, tyX7, rfl, by decide, uw_X7, tyX7_ok, nmX7, cj_at 857 (by decide +kernel) rfl, tyX7_ok 10 (by decide), rfl, rfl⟩
theorem flX7_27 : cj_fl RX7 27 7 11 (tyX7 11) true := ⟨RX7, TX7, 57, tyX7, rfl, by decide, uw_X7, tyX7_ok, nmX7, cj_at 858 (by decide +kernel) rfl, tyX7_ok 11 (by decide), rfl, rfl⟩
theorem flX7_30 : cj_fl RX7 30 7 12 (tyX7 12) true := ⟨RX7, TX7, 57, tyX7, rfl, by decide, uw_X7, tyX7_ok, nmX7, cj_at 859 (by decide +kernel) rfl, tyX7_ok 12 (by decide), rfl, rfl⟩
theorem flX7_33 : cj_fl RX7 33 7 13 (tyX7 13) true := ⟨RX7, TX7, 57, tyX7, rfl, by decide, uw_X7, tyX7_ok, nmX7, cj_at 860 (by decide +kernel) rfl, tyX7_ok 13 (by decide), rfl, rfl⟩
theorem flX7_36 : cj_fl RX7 36 7 14 (tyX7 14) true := ⟨RX7, TX7, 57, tyX7, rfl, by decide, uw_X7, tyX7_ok, nmX7, cj_at 861 (by decide +kernel) rfl, tyX7_ok 14 (by decide), rfl, rfl⟩
theorem flX7_145 : cj_fl RX7 145 7 15 (tyX7 15) false := ⟨RX7, TX7, 57, tyX7, rfl, by decide, uw_X7, tyX7_ok, nmX7, cj_at 862 (by decide +kernel) rfl, tyX7_ok 15 (by decide), rfl, rfl⟩
theorem flX7_40 : cj_fl RX7 40 7 16 (tyX7 16) true := ⟨RX7, TX7, 57, tyX7, rfl, by decide, uw_X7, tyX7_ok, nmX7, cj_at 863 (by decide +kernel) rfl, tyX7_ok 16 (by decide), rfl, rfl⟩
theorem flX7_148 : cj_fl RX7 148 7 17 (tyX7 17) false := ⟨RX7, TX7, 57, tyX7, rfl, by decide, uw_X7, tyX7_ok, nmX7, cj_at 864 (by decide +kernel) rfl, tyX7_ok 17 (by decide), rfl, rfl⟩
theorem flX7_43 : cj_fl RX7 43 7 18 (tyX7 18) true := ⟨RX7, TX7, 57, tyX7, rfl, by decide, uw_X7, tyX7_ok, nmX7, cj_at 865 (by decide +kernel) rfl, tyX7_ok 18 (by decide), rfl, rfl⟩
theorem flX7_46 : cj_fl RX7 46 7 19 (tyX7 19) true := ⟨RX7, TX7, 57, tyX7, rfl, by decide, uw_X7, tyX7_ok, nmX7, cj_at 866 (by decide +kernel) rfl, tyX7_ok 19 (by decide), rfl, rfl⟩
theorem flX7_49 : cj_fl RX7 49 7 20 (tyX7 20) true := ⟨RX7, TX7, 57, tyX7, rfl, by decide, uw_X7, tyX7_ok, nmX7, cj_at 867 (by decide +kernel) rfl, tyX7_ok 20 (by decide), rfl, rfl⟩
theorem flX7_52 : cj_fl RX7 52 7 21 (tyX7 21) true := ⟨RX7, TX7, 57, tyX7, rfl, by decide, uw_X7, tyX7_ok, nmX7, cj_at 868 (by decide +kernel) rfl, tyX7_ok 21 (by decide), rfl, rfl⟩
theorem flX7_55 : cj_fl RX7 55 7 22 (tyX7 22) true := ⟨RX7, TX7, 57, tyX7, rfl, by decide, uw_X7, tyX7_ok, nmX7, cj_at 869 (by decide +kernel) rfl, tyX7_ok 22 (by decide), rfl, rfl⟩
theorem flX7_58 : cj_fl RX7 58 7 23 (tyX7 23) true := ⟨RX7, TX7, 57, tyX7, rfl, by decide, uw_X7, tyX7_ok, nmX7, cj_at 870 (by decide +kernel) rfl, tyX7_ok 23 (by decide), rfl, rfl⟩
theorem flX7_61 : cj_fl RX7 61 7 24 (tyX7 24) true := ⟨RX7, TX7, 57, tyX7, rfl, by decide, uw_X7, tyX7_ok, nmX7, cj_at 871 (by decide +kernel) rfl, tyX7_ok 24 (by decide), rfl, rfl⟩
theorem flX7_64 : cj_fl RX7 64 7 25 (tyX7 25) true := ⟨RX7, TX7, 57, tyX7, rfl, by decide, uw_X7, tyX7_ok, nmX7, cj_at 872 (by decide +kernel) rfl, tyX7_ok 25 (by decide), rfl, rfl⟩
theorem flX7_151 : cj_fl RX7 151 7 26 (tyX7 26) false := ⟨RX7, TX7, 57, tyX7, rfl, by decide, uw_X7, tyX7_ok, nmX7, cj_at 873 (by decide +kernel) rfl, tyX7_ok 26 (by decide), rfl, rfl⟩
theorem flX7_67 : cj_fl RX7 67 7 27 (tyX7 27) true := ⟨RX7, TX7, 57, tyX7, rfl, by decide, uw_X7, tyX7_ok, nmX7, cj_at 874 (by decide +kernel) rfl, tyX7_ok 27 (by decide), rfl, rfl⟩
theorem flX7_70 : cj_fl RX7 70 7 28 (tyX7 28) true := ⟨RX7, TX7, 57, tyX7, rfl, by decide, uw_X7, tyX7_ok, nmX7, cj_at 875 (by decide +kernel) rfl, tyX7_ok 28 (by decide), rfl, rfl⟩
theorem flX7_191 : cj_fl RX7 191 7 29 (tyX7 29) false := ⟨RX7, TX7, 57, tyX7, rfl, by decide, uw_X7, tyX7_ok, nmX7, cj_at 876 (by decide +kernel) rfl, tyX7_ok 29 (by decide), rfl, rfl⟩
theorem flX7_73 : cj_fl RX7 73 7 30 (tyX7 30) true := ⟨RX7, TX7, 57, tyX7, rfl, by decide, uw_X7, tyX7_ok, nmX7, cj_at 877 (by decide +kernel) rfl, tyX7_ok 30 (by decide), rfl, rfl⟩
theorem flX7_154 : cj_fl RX7 154 7 31 (tyX7 31) false := ⟨RX7, TX7, 57, tyX7, rfl, by decide, uw_X7, tyX7_ok, nmX7, cj_at 878 (by decide +kernel) rfl, tyX7_ok 31 (by decide), rfl, rfl⟩
theorem flX7_76 : cj_fl RX7 76 7 32 (tyX7 32) true := ⟨RX7, TX7, 57, tyX7, rfl, by decide, uw_X7, tyX7_ok, nmX7, cj_at 879 (by decide +kernel) rfl, tyX7_ok 32 (by decide), rfl, rfl⟩
theorem flX7_157 : cj_fl RX7 157 7 33 (tyX7 33) false := ⟨RX7, TX7, 57, tyX7, rfl, by decide, uw_X7, tyX7_ok, nmX7, cj_at 880 (by decide +kernel) rfl, tyX7_ok 33 (by decide), rfl, rfl⟩
theorem flX7_223 : cj_fl RX7 223 7 34 (tyX7 34) false := ⟨RX7, TX7, 57, tyX7, rfl, by decide, uw_X7, tyX7_ok, nmX7, cj_at 881 (by decide +kernel) rfl, tyX7_ok 34 (by decide), rfl, rfl⟩
theorem flX7_247 : cj_fl RX7 247 7 35 (tyX7 35) false := ⟨RX7, TX7, 57, tyX7, rfl, by decide, uw_X7, tyX7_ok, nmX7, cj_at 882 (by decide +kernel) rfl, tyX7_ok 35 (by decide), rfl, rfl⟩
theorem flX7_79 : cj_fl RX7 79 7 36 (tyX7 36) true := ⟨RX7, TX7, 57, tyX7, rfl, by decide, uw_X7, tyX7_ok, nmX7, cj_at 883 (by decide +kernel) rfl, tyX7_ok 36 (by decide), rfl, rfl⟩
theorem flX7_294 : cj_fl RX7 294 7 37 (tyX7 37) false := ⟨RX7, TX7, 57, tyX7, rfl, by decide, uw_X7, tyX7_ok, nmX7, cj_at 884 (by decide +kernel) rfl, tyX7_ok 37 (by decide), rfl, rfl⟩
theorem flX7_82 : cj_fl RX7 82 7 38 (tyX7 38) true := ⟨RX7, TX7, 57, tyX7, rfl, by decide, uw_X7, tyX7_ok, nmX7, cj_at 885 (by decide +kernel) rfl, tyX7_ok 38 (by decide), rfl, rfl⟩
theorem flX7_250 : cj_fl RX7 250 7 39 (tyX7 39) false := ⟨RX7, TX7, 57, tyX7, rfl, by decide, uw_X7, tyX7_ok, nmX7, cj_at 886 (by decide +kernel) rfl, tyX7_ok 39 (by decide), rfl, rfl⟩
theorem flX7_85 : cj_fl RX7 85 7 40 (tyX7 40) true := ⟨RX7, TX7, 57, tyX7, rfl, by decide, uw_X7, tyX7_ok, nmX7, cj_at 887 (by decide +kernel) rfl, tyX7_ok 40 (by decide), rfl, rfl⟩
theorem flX7_88 : cj_fl RX7 88 7 41 (tyX7 41) true := ⟨RX7, TX7, 57, tyX7, rfl, by decide, uw_X7, tyX7_ok, nmX7, cj_at 888 (by decide +kernel) rfl, tyX7_ok 41 (by decide), rfl, rfl⟩
theorem flX7_91 : cj_fl RX7 91 7 42 (tyX7 42) true := ⟨RX7, TX7, 57, tyX7, rfl, by decide, uw_X7, tyX7_ok, nmX7, cj_at 889 (by decide +kernel) rfl, tyX7_ok 42 (by decide), rfl, rfl⟩
theorem flX7_109 : cj_fl RX7 109 7 43 (tyX7 43) true := ⟨RX7, TX7, 57, tyX7, rfl, by decide, uw_X7, tyX7_ok, nmX7, cj_at 890 (by decide +kernel) rfl, tyX7_ok 43 (by decide), rfl, rfl⟩
theorem flX7_94 : cj_fl RX7 94 7 44 (tyX7 44) true := ⟨RX7, TX7, 57, tyX7, rfl, by decide, uw_X7, tyX7_ok, nmX7, cj_at 891 (by decide +kernel) rfl, tyX7_ok 44 (by decide), rfl, rfl⟩
theorem flX7_300 : cj_fl RX7 300 7 45 (tyX7 45) false := ⟨RX7, TX7, 57, tyX7, rfl, by decide, uw_X7, tyX7_ok, nmX7, cj_at 892 (by decide +kernel) rfl, tyX7_ok 45 (by decide), rfl, rfl⟩
theorem flX7_297 : cj_fl RX7 297 7 46 (tyX7 46) false := ⟨RX7, TX7, 57, tyX7, rfl, by decide, uw_X7, tyX7_ok, nmX7, cj_at 893 (by decide +kernel) rfl, tyX7_ok 46 (by decide), rfl, rfl⟩
theorem flX7_303 : cj_fl RX7 303 7 47 (tyX7 47) false := ⟨RX7, TX7, 57, tyX7, rfl, by decide, uw_X7, tyX7_ok, nmX7, cj_at 894 (by decide +kernel) rfl, tyX7_ok 47 (by decide), rfl, rfl⟩
theorem flX7_97 : cj_fl RX7 97 7 48 (tyX7 48) true := ⟨RX7, TX7, 57, tyX7, rfl, by decide, uw_X7, tyX7_ok, nmX7, cj_at 895 (by decide +kernel) rfl, tyX7_ok 48 (by decide), rfl, rfl⟩
theorem flX7_100 : cj_fl RX7 100 7 49 (tyX7 49) false := ⟨RX7, TX7, 57, tyX7, rfl, by decide, uw_X7, tyX7_ok, nmX7, cj_at 896 (by decide +kernel) rfl, tyX7_ok 49 (by decide), rfl, rfl⟩
theorem flX7_103 : cj_fl RX7 103 7 50 (tyX7 50) false := ⟨RX7, TX7, 57, tyX7, rfl, by decide, uw_X7, tyX7_ok, nmX7, cj_at 897 (by decide +kernel) rfl, tyX7_ok 50 (by decide), rfl, rfl⟩
theorem flX7_306 : cj_fl RX7 306 7 51 (tyX7 51) false := ⟨RX7, TX7, 57, tyX7, rfl, by decide, uw_X7, tyX7_ok, nmX7, cj_at 898 (by decide +kernel) rfl, tyX7_ok 51 (by decide), rfl, rfl⟩
theorem flX7_106 : cj_fl RX7 106 7 52 (tyX7 52) true := ⟨RX7, TX7, 57, tyX7, rfl, by decide, uw_X7, tyX7_ok, nmX7, cj_at 899 (by decide +kernel) rfl, tyX7_ok 52 (by decide), rfl, rfl⟩
theorem flX7_309 : cj_fl RX7 309 7 53 (tyX7 53) false := ⟨RX7, TX7, 57, tyX7, rfl, by decide, uw_X7, tyX7_ok, nmX7, cj_at 900 (by decide +kernel) rfl, tyX7_ok 53 (by decide), rfl, rfl⟩
theorem flX7_312 : cj_fl RX7 312 7 54 (tyX7 54) false := ⟨RX7, TX7, 57, tyX7, rfl, by decide, uw_X7, tyX7_ok, nmX7, cj_at 901 (by decide +kernel) rfl, tyX7_ok 54 (by decide), rfl, rfl⟩
theorem flX7_315 : cj_fl RX7 315 7 55 (tyX7 55) false := ⟨RX7, TX7, 57, tyX7, rfl, by decide, uw_X7, tyX7_ok, nmX7, cj_at 902 (by decide +kernel) rfl, tyX7_ok 55 (by decide), rfl, rfl⟩
theorem flX7_232 : cj_fl RX7 232 7 56 (tyX7 56) false := ⟨RX7, TX7, 57, tyX7, rfl, by decide, uw_X7, tyX7_ok, nmX7, cj_at 903 (by decide +kernel) rfl, tyX7_ok 56 (by decide), rfl, rfl⟩
theorem lkL_29 : Cond.methodLink RL 29 yX6_init ∈ cj_all ∧ Cond.instanceMethod yX6_init ∈ cj_all ∧ yX6_init.name = "<init>" ∧ mX6_init.2.2.2 = none := ⟨cj_at 123 (by decide +kernel) rfl, cj_at 124 (by decide +kernel) rfl, rfl, rfl⟩
theorem lkX6_44 : Cond.methodLink RX6 44 yX1_init ∈ cj_all ∧ Cond.instanceMethod yX1_init ∈ cj_all ∧ yX1_init.name = "<init>" ∧ mX1_init.2.2.2 = none := ⟨cj_at 182 (by decide +kernel) rfl, cj_at 183 (by decide +kernel) rfl, rfl, rfl⟩
theorem lkX6_47 : Cond.methodLink RX6 47 yX2_init ∈ cj_all ∧ Cond.instanceMethod yX2_init ∈ cj_all ∧ yX2_init.name = "<init>" ∧ mX2_init.2.2.2 = none := ⟨cj_at 208 (by decide +kernel) rfl, cj_at 209 (by decide +kernel) rfl, rfl, rfl⟩
theorem lkL_35 : cj_lV RL 35 yX6_write := ⟨cj_at 260 (by decide +kernel) rfl, cj_at 261 (by decide +kernel) rfl, cj_at 262 (by decide +kernel) rfl⟩
theorem lkL_47 : cj_lV RL 47 yX6_place := ⟨cj_at 264 (by decide +kernel) rfl, cj_at 265 (by decide +kernel) rfl, cj_at 266 (by decide +kernel) rfl⟩
theorem lkL_51 : cj_lV RL 51 yX6_code := ⟨cj_at 268 (by decide +kernel) rfl, cj_at 269 (by decide +kernel) rfl, cj_at 270 (by decide +kernel) rfl⟩
theorem lkX6_72 : cj_lV RX6 72 yX0_part := ⟨cj_at 272 (by decide +kernel) rfl, cj_at 273 (by decide +kernel) rfl, cj_at 274 (by decide +kernel) rfl⟩
theorem lkL_60 : cj_lV RL 60 yX6_state := ⟨cj_at 276 (by decide +kernel) rfl, cj_at 277 (by decide +kernel) rfl, cj_at 278 (by decide +kernel) rfl⟩
theorem lkX6_82 : cj_lV RX6 82 yX2_condition := ⟨cj_at 280 (by decide +kernel) rfl, cj_at 281 (by decide +kernel) rfl, cj_at 282 (by decide +kernel) rfl⟩
theorem lkL_64 : cj_lV RL 64 yX6_why := ⟨cj_at 284 (by decide +kernel) rfl, cj_at 285 (by decide +kernel) rfl, cj_at 286 (by decide +kernel) rfl⟩
theorem lkL_68 : cj_lV RL 68 yX6_next := ⟨cj_at 288 (by decide +kernel) rfl, cj_at 289 (by decide +kernel) rfl, cj_at 290 (by decide +kernel) rfl⟩
theorem lkL_72 : cj_lV RL 72 yX6_depth := ⟨cj_at 292 (by decide +kernel) rfl, cj_at 293 (by decide +kernel) rfl, cj_at 294 (by decide +kernel) rfl⟩
theorem lkL_76 : cj_lV RL 76 yX6_used := ⟨cj_at 296 (by decide +kernel) rfl, cj_at 297 (by decide +kernel) rfl, cj_at 298 (by decide +kernel) rfl⟩
theorem lkL_80 : cj_lV RL 80 yX6_live := ⟨cj_at 300 (by decide +kernel) rfl, cj_at 301 (by decide +kernel) rfl, cj_at 302 (by decide +kernel) rfl⟩
theorem lkX6_116 : cj_lV RX6 116 yX2_copyReachable := ⟨cj_at 304 (by decide +kernel) rfl, cj_at 305 (by decide +kernel) rfl, cj_at 306 (by decide +kernel) rfl⟩
theorem lkX2_113 : cj_lV RX2 113 yX1_beginCopy := ⟨cj_at 308 (by decide +kernel) rfl, cj_at 309 (by decide +kernel) rfl, cj_at 310 (by decide +kernel) rfl⟩
theorem lkX1_74 : Cond.methodLink RX1 74 yJ7_fill_53178 ∈ cj_all ∧ Cond.static yJ7_fill_53178 ∈ cj_all := ⟨cj_at 312 (by decide +kernel) rfl, cj_at 313 (by decide +kernel) rfl⟩
theorem lkX2_107 : cj_lV RX2 107 yX1_copy := ⟨cj_at 315 (by decide +kernel) rfl, cj_at 316 (by decide +kernel) rfl, cj_at 317 (by decide +kernel) rfl⟩
theorem lkX1_39 : cj_lV RX1 39 yX1_isPointer := ⟨cj_at 319 (by decide +kernel) rfl, cj_at 321 (by decide +kernel) rfl, cj_at 0 (by decide +kernel) rfl⟩
theorem lkX2_116 : cj_lV RX2 116 yX1_copyTheRest := ⟨cj_at 326 (by decide +kernel) rfl, cj_at 327 (by decide +kernel) rfl, cj_at 328 (by decide +kernel) rfl⟩
theorem lkX1_91 : cj_lV RX1 91 yX1_copy := ⟨cj_at 331 (by decide +kernel) rfl, cj_at 316 (by decide +kernel) rfl, cj_at 317 (by decide +kernel) rfl⟩
theorem lkL_84 : cj_lV RL 84 yX6_collections := ⟨cj_at 332 (by decide +kernel) rfl, cj_at 333 (by decide +kernel) rfl, cj_at 334 (by decide +kernel) rfl⟩
theorem lkL_88 : cj_lV RL 88 yX6_kind := ⟨cj_at 336 (by decide +kernel) rfl, cj_at 337 (by decide +kernel) rfl, cj_at 338 (by decide +kernel) rfl⟩
theorem lkX6_122 : cj_lV RX6 122 yX2_wordAt := ⟨cj_at 340 (by decide +kernel) rfl, cj_at 341 (by decide +kernel) rfl, cj_at 342 (by decide +kernel) rfl⟩
theorem lkX2_178 : cj_lV RX2 178 yX1_constructorOf := ⟨cj_at 344 (by decide +kernel) rfl, cj_at 345 (by decide +kernel) rfl, cj_at 346 (by decide +kernel) rfl⟩
theorem lkX1_47 : cj_lV RX1 47 yX1_blockKind := ⟨cj_at 354 (by decide +kernel) rfl, cj_at 355 (by decide +kernel) rfl, cj_at 356 (by decide +kernel) rfl⟩
theorem lkX2_128 : cj_lV RX2 128 yX1_wordOf := ⟨cj_at 358 (by decide +kernel) rfl, cj_at 359 (by decide +kernel) rfl, cj_at 360 (by decide +kernel) rfl⟩
theorem lkX1_43 : cj_lV RX1 43 yX1_blockWords := ⟨cj_at 362 (by decide +kernel) rfl, cj_at 363 (by decide +kernel) rfl, cj_at 364 (by decide +kernel) rfl⟩
theorem lkX6_125 : cj_lV RX6 125 yX1_sort := ⟨cj_at 366 (by decide +kernel) rfl, cj_at 367 (by decide +kernel) rfl, cj_at 368 (by decide +kernel) rfl⟩
theorem lkX1_59 : cj_lV RX1 59 yX1_constructorOf := ⟨cj_at 373 (by decide +kernel) rfl, cj_at 345 (by decide +kernel) rfl, cj_at 346 (by decide +kernel) rfl⟩
theorem lkX1_62 : cj_lV RX1 62 yX1_isFunction := ⟨cj_at 374 (by decide +kernel) rfl, cj_at 375 (by decide +kernel) rfl, cj_at 376 (by decide +kernel) rfl⟩
theorem lkL_92 : cj_lV RL 92 yX6_value := ⟨cj_at 378 (by decide +kernel) rfl, cj_at 379 (by decide +kernel) rfl, cj_at 380 (by decide +kernel) rfl⟩
theorem lkX6_128 : cj_lV RX6 128 yX1_meaning := ⟨cj_at 382 (by decide +kernel) rfl, cj_at 383 (by decide +kernel) rfl, cj_at 384 (by decide +kernel) rfl⟩
theorem lkX1_65 : cj_lV RX1 65 yX1_sort := ⟨cj_at 386 (by decide +kernel) rfl, cj_at 367 (by decide +kernel) rfl, cj_at 368 (by decide +kernel) rfl⟩
theorem lkX1_71 : cj_lV RX1 71 yX1_wordOf := ⟨cj_at 390 (by decide +kernel) rfl, cj_at 359 (by decide +kernel) rfl, cj_at 360 (by decide +kernel) rfl⟩
theorem lkL_23 : Cond.methodLink RL 23 yL_cell ∈ cj_all ∧ Cond.static yL_cell ∈ cj_all := ⟨cj_at 391 (by decide +kernel) rfl, cj_at 392 (by decide +kernel) rfl⟩
theorem lkL_7 : cj_lV RL 7 yX6_compile := ⟨cj_at 398 (by decide +kernel) rfl, cj_at 399 (by decide +kernel) rfl, cj_at 400 (by decide +kernel) rfl⟩
theorem lkX6_54 : cj_lV RX6 54 yX3_read := ⟨cj_at 402 (by decide +kernel) rfl, cj_at 403 (by decide +kernel) rfl, cj_at 404 (by decide +kernel) rfl⟩
theorem lkX3_31 : cj_lV RX3 31 yX3_leaveOutBlanks := ⟨cj_at 406 (by decide +kernel) rfl, cj_at 408 (by decide +kernel) rfl, cj_at 1 (by decide +kernel) rfl⟩
theorem lkX3_35 : cj_lV RX3 35 yX3_expression := ⟨cj_at 410 (by decide +kernel) rfl, cj_at 412 (by decide +kernel) rfl, cj_at 2 (by decide +kernel) rfl⟩
theorem lkX3_39 : cj_lV RX3 39 yX3_refuse := ⟨cj_at 414 (by decide +kernel) rfl, cj_at 415 (by decide +kernel) rfl, cj_at 416 (by decide +kernel) rfl⟩
theorem lkX3_56 : cj_lV RX3 56 yX3_beginsHead := ⟨cj_at 500 (by decide +kernel) rfl, cj_at 502 (by decide +kernel) rfl, cj_at 4 (by decide +kernel) rfl⟩
theorem lkX3_64 : cj_lV RX3 64 yX3_peek := ⟨cj_at 504 (by decide +kernel) rfl, cj_at 506 (by decide +kernel) rfl, cj_at 5 (by decide +kernel) rfl⟩
theorem lkX3_82 : cj_lV RX3 82 yX3_characterAt := ⟨cj_at 508 (by decide +kernel) rfl, cj_at 510 (by decide +kernel) rfl, cj_at 6 (by decide +kernel) rfl⟩
theorem lkX3_78 : Cond.methodLink RX3 78 yX3_isName ∈ cj_all ∧ Cond.static yX3_isName ∈ cj_all := ⟨cj_at 512 (by decide +kernel) rfl, cj_at 513 (by decide +kernel) rfl⟩
theorem lkX3_60 : cj_lV RX3 60 yX3_head := ⟨cj_at 515 (by decide +kernel) rfl, cj_at 517 (by decide +kernel) rfl, cj_at 7 (by decide +kernel) rfl⟩
theorem lkX3_86 : cj_lV RX3 86 yX3_function := ⟨cj_at 519 (by decide +kernel) rfl, cj_at 521 (by decide +kernel) rfl, cj_at 8 (by decide +kernel) rfl⟩
theorem lkX3_96 : cj_lV RX3 96 yX3_takeName := ⟨cj_at 523 (by decide +kernel) rfl, cj_at 525 (by decide +kernel) rfl, cj_at 9 (by decide +kernel) rfl⟩
theorem lkX3_99 : cj_lV RX3 99 yX3_bind := ⟨cj_at 527 (by decide +kernel) rfl, cj_at 529 (by decide +kernel) rfl, cj_at 10 (by decide +kernel) rfl⟩
theorem lkX3_103 : Cond.methodLink RX3 103 yX3_label ∈ cj_all ∧ Cond.static yX3_label ∈ cj_all := ⟨cj_at 531 (by decide +kernel) rfl, cj_at 532 (by decide +kernel) rfl⟩
theorem lkX3_117 : Cond.methodLink RX3 117 yX5_init ∈ cj_all ∧ Cond.instanceMethod yX5_init ∈ cj_all ∧ yX5_init.name = "<init>" ∧ mX5_init.2.2.2 = none := ⟨cj_at 536 (by decide +kernel) rfl, cj_at 537 (by decide +kernel) rfl, rfl, rfl⟩
theorem lkX3_107 : cj_lV RX3 107 yX3_openFunction := ⟨cj_at 565 (by decide +kernel) rfl, cj_at 567 (by decide +kernel) rfl, cj_at 11 (by decide +kernel) rfl⟩
theorem lkX3_123 : cj_lV RX3 123 yX4_add := ⟨cj_at 569 (by decide +kernel) rfl, cj_at 570 (by decide +kernel) rfl, cj_at 571 (by decide +kernel) rfl⟩
theorem lkX3_111 : cj_lV RX3 111 yX4_addFirst := ⟨cj_at 573 (by decide +kernel) rfl, cj_at 574 (by decide +kernel) rfl, cj_at 575 (by decide +kernel) rfl⟩
theorem lkX3_90 : cj_lV RX3 90 yX3_boundFunction := ⟨cj_at 577 (by decide +kernel) rfl, cj_at 579 (by decide +kernel) rfl, cj_at 12 (by decide +kernel) rfl⟩
theorem lkX3_120 : cj_lV RX3 120 yX3_expect := ⟨cj_at 581 (by decide +kernel) rfl, cj_at 583 (by decide +kernel) rfl, cj_at 13 (by decide +kernel) rfl⟩
theorem lkX3_74 : cj_lV RX3 74 yX4_append := ⟨cj_at 585 (by decide +kernel) rfl, cj_at 586 (by decide +kernel) rfl, cj_at 587 (by decide +kernel) rfl⟩
theorem lkX3_42 : cj_lV RX3 42 yX4_add_ := ⟨cj_at 589 (by decide +kernel) rfl, cj_at 590 (by decide +kernel) rfl, cj_at 591 (by decide +kernel) rfl⟩
theorem lkX4_23 : Cond.methodLink RX4 23 yX5_init ∈ cj_all ∧ Cond.instanceMethod yX5_init ∈ cj_all ∧ yX5_init.name = "<init>" ∧ mX5_init.2.2.2 = none := ⟨cj_at 594 (by decide +kernel) rfl, cj_at 537 (by decide +kernel) rfl, rfl, rfl⟩
theorem lkX4_26 : cj_lV RX4 26 yX4_add := ⟨cj_at 595 (by decide +kernel) rfl, cj_at 570 (by decide +kernel) rfl, cj_at 571 (by decide +kernel) rfl⟩
theorem lkX3_93 : cj_lV RX3 93 yX3_boundValue := ⟨cj_at 596 (by decide +kernel) rfl, cj_at 598 (by decide +kernel) rfl, cj_at 14 (by decide +kernel) rfl⟩
theorem lkX3_68 : cj_lV RX3 68 yX3_match := ⟨cj_at 600 (by decide +kernel) rfl, cj_at 602 (by decide +kernel) rfl, cj_at 15 (by decide +kernel) rfl⟩
theorem lkX3_71 : cj_lV RX3 71 yX3_comparison := ⟨cj_at 604 (by decide +kernel) rfl, cj_at 606 (by decide +kernel) rfl, cj_at 16 (by decide +kernel) rfl⟩
theorem lkX3_143 : cj_lV RX3 143 yX3_sum := ⟨cj_at 608 (by decide +kernel) rfl, cj_at 610 (by decide +kernel) rfl, cj_at 17 (by decide +kernel) rfl⟩
theorem lkX3_150 : cj_lV RX3 150 yX3_product := ⟨cj_at 612 (by decide +kernel) rfl, cj_at 614 (by decide +kernel) rfl, cj_at 18 (by decide +kernel) rfl⟩
theorem lkX3_153 : cj_lV RX3 153 yX3_application := ⟨cj_at 616 (by decide +kernel) rfl, cj_at 618 (by decide +kernel) rfl, cj_at 19 (by decide +kernel) rfl⟩
theorem lkX3_156 : cj_lV RX3 156 yX3_atom := ⟨cj_at 620 (by decide +kernel) rfl, cj_at 622 (by decide +kernel) rfl, cj_at 20 (by decide +kernel) rfl⟩
theorem lkX3_162 : Cond.methodLink RX3 162 yX3_isDigit ∈ cj_all ∧ Cond.static yX3_isDigit ∈ cj_all := ⟨cj_at 624 (by decide +kernel) rfl, cj_at 625 (by decide +kernel) rfl⟩
theorem lkX3_165 : cj_lV RX3 165 yX3_numeral := ⟨cj_at 627 (by decide +kernel) rfl, cj_at 629 (by decide +kernel) rfl, cj_at 21 (by decide +kernel) rfl⟩
theorem lkX3_178 : Cond.methodLink RX3 178 yX3_rowOf ∈ cj_all ∧ Cond.static yX3_rowOf ∈ cj_all := ⟨cj_at 631 (by decide +kernel) rfl, cj_at 632 (by decide +kernel) rfl⟩
theorem lkX3_169 : cj_lV RX3 169 yX3_access := ⟨cj_at 634 (by decide +kernel) rfl, cj_at 636 (by decide +kernel) rfl, cj_at 22 (by decide +kernel) rfl⟩
theorem lkX3_139 : cj_lV RX3 139 yX3_furtherOn := ⟨cj_at 638 (by decide +kernel) rfl, cj_at 640 (by decide +kernel) rfl, cj_at 23 (by decide +kernel) rfl⟩
theorem lkX3_172 : Cond.methodLink RX3 172 yX3_isConstructor ∈ cj_all ∧ Cond.static yX3_isConstructor ∈ cj_all := ⟨cj_at 642 (by decide +kernel) rfl, cj_at 643 (by decide +kernel) rfl⟩
theorem lkX3_175 : cj_lV RX3 175 yX3_construction := ⟨cj_at 645 (by decide +kernel) rfl, cj_at 647 (by decide +kernel) rfl, cj_at 24 (by decide +kernel) rfl⟩
theorem lkX3_125 : cj_lV RX3 125 yX3_takeTagNotIn := ⟨cj_at 649 (by decide +kernel) rfl, cj_at 651 (by decide +kernel) rfl, cj_at 25 (by decide +kernel) rfl⟩
theorem lkX3_159 : Cond.methodLink RX3 159 yX3_beginsAtom ∈ cj_all ∧ Cond.static yX3_beginsAtom ∈ cj_all := ⟨cj_at 656 (by decide +kernel) rfl, cj_at 657 (by decide +kernel) rfl⟩
theorem lkX3_146 : cj_lV RX3 146 yX4_operate := ⟨cj_at 659 (by decide +kernel) rfl, cj_at 660 (by decide +kernel) rfl, cj_at 661 (by decide +kernel) rfl⟩
theorem lkX4_30 : cj_lV RX4 30 yX4_add_ := ⟨cj_at 663 (by decide +kernel) rfl, cj_at 590 (by decide +kernel) rfl, cj_at 591 (by decide +kernel) rfl⟩
theorem lkX4_33 : cj_lV RX4 33 yX4_append := ⟨cj_at 664 (by decide +kernel) rfl, cj_at 586 (by decide +kernel) rfl, cj_at 587 (by decide +kernel) rfl⟩
theorem lkX3_129 : cj_lV RX3 129 yX3_caseBody := ⟨cj_at 665 (by decide +kernel) rfl, cj_at 667 (by decide +kernel) rfl, cj_at 26 (by decide +kernel) rfl⟩
theorem lkX6_58 : cj_lV RX6 58 yX0_replaceBy := ⟨cj_at 669 (by decide +kernel) rfl, cj_at 670 (by decide +kernel) rfl, cj_at 671 (by decide +kernel) rfl⟩
theorem lkX0_19 : cj_lV RX0 19 yX4_countPlaces := ⟨cj_at 673 (by decide +kernel) rfl, cj_at 674 (by decide +kernel) rfl, cj_at 675 (by decide +kernel) rfl⟩
theorem lkX0_34 : cj_lV RX0 34 yX0_store := ⟨cj_at 677 (by decide +kernel) rfl, cj_at 679 (by decide +kernel) rfl, cj_at 27 (by decide +kernel) rfl⟩
theorem lkX6_62 : cj_lV RX6 62 yX3_refuse := ⟨cj_at 681 (by decide +kernel) rfl, cj_at 415 (by decide +kernel) rfl, cj_at 416 (by decide +kernel) rfl⟩
theorem lkX6_65 : cj_lV RX6 65 yX2_beginAnew := ⟨cj_at 682 (by decide +kernel) rfl, cj_at 683 (by decide +kernel) rfl, cj_at 684 (by decide +kernel) rfl⟩
theorem lkX2_43 : cj_lV RX2 43 yX1_clear := ⟨cj_at 686 (by decide +kernel) rfl, cj_at 687 (by decide +kernel) rfl, cj_at 688 (by decide +kernel) rfl⟩
theorem lkL_15 : cj_lV RL 15 yX6_run := ⟨cj_at 695 (by decide +kernel) rfl, cj_at 696 (by decide +kernel) rfl, cj_at 697 (by decide +kernel) rfl⟩
theorem lkX6_91 : cj_lV RX6 91 yX2_doUpTo := ⟨cj_at 718 (by decide +kernel) rfl, cj_at 719 (by decide +kernel) rfl, cj_at 720 (by decide +kernel) rfl⟩
theorem lkX2_53 : cj_lV RX2 53 yX0_part := ⟨cj_at 722 (by decide +kernel) rfl, cj_at 273 (by decide +kernel) rfl, cj_at 274 (by decide +kernel) rfl⟩
theorem lkX2_57 : cj_lV RX2 57 yX2_hindrance := ⟨cj_at 723 (by decide +kernel) rfl, cj_at 725 (by decide +kernel) rfl, cj_at 28 (by decide +kernel) rfl⟩
theorem lkX2_64 : cj_lV RX2 64 yX2_isWrong := ⟨cj_at 727 (by decide +kernel) rfl, cj_at 729 (by decide +kernel) rfl, cj_at 29 (by decide +kernel) rfl⟩
theorem lkX2_82 : cj_lV RX2 82 yX2_top := ⟨cj_at 731 (by decide +kernel) rfl, cj_at 733 (by decide +kernel) rfl, cj_at 30 (by decide +kernel) rfl⟩
theorem lkX2_89 : cj_lV RX2 89 yX2_placeOfCase := ⟨cj_at 736 (by decide +kernel) rfl, cj_at 738 (by decide +kernel) rfl, cj_at 31 (by decide +kernel) rfl⟩
theorem lkX2_92 : cj_lV RX2 92 yX1_isFunction := ⟨cj_at 740 (by decide +kernel) rfl, cj_at 375 (by decide +kernel) rfl, cj_at 376 (by decide +kernel) rfl⟩
theorem lkX2_95 : cj_lV RX2 95 yX1_blockWords := ⟨cj_at 741 (by decide +kernel) rfl, cj_at 363 (by decide +kernel) rfl, cj_at 364 (by decide +kernel) rfl⟩
theorem lkX2_68 : Cond.methodLink RX2 68 yX2_growth ∈ cj_all ∧ Cond.static yX2_growth ∈ cj_all := ⟨cj_at 742 (by decide +kernel) rfl, cj_at 743 (by decide +kernel) rfl⟩
theorem lkX2_72 : cj_lV RX2 72 yX2_wordsMade := ⟨cj_at 745 (by decide +kernel) rfl, cj_at 747 (by decide +kernel) rfl, cj_at 32 (by decide +kernel) rfl⟩
theorem lkX2_101 : cj_lV RX2 101 yX1_blockKind := ⟨cj_at 750 (by decide +kernel) rfl, cj_at 355 (by decide +kernel) rfl, cj_at 356 (by decide +kernel) rfl⟩
theorem lkX2_75 : cj_lV RX2 75 yX1_hasRoomFor := ⟨cj_at 751 (by decide +kernel) rfl, cj_at 752 (by decide +kernel) rfl, cj_at 753 (by decide +kernel) rfl⟩
theorem lkX2_79 : cj_lV RX2 79 yX2_collect := ⟨cj_at 755 (by decide +kernel) rfl, cj_at 757 (by decide +kernel) rfl, cj_at 33 (by decide +kernel) rfl⟩
theorem lkX2_104 : cj_lV RX2 104 yX2_copyReachable := ⟨cj_at 759 (by decide +kernel) rfl, cj_at 305 (by decide +kernel) rfl, cj_at 306 (by decide +kernel) rfl⟩
theorem lkX2_110 : cj_lV RX2 110 yX1_useOtherHalf := ⟨cj_at 760 (by decide +kernel) rfl, cj_at 761 (by decide +kernel) rfl, cj_at 762 (by decide +kernel) rfl⟩
theorem lkX2_60 : cj_lV RX2 60 yX2_perform := ⟨cj_at 764 (by decide +kernel) rfl, cj_at 766 (by decide +kernel) rfl, cj_at 34 (by decide +kernel) rfl⟩
theorem lkX2_125 : cj_lV RX2 125 yX2_furtherOn := ⟨cj_at 771 (by decide +kernel) rfl, cj_at 773 (by decide +kernel) rfl, cj_at 35 (by decide +kernel) rfl⟩
theorem lkX2_131 : cj_lV RX2 131 yX2_push := ⟨cj_at 775 (by decide +kernel) rfl, cj_at 777 (by decide +kernel) rfl, cj_at 36 (by decide +kernel) rfl⟩
theorem lkX2_135 : cj_lV RX2 135 yX1_putPair := ⟨cj_at 779 (by decide +kernel) rfl, cj_at 780 (by decide +kernel) rfl, cj_at 781 (by decide +kernel) rfl⟩
theorem lkX1_35 : cj_lV RX1 35 yX1_beginBlock := ⟨cj_at 783 (by decide +kernel) rfl, cj_at 784 (by decide +kernel) rfl, cj_at 785 (by decide +kernel) rfl⟩
theorem lkX1_31 : cj_lV RX1 31 yX1_put := ⟨cj_at 787 (by decide +kernel) rfl, cj_at 788 (by decide +kernel) rfl, cj_at 789 (by decide +kernel) rfl⟩
theorem lkX2_139 : cj_lV RX2 139 yX2_pop := ⟨cj_at 791 (by decide +kernel) rfl, cj_at 793 (by decide +kernel) rfl, cj_at 37 (by decide +kernel) rfl⟩
theorem lkX2_145 : cj_lV RX2 145 yX2_enterFunction := ⟨cj_at 797 (by decide +kernel) rfl, cj_at 799 (by decide +kernel) rfl, cj_at 38 (by decide +kernel) rfl⟩
theorem lkX2_148 : cj_lV RX2 148 yX2_bind := ⟨cj_at 801 (by decide +kernel) rfl, cj_at 803 (by decide +kernel) rfl, cj_at 39 (by decide +kernel) rfl⟩
theorem lkX2_154 : cj_lV RX2 154 yX2_make := ⟨cj_at 808 (by decide +kernel) rfl, cj_at 810 (by decide +kernel) rfl, cj_at 40 (by decide +kernel) rfl⟩
theorem lkX2_172 : cj_lV RX2 172 yX1_beginBlock := ⟨cj_at 812 (by decide +kernel) rfl, cj_at 784 (by decide +kernel) rfl, cj_at 785 (by decide +kernel) rfl⟩
theorem lkX2_175 : cj_lV RX2 175 yX1_put := ⟨cj_at 813 (by decide +kernel) rfl, cj_at 788 (by decide +kernel) rfl, cj_at 789 (by decide +kernel) rfl⟩
theorem lkX2_157 : cj_lV RX2 157 yX2_open := ⟨cj_at 814 (by decide +kernel) rfl, cj_at 816 (by decide +kernel) rfl, cj_at 41 (by decide +kernel) rfl⟩
theorem lkX2_160 : cj_lV RX2 160 yX2_operate := ⟨cj_at 818 (by decide +kernel) rfl, cj_at 820 (by decide +kernel) rfl, cj_at 42 (by decide +kernel) rfl⟩
theorem lkX2_163 : Cond.methodLink RX2 163 yX2_wordOfTruth ∈ cj_all ∧ Cond.static yX2_wordOfTruth ∈ cj_all := ⟨cj_at 822 (by decide +kernel) rfl, cj_at 823 (by decide +kernel) rfl⟩
theorem lkL_34 : Cond.methodLink RL 34 yX7_init ∈ cj_all ∧ Cond.instanceMethod yX7_init ∈ cj_all ∧ yX7_init.name = "<init>" ∧ mX7_init.2.2.2 = none := ⟨cj_at 843 (by decide +kernel) rfl, cj_at 844 (by decide +kernel) rfl, rfl, rfl⟩
theorem lkL_44 : cj_lV RL 44 yX7_thrown := ⟨cj_at 1020 (by decide +kernel) rfl, cj_at 1021 (by decide +kernel) rfl, cj_at 1022 (by decide +kernel) rfl⟩
theorem lkL_39 : cj_lV RL 39 yX7_write := ⟨cj_at 1024 (by decide +kernel) rfl, cj_at 1025 (by decide +kernel) rfl, cj_at 1026 (by decide +kernel) rfl⟩
theorem lkL_43 : cj_lV RL 43 yX7_compile := ⟨cj_at 1028 (by decide +kernel) rfl, cj_at 1029 (by decide +kernel) rfl, cj_at 1030 (by decide +kernel) rfl⟩
theorem lkX7_284 : cj_lV RX7 284 yX7_readText := ⟨cj_at 1032 (by decide +kernel) rfl, cj_at 1034 (by decide +kernel) rfl, cj_at 43 (by decide +kernel) rfl⟩
theorem lkX7_174 : cj_lV RX7 174 yX7_begin := ⟨cj_at 1036 (by decide +kernel) rfl, cj_at 1038 (by decide +kernel) rfl, cj_at 44 (by decide +kernel) rfl⟩
theorem lkX7_217 : cj_lV RX7 217 yX7_completed := ⟨cj_at 1040 (by decide +kernel) rfl, cj_at 1042 (by decide +kernel) rfl, cj_at 45 (by decide +kernel) rfl⟩
theorem lkX7_180 : cj_lV RX7 180 yX7_node := ⟨cj_at 1044 (by decide +kernel) rfl, cj_at 1046 (by decide +kernel) rfl, cj_at 46 (by decide +kernel) rfl⟩
theorem lkX7_194 : cj_lV RX7 194 yX7_addChild := ⟨cj_at 1048 (by decide +kernel) rfl, cj_at 1050 (by decide +kernel) rfl, cj_at 47 (by decide +kernel) rfl⟩
theorem lkX7_184 : cj_lV RX7 184 yX7_want := ⟨cj_at 1052 (by decide +kernel) rfl, cj_at 1054 (by decide +kernel) rfl, cj_at 48 (by decide +kernel) rfl⟩
theorem lkX7_134 : cj_lV RX7 134 yX7_look := ⟨cj_at 1056 (by decide +kernel) rfl, cj_at 1058 (by decide +kernel) rfl, cj_at 49 (by decide +kernel) rfl⟩
theorem lkX7_163 : cj_lV RX7 163 yX7_bind := ⟨cj_at 1060 (by decide +kernel) rfl, cj_at 1062 (by decide +kernel) rfl, cj_at 50 (by decide +kernel) rfl⟩
theorem lkX7_167 : cj_lV RX7 167 yX7_head := ⟨cj_at 1064 (by decide +kernel) rfl, cj_at 1066 (by decide +kernel) rfl, cj_at 51 (by decide +kernel) rfl⟩
theorem lkX7_226 : cj_lV RX7 226 yX7_fieldEnds := ⟨cj_at 1068 (by decide +kernel) rfl, cj_at 1070 (by decide +kernel) rfl, cj_at 52 (by decide +kernel) rfl⟩
theorem lkX7_197 : cj_lV RX7 197 yX7_push := ⟨cj_at 1072 (by decide +kernel) rfl, cj_at 1074 (by decide +kernel) rfl, cj_at 53 (by decide +kernel) rfl⟩
theorem lkX7_229 : cj_lV RX7 229 yX7_caseEnds := ⟨cj_at 1076 (by decide +kernel) rfl, cj_at 1078 (by decide +kernel) rfl, cj_at 54 (by decide +kernel) rfl⟩
theorem lkX7_235 : cj_lV RX7 235 yX7_readHead := ⟨cj_at 1080 (by decide +kernel) rfl, cj_at 1082 (by decide +kernel) rfl, cj_at 55 (by decide +kernel) rfl⟩
theorem lkX7_160 : cj_lV RX7 160 yX7_wantName := ⟨cj_at 1084 (by decide +kernel) rfl, cj_at 1086 (by decide +kernel) rfl, cj_at 56 (by decide +kernel) rfl⟩
theorem lkX7_124 : Cond.methodLink RX7 124 yX7_isName ∈ cj_all ∧ Cond.static yX7_isName ∈ cj_all := ⟨cj_at 1088 (by decide +kernel) rfl, cj_at 1089 (by decide +kernel) rfl⟩
theorem lkX7_171 : cj_lV RX7 171 yX7_behind := ⟨cj_at 1091 (by decide +kernel) rfl, cj_at 1093 (by decide +kernel) rfl, cj_at 57 (by decide +kernel) rfl⟩
theorem lkX7_177 : cj_lV RX7 177 yX7_readFix := ⟨cj_at 1095 (by decide +kernel) rfl, cj_at 1097 (by decide +kernel) rfl, cj_at 58 (by decide +kernel) rfl⟩
theorem lkX7_238 : cj_lV RX7 238 yX7_readAtom := ⟨cj_at 1099 (by decide +kernel) rfl, cj_at 1101 (by decide +kernel) rfl, cj_at 59 (by decide +kernel) rfl⟩
theorem lkX7_128 : Cond.methodLink RX7 128 yX7_isDigit ∈ cj_all ∧ Cond.static yX7_isDigit ∈ cj_all := ⟨cj_at 1103 (by decide +kernel) rfl, cj_at 1104 (by decide +kernel) rfl⟩
theorem lkX7_201 : cj_lV RX7 201 yX7_readNumeral := ⟨cj_at 1106 (by decide +kernel) rfl, cj_at 1108 (by decide +kernel) rfl, cj_at 60 (by decide +kernel) rfl⟩
theorem lkX7_204 : cj_lV RX7 204 yX7_readName := ⟨cj_at 1110 (by decide +kernel) rfl, cj_at 1112 (by decide +kernel) rfl, cj_at 61 (by decide +kernel) rfl⟩
theorem lkX7_131 : Cond.methodLink RX7 131 yX7_isConstructor ∈ cj_all ∧ Cond.static yX7_isConstructor ∈ cj_all := ⟨cj_at 1114 (by decide +kernel) rfl, cj_at 1115 (by decide +kernel) rfl⟩
theorem lkX7_241 : cj_lV RX7 241 yX7_readBehind := ⟨cj_at 1117 (by decide +kernel) rfl, cj_at 1119 (by decide +kernel) rfl, cj_at 62 (by decide +kernel) rfl⟩
theorem lkX7_207 : Cond.methodLink RX7 207 yX7_beginsAtom ∈ cj_all ∧ Cond.static yX7_beginsAtom ∈ cj_all := ⟨cj_at 1121 (by decide +kernel) rfl, cj_at 1122 (by decide +kernel) rfl⟩
theorem lkX7_210 : cj_lV RX7 210 yX7_join := ⟨cj_at 1124 (by decide +kernel) rfl, cj_at 1126 (by decide +kernel) rfl, cj_at 63 (by decide +kernel) rfl⟩
theorem lkX7_214 : cj_lV RX7 214 yX7_settle := ⟨cj_at 1128 (by decide +kernel) rfl, cj_at 1130 (by decide +kernel) rfl, cj_at 64 (by decide +kernel) rfl⟩
theorem lkX7_187 : Cond.methodLink RX7 187 yX7_rank ∈ cj_all ∧ Cond.static yX7_rank ∈ cj_all := ⟨cj_at 1132 (by decide +kernel) rfl, cj_at 1133 (by decide +kernel) rfl⟩
theorem lkX7_244 : cj_lV RX7 244 yX7_readCase := ⟨cj_at 1135 (by decide +kernel) rfl, cj_at 1137 (by decide +kernel) rfl, cj_at 65 (by decide +kernel) rfl⟩
theorem lkX7_220 : cj_lV RX7 220 yX7_childAt := ⟨cj_at 1139 (by decide +kernel) rfl, cj_at 1141 (by decide +kernel) rfl, cj_at 66 (by decide +kernel) rfl⟩
theorem lkX7_287 : cj_lV RX7 287 yX7_makeCode := ⟨cj_at 1143 (by decide +kernel) rfl, cj_at 1145 (by decide +kernel) rfl, cj_at 67 (by decide +kernel) rfl⟩
theorem lkX7_260 : cj_lV RX7 260 yX7_todoEmit := ⟨cj_at 1147 (by decide +kernel) rfl, cj_at 1149 (by decide +kernel) rfl, cj_at 68 (by decide +kernel) rfl⟩
theorem lkX7_253 : cj_lV RX7 253 yX7_todo := ⟨cj_at 1151 (by decide +kernel) rfl, cj_at 1153 (by decide +kernel) rfl, cj_at 69 (by decide +kernel) rfl⟩
theorem lkX7_263 : cj_lV RX7 263 yX7_todoNode := ⟨cj_at 1155 (by decide +kernel) rfl, cj_at 1157 (by decide +kernel) rfl, cj_at 70 (by decide +kernel) rfl⟩
theorem lkX7_281 : cj_lV RX7 281 yX7_doWork := ⟨cj_at 1159 (by decide +kernel) rfl, cj_at 1161 (by decide +kernel) rfl, cj_at 71 (by decide +kernel) rfl⟩
theorem lkX7_269 : cj_lV RX7 269 yX7_generate := ⟨cj_at 1163 (by decide +kernel) rfl, cj_at 1165 (by decide +kernel) rfl, cj_at 72 (by decide +kernel) rfl⟩
theorem lkX7_257 : cj_lV RX7 257 yX7_emit := ⟨cj_at 1167 (by decide +kernel) rfl, cj_at 1169 (by decide +kernel) rfl, cj_at 73 (by decide +kernel) rfl⟩
theorem lkX7_266 : cj_lV RX7 266 yX7_generateBuilt := ⟨cj_at 1171 (by decide +kernel) rfl, cj_at 1173 (by decide +kernel) rfl, cj_at 74 (by decide +kernel) rfl⟩
theorem lkX7_272 : cj_lV RX7 272 yX7_set := ⟨cj_at 1175 (by decide +kernel) rfl, cj_at 1177 (by decide +kernel) rfl, cj_at 75 (by decide +kernel) rfl⟩
theorem lkX7_275 : cj_lV RX7 275 yX7_generateSwitch := ⟨cj_at 1179 (by decide +kernel) rfl, cj_at 1181 (by decide +kernel) rfl, cj_at 76 (by decide +kernel) rfl⟩
theorem lkX7_278 : cj_lV RX7 278 yX7_endMatch := ⟨cj_at 1183 (by decide +kernel) rfl, cj_at 1185 (by decide +kernel) rfl, cj_at 77 (by decide +kernel) rfl⟩
theorem lkX7_290 : cj_lV RX7 290 yX7_fail := ⟨cj_at 1187 (by decide +kernel) rfl, cj_at 1189 (by decide +kernel) rfl, cj_at 78 (by decide +kernel) rfl⟩
theorem lkL_50 : cj_lV RL 50 yX7_place := ⟨cj_at 1191 (by decide +kernel) rfl, cj_at 1192 (by decide +kernel) rfl, cj_at 1193 (by decide +kernel) rfl⟩
theorem lkL_55 : cj_lV RL 55 yX7_code := ⟨cj_at 1195 (by decide +kernel) rfl, cj_at 1196 (by decide +kernel) rfl, cj_at 1197 (by decide +kernel) rfl⟩
theorem lkL_59 : cj_lV RL 59 yX7_run := ⟨cj_at 1199 (by decide +kernel) rfl, cj_at 1200 (by decide +kernel) rfl, cj_at 1201 (by decide +kernel) rfl⟩
theorem lkX7_387 : cj_lV RX7 387 yX7_one := ⟨cj_at 1203 (by decide +kernel) rfl, cj_at 1205 (by decide +kernel) rfl, cj_at 79 (by decide +kernel) rfl⟩
theorem lkX7_369 : cj_lV RX7 369 yX7_wrong := ⟨cj_at 1207 (by decide +kernel) rfl, cj_at 1209 (by decide +kernel) rfl, cj_at 80 (by decide +kernel) rfl⟩
theorem lkX7_344 : Cond.methodLink RX7 344 yX7_isInt ∈ cj_all ∧ Cond.static yX7_isInt ∈ cj_all := ⟨cj_at 1211 (by decide +kernel) rfl, cj_at 1212 (by decide +kernel) rfl⟩
theorem lkX7_347 : cj_lV RX7 347 yX7_isFunction := ⟨cj_at 1214 (by decide +kernel) rfl, cj_at 1216 (by decide +kernel) rfl, cj_at 81 (by decide +kernel) rfl⟩
theorem lkX7_318 : Cond.methodLink RX7 318 yX7_isPointer ∈ cj_all ∧ Cond.static yX7_isPointer ∈ cj_all := ⟨cj_at 1218 (by decide +kernel) rfl, cj_at 1219 (by decide +kernel) rfl⟩
theorem lkX7_331 : cj_lV RX7 331 yX7_blockKind := ⟨cj_at 1221 (by decide +kernel) rfl, cj_at 1223 (by decide +kernel) rfl, cj_at 82 (by decide +kernel) rfl⟩
theorem lkX7_350 : cj_lV RX7 350 yX7_isBuilt := ⟨cj_at 1225 (by decide +kernel) rfl, cj_at 1227 (by decide +kernel) rfl, cj_at 83 (by decide +kernel) rfl⟩
theorem lkX7_334 : Cond.methodLink RX7 334 yX7_isTag ∈ cj_all ∧ Cond.static yX7_isTag ∈ cj_all := ⟨cj_at 1229 (by decide +kernel) rfl, cj_at 1230 (by decide +kernel) rfl⟩
theorem lkX7_353 : cj_lV RX7 353 yX7_findCase := ⟨cj_at 1232 (by decide +kernel) rfl, cj_at 1234 (by decide +kernel) rfl, cj_at 84 (by decide +kernel) rfl⟩
theorem lkX7_337 : cj_lV RX7 337 yX7_tagOf := ⟨cj_at 1236 (by decide +kernel) rfl, cj_at 1238 (by decide +kernel) rfl, cj_at 85 (by decide +kernel) rfl⟩
theorem lkX7_340 : cj_lV RX7 340 yX7_a := ⟨cj_at 1240 (by decide +kernel) rfl, cj_at 1242 (by decide +kernel) rfl, cj_at 86 (by decide +kernel) rfl⟩
theorem lkX7_372 : cj_lV RX7 372 yX7_stop := ⟨cj_at 1244 (by decide +kernel) rfl, cj_at 1246 (by decide +kernel) rfl, cj_at 87 (by decide +kernel) rfl⟩
theorem lkX7_375 : cj_lV RX7 375 yX7_roomFor := ⟨cj_at 1248 (by decide +kernel) rfl, cj_at 1250 (by decide +kernel) rfl, cj_at 88 (by decide +kernel) rfl⟩
theorem lkX7_378 : cj_lV RX7 378 yX7_hasRoom := ⟨cj_at 1252 (by decide +kernel) rfl, cj_at 1254 (by decide +kernel) rfl, cj_at 89 (by decide +kernel) rfl⟩
theorem lkX7_328 : cj_lV RX7 328 yX7_collect := ⟨cj_at 1256 (by decide +kernel) rfl, cj_at 1258 (by decide +kernel) rfl, cj_at 90 (by decide +kernel) rfl⟩
theorem lkX7_325 : cj_lV RX7 325 yX7_move := ⟨cj_at 1260 (by decide +kernel) rfl, cj_at 1262 (by decide +kernel) rfl, cj_at 91 (by decide +kernel) rfl⟩
theorem lkX7_322 : cj_lV RX7 322 yX7_blockSize := ⟨cj_at 1264 (by decide +kernel) rfl, cj_at 1266 (by decide +kernel) rfl, cj_at 92 (by decide +kernel) rfl⟩
theorem lkX7_381 : cj_lV RX7 381 yX7_apply := ⟨cj_at 1268 (by decide +kernel) rfl, cj_at 1270 (by decide +kernel) rfl, cj_at 93 (by decide +kernel) rfl⟩
theorem lkX7_356 : cj_lV RX7 356 yX7_field := ⟨cj_at 1272 (by decide +kernel) rfl, cj_at 1274 (by decide +kernel) rfl, cj_at 94 (by decide +kernel) rfl⟩
theorem lkX7_359 : cj_lV RX7 359 yX7_block := ⟨cj_at 1276 (by decide +kernel) rfl, cj_at 1278 (by decide +kernel) rfl, cj_at 95 (by decide +kernel) rfl⟩
theorem lkX7_384 : cj_lV RX7 384 yX7_simple := ⟨cj_at 1280 (by decide +kernel) rfl, cj_at 1282 (by decide +kernel) rfl, cj_at 96 (by decide +kernel) rfl⟩
theorem lkX7_363 : cj_lV RX7 363 yX7_calculate := ⟨cj_at 1284 (by decide +kernel) rfl, cj_at 1286 (by decide +kernel) rfl, cj_at 97 (by decide +kernel) rfl⟩
theorem lkX7_366 : cj_lV RX7 366 yX7_make := ⟨cj_at 1288 (by decide +kernel) rfl, cj_at 1290 (by decide +kernel) rfl, cj_at 98 (by decide +kernel) rfl⟩
theorem lkL_63 : cj_lV RL 63 yX7_state := ⟨cj_at 1292 (by decide +kernel) rfl, cj_at 1293 (by decide +kernel) rfl, cj_at 1294 (by decide +kernel) rfl⟩
theorem lkL_67 : cj_lV RL 67 yX7_why := ⟨cj_at 1296 (by decide +kernel) rfl, cj_at 1297 (by decide +kernel) rfl, cj_at 1298 (by decide +kernel) rfl⟩
theorem lkL_71 : cj_lV RL 71 yX7_next := ⟨cj_at 1300 (by decide +kernel) rfl, cj_at 1301 (by decide +kernel) rfl, cj_at 1302 (by decide +kernel) rfl⟩
theorem lkL_75 : cj_lV RL 75 yX7_depth := ⟨cj_at 1304 (by decide +kernel) rfl, cj_at 1305 (by decide +kernel) rfl, cj_at 1306 (by decide +kernel) rfl⟩
theorem lkL_79 : cj_lV RL 79 yX7_used := ⟨cj_at 1308 (by decide +kernel) rfl, cj_at 1309 (by decide +kernel) rfl, cj_at 1310 (by decide +kernel) rfl⟩
theorem lkL_83 : cj_lV RL 83 yX7_live := ⟨cj_at 1312 (by decide +kernel) rfl, cj_at 1313 (by decide +kernel) rfl, cj_at 1314 (by decide +kernel) rfl⟩
theorem lkX7_390 : cj_lV RX7 390 yX7_reach := ⟨cj_at 1316 (by decide +kernel) rfl, cj_at 1318 (by decide +kernel) rfl, cj_at 99 (by decide +kernel) rfl⟩
theorem lkL_87 : cj_lV RL 87 yX7_collections := ⟨cj_at 1320 (by decide +kernel) rfl, cj_at 1321 (by decide +kernel) rfl, cj_at 1322 (by decide +kernel) rfl⟩
theorem lkL_91 : cj_lV RL 91 yX7_kind := ⟨cj_at 1324 (by decide +kernel) rfl, cj_at 1325 (by decide +kernel) rfl, cj_at 1326 (by decide +kernel) rfl⟩
theorem lkX7_396 : cj_lV RX7 396 yX7_ends := ⟨cj_at 1328 (by decide +kernel) rfl, cj_at 1330 (by decide +kernel) rfl, cj_at 100 (by decide +kernel) rfl⟩
theorem lkX7_399 : cj_lV RX7 399 yX7_kindOf := ⟨cj_at 1332 (by decide +kernel) rfl, cj_at 1334 (by decide +kernel) rfl, cj_at 101 (by decide +kernel) rfl⟩
theorem lkX7_393 : cj_lV RX7 393 yX7_follow := ⟨cj_at 1336 (by decide +kernel) rfl, cj_at 1338 (by decide +kernel) rfl, cj_at 102 (by decide +kernel) rfl⟩
theorem lkL_95 : cj_lV RL 95 yX7_value := ⟨cj_at 1340 (by decide +kernel) rfl, cj_at 1341 (by decide +kernel) rfl, cj_at 1342 (by decide +kernel) rfl⟩
theorem lkX6_19 : (RX6, 19, yX3_init) ∈ cj_nest ∧ Cond.instanceMethod yX3_init ∈ cj_all ∧ yX3_init.name = "<init>" ∧ mX3_init.2.2.2 = none := ⟨by decide +kernel, cj_at 132 (by decide +kernel) rfl, rfl, rfl⟩
theorem lkX6_26 : (RX6, 26, yX0_init) ∈ cj_nest ∧ Cond.instanceMethod yX0_init ∈ cj_all ∧ yX0_init.name = "<init>" ∧ mX0_init.2.2.2 = none := ⟨by decide +kernel, cj_at 159 (by decide +kernel) rfl, rfl, rfl⟩
theorem lkX1_50 : (RX1, 50, yX6_isTag) ∈ cj_nest ∧ Cond.static yX6_isTag ∈ cj_all := ⟨by decide +kernel, cj_at 349 (by decide +kernel) rfl⟩
theorem lkX1_53 : (RX1, 53, yX6_tagOf) ∈ cj_nest ∧ Cond.static yX6_tagOf ∈ cj_all := ⟨by decide +kernel, cj_at 352 (by decide +kernel) rfl⟩
theorem lkX1_56 : (RX1, 56, yX6_isInt) ∈ cj_nest ∧ Cond.static yX6_isInt ∈ cj_all := ⟨by decide +kernel, cj_at 371 (by decide +kernel) rfl⟩
theorem lkX1_68 : (RX1, 68, yX6_intOf) ∈ cj_nest ∧ Cond.static yX6_intOf ∈ cj_all := ⟨by decide +kernel, cj_at 388 (by decide +kernel) rfl⟩
theorem lkX3_55 : (RX3, 55, yX4_init) ∈ cj_nest ∧ Cond.instanceMethod yX4_init ∈ cj_all ∧ yX4_init.name = "<init>" ∧ mX4_init.2.2.2 = none := ⟨by decide +kernel, cj_at 489 (by decide +kernel) rfl, rfl, rfl⟩
theorem lkX3_136 : (RX3, 136, yX6_fieldsOf) ∈ cj_nest ∧ Cond.static yX6_fieldsOf ∈ cj_all := ⟨by decide +kernel, cj_at 654 (by decide +kernel) rfl⟩
theorem lkX2_86 : (RX2, 86, yX6_isInt) ∈ cj_nest ∧ Cond.static yX6_isInt ∈ cj_all := ⟨by decide +kernel, cj_at 371 (by decide +kernel) rfl⟩
theorem lkX2_98 : (RX2, 98, yX6_fieldsOf) ∈ cj_nest ∧ Cond.static yX6_fieldsOf ∈ cj_all := ⟨by decide +kernel, cj_at 654 (by decide +kernel) rfl⟩
theorem lkX2_122 : (RX2, 122, yX6_wordOfInt) ∈ cj_nest ∧ Cond.static yX6_wordOfInt ∈ cj_all := ⟨by decide +kernel, cj_at 769 (by decide +kernel) rfl⟩
theorem lkX2_142 : (RX2, 142, yX6_intOf) ∈ cj_nest ∧ Cond.static yX6_intOf ∈ cj_all := ⟨by decide +kernel, cj_at 388 (by decide +kernel) rfl⟩
theorem lkX2_151 : (RX2, 151, yX6_wordOfTag) ∈ cj_nest ∧ Cond.static yX6_wordOfTag ∈ cj_all := ⟨by decide +kernel, cj_at 806 (by decide +kernel) rfl⟩
theorem lkX6_1 : Cond.methodLink RX6 1 Lib.objectInit ∈ cj_all ∧ Cond.instanceMethod Lib.objectInit ∈ cj_all ∧ Cond.code Lib.objectInit ⟨#[0xb1]⟩ 1 none ∈ cj_all := ⟨cj_at 126 (by decide +kernel) rfl, cj_at 127 (by decide +kernel) rfl, cj_at 128 (by decide +kernel) rfl⟩
theorem lkX3_3 : Cond.methodLink RX3 3 Lib.objectInit ∈ cj_all ∧ Cond.instanceMethod Lib.objectInit ∈ cj_all ∧ Cond.code Lib.objectInit ⟨#[0xb1]⟩ 1 none ∈ cj_all := ⟨cj_at 134 (by decide +kernel) rfl, cj_at 127 (by decide +kernel) rfl, cj_at 128 (by decide +kernel) rfl⟩
theorem lkX0_3 : Cond.methodLink RX0 3 Lib.objectInit ∈ cj_all ∧ Cond.instanceMethod Lib.objectInit ∈ cj_all ∧ Cond.code Lib.objectInit ⟨#[0xb1]⟩ 1 none ∈ cj_all := ⟨cj_at 161 (by decide +kernel) rfl, cj_at 127 (by decide +kernel) rfl, cj_at 128 (by decide +kernel) rfl⟩
theorem lkX6_31 : Cond.methodLink RX6 31 Lib.Math.min.name ∈ cj_all ∧ Cond.static Lib.Math.min.name ∈ cj_all ∧ Cond.initialized "java/lang/Math" ∈ cj_all ∧ Cond.code Lib.Math.min.name Lib.Math.min.code 2 (some .int) ∈ cj_all := ⟨cj_at 172 (by decide +kernel) rfl, cj_at 173 (by decide +kernel) rfl, cj_at 107 (by decide +kernel) rfl, cj_at 174 (by decide +kernel) rfl⟩
theorem lkX6_37 : Cond.methodLink RX6 37 Lib.Math.max.name ∈ cj_all ∧ Cond.static Lib.Math.max.name ∈ cj_all ∧ Cond.initialized "java/lang/Math" ∈ cj_all ∧ Cond.code Lib.Math.max.name Lib.Math.max.code 2 (some .int) ∈ cj_all := ⟨cj_at 175 (by decide +kernel) rfl, cj_at 176 (by decide +kernel) rfl, cj_at 107 (by decide +kernel) rfl, cj_at 177 (by decide +kernel) rfl⟩
theorem lkX1_3 : Cond.methodLink RX1 3 Lib.objectInit ∈ cj_all ∧ Cond.instanceMethod Lib.objectInit ∈ cj_all ∧ Cond.code Lib.objectInit ⟨#[0xb1]⟩ 1 none ∈ cj_all := ⟨cj_at 185 (by decide +kernel) rfl, cj_at 127 (by decide +kernel) rfl, cj_at 128 (by decide +kernel) rfl⟩
theorem lkX2_3 : Cond.methodLink RX2 3 Lib.objectInit ∈ cj_all ∧ Cond.instanceMethod Lib.objectInit ∈ cj_all ∧ Cond.code Lib.objectInit ⟨#[0xb1]⟩ 1 none ∈ cj_all := ⟨cj_at 211 (by decide +kernel) rfl, cj_at 127 (by decide +kernel) rfl, cj_at 128 (by decide +kernel) rfl⟩
theorem lkX1_80 : Cond.methodLink RX1 80 arraycopyName ∈ cj_all ∧ Cond.native arraycopyName ∈ cj_all ∧ Cond.static arraycopyName ∈ cj_all ∧ Cond.initialized "java/lang/System" ∈ cj_all := ⟨cj_at 323 (by decide +kernel) rfl, cj_at 325 (by decide +kernel) rfl, cj_at 324 (by decide +kernel) rfl, cj_at 119 (by decide +kernel) rfl⟩
theorem lkX1_86 : Cond.methodLink RX1 86 Lib.Math.max.name ∈ cj_all ∧ Cond.static Lib.Math.max.name ∈ cj_all ∧ Cond.initialized "java/lang/Math" ∈ cj_all ∧ Cond.code Lib.Math.max.name Lib.Math.max.code 2 (some .int) ∈ cj_all := ⟨cj_at 330 (by decide +kernel) rfl, cj_at 176 (by decide +kernel) rfl, cj_at 107 (by decide +kernel) rfl, cj_at 177 (by decide +kernel) rfl⟩
theorem lkX4_3 : Cond.methodLink RX4 3 Lib.objectInit ∈ cj_all ∧ Cond.instanceMethod Lib.objectInit ∈ cj_all ∧ Cond.code Lib.objectInit ⟨#[0xb1]⟩ 1 none ∈ cj_all := ⟨cj_at 491 (by decide +kernel) rfl, cj_at 127 (by decide +kernel) rfl, cj_at 128 (by decide +kernel) rfl⟩
theorem lkX5_1 : Cond.methodLink RX5 1 Lib.objectInit ∈ cj_all ∧ Cond.instanceMethod Lib.objectInit ∈ cj_all ∧ Cond.code Lib.objectInit ⟨#[0xb1]⟩ 1 none ∈ cj_all := ⟨cj_at 539 (by decide +kernel) rfl, cj_at 127 (by decide +kernel) rfl, cj_at 128 (by decide +kernel) rfl⟩
theorem lkX2_167 : Cond.methodLink RX2 167 Lib.Math.max.name ∈ cj_all ∧ Cond.static Lib.Math.max.name ∈ cj_all ∧ Cond.initialized "java/lang/Math" ∈ cj_all ∧ Cond.code Lib.Math.max.name Lib.Math.max.code 2 (some .int) ∈ cj_all := ⟨cj_at 795 (by decide +kernel) rfl, cj_at 176 (by decide +kernel) rfl, cj_at 107 (by decide +kernel) rfl, cj_at 177 (by decide +kernel) rfl⟩
theorem lkX7_1 : Cond.methodLink RX7 1 Lib.objectInit ∈ cj_all ∧ Cond.instanceMethod Lib.objectInit ∈ cj_all ∧ Cond.code Lib.objectInit ⟨#[0xb1]⟩ 1 none ∈ cj_all := ⟨cj_at 846 (by decide +kernel) rfl, cj_at 127 (by decide +kernel) rfl, cj_at 128 (by decide +kernel) rfl⟩
theorem klL_8 : Cond.classLink RL 8 RX6 ∈ cj_all ∧ Cond.instantiable RX6 5 ∈ cj_all ∧ Cond.initialized RX6 ∈ cj_all := ⟨cj_at 121 (by decide +kernel) rfl, cj_at 122 (by decide +kernel) rfl, cj_at 104 (by decide +kernel) rfl⟩
theorem klX6_17 : Cond.classLink RX6 17 RX3 ∈ cj_all ∧ Cond.instantiable RX3 6 ∈ cj_all ∧ Cond.initialized RX3 ∈ cj_all := ⟨cj_at 129 (by decide +kernel) rfl, cj_at 130 (by decide +kernel) rfl, cj_at 105 (by decide +kernel) rfl⟩
theorem klX6_24 : Cond.classLink RX6 24 RX0 ∈ cj_all ∧ Cond.instantiable RX0 2 ∈ cj_all ∧ Cond.initialized RX0 ∈ cj_all := ⟨cj_at 156 (by decide +kernel) rfl, cj_at 157 (by decide +kernel) rfl, cj_at 106 (by decide +kernel) rfl⟩
theorem klX6_40 : Cond.classLink RX6 40 RX2 ∈ cj_all ∧ Cond.instantiable RX2 9 ∈ cj_all ∧ Cond.initialized RX2 ∈ cj_all := ⟨cj_at 178 (by decide +kernel) rfl, cj_at 179 (by decide +kernel) rfl, cj_at 108 (by decide +kernel) rfl⟩
theorem klX6_42 : Cond.classLink RX6 42 RX1 ∈ cj_all ∧ Cond.instantiable RX1 6 ∈ cj_all ∧ Cond.initialized RX1 ∈ cj_all := ⟨cj_at 180 (by decide +kernel) rfl, cj_at 181 (by decide +kernel) rfl, cj_at 109 (by decide +kernel) rfl⟩
theorem klX3_43 : Cond.classLink RX3 43 RX4 ∈ cj_all ∧ Cond.instantiable RX4 2 ∈ cj_all ∧ Cond.initialized RX4 ∈ cj_all := ⟨cj_at 486 (by decide +kernel) rfl, cj_at 487 (by decide +kernel) rfl, cj_at 115 (by decide +kernel) rfl⟩
theorem klX3_115 : Cond.classLink RX3 115 RX5 ∈ cj_all ∧ Cond.instantiable RX5 5 ∈ cj_all ∧ Cond.initialized RX5 ∈ cj_all := ⟨cj_at 534 (by decide +kernel) rfl, cj_at 535 (by decide +kernel) rfl, cj_at 116 (by decide +kernel) rfl⟩
theorem klX4_19 : Cond.classLink RX4 19 RX5 ∈ cj_all ∧ Cond.instantiable RX5 5 ∈ cj_all ∧ Cond.initialized RX5 ∈ cj_all := ⟨cj_at 593 (by decide +kernel) rfl, cj_at 535 (by decide +kernel) rfl, cj_at 116 (by decide +kernel) rfl⟩
theorem klL_32 : Cond.classLink RL 32 RX7 ∈ cj_all ∧ Cond.instantiable RX7 57 ∈ cj_all ∧ Cond.initialized RX7 ∈ cj_all := ⟨cj_at 841 (by decide +kernel) rfl, cj_at 842 (by decide +kernel) rfl, cj_at 110 (by decide +kernel) rfl⟩
end
section
/-! naming a picture, a stack; what a picture leaves alone -/
section CL
variable {M : cj_M} {d k0 n0 k n pc : Nat} {Qr : Option Value → cj_G → Prop} {Qx : String → cj_G → Prop} {lv : List (Nat × Value)} {st st' : List Value} {G : cj_G}
theorem cj_nm (h : ∀ G1 : cj_G, G1 = G → cj_J M d k0 n0 Qr Qx k n pc lv st G1) : cj_J M d k0 n0 Qr Qx k n pc lv st G := h G rfl
theorem cj_st (h : st = st') (kk : cj_J M d k0 n0 Qr Qx k n pc lv st' G) : cj_J M d k0 n0 Qr Qx k n pc lv st G := h ▸ kk
theorem cj_lvs {lv' : List (Nat × Value)} (h : lv = lv') (kk : cj_J M d k0 n0 Qr Qx k n pc lv' st G) : cj_J M d k0 n0 Qr Qx k n pc lv st G := h ▸ kk
theorem cj_pc {pc' : Nat} (h : pc = pc') (kk : cj_J M d k0 n0 Qr Qx k n pc' lv st G) : cj_J M d k0 n0 Qr Qx k n pc lv st G := h ▸ kk
end CL
theorem cj_ne {G : cj_G} {a b : Nat} {x y : cj_E} (ha : G a = some x) (hb : G b = some y) (h : x ≠ y) : a ≠ b := fun e => by subst e; rw [ha] at hb; exact h (Option.some.inj hb)
theorem cj_nn {G : cj_G} {a q : Nat} {x : cj_E} (ha : G a = some x) (hq : G q = none) : a ≠ q := fun e => by subst e; rw [ha] at hq; cases hq
/-- of G to G' only the things at S have changed; there may be new ones -/
def cj_fr (S : List Nat) (G G' : cj_G) : Prop := ∀ (q : Nat) (x : cj_E), q ∉ S → G q = some x → G' q = some x
theorem cj_fr.rf {S : List Nat} {G : cj_G} : cj_fr S G G := fun _ _ _ h => h
theorem cj_fr.up {S : List Nat} {G G1 : cj_G} {a : Nat} {x : cj_E} (h : cj_fr S G G1) (ha : a ∈ S) : cj_fr S G (cj_up G1 a x) := fun q y hq hy => by
  have hne : q ≠ a := fun e => hq (e ▸ ha)
  rw [cj_up_n hne]
  exact h q y hq hy
theorem cj_fr.new {S : List Nat} {G G1 : cj_G} {a : Nat} {x : cj_E} (h : cj_fr S G G1) (ha : G1 a = none) : cj_fr S G (cj_up G1 a x) := fun q y hq hy => by
  have h1 := h q y hq hy
  exact cj_up_ne h1 ha
theorem cj_fr.trans {S : List Nat} {G G1 G2 : cj_G} (h : cj_fr S G G1) (h2 : cj_fr S G1 G2) : cj_fr S G G2 := fun q y hq hy => h2 q y hq (h q y hq hy)
theorem cj_fr.mono {S S' : List Nat} {G G1 : cj_G} (h : cj_fr S G G1) (hs : ∀ q ∈ S, q ∈ S') : cj_fr S' G G1 := fun q y hq hy => h q y (fun h9 => hq (hs q h9)) hy
abbrev cj_no : String → cj_G → Prop := fun _ _ => False
/-- the answer is an int, nothing has changed -/
abbrev cj_rd (G : cj_G) (x : Int32) : Option Value → cj_G → Prop := fun v G' => v = some (.int x) ∧ G' = G

/-! the small static methods of ClosureHeap -/
set_option maxHeartbeats 4000000 in
set_option maxRecDepth 100000 in
theorem t_fieldsOf {G : cj_G} {x : Int32} : cj_T mX6_fieldsOf 0 0 0 [.int x] G (cj_rd G (x &&& 3)) (cj_no) := by
  refine cj_T_of (by decide) (Nat.le_of_ble_eq_true rfl) ?_
  refine cj_lvs (lv' := [(0, .int x)]) rfl ?_
  refine cj_iload_n dX6_fieldsOf_0 rfl ?_
  refine cj_iconst (v := 3) dX6_fieldsOf_1 (by decide) ?_
  refine cj_iand dX6_fieldsOf_2 ?_
  refine cj_iret rfl dX6_fieldsOf_3 ?_
  exact ⟨rfl, rfl⟩
set_option maxHeartbeats 4000000 in
set_option maxRecDepth 100000 in
theorem t_wordOfInt {G : cj_G} {x : Int32} : cj_T mX6_wordOfInt 0 0 0 [.int x] G (cj_rd G (2 * x + 1)) (cj_no) := by
  refine cj_T_of (by decide) (Nat.le_of_ble_eq_true rfl) ?_
  refine cj_lvs (lv' := [(0, .int x)]) rfl ?_
  refine cj_iconst (v := 2) dX6_wordOfInt_0 (by decide) ?_
  refine cj_iload_n dX6_wordOfInt_1 rfl ?_
  refine cj_imul dX6_wordOfInt_2 ?_
  refine cj_iconst (v := 1) dX6_wordOfInt_3 (by decide) ?_
  refine cj_iadd dX6_wordOfInt_4 ?_
  refine cj_iret rfl dX6_wordOfInt_5 ?_
  exact ⟨rfl, rfl⟩
set_option maxHeartbeats 4000000 in
set_option maxRecDepth 100000 in
theorem t_wordOfTag {G : cj_G} {x : Int32} : cj_T mX6_wordOfTag 0 0 0 [.int x] G (cj_rd G (4 * x + 2)) (cj_no) := by
  refine cj_T_of (by decide) (Nat.le_of_ble_eq_true rfl) ?_
  refine cj_lvs (lv' := [(0, .int x)]) rfl ?_
  refine cj_iconst (v := 4) dX6_wordOfTag_0 (by decide) ?_
  refine cj_iload_n dX6_wordOfTag_1 rfl ?_
  refine cj_imul dX6_wordOfTag_2 ?_
  refine cj_iconst (v := 2) dX6_wordOfTag_3 (by decide) ?_
  refine cj_iadd dX6_wordOfTag_4 ?_
  refine cj_iret rfl dX6_wordOfTag_5 ?_
  exact ⟨rfl, rfl⟩
set_option maxHeartbeats 4000000 in
set_option maxRecDepth 100000 in
theorem t_intOf {G : cj_G} {x : Int32} : cj_T mX6_intOf 0 0 0 [.int x] G (cj_rd G (x >>> (1 &&& 31))) (cj_no) := by
  refine cj_T_of (by decide) (Nat.le_of_ble_eq_true rfl) ?_
  refine cj_lvs (lv' := [(0, .int x)]) rfl ?_
  refine cj_iload_n dX6_intOf_0 rfl ?_
  refine cj_iconst (v := 1) dX6_intOf_1 (by decide) ?_
  refine cj_ishr dX6_intOf_2 ?_
  refine cj_iret rfl dX6_intOf_3 ?_
  exact ⟨rfl, rfl⟩
set_option maxHeartbeats 4000000 in
set_option maxRecDepth 100000 in
theorem t_tagOf {G : cj_G} {x : Int32} : cj_T mX6_tagOf 0 0 0 [.int x] G (cj_rd G (x >>> (2 &&& 31))) (cj_no) := by
  refine cj_T_of (by decide) (Nat.le_of_ble_eq_true rfl) ?_
  refine cj_lvs (lv' := [(0, .int x)]) rfl ?_
  refine cj_iload_n dX6_tagOf_0 rfl ?_
  refine cj_iconst (v := 2) dX6_tagOf_1 (by decide) ?_
  refine cj_ishr dX6_tagOf_2 ?_
  refine cj_iret rfl dX6_tagOf_3 ?_
  exact ⟨rfl, rfl⟩
def ch_b (p : Prop) [Decidable p] : Int32 := if p then 1 else 0
theorem ch_b0 {p : Prop} [Decidable p] : ch_b p = 0 ↔ ¬ p := by unfold ch_b; by_cases h : p <;> simp [h]
theorem ch_b1 {p : Prop} [Decidable p] : ch_b p = 1 ↔ p := by unfold ch_b; by_cases h : p <;> simp [h]
set_option maxHeartbeats 4000000 in
set_option maxRecDepth 100000 in
theorem t_isInt {G : cj_G} {x : Int32} : cj_T mX6_isInt 0 0 0 [.int x] G (cj_rd G (ch_b (x &&& 1 = 1))) (cj_no) := by
  refine cj_T_of (by decide) (Nat.le_of_ble_eq_true rfl) ?_
  refine cj_lvs (lv' := [(0, .int x)]) rfl ?_
  refine cj_iload_n dX6_isInt_0 rfl ?_
  refine cj_iconst (v := 1) dX6_isInt_1 (by decide) ?_
  refine cj_iand dX6_isInt_2 ?_
  refine cj_iconst (v := 1) dX6_isInt_3 (by decide) ?_
  refine cj_icmp_ne (tgt := 11) dX6_isInt_4 (by decide) (fun h1 => ?_) (fun h1 => ?_)
  · refine cj_iconst (v := 0) dX6_isInt_11 (by decide) ?_
    refine cj_zret rfl rfl dX6_isInt_12 ?_
    refine ⟨congrArg (fun z => some (Value.int z)) ?_, rfl⟩
    simp_all [ch_b0, ch_b]
  · refine cj_iconst (v := 1) dX6_isInt_7 (by decide) ?_
    refine cj_goto (tgt := 12) dX6_isInt_8 (by decide) ?_
    refine cj_zret rfl rfl dX6_isInt_12 ?_
    refine ⟨congrArg (fun z => some (Value.int z)) ?_, rfl⟩
    simp_all [ch_b0, ch_b]
set_option maxHeartbeats 4000000 in
set_option maxRecDepth 100000 in
theorem t_isTag {G : cj_G} {x : Int32} : cj_T mX6_isTag 0 0 0 [.int x] G (cj_rd G (ch_b (x &&& 3 = 2))) (cj_no) := by
  refine cj_T_of (by decide) (Nat.le_of_ble_eq_true rfl) ?_
  refine cj_lvs (lv' := [(0, .int x)]) rfl ?_
  refine cj_iload_n dX6_isTag_0 rfl ?_
  refine cj_iconst (v := 3) dX6_isTag_1 (by decide) ?_
  refine cj_iand dX6_isTag_2 ?_
  refine cj_iconst (v := 2) dX6_isTag_3 (by decide) ?_
  refine cj_icmp_ne (tgt := 11) dX6_isTag_4 (by decide) (fun h1 => ?_) (fun h1 => ?_)
  · refine cj_iconst (v := 0) dX6_isTag_11 (by decide) ?_
    refine cj_zret rfl rfl dX6_isTag_12 ?_
    refine ⟨congrArg (fun z => some (Value.int z)) ?_, rfl⟩
    simp_all [ch_b0, ch_b]
  · refine cj_iconst (v := 1) dX6_isTag_7 (by decide) ?_
    refine cj_goto (tgt := 12) dX6_isTag_8 (by decide) ?_
    refine cj_zret rfl rfl dX6_isTag_12 ?_
    refine ⟨congrArg (fun z => some (Value.int z)) ?_, rfl⟩
    simp_all [ch_b0, ch_b]
/-! reads of the heap -/
def hp_isp (t w : Int32) : Bool := decide (w &&& 3 = 0) && (decide (¬ w < 0) && decide (¬ t ≤ w >>> (2 &&& 31)))
theorem hp_in {t w : Int32} {N : Nat} (h : hp_isp t w = true) (ht : t.toInt ≤ N) : vp_in (w >>> (2 &&& 31)) N := by
  simp only [hp_isp, Bool.and_eq_true, decide_eq_true_eq] at h
  obtain ⟨-, h1, h2⟩ := h
  have e : (w >>> ((2 : Int32) &&& 31)).toInt = w.toInt >>> 2 := pk_shr w _ 2 (by decide)
  rw [vp_in_iff]
  have h3 : (0 : Int) ≤ w.toInt := by
    have := Int32.not_lt.mp h1
    simpa using Int32.le_iff_toInt_le.mp this
  have h4 : (w >>> ((2 : Int32) &&& 31)).toInt < t.toInt := by
    have := Int32.not_le.mp h2
    exact Int32.lt_iff_toInt_lt.mp this
  refine ⟨?_, by omega⟩
  rw [e, Int.shiftRight_eq_div_pow]
  exact Int.ediv_nonneg h3 (by decide)
def hp_bk (f : Nat → Int32) (t w : Int32) : Int32 := if hp_isp t w then f (w >>> (2 &&& 31)).toNatClampNeg &&& 15 else -1
def hp_bw (f : Nat → Int32) (t w : Int32) : Int32 := if hp_isp t w then f (w >>> (2 &&& 31)).toNatClampNeg >>> (4 &&& 31) else 0
set_option maxHeartbeats 4000000 in
set_option maxRecDepth 100000 in
theorem t_isPointer {G : cj_G} {o a b c : Nat} {t cp tn w : Int32} (k_o : G o = some (.inr (1, [.ref a, .ref b, .ref c, .int t, .int cp, .int tn]))) : cj_T mX1_isPointer 0 0 0 [.ref o, .int w] G (cj_rd G (ch_b (hp_isp t w = true))) (cj_no) := by
  refine cj_T_of (by decide) (Nat.le_of_ble_eq_true rfl) ?_
  refine cj_lvs (lv' := [(0, .ref o), (1, .int w)]) rfl ?_
  refine cj_iload_n dX1_isPointer_0 rfl ?_
  refine cj_iconst (v := 3) dX1_isPointer_1 (by decide) ?_
  refine cj_iand dX1_isPointer_2 ?_
  refine cj_if_ne (tgt := 24) dX1_isPointer_3 (by decide) (fun h1 => ?_) (fun h1 => ?_)
  · refine cj_iconst (v := 0) dX1_isPointer_24 (by decide) ?_
    refine cj_zret rfl rfl dX1_isPointer_25 ?_
    refine ⟨congrArg (fun z => some (Value.int z)) ?_, rfl⟩
    simp_all [ch_b0, ch_b, hp_isp]
  · refine cj_iload_n dX1_isPointer_6 rfl ?_
    refine cj_if_lt (tgt := 24) dX1_isPointer_7 (by decide) (fun h2 => ?_) (fun h2 => ?_)
    · refine cj_iconst (v := 0) dX1_isPointer_24 (by decide) ?_
      refine cj_zret rfl rfl dX1_isPointer_25 ?_
      refine ⟨congrArg (fun z => some (Value.int z)) ?_, rfl⟩
      simp_all [ch_b0, ch_b, hp_isp]
    · refine cj_iload_n dX1_isPointer_10 rfl ?_
      refine cj_iconst (v := 2) dX1_isPointer_11 (by decide) ?_
      refine cj_ishr dX1_isPointer_12 ?_
      refine cj_aload_n dX1_isPointer_13 rfl ?_
      refine cj_get flX1_9 dX1_isPointer_14 k_o rfl ?_
      refine cj_icmp_ge (tgt := 24) dX1_isPointer_17 (by decide) (fun h3 => ?_) (fun h3 => ?_)
      · refine cj_iconst (v := 0) dX1_isPointer_24 (by decide) ?_
        refine cj_zret rfl rfl dX1_isPointer_25 ?_
        refine ⟨congrArg (fun z => some (Value.int z)) ?_, rfl⟩
        simp_all [ch_b0, ch_b, hp_isp]
      · refine cj_iconst (v := 1) dX1_isPointer_20 (by decide) ?_
        refine cj_goto (tgt := 25) dX1_isPointer_21 (by decide) ?_
        refine cj_zret rfl rfl dX1_isPointer_25 ?_
        refine ⟨congrArg (fun z => some (Value.int z)) ?_, rfl⟩
        simp_all [ch_b0, ch_b, hp_isp]
set_option maxHeartbeats 4000000 in
set_option maxRecDepth 100000 in
theorem t_blockKind {G : cj_G} {o a b c N : Nat} {f : Nat → Int32} {t cp tn w : Int32} (k_o : G o = some (.inr (1, [.ref a, .ref b, .ref c, .int t, .int cp, .int tn]))) (k_a : G a = some (.inl (0, N, .inl f))) (ht : t.toInt ≤ N) : cj_T mX1_blockKind 1 0 0 [.ref o, .int w] G (cj_rd G (hp_bk f t w)) (cj_no) := by
  refine cj_T_of (by decide) (Nat.le_of_ble_eq_true rfl) ?_
  refine cj_lvs (lv' := [(0, .ref o), (1, .int w)]) rfl ?_
  refine cj_aload_n dX1_blockKind_0 rfl ?_
  refine cj_iload_n dX1_blockKind_1 rfl ?_
  refine cj_callV (As := [.int w]) (rest := []) dX1_blockKind_2 lkX1_39 mwX1_isPointer (t_isPointer k_o) (by omega) rfl rfl (Nat.le_of_ble_eq_true rfl) k_o rfl (fun v9 G9 q1 => ?_) (fun _ _ h => absurd h id)
  obtain ⟨rfl, rfl⟩ := q1
  refine cj_st (st' := [.int (ch_b (hp_isp t w = true))]) rfl ?_
  refine cj_if_eq (tgt := 22) dX1_blockKind_5 (by decide) (fun h2 => ?_) (fun h2 => ?_)
  · refine cj_iconst (v := (-1)) dX1_blockKind_22 (by decide) ?_
    refine cj_iret rfl dX1_blockKind_23 ?_
    refine ⟨congrArg (fun z => some (Value.int z)) ?_, rfl⟩
    simp_all [ch_b0, hp_bk]
  · refine cj_aload_n dX1_blockKind_8 rfl ?_
    refine cj_get flX1_21 dX1_blockKind_9 k_o rfl ?_
    refine cj_iload_n dX1_blockKind_12 rfl ?_
    refine cj_iconst (v := 2) dX1_blockKind_13 (by decide) ?_
    refine cj_ishr dX1_blockKind_14 ?_
    have i3 : vp_in (w >>> (2 &&& 31)) N := by
      refine hp_in ?_ ht
      simp_all [ch_b0]
    refine cj_iald dX1_blockKind_15 k_a i3 ?_
    refine cj_bipush (v := 15) dX1_blockKind_16 (by decide) ?_
    refine cj_iand dX1_blockKind_18 ?_
    refine cj_goto (tgt := 23) dX1_blockKind_19 (by decide) ?_
    refine cj_iret rfl dX1_blockKind_23 ?_
    refine ⟨congrArg (fun z => some (Value.int z)) ?_, rfl⟩
    simp_all [ch_b0, hp_bk]
set_option maxHeartbeats 4000000 in
set_option maxRecDepth 100000 in
theorem t_blockWords {G : cj_G} {o a b c N : Nat} {f : Nat → Int32} {t cp tn w : Int32} (k_o : G o = some (.inr (1, [.ref a, .ref b, .ref c, .int t, .int cp, .int tn]))) (k_a : G a = some (.inl (0, N, .inl f))) (ht : t.toInt ≤ N) : cj_T mX1_blockWords 1 0 0 [.ref o, .int w] G (cj_rd G (hp_bw f t w)) (cj_no) := by
  refine cj_T_of (by decide) (Nat.le_of_ble_eq_true rfl) ?_
  refine cj_lvs (lv' := [(0, .ref o), (1, .int w)]) rfl ?_
  refine cj_aload_n dX1_blockWords_0 rfl ?_
  refine cj_iload_n dX1_blockWords_1 rfl ?_
  refine cj_callV (As := [.int w]) (rest := []) dX1_blockWords_2 lkX1_39 mwX1_isPointer (t_isPointer k_o) (by omega) rfl rfl (Nat.le_of_ble_eq_true rfl) k_o rfl (fun v9 G9 q1 => ?_) (fun _ _ h => absurd h id)
  obtain ⟨rfl, rfl⟩ := q1
  refine cj_st (st' := [.int (ch_b (hp_isp t w = true))]) rfl ?_
  refine cj_if_eq (tgt := 21) dX1_blockWords_5 (by decide) (fun h2 => ?_) (fun h2 => ?_)
  · refine cj_iconst (v := 0) dX1_blockWords_21 (by decide) ?_
    refine cj_iret rfl dX1_blockWords_22 ?_
    refine ⟨congrArg (fun z => some (Value.int z)) ?_, rfl⟩
    simp_all [ch_b0, hp_bw]
  · refine cj_aload_n dX1_blockWords_8 rfl ?_
    refine cj_get flX1_21 dX1_blockWords_9 k_o rfl ?_
    refine cj_iload_n dX1_blockWords_12 rfl ?_
    refine cj_iconst (v := 2) dX1_blockWords_13 (by decide) ?_
    refine cj_ishr dX1_blockWords_14 ?_
    have i3 : vp_in (w >>> (2 &&& 31)) N := by
      refine hp_in ?_ ht
      simp_all [ch_b0]
    refine cj_iald dX1_blockWords_15 k_a i3 ?_
    refine cj_iconst (v := 4) dX1_blockWords_16 (by decide) ?_
    refine cj_ishr dX1_blockWords_17 ?_
    refine cj_goto (tgt := 22) dX1_blockWords_18 (by decide) ?_
    refine cj_iret rfl dX1_blockWords_22 ?_
    refine ⟨congrArg (fun z => some (Value.int z)) ?_, rfl⟩
    simp_all [ch_b0, hp_bw]
end
section
/-! ClosureHeap$Heap: reads that rest on reads, and what writes -/
theorem cj_ax {M : cj_M} {d k0 n0 k n pc : Nat} {Qr : Option Value → cj_G → Prop} {Qx : String → cj_G → Prop} {lv : List (Nat × Value)} {st : List Value} {G : cj_G} {a t N : Nat} {f g : Nat → Int32} (hG : G a = some (.inl (t, N, .inl f))) (h : ∀ j, j < N → f j = g j) (kk : cj_J M d k0 n0 Qr Qx k n pc lv st (cj_up G a (.inl (t, N, .inl g)))) : cj_J M d k0 n0 Qr Qx k n pc lv st G := by
  intro p l e s m args below meth c D tys A H locs c0 s0 ls C W0 S hc hn hl
  obtain ⟨ws, hP, hD, hI⟩ := W0
  obtain ⟨q, hq⟩ := hI.1 a _ hG
  have he : vp_cell (cj_cd tys t) (N, .inl f) = vp_cell (cj_cd tys t) (N, .inl g) := by
    simp only [vp_cell, arrV]
    congr 1
    apply Array.ext
    · simp
    · intro i h1 h2
      simp at h1
      simp [h i h1]
  have hset := hI.set (x := .inl (t, N, .inl g)) hD hq
  refine kk p l e s m args below meth c D tys A H locs c0 s0 ls C ⟨ws.set q (a, cj_tr tys (.inl (t, N, .inl g))), ?_, hD.set hq, hset⟩ S hc hn hl
  refine hP.set hD hq ?_ (fun _ _ => rfl)
  have h1 : H[a]? = some (vp_cell (cj_cd tys t) (N, .inl f)) := hP q _ hq
  show H[a]? = some (vp_cell (cj_cd tys t) (N, .inl g))
  rw [h1, he]
theorem ix_small (x : Int32) : (x >>> ((4 : Int32) &&& 31)).toInt < 134217728 := by
  have e : (x >>> ((4 : Int32) &&& 31)).toInt = x.toInt >>> 4 := pk_shr x _ 4 (by decide)
  rw [e, Int.shiftRight_eq_div_pow]
  have h := Int32.toInt_lt x
  omega
def hp_wo (f : Nat → Int32) (t p k : Int32) : Int32 := if hp_isp t p = true ∧ (¬ k < 1) ∧ (k ≤ hp_bw f t p) ∧ ¬ t ≤ p >>> (2 &&& 31) + k then f (p >>> (2 &&& 31) + k).toNatClampNeg else -4
theorem hp_in2 {f : Nat → Int32} {t p k : Int32} {N : Nat} (h1 : hp_isp t p = true) (h2 : ¬ k < 1) (h3 : k ≤ hp_bw f t p) (h4 : ¬ t ≤ p >>> (2 &&& 31) + k) (ht : t.toInt ≤ N) (hN : N ≤ 200) : vp_in (p >>> (2 &&& 31) + k) N := by
  have g1 := vp_in_iff.mp (hp_in h1 ht)
  have g2 : (1 : Int) ≤ k.toInt := by
    have := Int32.not_lt.mp h2
    simpa using Int32.le_iff_toInt_le.mp this
  have g3 : k.toInt < 134217728 := by
    have h5 := Int32.le_iff_toInt_le.mp h3
    unfold hp_bw at h5
    rw [if_pos h1] at h5
    have h6 := ix_small (f (p >>> ((2 : Int32) &&& 31)).toNatClampNeg)
    omega
  have g4 : (p >>> (2 &&& 31) + k).toInt = (p >>> ((2 : Int32) &&& 31)).toInt + k.toInt := by
    rw [Int32.toInt_add]
    apply Int.bmod_eq_of_le <;> omega
  have g5 : (p >>> (2 &&& 31) + k).toInt < t.toInt := by
    have := Int32.not_le.mp h4
    exact Int32.lt_iff_toInt_lt.mp this
  rw [vp_in_iff]
  omega
def hp_fn (f : Nat → Int32) (t w : Int32) : Prop := hp_bk f t w = 8 ∨ hp_bk f t w = 9
theorem hp_fn_dec (f : Nat → Int32) (t w : Int32) : Nonempty (Decidable (hp_fn f t w)) := ⟨by unfold hp_fn; exact inferInstance⟩
def hp_fnb (f : Nat → Int32) (t w : Int32) : Bool := decide (hp_bk f t w = 8) || decide (hp_bk f t w = 9)
def hp_co (f : Nat → Int32) (t w : Int32) : Int32 := if w &&& 3 = 2 then w >>> (2 &&& 31) else if hp_bk f t w < 8 then hp_bk f t w else -1
def hp_so (f : Nat → Int32) (t w : Int32) : Int32 := if w &&& 1 = 1 then 1 else if ¬ hp_co f t w = -1 then 2 else if hp_fnb f t w = true then 3 else 0
def hp_me (f : Nat → Int32) (t w : Int32) : Int32 := if hp_so f t w = 1 then w >>> (1 &&& 31) else if hp_so f t w = 2 then hp_co f t w else if hp_so f t w = 3 then hp_wo f t w 1 >>> (1 &&& 31) else 0
theorem hp_so4 (f : Nat → Int32) (t w : Int32) : hp_so f t w = 0 ∨ hp_so f t w = 1 ∨ hp_so f t w = 2 ∨ hp_so f t w = 3 := by
  unfold hp_so
  by_cases h1 : w &&& 1 = 1
  · simp [h1]
  · by_cases h2 : hp_co f t w = -1
    · by_cases h3 : hp_fnb f t w = true
      · simp [h1, h2, h3]
      · simp [h1, h2, h3]
    · simp [h1, h2]
set_option maxHeartbeats 4000000 in
set_option maxRecDepth 100000 in
theorem t_wordOf {G : cj_G} {o a b c N : Nat} {f : Nat → Int32} {t cp tn w x : Int32} (k_o : G o = some (.inr (1, [.ref a, .ref b, .ref c, .int t, .int cp, .int tn]))) (k_a : G a = some (.inl (0, N, .inl f))) (ht : t.toInt ≤ N) (hN : N ≤ 200) : cj_T mX1_wordOf 2 0 0 [.ref o, .int w, .int x] G (cj_rd G (hp_wo f t w x)) (cj_no) := by
  refine cj_T_of (by decide) (Nat.le_of_ble_eq_true rfl) ?_
  refine cj_lvs (lv' := [(0, .ref o), (1, .int w), (2, .int x)]) rfl ?_
  refine cj_aload_n dX1_wordOf_0 rfl ?_
  refine cj_iload_n dX1_wordOf_1 rfl ?_
  refine cj_callV (As := [.int w]) (rest := []) dX1_wordOf_2 lkX1_39 mwX1_isPointer (t_isPointer k_o) (by omega) rfl rfl (Nat.le_of_ble_eq_true rfl) k_o rfl (fun v9 G9 q1 => ?_) (fun _ _ h => absurd h id)
  obtain ⟨rfl, rfl⟩ := q1
  refine cj_st (st' := [.int (ch_b (hp_isp t w = true))]) rfl ?_
  refine cj_if_eq (tgt := 22) dX1_wordOf_5 (by decide) (fun h2 => ?_) (fun h2 => ?_)
  · refine cj_bipush (v := (-4)) dX1_wordOf_22 (by decide) ?_
    refine cj_iret rfl dX1_wordOf_24 ?_
    refine ⟨congrArg (fun z => some (Value.int z)) ?_, rfl⟩
    first | (simp_all [ch_b0, hp_wo]; done) | (simp_all [ch_b0, hp_wo]; intros; exfalso; simp only [Int32.lt_iff_toInt_lt, Int32.le_iff_toInt_le] at *; omega)
  · refine cj_iload_n dX1_wordOf_8 rfl ?_
    refine cj_iconst (v := 1) dX1_wordOf_9 (by decide) ?_
    refine cj_icmp_lt (tgt := 22) dX1_wordOf_10 (by decide) (fun h3 => ?_) (fun h3 => ?_)
    · refine cj_bipush (v := (-4)) dX1_wordOf_22 (by decide) ?_
      refine cj_iret rfl dX1_wordOf_24 ?_
      refine ⟨congrArg (fun z => some (Value.int z)) ?_, rfl⟩
      first | (simp_all [ch_b0, hp_wo]; done) | (simp_all [ch_b0, hp_wo]; intros; exfalso; simp only [Int32.lt_iff_toInt_lt, Int32.le_iff_toInt_le] at *; omega)
    · refine cj_iload_n dX1_wordOf_13 rfl ?_
      refine cj_aload_n dX1_wordOf_14 rfl ?_
      refine cj_iload_n dX1_wordOf_15 rfl ?_
      refine cj_callV (As := [.int w]) (rest := [.int x]) dX1_wordOf_16 lkX1_43 mwX1_blockWords (t_blockWords k_o k_a ht) (by omega) rfl rfl (Nat.le_of_ble_eq_true rfl) k_o rfl (fun v9 G9 q4 => ?_) (fun _ _ h => absurd h id)
      obtain ⟨rfl, rfl⟩ := q4
      refine cj_st (st' := [.int (hp_bw f t w), .int x]) rfl ?_
      refine cj_icmp_le (tgt := 25) dX1_wordOf_19 (by decide) (fun h5 => ?_) (fun h5 => ?_)
      · refine cj_iload_n dX1_wordOf_25 rfl ?_
        refine cj_iconst (v := 2) dX1_wordOf_26 (by decide) ?_
        refine cj_ishr dX1_wordOf_27 ?_
        refine cj_iload_n dX1_wordOf_28 rfl ?_
        refine cj_iadd dX1_wordOf_29 ?_
        refine cj_istore_n (lv' := [(3, .int ((w >>> (2 &&& 31)) + x)), (0, .ref o), (1, .int w), (2, .int x)]) dX1_wordOf_30 (by decide) rfl ?_
        refine cj_iload_n dX1_wordOf_31 rfl ?_
        refine cj_aload_n dX1_wordOf_32 rfl ?_
        refine cj_get flX1_9 dX1_wordOf_33 k_o rfl ?_
        refine cj_icmp_ge (tgt := 48) dX1_wordOf_36 (by decide) (fun h6 => ?_) (fun h6 => ?_)
        · refine cj_bipush (v := (-4)) dX1_wordOf_48 (by decide) ?_
          refine cj_iret rfl dX1_wordOf_50 ?_
          refine ⟨congrArg (fun z => some (Value.int z)) ?_, rfl⟩
          first | (simp_all [ch_b0, hp_wo]; done) | (simp_all [ch_b0, hp_wo]; intros; exfalso; simp only [Int32.lt_iff_toInt_lt, Int32.le_iff_toInt_le] at *; omega)
        · refine cj_aload_n dX1_wordOf_39 rfl ?_
          refine cj_get flX1_21 dX1_wordOf_40 k_o rfl ?_
          refine cj_iload_n dX1_wordOf_43 rfl ?_
          have i7 : vp_in ((w >>> (2 &&& 31)) + x) N := by
            simp only [ch_b0, Classical.not_not] at *
            exact hp_in2 (by assumption) (by assumption) (by assumption) (by assumption) ht hN
          refine cj_iald dX1_wordOf_44 k_a i7 ?_
          refine cj_goto (tgt := 50) dX1_wordOf_45 (by decide) ?_
          refine cj_iret rfl dX1_wordOf_50 ?_
          refine ⟨congrArg (fun z => some (Value.int z)) ?_, rfl⟩
          first | (simp_all [ch_b0, hp_wo]; done) | (simp_all [ch_b0, hp_wo]; intros; exfalso; simp only [Int32.lt_iff_toInt_lt, Int32.le_iff_toInt_le] at *; omega)
      · refine cj_bipush (v := (-4)) dX1_wordOf_22 (by decide) ?_
        refine cj_iret rfl dX1_wordOf_24 ?_
        refine ⟨congrArg (fun z => some (Value.int z)) ?_, rfl⟩
        first | (simp_all [ch_b0, hp_wo]; done) | (simp_all [ch_b0, hp_wo]; intros; exfalso; simp only [Int32.lt_iff_toInt_lt, Int32.le_iff_toInt_le] at *; omega)
set_option maxHeartbeats 4000000 in
set_option maxRecDepth 100000 in
theorem t_isFunction {G : cj_G} {o a b c N : Nat} {f : Nat → Int32} {t cp tn w : Int32} (k_o : G o = some (.inr (1, [.ref a, .ref b, .ref c, .int t, .int cp, .int tn]))) (k_a : G a = some (.inl (0, N, .inl f))) (ht : t.toInt ≤ N) : cj_T mX1_isFunction 2 0 0 [.ref o, .int w] G (cj_rd G (ch_b (hp_fnb f t w = true))) (cj_no) := by
  refine cj_T_of (by decide) (Nat.le_of_ble_eq_true rfl) ?_
  refine cj_lvs (lv' := [(0, .ref o), (1, .int w)]) rfl ?_
  refine cj_aload_n dX1_isFunction_0 rfl ?_
  refine cj_iload_n dX1_isFunction_1 rfl ?_
  refine cj_callV (As := [.int w]) (rest := []) dX1_isFunction_2 lkX1_47 mwX1_blockKind (t_blockKind k_o k_a ht) (by omega) rfl rfl (Nat.le_of_ble_eq_true rfl) k_o rfl (fun v9 G9 q1 => ?_) (fun _ _ h => absurd h id)
  obtain ⟨rfl, rfl⟩ := q1
  refine cj_st (st' := [.int (hp_bk f t w)]) rfl ?_
  refine cj_istore_n (lv' := [(2, .int (hp_bk f t w)), (0, .ref o), (1, .int w)]) dX1_isFunction_5 (by decide) rfl ?_
  refine cj_iload_n dX1_isFunction_6 rfl ?_
  refine cj_bipush (v := 8) dX1_isFunction_7 (by decide) ?_
  refine cj_icmp_eq (tgt := 18) dX1_isFunction_9 (by decide) (fun h2 => ?_) (fun h2 => ?_)
  · refine cj_iconst (v := 1) dX1_isFunction_18 (by decide) ?_
    refine cj_goto (tgt := 23) dX1_isFunction_19 (by decide) ?_
    refine cj_zret rfl rfl dX1_isFunction_23 ?_
    refine ⟨congrArg (fun z => some (Value.int z)) ?_, rfl⟩
    first | (simp_all [ch_b0, hp_fnb, ch_b]; done) | (simp_all [ch_b0, hp_fnb, ch_b]; intros; exfalso; simp only [Int32.lt_iff_toInt_lt, Int32.le_iff_toInt_le] at *; omega)
  · refine cj_iload_n dX1_isFunction_12 rfl ?_
    refine cj_bipush (v := 9) dX1_isFunction_13 (by decide) ?_
    refine cj_icmp_ne (tgt := 22) dX1_isFunction_15 (by decide) (fun h3 => ?_) (fun h3 => ?_)
    · refine cj_iconst (v := 0) dX1_isFunction_22 (by decide) ?_
      refine cj_zret rfl rfl dX1_isFunction_23 ?_
      refine ⟨congrArg (fun z => some (Value.int z)) ?_, rfl⟩
      first | (simp_all [ch_b0, hp_fnb, ch_b]; done) | (simp_all [ch_b0, hp_fnb, ch_b]; intros; exfalso; simp only [Int32.lt_iff_toInt_lt, Int32.le_iff_toInt_le] at *; omega)
    · refine cj_iconst (v := 1) dX1_isFunction_18 (by decide) ?_
      refine cj_goto (tgt := 23) dX1_isFunction_19 (by decide) ?_
      refine cj_zret rfl rfl dX1_isFunction_23 ?_
      refine ⟨congrArg (fun z => some (Value.int z)) ?_, rfl⟩
      first | (simp_all [ch_b0, hp_fnb, ch_b]; done) | (simp_all [ch_b0, hp_fnb, ch_b]; intros; exfalso; simp only [Int32.lt_iff_toInt_lt, Int32.le_iff_toInt_le] at *; omega)
set_option maxHeartbeats 4000000 in
set_option maxRecDepth 100000 in
theorem t_constructorOf {G : cj_G} {o a b c N : Nat} {f : Nat → Int32} {t cp tn w : Int32} (k_o : G o = some (.inr (1, [.ref a, .ref b, .ref c, .int t, .int cp, .int tn]))) (k_a : G a = some (.inl (0, N, .inl f))) (ht : t.toInt ≤ N) : cj_T mX1_constructorOf 2 0 0 [.ref o, .int w] G (cj_rd G (hp_co f t w)) (cj_no) := by
  refine cj_T_of (by decide) (Nat.le_of_ble_eq_true rfl) ?_
  refine cj_lvs (lv' := [(0, .ref o), (1, .int w)]) rfl ?_
  refine cj_iload_n dX1_constructorOf_0 rfl ?_
  refine cj_callSN (As := [.int w]) (rest := []) dX1_constructorOf_1 lkX1_50 mwX6_isTag (t_isTag) (by omega) rfl rfl (Nat.le_of_ble_eq_true rfl) (fun v9 G9 q1 => ?_)
  obtain ⟨rfl, rfl⟩ := q1
  refine cj_st (st' := [.int (ch_b (w &&& 3 = 2))]) rfl ?_
  refine cj_if_eq (tgt := 12) dX1_constructorOf_4 (by decide) (fun h2 => ?_) (fun h2 => ?_)
  · refine cj_aload_n dX1_constructorOf_12 rfl ?_
    refine cj_iload_n dX1_constructorOf_13 rfl ?_
    refine cj_callV (As := [.int w]) (rest := []) dX1_constructorOf_14 lkX1_47 mwX1_blockKind (t_blockKind k_o k_a ht) (by omega) rfl rfl (Nat.le_of_ble_eq_true rfl) k_o rfl (fun v9 G9 q3 => ?_) (fun _ _ h => absurd h id)
    obtain ⟨rfl, rfl⟩ := q3
    refine cj_st (st' := [.int (hp_bk f t w)]) rfl ?_
    refine cj_istore_n (lv' := [(2, .int (hp_bk f t w)), (0, .ref o), (1, .int w)]) dX1_constructorOf_17 (by decide) rfl ?_
    refine cj_iload_n dX1_constructorOf_18 rfl ?_
    refine cj_bipush (v := 8) dX1_constructorOf_19 (by decide) ?_
    refine cj_icmp_ge (tgt := 28) dX1_constructorOf_21 (by decide) (fun h4 => ?_) (fun h4 => ?_)
    · refine cj_iconst (v := (-1)) dX1_constructorOf_28 (by decide) ?_
      refine cj_iret rfl dX1_constructorOf_29 ?_
      refine ⟨congrArg (fun z => some (Value.int z)) ?_, rfl⟩
      first | (simp_all [ch_b0, hp_co]; done) | (simp_all [ch_b0, hp_co]; intros; exfalso; simp only [Int32.lt_iff_toInt_lt, Int32.le_iff_toInt_le] at *; omega)
    · refine cj_iload_n dX1_constructorOf_24 rfl ?_
      refine cj_goto (tgt := 29) dX1_constructorOf_25 (by decide) ?_
      refine cj_iret rfl dX1_constructorOf_29 ?_
      refine ⟨congrArg (fun z => some (Value.int z)) ?_, rfl⟩
      first | (simp_all [ch_b0, hp_co]; done) | (simp_all [ch_b0, hp_co]; intros; exfalso; simp only [Int32.lt_iff_toInt_lt, Int32.le_iff_toInt_le] at *; omega)
  · refine cj_iload_n dX1_constructorOf_7 rfl ?_
    refine cj_callSN (As := [.int w]) (rest := []) dX1_constructorOf_8 lkX1_53 mwX6_tagOf (t_tagOf) (by omega) rfl rfl (Nat.le_of_ble_eq_true rfl) (fun v9 G9 q5 => ?_)
    obtain ⟨rfl, rfl⟩ := q5
    refine cj_st (st' := [.int (w >>> (2 &&& 31))]) rfl ?_
    refine cj_iret rfl dX1_constructorOf_11 ?_
    refine ⟨congrArg (fun z => some (Value.int z)) ?_, rfl⟩
    first | (simp_all [ch_b0, hp_co]; done) | (simp_all [ch_b0, hp_co]; intros; exfalso; simp only [Int32.lt_iff_toInt_lt, Int32.le_iff_toInt_le] at *; omega)
set_option maxHeartbeats 4000000 in
set_option maxRecDepth 100000 in
theorem t_sort {G : cj_G} {o a b c N : Nat} {f : Nat → Int32} {t cp tn w : Int32} (k_o : G o = some (.inr (1, [.ref a, .ref b, .ref c, .int t, .int cp, .int tn]))) (k_a : G a = some (.inl (0, N, .inl f))) (ht : t.toInt ≤ N) : cj_T mX1_sort 3 0 0 [.ref o, .int w] G (cj_rd G (hp_so f t w)) (cj_no) := by
  refine cj_T_of (by decide) (Nat.le_of_ble_eq_true rfl) ?_
  refine cj_lvs (lv' := [(0, .ref o), (1, .int w)]) rfl ?_
  refine cj_iload_n dX1_sort_0 rfl ?_
  refine cj_callSN (As := [.int w]) (rest := []) dX1_sort_1 lkX1_56 mwX6_isInt (t_isInt) (by omega) rfl rfl (Nat.le_of_ble_eq_true rfl) (fun v9 G9 q1 => ?_)
  obtain ⟨rfl, rfl⟩ := q1
  refine cj_st (st' := [.int (ch_b (w &&& 1 = 1))]) rfl ?_
  refine cj_if_eq (tgt := 9) dX1_sort_4 (by decide) (fun h2 => ?_) (fun h2 => ?_)
  · refine cj_aload_n dX1_sort_9 rfl ?_
    refine cj_iload_n dX1_sort_10 rfl ?_
    refine cj_callV (As := [.int w]) (rest := []) dX1_sort_11 lkX1_59 mwX1_constructorOf (t_constructorOf k_o k_a ht) (by omega) rfl rfl (Nat.le_of_ble_eq_true rfl) k_o rfl (fun v9 G9 q3 => ?_) (fun _ _ h => absurd h id)
    obtain ⟨rfl, rfl⟩ := q3
    refine cj_st (st' := [.int (hp_co f t w)]) rfl ?_
    refine cj_iconst (v := (-1)) dX1_sort_14 (by decide) ?_
    refine cj_icmp_eq (tgt := 20) dX1_sort_15 (by decide) (fun h4 => ?_) (fun h4 => ?_)
    · refine cj_aload_n dX1_sort_20 rfl ?_
      refine cj_iload_n dX1_sort_21 rfl ?_
      refine cj_callV (As := [.int w]) (rest := []) dX1_sort_22 lkX1_62 mwX1_isFunction (t_isFunction k_o k_a ht) (by omega) rfl rfl (Nat.le_of_ble_eq_true rfl) k_o rfl (fun v9 G9 q5 => ?_) (fun _ _ h => absurd h id)
      obtain ⟨rfl, rfl⟩ := q5
      refine cj_st (st' := [.int (ch_b (hp_fnb f t w = true))]) rfl ?_
      refine cj_if_eq (tgt := 32) dX1_sort_25 (by decide) (fun h6 => ?_) (fun h6 => ?_)
      · refine cj_iconst (v := 0) dX1_sort_32 (by decide) ?_
        refine cj_iret rfl dX1_sort_33 ?_
        refine ⟨congrArg (fun z => some (Value.int z)) ?_, rfl⟩
        first | (simp_all [ch_b0, hp_so]; done) | (simp_all [ch_b0, hp_so]; intros; exfalso; simp only [Int32.lt_iff_toInt_lt, Int32.le_iff_toInt_le] at *; omega)
      · refine cj_iconst (v := 3) dX1_sort_28 (by decide) ?_
        refine cj_goto (tgt := 33) dX1_sort_29 (by decide) ?_
        refine cj_iret rfl dX1_sort_33 ?_
        refine ⟨congrArg (fun z => some (Value.int z)) ?_, rfl⟩
        first | (simp_all [ch_b0, hp_so]; done) | (simp_all [ch_b0, hp_so]; intros; exfalso; simp only [Int32.lt_iff_toInt_lt, Int32.le_iff_toInt_le] at *; omega)
    · refine cj_iconst (v := 2) dX1_sort_18 (by decide) ?_
      refine cj_iret rfl dX1_sort_19 ?_
      refine ⟨congrArg (fun z => some (Value.int z)) ?_, rfl⟩
      first | (simp_all [ch_b0, hp_so]; done) | (simp_all [ch_b0, hp_so]; intros; exfalso; simp only [Int32.lt_iff_toInt_lt, Int32.le_iff_toInt_le] at *; omega)
  · refine cj_iconst (v := 1) dX1_sort_7 (by decide) ?_
    refine cj_iret rfl dX1_sort_8 ?_
    refine ⟨congrArg (fun z => some (Value.int z)) ?_, rfl⟩
    first | (simp_all [ch_b0, hp_so]; done) | (simp_all [ch_b0, hp_so]; intros; exfalso; simp only [Int32.lt_iff_toInt_lt, Int32.le_iff_toInt_le] at *; omega)
set_option maxHeartbeats 4000000 in
set_option maxRecDepth 100000 in
theorem t_meaning {G : cj_G} {o a b c N : Nat} {f : Nat → Int32} {t cp tn w : Int32} (k_o : G o = some (.inr (1, [.ref a, .ref b, .ref c, .int t, .int cp, .int tn]))) (k_a : G a = some (.inl (0, N, .inl f))) (ht : t.toInt ≤ N) (hN : N ≤ 200) : cj_T mX1_meaning 4 0 0 [.ref o, .int w] G (cj_rd G (hp_me f t w)) (cj_no) := by
  refine cj_T_of (by decide) (Nat.le_of_ble_eq_true rfl) ?_
  refine cj_lvs (lv' := [(0, .ref o), (1, .int w)]) rfl ?_
  refine cj_aload_n dX1_meaning_0 rfl ?_
  refine cj_iload_n dX1_meaning_1 rfl ?_
  refine cj_callV (As := [.int w]) (rest := []) dX1_meaning_2 lkX1_65 mwX1_sort (t_sort k_o k_a ht) (by omega) rfl rfl (Nat.le_of_ble_eq_true rfl) k_o rfl (fun v9 G9 q1 => ?_) (fun _ _ h => absurd h id)
  obtain ⟨rfl, rfl⟩ := q1
  refine cj_st (st' := [.int (hp_so f t w)]) rfl ?_
  rcases hp_so4 f t w with s2 | s2 | s2 | s2
  · refine cj_st (st' := [.int 0]) (by rw [s2]) ?_
    refine cj_tableOut (tgt := 53) dX1_meaning_5 (by decide) (by decide) ?_
    refine cj_iconst (v := 0) dX1_meaning_53 (by decide) ?_
    refine cj_iret rfl dX1_meaning_54 ?_
    refine ⟨congrArg (fun z => some (Value.int z)) ?_, rfl⟩
    first | (simp_all [ch_b0, hp_me]; done) | (simp_all [ch_b0, hp_me]; intros; exfalso; simp only [Int32.lt_iff_toInt_lt, Int32.le_iff_toInt_le] at *; omega)
  · refine cj_st (st' := [.int 1]) (by rw [s2]) ?_
    refine cj_tableIn (off := 27) (tgt := 32) dX1_meaning_5 (by decide) (by decide) (by decide) (by decide) ?_
    refine cj_iload_n dX1_meaning_32 rfl ?_
    refine cj_callSN (As := [.int w]) (rest := []) dX1_meaning_33 lkX1_68 mwX6_intOf (t_intOf) (by omega) rfl rfl (Nat.le_of_ble_eq_true rfl) (fun v9 G9 q3 => ?_)
    obtain ⟨rfl, rfl⟩ := q3
    refine cj_st (st' := [.int (w >>> (1 &&& 31))]) rfl ?_
    refine cj_iret rfl dX1_meaning_36 ?_
    refine ⟨congrArg (fun z => some (Value.int z)) ?_, rfl⟩
    first | (simp_all [ch_b0, hp_me]; done) | (simp_all [ch_b0, hp_me]; intros; exfalso; simp only [Int32.lt_iff_toInt_lt, Int32.le_iff_toInt_le] at *; omega)
  · refine cj_st (st' := [.int 2]) (by rw [s2]) ?_
    refine cj_tableIn (off := 32) (tgt := 37) dX1_meaning_5 (by decide) (by decide) (by decide) (by decide) ?_
    refine cj_aload_n dX1_meaning_37 rfl ?_
    refine cj_iload_n dX1_meaning_38 rfl ?_
    refine cj_callV (As := [.int w]) (rest := []) dX1_meaning_39 lkX1_59 mwX1_constructorOf (t_constructorOf k_o k_a ht) (by omega) rfl rfl (Nat.le_of_ble_eq_true rfl) k_o rfl (fun v9 G9 q4 => ?_) (fun _ _ h => absurd h id)
    obtain ⟨rfl, rfl⟩ := q4
    refine cj_st (st' := [.int (hp_co f t w)]) rfl ?_
    refine cj_iret rfl dX1_meaning_42 ?_
    refine ⟨congrArg (fun z => some (Value.int z)) ?_, rfl⟩
    first | (simp_all [ch_b0, hp_me]; done) | (simp_all [ch_b0, hp_me]; intros; exfalso; simp only [Int32.lt_iff_toInt_lt, Int32.le_iff_toInt_le] at *; omega)
  · refine cj_st (st' := [.int 3]) (by rw [s2]) ?_
    refine cj_tableIn (off := 38) (tgt := 43) dX1_meaning_5 (by decide) (by decide) (by decide) (by decide) ?_
    refine cj_aload_n dX1_meaning_43 rfl ?_
    refine cj_iload_n dX1_meaning_44 rfl ?_
    refine cj_iconst (v := 1) dX1_meaning_45 (by decide) ?_
    refine cj_callV (As := [.int w, .int 1]) (rest := []) dX1_meaning_46 lkX1_71 mwX1_wordOf (t_wordOf k_o k_a ht hN) (by omega) rfl rfl (Nat.le_of_ble_eq_true rfl) k_o rfl (fun v9 G9 q5 => ?_) (fun _ _ h => absurd h id)
    obtain ⟨rfl, rfl⟩ := q5
    refine cj_st (st' := [.int (hp_wo f t w 1)]) rfl ?_
    refine cj_callSN (As := [.int (hp_wo f t w 1)]) (rest := []) dX1_meaning_49 lkX1_68 mwX6_intOf (t_intOf) (by omega) rfl rfl (Nat.le_of_ble_eq_true rfl) (fun v9 G9 q6 => ?_)
    obtain ⟨rfl, rfl⟩ := q6
    refine cj_st (st' := [.int ((hp_wo f t w 1) >>> (1 &&& 31))]) rfl ?_
    refine cj_iret rfl dX1_meaning_52 ?_
    refine ⟨congrArg (fun z => some (Value.int z)) ?_, rfl⟩
    first | (simp_all [ch_b0, hp_me]; done) | (simp_all [ch_b0, hp_me]; intros; exfalso; simp only [Int32.lt_iff_toInt_lt, Int32.le_iff_toInt_le] at *; omega)
set_option maxHeartbeats 4000000 in
set_option maxRecDepth 100000 in
theorem t_hasRoomFor {G : cj_G} {o a b c N : Nat} {f : Nat → Int32} {t : Nat} {w cp9 tn9 : Int32} (k_o : G o = some (.inr (1, [.ref a, .ref b, .ref c, .int (nI t), .int cp9, .int tn9]))) (k_a : G a = some (.inl (0, N, .inl f))) (hN : N ≤ 200) (ht : t ≤ N) : cj_T mX1_hasRoomFor 0 0 0 [.ref o, .int w] G (cj_rd G (ch_b (w ≤ nI N - nI t))) (cj_no) := by
  refine cj_T_of (by decide) (Nat.le_of_ble_eq_true rfl) ?_
  refine cj_lvs (lv' := [(0, .ref o), (1, .int w)]) rfl ?_
  refine cj_iload_n dX1_hasRoomFor_0 rfl ?_
  refine cj_aload_n dX1_hasRoomFor_1 rfl ?_
  refine cj_get flX1_21 dX1_hasRoomFor_2 k_o rfl ?_
  refine cj_alen (v := nI N) dX1_hasRoomFor_5 k_a rfl rfl ?_
  refine cj_aload_n dX1_hasRoomFor_6 rfl ?_
  refine cj_get flX1_9 dX1_hasRoomFor_7 k_o rfl ?_
  refine cj_isub dX1_hasRoomFor_10 ?_
  refine cj_icmp_gt (tgt := 18) dX1_hasRoomFor_11 (by decide) (fun h1 => ?_) (fun h1 => ?_)
  · refine cj_iconst (v := 0) dX1_hasRoomFor_18 (by decide) ?_
    refine cj_zret rfl rfl dX1_hasRoomFor_19 ?_
    refine ⟨congrArg (fun z => some (Value.int z)) ?_, rfl⟩
    first | (simp_all [ch_b0, ch_b]; done) | (simp_all [ch_b0, ch_b]; intros; exfalso; simp only [Int32.lt_iff_toInt_lt, Int32.le_iff_toInt_le] at *; omega)
  · refine cj_iconst (v := 1) dX1_hasRoomFor_14 (by decide) ?_
    refine cj_goto (tgt := 19) dX1_hasRoomFor_15 (by decide) ?_
    refine cj_zret rfl rfl dX1_hasRoomFor_19 ?_
    refine ⟨congrArg (fun z => some (Value.int z)) ?_, rfl⟩
    first | (simp_all [ch_b0, ch_b]; done) | (simp_all [ch_b0, ch_b]; intros; exfalso; simp only [Int32.lt_iff_toInt_lt, Int32.le_iff_toInt_le] at *; omega)
/-- the heap object has its fields, its first array its words; of G only these two have changed -/
def hp_po (G : cj_G) (o a b c N : Nat) (f : Nat → Int32) (t cp tn : Int32) (G' : cj_G) : Prop := G' o = some (.inr (1, [.ref a, .ref b, .ref c, .int t, .int cp, .int tn])) ∧ G' a = some (.inl (0, N, .inl f)) ∧ cj_fr [o, a] G G' 
set_option maxHeartbeats 4000000 in
set_option maxRecDepth 100000 in
theorem t_put {G : cj_G} {o a b c N : Nat} {f : Nat → Int32} {t : Nat} {w cp9 tn9 : Int32} (k_o : G o = some (.inr (1, [.ref a, .ref b, .ref c, .int (nI t), .int cp9, .int tn9]))) (k_a : G a = some (.inl (0, N, .inl f))) (hN : N ≤ 200) (ht : t < N) : cj_T mX1_put 0 0 0 [.ref o, .int w] G (fun v G' => v = none ∧ hp_po G o a b c N (upd f t w) (nI (t + 1)) cp9 tn9 G') (cj_no) := by
  refine cj_T_of (by decide) (Nat.le_of_ble_eq_true rfl) ?_
  refine cj_lvs (lv' := [(0, .ref o), (1, .int w)]) rfl ?_
  refine cj_aload_n dX1_put_0 rfl ?_
  refine cj_get flX1_9 dX1_put_1 k_o rfl ?_
  refine cj_aload_n dX1_put_4 rfl ?_
  refine cj_get flX1_21 dX1_put_5 k_o rfl ?_
  refine cj_alen (v := nI N) dX1_put_8 k_a rfl rfl ?_
  refine cj_icmp_ge (tgt := 32) dX1_put_9 (by decide) (fun h1 => absurd h1 (nI_ge (by omega) (by omega))) (fun h1 => ?_)
  refine cj_aload_n dX1_put_12 rfl ?_
  refine cj_get flX1_21 dX1_put_13 k_o rfl ?_
  refine cj_aload_n dX1_put_16 rfl ?_
  refine cj_get flX1_9 dX1_put_17 k_o rfl ?_
  refine cj_iload_n dX1_put_20 rfl ?_
  have i2 : vp_in (nI t) N := by
    exact vp_in_nI (by omega) (by omega)
  refine cj_iast dX1_put_21 k_a i2 ?_
  refine cj_eqG (G' := cj_up G a (.inl (0, N, .inl (upd f t w)))) (by rw [nI_clamp (by omega)]) ?_
  refine cj_nm (fun G3 e4 => ?_)
  have k5 : G3 o = some (.inr (1, [.ref a, .ref b, .ref c, .int (nI t), .int cp9, .int tn9])) := by rw [e4, cj_up_n (cj_ne k_o k_a (by intro h; cases h))]; exact k_o
  have k6 : G3 a = some (.inl (0, N, .inl (upd f t w))) := by rw [e4]; exact cj_up_s
  have r7 : cj_fr [o, a] G G3 := by rw [e4]; exact cj_fr.up (cj_fr.rf (S := [o, a]) (G := G)) (by simp)
  refine cj_aload_n dX1_put_22 rfl ?_
  refine cj_dup dX1_put_23 rfl ?_
  refine cj_get flX1_9 dX1_put_24 k5 rfl ?_
  refine cj_iconst (v := 1) dX1_put_27 (by decide) ?_
  refine cj_iadd dX1_put_28 ?_
  refine cj_st (st' := [.int (nI (t + 1)), .ref o]) (by rw [nI_1]) ?_
  refine cj_put flX1_9 dX1_put_29 k5 rfl rfl (Nat.le_of_ble_eq_true rfl) ?_
  refine cj_nm (fun G8 e9 => ?_)
  have k10 : G8 o = some (.inr (1, [.ref a, .ref b, .ref c, .int (nI (t + 1)), .int cp9, .int tn9])) := by rw [e9]; exact cj_up_s
  have k11 : G8 a = some (.inl (0, N, .inl (upd f t w))) := by rw [e9, cj_up_n (cj_ne k6 k5 (by intro h; cases h))]; exact k6
  have r12 : cj_fr [o, a] G G8 := by rw [e9]; exact cj_fr.up r7 (by simp)
  refine cj_vret rfl dX1_put_32 ?_
  exact ⟨rfl, k10, k11, r12⟩
end
