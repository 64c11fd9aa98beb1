section
-- ===== PART A: goes FIRST, ahead of the names: the tables' words, and 'selects' of the private methods out of them =====
/-- a private method of a class that the tables say can be made, by its rows of tables_1 -/
def lw_okq (q : MethodName × Nat) : Prop := (q.1.cls ≠ "java/lang/invoke/MethodHandle" ∧ q.1.cls ≠ "java/lang/invoke/VarHandle") ∧ Cond.instantiable q.1.cls q.2 ∈ tables_1 ∧ Cond.privateMethod q.1 ∈ tables_1 ∧ Cond.instanceMethod q.1 ∈ tables_1
theorem lw_p0 : lw_okq (⟨"StampSheets", "found", "(I)I"⟩, 10) := ⟨⟨by decide +kernel, by decide +kernel⟩, List.mem_of_getElem? (i := 15) (by decide +kernel), List.mem_of_getElem? (i := 294) (by decide +kernel), List.mem_of_getElem? (i := 295) (by decide +kernel)⟩
theorem lw_p1 : lw_okq (⟨"StampSheets$Row", "begin", "(II)V"⟩, 4) := ⟨⟨by decide +kernel, by decide +kernel⟩, List.mem_of_getElem? (i := 231) (by decide +kernel), List.mem_of_getElem? (i := 299) (by decide +kernel), List.mem_of_getElem? (i := 300) (by decide +kernel)⟩
theorem lw_p2 : lw_okq (⟨"StampSheets", "fine", "(I)I"⟩, 10) := ⟨⟨by decide +kernel, by decide +kernel⟩, List.mem_of_getElem? (i := 15) (by decide +kernel), List.mem_of_getElem? (i := 306) (by decide +kernel), List.mem_of_getElem? (i := 307) (by decide +kernel)⟩
theorem lw_p3 : lw_okq (⟨"StampSheets$Row", "reaches", "(II)Z"⟩, 4) := ⟨⟨by decide +kernel, by decide +kernel⟩, List.mem_of_getElem? (i := 231) (by decide +kernel), List.mem_of_getElem? (i := 314) (by decide +kernel), List.mem_of_getElem? (i := 315) (by decide +kernel)⟩
theorem lw_p4 : lw_okq (⟨"StampSheets$Row", "put", "(II)I"⟩, 4) := ⟨⟨by decide +kernel, by decide +kernel⟩, List.mem_of_getElem? (i := 231) (by decide +kernel), List.mem_of_getElem? (i := 318) (by decide +kernel), List.mem_of_getElem? (i := 319) (by decide +kernel)⟩
theorem lw_p5 : lw_okq (⟨"StampSheets$Reader", "append", "(I)Z"⟩, 7) := ⟨⟨by decide +kernel, by decide +kernel⟩, List.mem_of_getElem? (i := 25) (by decide +kernel), List.mem_of_getElem? (i := 337) (by decide +kernel), List.mem_of_getElem? (i := 338) (by decide +kernel)⟩
theorem lw_p6 : lw_okq (⟨"StampSheets$Reader", "read", "(LStampSheets$Sheet;)Z"⟩, 7) := ⟨⟨by decide +kernel, by decide +kernel⟩, List.mem_of_getElem? (i := 25) (by decide +kernel), List.mem_of_getElem? (i := 346) (by decide +kernel), List.mem_of_getElem? (i := 347) (by decide +kernel)⟩
theorem lw_p7 : lw_okq (⟨"StampSheets$Reader", "step", "()V"⟩, 7) := ⟨⟨by decide +kernel, by decide +kernel⟩, List.mem_of_getElem? (i := 25) (by decide +kernel), List.mem_of_getElem? (i := 350) (by decide +kernel), List.mem_of_getElem? (i := 351) (by decide +kernel)⟩
theorem lw_p8 : lw_okq (⟨"StampSheets$Reader", "stepOverNumber", "()V"⟩, 7) := ⟨⟨by decide +kernel, by decide +kernel⟩, List.mem_of_getElem? (i := 25) (by decide +kernel), List.mem_of_getElem? (i := 357) (by decide +kernel), List.mem_of_getElem? (i := 358) (by decide +kernel)⟩
theorem lw_p9 : lw_okq (⟨"StampSheets$Reader", "readLaw", "(LStampSheets$Sheet;)Z"⟩, 7) := ⟨⟨by decide +kernel, by decide +kernel⟩, List.mem_of_getElem? (i := 25) (by decide +kernel), List.mem_of_getElem? (i := 361) (by decide +kernel), List.mem_of_getElem? (i := 362) (by decide +kernel)⟩
theorem lw_p10 : lw_okq (⟨"StampSheets$Reader", "takes", "(I)Z"⟩, 7) := ⟨⟨by decide +kernel, by decide +kernel⟩, List.mem_of_getElem? (i := 25) (by decide +kernel), List.mem_of_getElem? (i := 365) (by decide +kernel), List.mem_of_getElem? (i := 366) (by decide +kernel)⟩
theorem lw_p11 : lw_okq (⟨"StampSheets$Reader", "refuse", "(I)Z"⟩, 7) := ⟨⟨by decide +kernel, by decide +kernel⟩, List.mem_of_getElem? (i := 25) (by decide +kernel), List.mem_of_getElem? (i := 369) (by decide +kernel), List.mem_of_getElem? (i := 370) (by decide +kernel)⟩
theorem lw_p12 : lw_okq (⟨"StampSheets$Reader", "takeNumber", "(II)I"⟩, 7) := ⟨⟨by decide +kernel, by decide +kernel⟩, List.mem_of_getElem? (i := 25) (by decide +kernel), List.mem_of_getElem? (i := 373) (by decide +kernel), List.mem_of_getElem? (i := 374) (by decide +kernel)⟩
theorem lw_p13 : lw_okq (⟨"StampSheets$Sheet", "begin", "(III)V"⟩, 14) := ⟨⟨by decide +kernel, by decide +kernel⟩, List.mem_of_getElem? (i := 57) (by decide +kernel), List.mem_of_getElem? (i := 380) (by decide +kernel), List.mem_of_getElem? (i := 381) (by decide +kernel)⟩
theorem lw_p14 : lw_okq (⟨"StampSheets$Sheet", "findNext", "(I)I"⟩, 14) := ⟨⟨by decide +kernel, by decide +kernel⟩, List.mem_of_getElem? (i := 57) (by decide +kernel), List.mem_of_getElem? (i := 385) (by decide +kernel), List.mem_of_getElem? (i := 386) (by decide +kernel)⟩
theorem lw_p15 : lw_okq (⟨"StampSheets$Reader", "readStamps", "(LStampSheets$Sheet;)Z"⟩, 7) := ⟨⟨by decide +kernel, by decide +kernel⟩, List.mem_of_getElem? (i := 25) (by decide +kernel), List.mem_of_getElem? (i := 389) (by decide +kernel), List.mem_of_getElem? (i := 390) (by decide +kernel)⟩
def lw_privs_1 : List (MethodName × Nat) := [(⟨"StampSheets", "found", "(I)I"⟩, 10), (⟨"StampSheets$Row", "begin", "(II)V"⟩, 4), (⟨"StampSheets", "fine", "(I)I"⟩, 10), (⟨"StampSheets$Row", "reaches", "(II)Z"⟩, 4), (⟨"StampSheets$Row", "put", "(II)I"⟩, 4), (⟨"StampSheets$Reader", "append", "(I)Z"⟩, 7), (⟨"StampSheets$Reader", "read", "(LStampSheets$Sheet;)Z"⟩, 7), (⟨"StampSheets$Reader", "step", "()V"⟩, 7), (⟨"StampSheets$Reader", "stepOverNumber", "()V"⟩, 7), (⟨"StampSheets$Reader", "readLaw", "(LStampSheets$Sheet;)Z"⟩, 7), (⟨"StampSheets$Reader", "takes", "(I)Z"⟩, 7), (⟨"StampSheets$Reader", "refuse", "(I)Z"⟩, 7), (⟨"StampSheets$Reader", "takeNumber", "(II)I"⟩, 7), (⟨"StampSheets$Sheet", "begin", "(III)V"⟩, 14), (⟨"StampSheets$Sheet", "findNext", "(I)I"⟩, 14), (⟨"StampSheets$Reader", "readStamps", "(LStampSheets$Sheet;)Z"⟩, 7)]
theorem lw_r1 : ∀ q ∈ lw_privs_1, lw_okq q := List.forall_mem_cons.mpr ⟨lw_p0, List.forall_mem_cons.mpr ⟨lw_p1, List.forall_mem_cons.mpr ⟨lw_p2, List.forall_mem_cons.mpr ⟨lw_p3, List.forall_mem_cons.mpr ⟨lw_p4, List.forall_mem_cons.mpr ⟨lw_p5, List.forall_mem_cons.mpr ⟨lw_p6, List.forall_mem_cons.mpr ⟨lw_p7, List.forall_mem_cons.mpr ⟨lw_p8, List.forall_mem_cons.mpr ⟨lw_p9, List.forall_mem_cons.mpr ⟨lw_p10, List.forall_mem_cons.mpr ⟨lw_p11, List.forall_mem_cons.mpr ⟨lw_p12, List.forall_mem_cons.mpr ⟨lw_p13, List.forall_mem_cons.mpr ⟨lw_p14, List.forall_mem_cons.mpr ⟨lw_p15, fun _ h => absurd h List.not_mem_nil⟩⟩⟩⟩⟩⟩⟩⟩⟩⟩⟩⟩⟩⟩⟩⟩
theorem lw_p16 : lw_okq (⟨"StampSheets$Reader", "kindOfSort", "()I"⟩, 7) := ⟨⟨by decide +kernel, by decide +kernel⟩, List.mem_of_getElem? (i := 25) (by decide +kernel), List.mem_of_getElem? (i := 393) (by decide +kernel), List.mem_of_getElem? (i := 394) (by decide +kernel)⟩
theorem lw_p17 : lw_okq (⟨"StampSheets$Sheet", "put", "(III)V"⟩, 14) := ⟨⟨by decide +kernel, by decide +kernel⟩, List.mem_of_getElem? (i := 57) (by decide +kernel), List.mem_of_getElem? (i := 397) (by decide +kernel), List.mem_of_getElem? (i := 398) (by decide +kernel)⟩
theorem lw_p18 : lw_okq (⟨"StampSheets$Reader", "readCustomers", "(LStampSheets$Sheet;)Z"⟩, 7) := ⟨⟨by decide +kernel, by decide +kernel⟩, List.mem_of_getElem? (i := 25) (by decide +kernel), List.mem_of_getElem? (i := 401) (by decide +kernel), List.mem_of_getElem? (i := 402) (by decide +kernel)⟩
theorem lw_p19 : lw_okq (⟨"StampSheets$Sheet", "add", "(II)V"⟩, 14) := ⟨⟨by decide +kernel, by decide +kernel⟩, List.mem_of_getElem? (i := 57) (by decide +kernel), List.mem_of_getElem? (i := 405) (by decide +kernel), List.mem_of_getElem? (i := 406) (by decide +kernel)⟩
theorem lw_p20 : lw_okq (⟨"StampSheets", "putInPlace", "(LStampSheets$Sheet;)V"⟩, 10) := ⟨⟨by decide +kernel, by decide +kernel⟩, List.mem_of_getElem? (i := 15) (by decide +kernel), List.mem_of_getElem? (i := 410) (by decide +kernel), List.mem_of_getElem? (i := 411) (by decide +kernel)⟩
theorem lw_p21 : lw_okq (⟨"StampSheets$Sheet", "become", "(LStampSheets$Sheet;)V"⟩, 14) := ⟨⟨by decide +kernel, by decide +kernel⟩, List.mem_of_getElem? (i := 57) (by decide +kernel), List.mem_of_getElem? (i := 414) (by decide +kernel), List.mem_of_getElem? (i := 415) (by decide +kernel)⟩
theorem lw_p22 : lw_okq (⟨"StampSheets$Finder", "learn", "(LStampSheets$Sheet;)V"⟩, 8) := ⟨⟨by decide +kernel, by decide +kernel⟩, List.mem_of_getElem? (i := 156) (by decide +kernel), List.mem_of_getElem? (i := 419) (by decide +kernel), List.mem_of_getElem? (i := 420) (by decide +kernel)⟩
theorem lw_p23 : lw_okq (⟨"StampSheets$Finder", "hangsByOneLess", "(LStampSheets$Sheet;I)Z"⟩, 8) := ⟨⟨by decide +kernel, by decide +kernel⟩, List.mem_of_getElem? (i := 156) (by decide +kernel), List.mem_of_getElem? (i := 429) (by decide +kernel), List.mem_of_getElem? (i := 430) (by decide +kernel)⟩
theorem lw_p24 : lw_okq (⟨"StampSheets$Acts", "takeBackLatest", "(LStampSheets$Sheet;)V"⟩, 5) := ⟨⟨by decide +kernel, by decide +kernel⟩, List.mem_of_getElem? (i := 133) (by decide +kernel), List.mem_of_getElem? (i := 442) (by decide +kernel), List.mem_of_getElem? (i := 443) (by decide +kernel)⟩
theorem lw_p25 : lw_okq (⟨"StampSheets$Sheet", "takeBack", "(I)V"⟩, 14) := ⟨⟨by decide +kernel, by decide +kernel⟩, List.mem_of_getElem? (i := 57) (by decide +kernel), List.mem_of_getElem? (i := 446) (by decide +kernel), List.mem_of_getElem? (i := 447) (by decide +kernel)⟩
theorem lw_p26 : lw_okq (⟨"StampSheets$Sheet", "sell", "(III)V"⟩, 14) := ⟨⟨by decide +kernel, by decide +kernel⟩, List.mem_of_getElem? (i := 57) (by decide +kernel), List.mem_of_getElem? (i := 450) (by decide +kernel), List.mem_of_getElem? (i := 451) (by decide +kernel)⟩
theorem lw_p27 : lw_okq (⟨"StampSheets", "isCustomer", "(I)Z"⟩, 10) := ⟨⟨by decide +kernel, by decide +kernel⟩, List.mem_of_getElem? (i := 15) (by decide +kernel), List.mem_of_getElem? (i := 458) (by decide +kernel), List.mem_of_getElem? (i := 459) (by decide +kernel)⟩
theorem lw_p28 : lw_okq (⟨"StampSheets$Finder", "isPiece", "(LStampSheets$Sheet;I)Z"⟩, 8) := ⟨⟨by decide +kernel, by decide +kernel⟩, List.mem_of_getElem? (i := 156) (by decide +kernel), List.mem_of_getElem? (i := 462) (by decide +kernel), List.mem_of_getElem? (i := 463) (by decide +kernel)⟩
theorem lw_p29 : lw_okq (⟨"StampSheets$Sheet", "holds", "(I)Z"⟩, 14) := ⟨⟨by decide +kernel, by decide +kernel⟩, List.mem_of_getElem? (i := 57) (by decide +kernel), List.mem_of_getElem? (i := 466) (by decide +kernel), List.mem_of_getElem? (i := 467) (by decide +kernel)⟩
theorem lw_p30 : lw_okq (⟨"StampSheets$Sheet", "isServed", "(I)Z"⟩, 14) := ⟨⟨by decide +kernel, by decide +kernel⟩, List.mem_of_getElem? (i := 57) (by decide +kernel), List.mem_of_getElem? (i := 470) (by decide +kernel), List.mem_of_getElem? (i := 471) (by decide +kernel)⟩
theorem lw_p31 : lw_okq (⟨"StampSheets$Sheet", "paysOf", "(I)I"⟩, 14) := ⟨⟨by decide +kernel, by decide +kernel⟩, List.mem_of_getElem? (i := 57) (by decide +kernel), List.mem_of_getElem? (i := 474) (by decide +kernel), List.mem_of_getElem? (i := 475) (by decide +kernel)⟩
def lw_privs_2 : List (MethodName × Nat) := [(⟨"StampSheets$Reader", "kindOfSort", "()I"⟩, 7), (⟨"StampSheets$Sheet", "put", "(III)V"⟩, 14), (⟨"StampSheets$Reader", "readCustomers", "(LStampSheets$Sheet;)Z"⟩, 7), (⟨"StampSheets$Sheet", "add", "(II)V"⟩, 14), (⟨"StampSheets", "putInPlace", "(LStampSheets$Sheet;)V"⟩, 10), (⟨"StampSheets$Sheet", "become", "(LStampSheets$Sheet;)V"⟩, 14), (⟨"StampSheets$Finder", "learn", "(LStampSheets$Sheet;)V"⟩, 8), (⟨"StampSheets$Finder", "hangsByOneLess", "(LStampSheets$Sheet;I)Z"⟩, 8), (⟨"StampSheets$Acts", "takeBackLatest", "(LStampSheets$Sheet;)V"⟩, 5), (⟨"StampSheets$Sheet", "takeBack", "(I)V"⟩, 14), (⟨"StampSheets$Sheet", "sell", "(III)V"⟩, 14), (⟨"StampSheets", "isCustomer", "(I)Z"⟩, 10), (⟨"StampSheets$Finder", "isPiece", "(LStampSheets$Sheet;I)Z"⟩, 8), (⟨"StampSheets$Sheet", "holds", "(I)Z"⟩, 14), (⟨"StampSheets$Sheet", "isServed", "(I)Z"⟩, 14), (⟨"StampSheets$Sheet", "paysOf", "(I)I"⟩, 14)]
theorem lw_r2 : ∀ q ∈ lw_privs_2, lw_okq q := List.forall_mem_cons.mpr ⟨lw_p16, List.forall_mem_cons.mpr ⟨lw_p17, List.forall_mem_cons.mpr ⟨lw_p18, List.forall_mem_cons.mpr ⟨lw_p19, List.forall_mem_cons.mpr ⟨lw_p20, List.forall_mem_cons.mpr ⟨lw_p21, List.forall_mem_cons.mpr ⟨lw_p22, List.forall_mem_cons.mpr ⟨lw_p23, List.forall_mem_cons.mpr ⟨lw_p24, List.forall_mem_cons.mpr ⟨lw_p25, List.forall_mem_cons.mpr ⟨lw_p26, List.forall_mem_cons.mpr ⟨lw_p27, List.forall_mem_cons.mpr ⟨lw_p28, List.forall_mem_cons.mpr ⟨lw_p29, List.forall_mem_cons.mpr ⟨lw_p30, List.forall_mem_cons.mpr ⟨lw_p31, fun _ h => absurd h List.not_mem_nil⟩⟩⟩⟩⟩⟩⟩⟩⟩⟩⟩⟩⟩⟩⟩⟩
theorem lw_p32 : lw_okq (⟨"StampSheets$Sheet", "payOfStamp", "(II)I"⟩, 14) := ⟨⟨by decide +kernel, by decide +kernel⟩, List.mem_of_getElem? (i := 57) (by decide +kernel), List.mem_of_getElem? (i := 478) (by decide +kernel), List.mem_of_getElem? (i := 479) (by decide +kernel)⟩
theorem lw_p33 : lw_okq (⟨"StampSheets$Sheet", "suits", "(II)Z"⟩, 14) := ⟨⟨by decide +kernel, by decide +kernel⟩, List.mem_of_getElem? (i := 57) (by decide +kernel), List.mem_of_getElem? (i := 483) (by decide +kernel), List.mem_of_getElem? (i := 484) (by decide +kernel)⟩
theorem lw_p34 : lw_okq (⟨"StampSheets$Sheet", "tearsOf", "(I)I"⟩, 14) := ⟨⟨by decide +kernel, by decide +kernel⟩, List.mem_of_getElem? (i := 57) (by decide +kernel), List.mem_of_getElem? (i := 487) (by decide +kernel), List.mem_of_getElem? (i := 488) (by decide +kernel)⟩
theorem lw_p35 : lw_okq (⟨"StampSheets$Acts", "keep", "(III)V"⟩, 5) := ⟨⟨by decide +kernel, by decide +kernel⟩, List.mem_of_getElem? (i := 133) (by decide +kernel), List.mem_of_getElem? (i := 492) (by decide +kernel), List.mem_of_getElem? (i := 493) (by decide +kernel)⟩
theorem lw_p36 : lw_okq (⟨"StampSheets", "isCell", "(I)Z"⟩, 10) := ⟨⟨by decide +kernel, by decide +kernel⟩, List.mem_of_getElem? (i := 15) (by decide +kernel), List.mem_of_getElem? (i := 506) (by decide +kernel), List.mem_of_getElem? (i := 507) (by decide +kernel)⟩
theorem lw_p37 : lw_okq (⟨"StampSheets$Sheet", "isOn", "(I)Z"⟩, 14) := ⟨⟨by decide +kernel, by decide +kernel⟩, List.mem_of_getElem? (i := 57) (by decide +kernel), List.mem_of_getElem? (i := 510) (by decide +kernel), List.mem_of_getElem? (i := 511) (by decide +kernel)⟩
theorem lw_p38 : lw_okq (⟨"StampSheets$Sheet", "lose", "(I)V"⟩, 14) := ⟨⟨by decide +kernel, by decide +kernel⟩, List.mem_of_getElem? (i := 57) (by decide +kernel), List.mem_of_getElem? (i := 514) (by decide +kernel), List.mem_of_getElem? (i := 515) (by decide +kernel)⟩
theorem lw_p39 : lw_okq (⟨"StampSheets", "isThere", "()Z"⟩, 10) := ⟨⟨by decide +kernel, by decide +kernel⟩, List.mem_of_getElem? (i := 15) (by decide +kernel), List.mem_of_getElem? (i := 530) (by decide +kernel), List.mem_of_getElem? (i := 531) (by decide +kernel)⟩
theorem lw_p40 : lw_okq (⟨"StampSheets$Sheet", "howIs", "(I)I"⟩, 14) := ⟨⟨by decide +kernel, by decide +kernel⟩, List.mem_of_getElem? (i := 57) (by decide +kernel), List.mem_of_getElem? (i := 538) (by decide +kernel), List.mem_of_getElem? (i := 539) (by decide +kernel)⟩
theorem lw_p41 : lw_okq (⟨"StampSheets$Sheet", "ownerOf", "(I)I"⟩, 14) := ⟨⟨by decide +kernel, by decide +kernel⟩, List.mem_of_getElem? (i := 57) (by decide +kernel), List.mem_of_getElem? (i := 543) (by decide +kernel), List.mem_of_getElem? (i := 544) (by decide +kernel)⟩
theorem lw_p42 : lw_okq (⟨"StampSheets$Sheet", "served", "()I"⟩, 14) := ⟨⟨by decide +kernel, by decide +kernel⟩, List.mem_of_getElem? (i := 57) (by decide +kernel), List.mem_of_getElem? (i := 556) (by decide +kernel), List.mem_of_getElem? (i := 557) (by decide +kernel)⟩
theorem lw_p43 : lw_okq (⟨"StampSheets$Sheet", "countParts", "(I)I"⟩, 14) := ⟨⟨by decide +kernel, by decide +kernel⟩, List.mem_of_getElem? (i := 57) (by decide +kernel), List.mem_of_getElem? (i := 565) (by decide +kernel), List.mem_of_getElem? (i := 566) (by decide +kernel)⟩
theorem lw_p44 : lw_okq (⟨"StampSheets$Sheet", "partAround", "(II)I"⟩, 14) := ⟨⟨by decide +kernel, by decide +kernel⟩, List.mem_of_getElem? (i := 57) (by decide +kernel), List.mem_of_getElem? (i := 572) (by decide +kernel), List.mem_of_getElem? (i := 573) (by decide +kernel)⟩
theorem lw_p45 : lw_okq (⟨"StampSheets$Sheet", "nextTo", "(I)I"⟩, 14) := ⟨⟨by decide +kernel, by decide +kernel⟩, List.mem_of_getElem? (i := 57) (by decide +kernel), List.mem_of_getElem? (i := 576) (by decide +kernel), List.mem_of_getElem? (i := 577) (by decide +kernel)⟩
theorem lw_p46 : lw_okq (⟨"StampSheets$Sheet", "partNumber", "(I)I"⟩, 14) := ⟨⟨by decide +kernel, by decide +kernel⟩, List.mem_of_getElem? (i := 57) (by decide +kernel), List.mem_of_getElem? (i := 584) (by decide +kernel), List.mem_of_getElem? (i := 585) (by decide +kernel)⟩
theorem lw_p47 : lw_okq (⟨"StampSheets$Finder", "countAll", "(LStampSheets$Sheet;)I"⟩, 8) := ⟨⟨by decide +kernel, by decide +kernel⟩, List.mem_of_getElem? (i := 156) (by decide +kernel), List.mem_of_getElem? (i := 592) (by decide +kernel), List.mem_of_getElem? (i := 593) (by decide +kernel)⟩
def lw_privs_3 : List (MethodName × Nat) := [(⟨"StampSheets$Sheet", "payOfStamp", "(II)I"⟩, 14), (⟨"StampSheets$Sheet", "suits", "(II)Z"⟩, 14), (⟨"StampSheets$Sheet", "tearsOf", "(I)I"⟩, 14), (⟨"StampSheets$Acts", "keep", "(III)V"⟩, 5), (⟨"StampSheets", "isCell", "(I)Z"⟩, 10), (⟨"StampSheets$Sheet", "isOn", "(I)Z"⟩, 14), (⟨"StampSheets$Sheet", "lose", "(I)V"⟩, 14), (⟨"StampSheets", "isThere", "()Z"⟩, 10), (⟨"StampSheets$Sheet", "howIs", "(I)I"⟩, 14), (⟨"StampSheets$Sheet", "ownerOf", "(I)I"⟩, 14), (⟨"StampSheets$Sheet", "served", "()I"⟩, 14), (⟨"StampSheets$Sheet", "countParts", "(I)I"⟩, 14), (⟨"StampSheets$Sheet", "partAround", "(II)I"⟩, 14), (⟨"StampSheets$Sheet", "nextTo", "(I)I"⟩, 14), (⟨"StampSheets$Sheet", "partNumber", "(I)I"⟩, 14), (⟨"StampSheets$Finder", "countAll", "(LStampSheets$Sheet;)I"⟩, 8)]
theorem lw_r3 : ∀ q ∈ lw_privs_3, lw_okq q := List.forall_mem_cons.mpr ⟨lw_p32, List.forall_mem_cons.mpr ⟨lw_p33, List.forall_mem_cons.mpr ⟨lw_p34, List.forall_mem_cons.mpr ⟨lw_p35, List.forall_mem_cons.mpr ⟨lw_p36, List.forall_mem_cons.mpr ⟨lw_p37, List.forall_mem_cons.mpr ⟨lw_p38, List.forall_mem_cons.mpr ⟨lw_p39, List.forall_mem_cons.mpr ⟨lw_p40, List.forall_mem_cons.mpr ⟨lw_p41, List.forall_mem_cons.mpr ⟨lw_p42, List.forall_mem_cons.mpr ⟨lw_p43, List.forall_mem_cons.mpr ⟨lw_p44, List.forall_mem_cons.mpr ⟨lw_p45, List.forall_mem_cons.mpr ⟨lw_p46, List.forall_mem_cons.mpr ⟨lw_p47, fun _ h => absurd h List.not_mem_nil⟩⟩⟩⟩⟩⟩⟩⟩⟩⟩⟩⟩⟩⟩⟩⟩
theorem lw_p48 : lw_okq (⟨"StampSheets$Finder", "countOf", "(LStampSheets$Sheet;IZ)I"⟩, 8) := ⟨⟨by decide +kernel, by decide +kernel⟩, List.mem_of_getElem? (i := 156) (by decide +kernel), List.mem_of_getElem? (i := 596) (by decide +kernel), List.mem_of_getElem? (i := 597) (by decide +kernel)⟩
theorem lw_p49 : lw_okq (⟨"StampSheets$Finder", "isStraight", "(LStampSheets$Sheet;I)Z"⟩, 8) := ⟨⟨by decide +kernel, by decide +kernel⟩, List.mem_of_getElem? (i := 156) (by decide +kernel), List.mem_of_getElem? (i := 600) (by decide +kernel), List.mem_of_getElem? (i := 601) (by decide +kernel)⟩
theorem lw_p50 : lw_okq (⟨"StampSheets$Finder", "weigh", "(LStampSheets$Sheet;)V"⟩, 8) := ⟨⟨by decide +kernel, by decide +kernel⟩, List.mem_of_getElem? (i := 156) (by decide +kernel), List.mem_of_getElem? (i := 612) (by decide +kernel), List.mem_of_getElem? (i := 613) (by decide +kernel)⟩
theorem lw_p51 : lw_okq (⟨"StampSheets$Finder", "greatestSum", "(LStampSheets$Sheet;)I"⟩, 8) := ⟨⟨by decide +kernel, by decide +kernel⟩, List.mem_of_getElem? (i := 156) (by decide +kernel), List.mem_of_getElem? (i := 617) (by decide +kernel), List.mem_of_getElem? (i := 618) (by decide +kernel)⟩
theorem lw_p52 : lw_okq (⟨"StampSheets$Finder", "markSums", "(LStampSheets$Sheet;)V"⟩, 8) := ⟨⟨by decide +kernel, by decide +kernel⟩, List.mem_of_getElem? (i := 156) (by decide +kernel), List.mem_of_getElem? (i := 624) (by decide +kernel), List.mem_of_getElem? (i := 625) (by decide +kernel)⟩
theorem lw_p53 : lw_okq (⟨"StampSheets$Finder", "countSums", "()I"⟩, 8) := ⟨⟨by decide +kernel, by decide +kernel⟩, List.mem_of_getElem? (i := 156) (by decide +kernel), List.mem_of_getElem? (i := 629) (by decide +kernel), List.mem_of_getElem? (i := 630) (by decide +kernel)⟩
theorem lw_p54 : lw_okq (⟨"StampSheets$Finder", "leastSumUnpaid", "()I"⟩, 8) := ⟨⟨by decide +kernel, by decide +kernel⟩, List.mem_of_getElem? (i := 156) (by decide +kernel), List.mem_of_getElem? (i := 633) (by decide +kernel), List.mem_of_getElem? (i := 634) (by decide +kernel)⟩
theorem lw_p55 : lw_okq (⟨"StampSheets$Finder", "bestFor", "(LStampSheets$Sheet;I)I"⟩, 8) := ⟨⟨by decide +kernel, by decide +kernel⟩, List.mem_of_getElem? (i := 156) (by decide +kernel), List.mem_of_getElem? (i := 645) (by decide +kernel), List.mem_of_getElem? (i := 646) (by decide +kernel)⟩
theorem lw_p56 : lw_okq (⟨"StampSheets$Finder", "couldServe", "(LStampSheets$Sheet;II)Z"⟩, 8) := ⟨⟨by decide +kernel, by decide +kernel⟩, List.mem_of_getElem? (i := 156) (by decide +kernel), List.mem_of_getElem? (i := 649) (by decide +kernel), List.mem_of_getElem? (i := 650) (by decide +kernel)⟩
theorem lw_p57 : lw_okq (⟨"StampSheets$Finder", "countFor", "(LStampSheets$Sheet;I)I"⟩, 8) := ⟨⟨by decide +kernel, by decide +kernel⟩, List.mem_of_getElem? (i := 156) (by decide +kernel), List.mem_of_getElem? (i := 663) (by decide +kernel), List.mem_of_getElem? (i := 664) (by decide +kernel)⟩
theorem lw_p58 : lw_okq (⟨"StampSheets$Finder", "cheapestFor", "(LStampSheets$Sheet;I)I"⟩, 8) := ⟨⟨by decide +kernel, by decide +kernel⟩, List.mem_of_getElem? (i := 156) (by decide +kernel), List.mem_of_getElem? (i := 671) (by decide +kernel), List.mem_of_getElem? (i := 672) (by decide +kernel)⟩
theorem lw_p59 : lw_okq (⟨"StampSheets$Finder", "mostServed", "(LStampSheets$Sheet;)I"⟩, 8) := ⟨⟨by decide +kernel, by decide +kernel⟩, List.mem_of_getElem? (i := 156) (by decide +kernel), List.mem_of_getElem? (i := 679) (by decide +kernel), List.mem_of_getElem? (i := 680) (by decide +kernel)⟩
theorem lw_p60 : lw_okq (⟨"StampSheets$Finder", "findSuited", "(LStampSheets$Sheet;)V"⟩, 8) := ⟨⟨by decide +kernel, by decide +kernel⟩, List.mem_of_getElem? (i := 156) (by decide +kernel), List.mem_of_getElem? (i := 683) (by decide +kernel), List.mem_of_getElem? (i := 684) (by decide +kernel)⟩
theorem lw_p61 : lw_okq (⟨"StampSheets$Finder", "suitedBy", "(LStampSheets$Sheet;I)I"⟩, 8) := ⟨⟨by decide +kernel, by decide +kernel⟩, List.mem_of_getElem? (i := 156) (by decide +kernel), List.mem_of_getElem? (i := 687) (by decide +kernel), List.mem_of_getElem? (i := 688) (by decide +kernel)⟩
theorem lw_p62 : lw_okq (⟨"StampSheets$Finder", "findServable", "(LStampSheets$Sheet;)V"⟩, 8) := ⟨⟨by decide +kernel, by decide +kernel⟩, List.mem_of_getElem? (i := 156) (by decide +kernel), List.mem_of_getElem? (i := 692) (by decide +kernel), List.mem_of_getElem? (i := 693) (by decide +kernel)⟩
theorem lw_p63 : lw_okq (⟨"StampSheets$Finder", "servableBy", "(I)I"⟩, 8) := ⟨⟨by decide +kernel, by decide +kernel⟩, List.mem_of_getElem? (i := 156) (by decide +kernel), List.mem_of_getElem? (i := 696) (by decide +kernel), List.mem_of_getElem? (i := 697) (by decide +kernel)⟩
def lw_privs_4 : List (MethodName × Nat) := [(⟨"StampSheets$Finder", "countOf", "(LStampSheets$Sheet;IZ)I"⟩, 8), (⟨"StampSheets$Finder", "isStraight", "(LStampSheets$Sheet;I)Z"⟩, 8), (⟨"StampSheets$Finder", "weigh", "(LStampSheets$Sheet;)V"⟩, 8), (⟨"StampSheets$Finder", "greatestSum", "(LStampSheets$Sheet;)I"⟩, 8), (⟨"StampSheets$Finder", "markSums", "(LStampSheets$Sheet;)V"⟩, 8), (⟨"StampSheets$Finder", "countSums", "()I"⟩, 8), (⟨"StampSheets$Finder", "leastSumUnpaid", "()I"⟩, 8), (⟨"StampSheets$Finder", "bestFor", "(LStampSheets$Sheet;I)I"⟩, 8), (⟨"StampSheets$Finder", "couldServe", "(LStampSheets$Sheet;II)Z"⟩, 8), (⟨"StampSheets$Finder", "countFor", "(LStampSheets$Sheet;I)I"⟩, 8), (⟨"StampSheets$Finder", "cheapestFor", "(LStampSheets$Sheet;I)I"⟩, 8), (⟨"StampSheets$Finder", "mostServed", "(LStampSheets$Sheet;)I"⟩, 8), (⟨"StampSheets$Finder", "findSuited", "(LStampSheets$Sheet;)V"⟩, 8), (⟨"StampSheets$Finder", "suitedBy", "(LStampSheets$Sheet;I)I"⟩, 8), (⟨"StampSheets$Finder", "findServable", "(LStampSheets$Sheet;)V"⟩, 8), (⟨"StampSheets$Finder", "servableBy", "(I)I"⟩, 8)]
theorem lw_r4 : ∀ q ∈ lw_privs_4, lw_okq q := List.forall_mem_cons.mpr ⟨lw_p48, List.forall_mem_cons.mpr ⟨lw_p49, List.forall_mem_cons.mpr ⟨lw_p50, List.forall_mem_cons.mpr ⟨lw_p51, List.forall_mem_cons.mpr ⟨lw_p52, List.forall_mem_cons.mpr ⟨lw_p53, List.forall_mem_cons.mpr ⟨lw_p54, List.forall_mem_cons.mpr ⟨lw_p55, List.forall_mem_cons.mpr ⟨lw_p56, List.forall_mem_cons.mpr ⟨lw_p57, List.forall_mem_cons.mpr ⟨lw_p58, List.forall_mem_cons.mpr ⟨lw_p59, List.forall_mem_cons.mpr ⟨lw_p60, List.forall_mem_cons.mpr ⟨lw_p61, List.forall_mem_cons.mpr ⟨lw_p62, List.forall_mem_cons.mpr ⟨lw_p63, fun _ h => absurd h List.not_mem_nil⟩⟩⟩⟩⟩⟩⟩⟩⟩⟩⟩⟩⟩⟩⟩⟩
theorem lw_p64 : lw_okq (⟨"StampSheets$Finder", "canServe", "(II)Z"⟩, 8) := ⟨⟨by decide +kernel, by decide +kernel⟩, List.mem_of_getElem? (i := 156) (by decide +kernel), List.mem_of_getElem? (i := 706) (by decide +kernel), List.mem_of_getElem? (i := 707) (by decide +kernel)⟩
theorem lw_p65 : lw_okq (⟨"StampSheets$Finder", "pieceAmongServed", "(LStampSheets$Sheet;II)I"⟩, 8) := ⟨⟨by decide +kernel, by decide +kernel⟩, List.mem_of_getElem? (i := 156) (by decide +kernel), List.mem_of_getElem? (i := 710) (by decide +kernel), List.mem_of_getElem? (i := 711) (by decide +kernel)⟩
theorem lw_p66 : lw_okq (⟨"StampSheets$Finder", "firstPieceLeaving", "(III)I"⟩, 8) := ⟨⟨by decide +kernel, by decide +kernel⟩, List.mem_of_getElem? (i := 156) (by decide +kernel), List.mem_of_getElem? (i := 714) (by decide +kernel), List.mem_of_getElem? (i := 715) (by decide +kernel)⟩
theorem lw_p67 : lw_okq (⟨"StampSheets$Finder", "countCouplings", "(LStampSheets$Sheet;)I"⟩, 8) := ⟨⟨by decide +kernel, by decide +kernel⟩, List.mem_of_getElem? (i := 156) (by decide +kernel), List.mem_of_getElem? (i := 722) (by decide +kernel), List.mem_of_getElem? (i := 723) (by decide +kernel)⟩
theorem lw_p68 : lw_okq (⟨"StampSheets", "areTwoCells", "(II)Z"⟩, 10) := ⟨⟨by decide +kernel, by decide +kernel⟩, List.mem_of_getElem? (i := 15) (by decide +kernel), List.mem_of_getElem? (i := 730) (by decide +kernel), List.mem_of_getElem? (i := 731) (by decide +kernel)⟩
theorem lw_p69 : lw_okq (⟨"StampSheets$Finder", "sideOf", "(LStampSheets$Sheet;II)I"⟩, 8) := ⟨⟨by decide +kernel, by decide +kernel⟩, List.mem_of_getElem? (i := 156) (by decide +kernel), List.mem_of_getElem? (i := 734) (by decide +kernel), List.mem_of_getElem? (i := 735) (by decide +kernel)⟩
theorem lw_p70 : lw_okq (⟨"StampSheets$Sheet", "stepsBetween", "(II)I"⟩, 14) := ⟨⟨by decide +kernel, by decide +kernel⟩, List.mem_of_getElem? (i := 57) (by decide +kernel), List.mem_of_getElem? (i := 742) (by decide +kernel), List.mem_of_getElem? (i := 743) (by decide +kernel)⟩
theorem lw_p71 : lw_okq (⟨"StampSheets$Sheet", "firstStep", "(II)I"⟩, 14) := ⟨⟨by decide +kernel, by decide +kernel⟩, List.mem_of_getElem? (i := 57) (by decide +kernel), List.mem_of_getElem? (i := 746) (by decide +kernel), List.mem_of_getElem? (i := 747) (by decide +kernel)⟩
theorem lw_p72 : lw_okq (⟨"StampSheets", "takeTold", "(IIIII)I"⟩, 10) := ⟨⟨by decide +kernel, by decide +kernel⟩, List.mem_of_getElem? (i := 15) (by decide +kernel), List.mem_of_getElem? (i := 762) (by decide +kernel), List.mem_of_getElem? (i := 763) (by decide +kernel)⟩
theorem lw_p73 : lw_okq (⟨"StampSheets$Told", "takeCells", "(LStampSheets$Row;III)Z"⟩, 3) := ⟨⟨by decide +kernel, by decide +kernel⟩, List.mem_of_getElem? (i := 216) (by decide +kernel), List.mem_of_getElem? (i := 766) (by decide +kernel), List.mem_of_getElem? (i := 767) (by decide +kernel)⟩
theorem lw_p74 : lw_okq (⟨"StampSheets$Told", "takePays", "(LStampSheets$Row;I)V"⟩, 3) := ⟨⟨by decide +kernel, by decide +kernel⟩, List.mem_of_getElem? (i := 216) (by decide +kernel), List.mem_of_getElem? (i := 770) (by decide +kernel), List.mem_of_getElem? (i := 771) (by decide +kernel)⟩
theorem lw_p75 : lw_okq (⟨"StampSheets", "kindsThatFit", "(I)I"⟩, 10) := ⟨⟨by decide +kernel, by decide +kernel⟩, List.mem_of_getElem? (i := 15) (by decide +kernel), List.mem_of_getElem? (i := 774) (by decide +kernel), List.mem_of_getElem? (i := 775) (by decide +kernel)⟩
theorem lw_p76 : lw_okq (⟨"StampSheets$Told", "isSo", "(LStampSheets$Sheet;)Z"⟩, 3) := ⟨⟨by decide +kernel, by decide +kernel⟩, List.mem_of_getElem? (i := 216) (by decide +kernel), List.mem_of_getElem? (i := 779) (by decide +kernel), List.mem_of_getElem? (i := 780) (by decide +kernel)⟩
theorem lw_p77 : lw_okq (⟨"StampSheets", "valuesThatFit", "(I)I"⟩, 10) := ⟨⟨by decide +kernel, by decide +kernel⟩, List.mem_of_getElem? (i := 15) (by decide +kernel), List.mem_of_getElem? (i := 784) (by decide +kernel), List.mem_of_getElem? (i := 785) (by decide +kernel)⟩
theorem lw_p78 : lw_okq (⟨"StampSheets", "oversThatFit", "()I"⟩, 10) := ⟨⟨by decide +kernel, by decide +kernel⟩, List.mem_of_getElem? (i := 15) (by decide +kernel), List.mem_of_getElem? (i := 792) (by decide +kernel), List.mem_of_getElem? (i := 793) (by decide +kernel)⟩
theorem lw_p79 : lw_okq (⟨"StampSheets", "countSwaps", "()I"⟩, 10) := ⟨⟨by decide +kernel, by decide +kernel⟩, List.mem_of_getElem? (i := 15) (by decide +kernel), List.mem_of_getElem? (i := 796) (by decide +kernel), List.mem_of_getElem? (i := 797) (by decide +kernel)⟩
def lw_privs_5 : List (MethodName × Nat) := [(⟨"StampSheets$Finder", "canServe", "(II)Z"⟩, 8), (⟨"StampSheets$Finder", "pieceAmongServed", "(LStampSheets$Sheet;II)I"⟩, 8), (⟨"StampSheets$Finder", "firstPieceLeaving", "(III)I"⟩, 8), (⟨"StampSheets$Finder", "countCouplings", "(LStampSheets$Sheet;)I"⟩, 8), (⟨"StampSheets", "areTwoCells", "(II)Z"⟩, 10), (⟨"StampSheets$Finder", "sideOf", "(LStampSheets$Sheet;II)I"⟩, 8), (⟨"StampSheets$Sheet", "stepsBetween", "(II)I"⟩, 14), (⟨"StampSheets$Sheet", "firstStep", "(II)I"⟩, 14), (⟨"StampSheets", "takeTold", "(IIIII)I"⟩, 10), (⟨"StampSheets$Told", "takeCells", "(LStampSheets$Row;III)Z"⟩, 3), (⟨"StampSheets$Told", "takePays", "(LStampSheets$Row;I)V"⟩, 3), (⟨"StampSheets", "kindsThatFit", "(I)I"⟩, 10), (⟨"StampSheets$Told", "isSo", "(LStampSheets$Sheet;)Z"⟩, 3), (⟨"StampSheets", "valuesThatFit", "(I)I"⟩, 10), (⟨"StampSheets", "oversThatFit", "()I"⟩, 10), (⟨"StampSheets", "countSwaps", "()I"⟩, 10)]
theorem lw_r5 : ∀ q ∈ lw_privs_5, lw_okq q := List.forall_mem_cons.mpr ⟨lw_p64, List.forall_mem_cons.mpr ⟨lw_p65, List.forall_mem_cons.mpr ⟨lw_p66, List.forall_mem_cons.mpr ⟨lw_p67, List.forall_mem_cons.mpr ⟨lw_p68, List.forall_mem_cons.mpr ⟨lw_p69, List.forall_mem_cons.mpr ⟨lw_p70, List.forall_mem_cons.mpr ⟨lw_p71, List.forall_mem_cons.mpr ⟨lw_p72, List.forall_mem_cons.mpr ⟨lw_p73, List.forall_mem_cons.mpr ⟨lw_p74, List.forall_mem_cons.mpr ⟨lw_p75, List.forall_mem_cons.mpr ⟨lw_p76, List.forall_mem_cons.mpr ⟨lw_p77, List.forall_mem_cons.mpr ⟨lw_p78, List.forall_mem_cons.mpr ⟨lw_p79, fun _ h => absurd h List.not_mem_nil⟩⟩⟩⟩⟩⟩⟩⟩⟩⟩⟩⟩⟩⟩⟩⟩
theorem lw_p80 : lw_okq (⟨"StampSheets", "fitsSwapped", "(II)Z"⟩, 10) := ⟨⟨by decide +kernel, by decide +kernel⟩, List.mem_of_getElem? (i := 15) (by decide +kernel), List.mem_of_getElem? (i := 800) (by decide +kernel), List.mem_of_getElem? (i := 801) (by decide +kernel)⟩
theorem lw_p81 : lw_okq (⟨"StampSheets", "firstSwap", "()I"⟩, 10) := ⟨⟨by decide +kernel, by decide +kernel⟩, List.mem_of_getElem? (i := 15) (by decide +kernel), List.mem_of_getElem? (i := 804) (by decide +kernel), List.mem_of_getElem? (i := 805) (by decide +kernel)⟩
theorem lw_p82 : lw_okq (⟨"StampSheets$Finder", "casesOfFewLost", "(LStampSheets$Sheet;III)J"⟩, 8) := ⟨⟨by decide +kernel, by decide +kernel⟩, List.mem_of_getElem? (i := 156) (by decide +kernel), List.mem_of_getElem? (i := 817) (by decide +kernel), List.mem_of_getElem? (i := 818) (by decide +kernel)⟩
theorem lw_p83 : lw_okq (⟨"StampSheets$Finder", "addStamp", "(JJ)V"⟩, 8) := ⟨⟨by decide +kernel, by decide +kernel⟩, List.mem_of_getElem? (i := 156) (by decide +kernel), List.mem_of_getElem? (i := 826) (by decide +kernel), List.mem_of_getElem? (i := 827) (by decide +kernel)⟩
theorem lw_p84 : lw_okq (⟨"StampSheets", "liveDay", "(LStampSheets$Sheet;J)V"⟩, 10) := ⟨⟨by decide +kernel, by decide +kernel⟩, List.mem_of_getElem? (i := 15) (by decide +kernel), List.mem_of_getElem? (i := 840) (by decide +kernel), List.mem_of_getElem? (i := 841) (by decide +kernel)⟩
theorem lw_p85 : lw_okq (⟨"StampSheets$Asks", "answer", "(LStampSheets$Sheet;II)I"⟩, 6) := ⟨⟨by decide +kernel, by decide +kernel⟩, List.mem_of_getElem? (i := 189) (by decide +kernel), List.mem_of_getElem? (i := 876) (by decide +kernel), List.mem_of_getElem? (i := 877) (by decide +kernel)⟩
theorem lw_p86 : lw_okq (⟨"StampSheets$Asks", "bodyFor", "(I)I"⟩, 6) := ⟨⟨by decide +kernel, by decide +kernel⟩, List.mem_of_getElem? (i := 189) (by decide +kernel), List.mem_of_getElem? (i := 880) (by decide +kernel), List.mem_of_getElem? (i := 881) (by decide +kernel)⟩
theorem lw_p87 : lw_okq (⟨"StampSheets$Asks", "body", "(II)I"⟩, 6) := ⟨⟨by decide +kernel, by decide +kernel⟩, List.mem_of_getElem? (i := 189) (by decide +kernel), List.mem_of_getElem? (i := 891) (by decide +kernel), List.mem_of_getElem? (i := 892) (by decide +kernel)⟩
theorem lw_p88 : lw_okq (⟨"StampSheets$Asks", "leave", "(I)V"⟩, 6) := ⟨⟨by decide +kernel, by decide +kernel⟩, List.mem_of_getElem? (i := 189) (by decide +kernel), List.mem_of_getElem? (i := 895) (by decide +kernel), List.mem_of_getElem? (i := 896) (by decide +kernel)⟩
theorem lw_p89 : lw_okq (⟨"StampSheets", "countRows", "()I"⟩, 10) := ⟨⟨by decide +kernel, by decide +kernel⟩, List.mem_of_getElem? (i := 15) (by decide +kernel), List.mem_of_getElem? (i := 907) (by decide +kernel), List.mem_of_getElem? (i := 908) (by decide +kernel)⟩
theorem lw_p90 : lw_okq (⟨"StampSheetsModel", "finds", "(I)I"⟩, 23) := ⟨⟨by decide +kernel, by decide +kernel⟩, List.mem_of_getElem? (i := 915) (by decide +kernel), List.mem_of_getElem? (i := 1007) (by decide +kernel), List.mem_of_getElem? (i := 1008) (by decide +kernel)⟩
theorem lw_p91 : lw_okq (⟨"StampSheetsModel", "isPlace", "(III)Z"⟩, 23) := ⟨⟨by decide +kernel, by decide +kernel⟩, List.mem_of_getElem? (i := 915) (by decide +kernel), List.mem_of_getElem? (i := 1020) (by decide +kernel), List.mem_of_getElem? (i := 1021) (by decide +kernel)⟩
theorem lw_p92 : lw_okq (⟨"StampSheetsModel", "reads", "()Z"⟩, 23) := ⟨⟨by decide +kernel, by decide +kernel⟩, List.mem_of_getElem? (i := 915) (by decide +kernel), List.mem_of_getElem? (i := 1037) (by decide +kernel), List.mem_of_getElem? (i := 1038) (by decide +kernel)⟩
theorem lw_p93 : lw_okq (⟨"StampSheetsModel", "readsLaw", "()Z"⟩, 23) := ⟨⟨by decide +kernel, by decide +kernel⟩, List.mem_of_getElem? (i := 915) (by decide +kernel), List.mem_of_getElem? (i := 1041) (by decide +kernel), List.mem_of_getElem? (i := 1042) (by decide +kernel)⟩
theorem lw_p94 : lw_okq (⟨"StampSheetsModel", "takes", "(I)Z"⟩, 23) := ⟨⟨by decide +kernel, by decide +kernel⟩, List.mem_of_getElem? (i := 915) (by decide +kernel), List.mem_of_getElem? (i := 1045) (by decide +kernel), List.mem_of_getElem? (i := 1046) (by decide +kernel)⟩
theorem lw_p95 : lw_okq (⟨"StampSheetsModel", "byteAt", "(I)I"⟩, 23) := ⟨⟨by decide +kernel, by decide +kernel⟩, List.mem_of_getElem? (i := 915) (by decide +kernel), List.mem_of_getElem? (i := 1049) (by decide +kernel), List.mem_of_getElem? (i := 1050) (by decide +kernel)⟩
def lw_privs_6 : List (MethodName × Nat) := [(⟨"StampSheets", "fitsSwapped", "(II)Z"⟩, 10), (⟨"StampSheets", "firstSwap", "()I"⟩, 10), (⟨"StampSheets$Finder", "casesOfFewLost", "(LStampSheets$Sheet;III)J"⟩, 8), (⟨"StampSheets$Finder", "addStamp", "(JJ)V"⟩, 8), (⟨"StampSheets", "liveDay", "(LStampSheets$Sheet;J)V"⟩, 10), (⟨"StampSheets$Asks", "answer", "(LStampSheets$Sheet;II)I"⟩, 6), (⟨"StampSheets$Asks", "bodyFor", "(I)I"⟩, 6), (⟨"StampSheets$Asks", "body", "(II)I"⟩, 6), (⟨"StampSheets$Asks", "leave", "(I)V"⟩, 6), (⟨"StampSheets", "countRows", "()I"⟩, 10), (⟨"StampSheetsModel", "finds", "(I)I"⟩, 23), (⟨"StampSheetsModel", "isPlace", "(III)Z"⟩, 23), (⟨"StampSheetsModel", "reads", "()Z"⟩, 23), (⟨"StampSheetsModel", "readsLaw", "()Z"⟩, 23), (⟨"StampSheetsModel", "takes", "(I)Z"⟩, 23), (⟨"StampSheetsModel", "byteAt", "(I)I"⟩, 23)]
theorem lw_r6 : ∀ q ∈ lw_privs_6, lw_okq q := List.forall_mem_cons.mpr ⟨lw_p80, List.forall_mem_cons.mpr ⟨lw_p81, List.forall_mem_cons.mpr ⟨lw_p82, List.forall_mem_cons.mpr ⟨lw_p83, List.forall_mem_cons.mpr ⟨lw_p84, List.forall_mem_cons.mpr ⟨lw_p85, List.forall_mem_cons.mpr ⟨lw_p86, List.forall_mem_cons.mpr ⟨lw_p87, List.forall_mem_cons.mpr ⟨lw_p88, List.forall_mem_cons.mpr ⟨lw_p89, List.forall_mem_cons.mpr ⟨lw_p90, List.forall_mem_cons.mpr ⟨lw_p91, List.forall_mem_cons.mpr ⟨lw_p92, List.forall_mem_cons.mpr ⟨lw_p93, List.forall_mem_cons.mpr ⟨lw_p94, List.forall_mem_cons.mpr ⟨lw_p95, fun _ h => absurd h List.not_mem_nil⟩⟩⟩⟩⟩⟩⟩⟩⟩⟩⟩⟩⟩⟩⟩⟩
theorem lw_p96 : lw_okq (⟨"StampSheetsModel", "wrongs", "(I)Z"⟩, 23) := ⟨⟨by decide +kernel, by decide +kernel⟩, List.mem_of_getElem? (i := 915) (by decide +kernel), List.mem_of_getElem? (i := 1053) (by decide +kernel), List.mem_of_getElem? (i := 1054) (by decide +kernel)⟩
theorem lw_p97 : lw_okq (⟨"StampSheetsModel", "number", "(III)Z"⟩, 23) := ⟨⟨by decide +kernel, by decide +kernel⟩, List.mem_of_getElem? (i := 915) (by decide +kernel), List.mem_of_getElem? (i := 1057) (by decide +kernel), List.mem_of_getElem? (i := 1058) (by decide +kernel)⟩
theorem lw_p98 : lw_okq (⟨"StampSheetsModel", "readsStamp", "(I)Z"⟩, 23) := ⟨⟨by decide +kernel, by decide +kernel⟩, List.mem_of_getElem? (i := 915) (by decide +kernel), List.mem_of_getElem? (i := 1064) (by decide +kernel), List.mem_of_getElem? (i := 1065) (by decide +kernel)⟩
theorem lw_p99 : lw_okq (⟨"StampSheetsModel", "readsCustomer", "()Z"⟩, 23) := ⟨⟨by decide +kernel, by decide +kernel⟩, List.mem_of_getElem? (i := 915) (by decide +kernel), List.mem_of_getElem? (i := 1071) (by decide +kernel), List.mem_of_getElem? (i := 1072) (by decide +kernel)⟩
theorem lw_p100 : lw_okq (⟨"StampSheetsModel", "joins", "()V"⟩, 23) := ⟨⟨by decide +kernel, by decide +kernel⟩, List.mem_of_getElem? (i := 915) (by decide +kernel), List.mem_of_getElem? (i := 1076) (by decide +kernel), List.mem_of_getElem? (i := 1077) (by decide +kernel)⟩
theorem lw_p101 : lw_okq (⟨"StampSheetsModel", "isCustomer", "(I)Z"⟩, 23) := ⟨⟨by decide +kernel, by decide +kernel⟩, List.mem_of_getElem? (i := 915) (by decide +kernel), List.mem_of_getElem? (i := 1093) (by decide +kernel), List.mem_of_getElem? (i := 1094) (by decide +kernel)⟩
theorem lw_p102 : lw_okq (⟨"StampSheetsModel", "isPiece", "(I)Z"⟩, 23) := ⟨⟨by decide +kernel, by decide +kernel⟩, List.mem_of_getElem? (i := 915) (by decide +kernel), List.mem_of_getElem? (i := 1097) (by decide +kernel), List.mem_of_getElem? (i := 1098) (by decide +kernel)⟩
theorem lw_p103 : lw_okq (⟨"StampSheetsModel", "on", "()I"⟩, 23) := ⟨⟨by decide +kernel, by decide +kernel⟩, List.mem_of_getElem? (i := 915) (by decide +kernel), List.mem_of_getElem? (i := 1101) (by decide +kernel), List.mem_of_getElem? (i := 1102) (by decide +kernel)⟩
theorem lw_p104 : lw_okq (⟨"StampSheetsModel", "gone", "()I"⟩, 23) := ⟨⟨by decide +kernel, by decide +kernel⟩, List.mem_of_getElem? (i := 915) (by decide +kernel), List.mem_of_getElem? (i := 1105) (by decide +kernel), List.mem_of_getElem? (i := 1106) (by decide +kernel)⟩
theorem lw_p105 : lw_okq (⟨"StampSheetsModel", "hangs", "(I)Z"⟩, 23) := ⟨⟨by decide +kernel, by decide +kernel⟩, List.mem_of_getElem? (i := 915) (by decide +kernel), List.mem_of_getElem? (i := 1109) (by decide +kernel), List.mem_of_getElem? (i := 1110) (by decide +kernel)⟩
theorem lw_p106 : lw_okq (⟨"StampSheetsModel", "reach", "(II)I"⟩, 23) := ⟨⟨by decide +kernel, by decide +kernel⟩, List.mem_of_getElem? (i := 915) (by decide +kernel), List.mem_of_getElem? (i := 1119) (by decide +kernel), List.mem_of_getElem? (i := 1120) (by decide +kernel)⟩
theorem lw_p107 : lw_okq (⟨"StampSheetsModel", "pays", "(I)I"⟩, 23) := ⟨⟨by decide +kernel, by decide +kernel⟩, List.mem_of_getElem? (i := 915) (by decide +kernel), List.mem_of_getElem? (i := 1123) (by decide +kernel), List.mem_of_getElem? (i := 1124) (by decide +kernel)⟩
theorem lw_p108 : lw_okq (⟨"StampSheetsModel", "keeps", "()V"⟩, 23) := ⟨⟨by decide +kernel, by decide +kernel⟩, List.mem_of_getElem? (i := 915) (by decide +kernel), List.mem_of_getElem? (i := 1130) (by decide +kernel), List.mem_of_getElem? (i := 1131) (by decide +kernel)⟩
theorem lw_p109 : lw_okq (⟨"StampSheetsModel", "tears", "(I)I"⟩, 23) := ⟨⟨by decide +kernel, by decide +kernel⟩, List.mem_of_getElem? (i := 915) (by decide +kernel), List.mem_of_getElem? (i := 1134) (by decide +kernel), List.mem_of_getElem? (i := 1135) (by decide +kernel)⟩
theorem lw_p110 : lw_okq (⟨"StampSheetsModel", "serves", "(II)V"⟩, 23) := ⟨⟨by decide +kernel, by decide +kernel⟩, List.mem_of_getElem? (i := 915) (by decide +kernel), List.mem_of_getElem? (i := 1138) (by decide +kernel), List.mem_of_getElem? (i := 1139) (by decide +kernel)⟩
theorem lw_p111 : lw_okq (⟨"StampSheetsModel", "isCell", "(I)Z"⟩, 23) := ⟨⟨by decide +kernel, by decide +kernel⟩, List.mem_of_getElem? (i := 915) (by decide +kernel), List.mem_of_getElem? (i := 1150) (by decide +kernel), List.mem_of_getElem? (i := 1151) (by decide +kernel)⟩
def lw_privs_7 : List (MethodName × Nat) := [(⟨"StampSheetsModel", "wrongs", "(I)Z"⟩, 23), (⟨"StampSheetsModel", "number", "(III)Z"⟩, 23), (⟨"StampSheetsModel", "readsStamp", "(I)Z"⟩, 23), (⟨"StampSheetsModel", "readsCustomer", "()Z"⟩, 23), (⟨"StampSheetsModel", "joins", "()V"⟩, 23), (⟨"StampSheetsModel", "isCustomer", "(I)Z"⟩, 23), (⟨"StampSheetsModel", "isPiece", "(I)Z"⟩, 23), (⟨"StampSheetsModel", "on", "()I"⟩, 23), (⟨"StampSheetsModel", "gone", "()I"⟩, 23), (⟨"StampSheetsModel", "hangs", "(I)Z"⟩, 23), (⟨"StampSheetsModel", "reach", "(II)I"⟩, 23), (⟨"StampSheetsModel", "pays", "(I)I"⟩, 23), (⟨"StampSheetsModel", "keeps", "()V"⟩, 23), (⟨"StampSheetsModel", "tears", "(I)I"⟩, 23), (⟨"StampSheetsModel", "serves", "(II)V"⟩, 23), (⟨"StampSheetsModel", "isCell", "(I)Z"⟩, 23)]
theorem lw_r7 : ∀ q ∈ lw_privs_7, lw_okq q := List.forall_mem_cons.mpr ⟨lw_p96, List.forall_mem_cons.mpr ⟨lw_p97, List.forall_mem_cons.mpr ⟨lw_p98, List.forall_mem_cons.mpr ⟨lw_p99, List.forall_mem_cons.mpr ⟨lw_p100, List.forall_mem_cons.mpr ⟨lw_p101, List.forall_mem_cons.mpr ⟨lw_p102, List.forall_mem_cons.mpr ⟨lw_p103, List.forall_mem_cons.mpr ⟨lw_p104, List.forall_mem_cons.mpr ⟨lw_p105, List.forall_mem_cons.mpr ⟨lw_p106, List.forall_mem_cons.mpr ⟨lw_p107, List.forall_mem_cons.mpr ⟨lw_p108, List.forall_mem_cons.mpr ⟨lw_p109, List.forall_mem_cons.mpr ⟨lw_p110, List.forall_mem_cons.mpr ⟨lw_p111, fun _ h => absurd h List.not_mem_nil⟩⟩⟩⟩⟩⟩⟩⟩⟩⟩⟩⟩⟩⟩⟩⟩
theorem lw_p112 : lw_okq (⟨"StampSheetsModel", "ownerOf", "(I)I"⟩, 23) := ⟨⟨by decide +kernel, by decide +kernel⟩, List.mem_of_getElem? (i := 915) (by decide +kernel), List.mem_of_getElem? (i := 1166) (by decide +kernel), List.mem_of_getElem? (i := 1167) (by decide +kernel)⟩
theorem lw_p113 : lw_okq (⟨"StampSheetsModel", "servedNow", "()I"⟩, 23) := ⟨⟨by decide +kernel, by decide +kernel⟩, List.mem_of_getElem? (i := 915) (by decide +kernel), List.mem_of_getElem? (i := 1179) (by decide +kernel), List.mem_of_getElem? (i := 1180) (by decide +kernel)⟩
theorem lw_p114 : lw_okq (⟨"StampSheetsModel", "manyParts", "(I)I"⟩, 23) := ⟨⟨by decide +kernel, by decide +kernel⟩, List.mem_of_getElem? (i := 915) (by decide +kernel), List.mem_of_getElem? (i := 1187) (by decide +kernel), List.mem_of_getElem? (i := 1188) (by decide +kernel)⟩
theorem lw_p115 : lw_okq (⟨"StampSheetsModel", "partOf", "(II)I"⟩, 23) := ⟨⟨by decide +kernel, by decide +kernel⟩, List.mem_of_getElem? (i := 915) (by decide +kernel), List.mem_of_getElem? (i := 1191) (by decide +kernel), List.mem_of_getElem? (i := 1192) (by decide +kernel)⟩
theorem lw_p116 : lw_okq (⟨"StampSheetsModel", "isStraight", "(I)Z"⟩, 23) := ⟨⟨by decide +kernel, by decide +kernel⟩, List.mem_of_getElem? (i := 915) (by decide +kernel), List.mem_of_getElem? (i := 1203) (by decide +kernel), List.mem_of_getElem? (i := 1204) (by decide +kernel)⟩
theorem lw_p117 : lw_okq (⟨"StampSheetsModel", "surveys", "()V"⟩, 23) := ⟨⟨by decide +kernel, by decide +kernel⟩, List.mem_of_getElem? (i := 915) (by decide +kernel), List.mem_of_getElem? (i := 1211) (by decide +kernel), List.mem_of_getElem? (i := 1212) (by decide +kernel)⟩
theorem lw_p118 : lw_okq (⟨"StampSheetsModel", "paysBy", "(I)I"⟩, 23) := ⟨⟨by decide +kernel, by decide +kernel⟩, List.mem_of_getElem? (i := 915) (by decide +kernel), List.mem_of_getElem? (i := 1215) (by decide +kernel), List.mem_of_getElem? (i := 1216) (by decide +kernel)⟩
theorem lw_p119 : lw_okq (⟨"StampSheetsModel", "bestFor", "(I)I"⟩, 23) := ⟨⟨by decide +kernel, by decide +kernel⟩, List.mem_of_getElem? (i := 915) (by decide +kernel), List.mem_of_getElem? (i := 1223) (by decide +kernel), List.mem_of_getElem? (i := 1224) (by decide +kernel)⟩
theorem lw_p120 : lw_okq (⟨"StampSheetsModel", "fitsFor", "(II)Z"⟩, 23) := ⟨⟨by decide +kernel, by decide +kernel⟩, List.mem_of_getElem? (i := 915) (by decide +kernel), List.mem_of_getElem? (i := 1227) (by decide +kernel), List.mem_of_getElem? (i := 1228) (by decide +kernel)⟩
theorem lw_p121 : lw_okq (⟨"StampSheetsModel", "serveAll", "()V"⟩, 23) := ⟨⟨by decide +kernel, by decide +kernel⟩, List.mem_of_getElem? (i := 915) (by decide +kernel), List.mem_of_getElem? (i := 1243) (by decide +kernel), List.mem_of_getElem? (i := 1244) (by decide +kernel)⟩
theorem lw_p122 : lw_okq (⟨"StampSheetsModel", "stepsOf", "(II)I"⟩, 23) := ⟨⟨by decide +kernel, by decide +kernel⟩, List.mem_of_getElem? (i := 915) (by decide +kernel), List.mem_of_getElem? (i := 1264) (by decide +kernel), List.mem_of_getElem? (i := 1265) (by decide +kernel)⟩
theorem lw_p123 : lw_okq (⟨"StampSheetsModel", "findingOf", "(IIIII)I"⟩, 23) := ⟨⟨by decide +kernel, by decide +kernel⟩, List.mem_of_getElem? (i := 915) (by decide +kernel), List.mem_of_getElem? (i := 1276) (by decide +kernel), List.mem_of_getElem? (i := 1277) (by decide +kernel)⟩
theorem lw_p124 : lw_okq (⟨"StampSheetsModel", "isSo", "(IIIII)Z"⟩, 23) := ⟨⟨by decide +kernel, by decide +kernel⟩, List.mem_of_getElem? (i := 915) (by decide +kernel), List.mem_of_getElem? (i := 1280) (by decide +kernel), List.mem_of_getElem? (i := 1281) (by decide +kernel)⟩
theorem lw_p125 : lw_okq (⟨"StampSheetsModel", "swaps", "(II)V"⟩, 23) := ⟨⟨by decide +kernel, by decide +kernel⟩, List.mem_of_getElem? (i := 915) (by decide +kernel), List.mem_of_getElem? (i := 1288) (by decide +kernel), List.mem_of_getElem? (i := 1289) (by decide +kernel)⟩
theorem lw_p126 : lw_okq (⟨"StampSheetsModel", "day", "(J)V"⟩, 23) := ⟨⟨by decide +kernel, by decide +kernel⟩, List.mem_of_getElem? (i := 915) (by decide +kernel), List.mem_of_getElem? (i := 1305) (by decide +kernel), List.mem_of_getElem? (i := 1306) (by decide +kernel)⟩
theorem lw_p127 : lw_okq (⟨"StampSheetsModel", "sizeHigh", "(I)I"⟩, 23) := ⟨⟨by decide +kernel, by decide +kernel⟩, List.mem_of_getElem? (i := 915) (by decide +kernel), List.mem_of_getElem? (i := 1330) (by decide +kernel), List.mem_of_getElem? (i := 1331) (by decide +kernel)⟩
def lw_privs_8 : List (MethodName × Nat) := [(⟨"StampSheetsModel", "ownerOf", "(I)I"⟩, 23), (⟨"StampSheetsModel", "servedNow", "()I"⟩, 23), (⟨"StampSheetsModel", "manyParts", "(I)I"⟩, 23), (⟨"StampSheetsModel", "partOf", "(II)I"⟩, 23), (⟨"StampSheetsModel", "isStraight", "(I)Z"⟩, 23), (⟨"StampSheetsModel", "surveys", "()V"⟩, 23), (⟨"StampSheetsModel", "paysBy", "(I)I"⟩, 23), (⟨"StampSheetsModel", "bestFor", "(I)I"⟩, 23), (⟨"StampSheetsModel", "fitsFor", "(II)Z"⟩, 23), (⟨"StampSheetsModel", "serveAll", "()V"⟩, 23), (⟨"StampSheetsModel", "stepsOf", "(II)I"⟩, 23), (⟨"StampSheetsModel", "findingOf", "(IIIII)I"⟩, 23), (⟨"StampSheetsModel", "isSo", "(IIIII)Z"⟩, 23), (⟨"StampSheetsModel", "swaps", "(II)V"⟩, 23), (⟨"StampSheetsModel", "day", "(J)V"⟩, 23), (⟨"StampSheetsModel", "sizeHigh", "(I)I"⟩, 23)]
theorem lw_r8 : ∀ q ∈ lw_privs_8, lw_okq q := List.forall_mem_cons.mpr ⟨lw_p112, List.forall_mem_cons.mpr ⟨lw_p113, List.forall_mem_cons.mpr ⟨lw_p114, List.forall_mem_cons.mpr ⟨lw_p115, List.forall_mem_cons.mpr ⟨lw_p116, List.forall_mem_cons.mpr ⟨lw_p117, List.forall_mem_cons.mpr ⟨lw_p118, List.forall_mem_cons.mpr ⟨lw_p119, List.forall_mem_cons.mpr ⟨lw_p120, List.forall_mem_cons.mpr ⟨lw_p121, List.forall_mem_cons.mpr ⟨lw_p122, List.forall_mem_cons.mpr ⟨lw_p123, List.forall_mem_cons.mpr ⟨lw_p124, List.forall_mem_cons.mpr ⟨lw_p125, List.forall_mem_cons.mpr ⟨lw_p126, List.forall_mem_cons.mpr ⟨lw_p127, fun _ h => absurd h List.not_mem_nil⟩⟩⟩⟩⟩⟩⟩⟩⟩⟩⟩⟩⟩⟩⟩⟩
theorem lw_p128 : lw_okq (⟨"StampSheetsModel", "leaves", "(I)V"⟩, 23) := ⟨⟨by decide +kernel, by decide +kernel⟩, List.mem_of_getElem? (i := 915) (by decide +kernel), List.mem_of_getElem? (i := 1334) (by decide +kernel), List.mem_of_getElem? (i := 1335) (by decide +kernel)⟩
theorem lw_p129 : lw_okq (⟨"StampSheetsModel", "markLow", "(I)I"⟩, 23) := ⟨⟨by decide +kernel, by decide +kernel⟩, List.mem_of_getElem? (i := 915) (by decide +kernel), List.mem_of_getElem? (i := 1338) (by decide +kernel), List.mem_of_getElem? (i := 1339) (by decide +kernel)⟩
def lw_privs_9 : List (MethodName × Nat) := [(⟨"StampSheetsModel", "leaves", "(I)V"⟩, 23), (⟨"StampSheetsModel", "markLow", "(I)I"⟩, 23)]
theorem lw_r9 : ∀ q ∈ lw_privs_9, lw_okq q := List.forall_mem_cons.mpr ⟨lw_p128, List.forall_mem_cons.mpr ⟨lw_p129, fun _ h => absurd h List.not_mem_nil⟩⟩
def lw_privs : List (MethodName × Nat) := lw_privs_1 ++ (lw_privs_2 ++ (lw_privs_3 ++ (lw_privs_4 ++ (lw_privs_5 ++ (lw_privs_6 ++ (lw_privs_7 ++ (lw_privs_8 ++ (lw_privs_9))))))))
def lw_tbl : List Cond := k2_sels lw_privs ++ tables_1
theorem lw_privs_ok : ∀ q ∈ lw_privs, lw_okq q := by
  show ∀ q ∈ lw_privs_1 ++ (lw_privs_2 ++ (lw_privs_3 ++ (lw_privs_4 ++ (lw_privs_5 ++ (lw_privs_6 ++ (lw_privs_7 ++ (lw_privs_8 ++ (lw_privs_9)))))))), lw_okq q
  exact List.forall_mem_append.mpr ⟨lw_r1, List.forall_mem_append.mpr ⟨lw_r2, List.forall_mem_append.mpr ⟨lw_r3, List.forall_mem_append.mpr ⟨lw_r4, List.forall_mem_append.mpr ⟨lw_r5, List.forall_mem_append.mpr ⟨lw_r6, List.forall_mem_append.mpr ⟨lw_r7, List.forall_mem_append.mpr ⟨lw_r8, lw_r9⟩⟩⟩⟩⟩⟩⟩⟩
-- ===== end of PART A; then your names; then what follows =====
/-! THE CLAIM OUT OF ONE WALK OF THE LAW'S BODY. Your part is whole_start (and what it stands on); all else here is the same for every law, but numbers. -/
def R_law : String := "StampSheetsLaw"
def lw_P (b : Addr) (xs : List Int32) (args : Array Value) (s : State) : Prop := args = #[.ref b] ∧ s.IntsAt b xs ∧ xs.length ≤ 512 ∧ (Jvm.Cond.and given_1 narrow_1).before args s = true
def lw_Q (_ : Array Value) (s : State) (o : Outcome) (t : State) : Prop := o = .returned (some (.int 1)) ∧ Framed s o t [] 600000 7302250
def lw_Z (below : List Frame) (a : Array Value) (s : State) : State → Prop := fun t => ∃ o, t.status = .running ∧ Ended t below o ∧ lw_Q a s o t
/-- the law's own end, with 1 on the stack, nothing written that was there before, its room as the claim has it -/
theorem lw_ret {p : Program} {l : Launch} {e : Env} {s : State} {m : MethodId} {below : List Frame} {meth : Method} {c : Code} {b : Nat} (hx : p.tables.exec = Jvm.exec) (hb : c.code = code) (hr : meth.sig.returnType = ret) (hlocks : meth.locks = false) {pc : Nat} {H : Heap} {ls : Array Slot} (hdg : decode code pc = .ok (.ireturn, 1)) : W p l e room_1 s m #[Value.ref b] below meth c H [] 600000 7302250 (lw_Z below #[Value.ref b] s) (F0 m pc ls [.int 1]) := by
  intro T hT X
  obtain ⟨fs, hret, hrun, hended, hW, hframe⟩ := X.leave (v := some (.int 1)) (hlocks := hlocks) (fun h => by rw [hr] at h; cases h)
  have hmeth' : T.vm.method? m = some meth := X.method'
  refine ⟨T.setFrames fs, ?_, .returned (some (.int 1)), hrun, hended, rfl, ⟨_, rfl⟩, hW, hframe⟩
  jvm_step X.here [X.here.top, hx, hb, hdg, hmeth', hr, ret, narrow_b1]
  (try refine ⟨rfl, ?_⟩); (try refine ⟨rfl, ?_⟩)
  first | (intro acts; rw [hret _ acts rfl rfl rfl]) | rw [hret _ _ rfl rfl rfl]
  exact Steps.refl _
/-- what holds at the law's entry: the machine, the code, the tables' words (any of lw_tbl by 'hts w (by decide +kernel)'), the script of L ints xs at the cell b, what the Statement gives of the start (any of its parts by flat_of_before) -/
def lw_At (p : Program) (s : State) (m : MethodId) (meth : Method) (c : Code) (b L : Nat) (xs : Nat → Int32) : Prop :=
  p.tables.exec = Jvm.exec ∧ c.code = code ∧ meth.sig.returnType = ret ∧ c.maxLocals = 4 ∧ s.vm.findClass R_law = some m.cls ∧ (∀ w ∈ lw_tbl, w.before #[Value.ref b] s = true) ∧ va_X b L xs s s.heap ∧ b < s.heap.size ∧ meth.locks = false ∧ (Jvm.Cond.and given_1 narrow_1).before #[Value.ref b] s = true
def RX0 : String := "StampSheets$Acts"
def TX0 : u_T := fun k => match k with
  | 0 => ("StampSheets$Acts", "deed", "[I", true)
  | 1 => ("StampSheets$Acts", "whose", "[I", true)
  | 2 => ("StampSheets$Acts", "before", "[I", true)
  | 3 => ("StampSheets$Acts", "free", "I", false)
  | _ => ("StampSheets$Acts", "size", "I", false)
def tyX0 : Nat → FieldType := fun k => match k with
  | 0 => .array .int
  | 1 => .array .int
  | 2 => .array .int
  | 3 => .int
  | _ => .int
abbrev wsX00 : List Cond := u_ws RX0 TX0 5
theorem nmX0 : ∀ a, a < 5 → ∀ b, b < 5 → a ≠ b → (TX0 a).2.1 ≠ (TX0 b).2.1 := by decide +kernel
theorem tyX0_ok : ∀ k, k < 5 → parseFieldDescriptor (TX0 k).2.2.1 = some (tyX0 k) := by decide +kernel
abbrev cX0_init : ByteArray := prog_2_method_1_code
def yX0_init : MethodName := ⟨RX0, "<init>", "()V"⟩
abbrev cX0_keep : ByteArray := prog_2_method_2_code
def yX0_keep : MethodName := ⟨RX0, "keep", "(III)V"⟩
abbrev cX0_takeBackLatest : ByteArray := prog_2_method_3_code
def yX0_takeBackLatest : MethodName := ⟨RX0, "takeBackLatest", "(LStampSheets$Sheet;)V"⟩
def RX1 : String := "StampSheets$Asks"
def TX1 : u_T := fun k => match k with
  | 0 => ("StampSheets$Asks", "trace", "[I", true)
  | 1 => ("StampSheets$Asks", "left", "I", false)
  | 2 => ("StampSheets$Asks", "cell", "I", false)
  | 3 => ("StampSheets$Asks", "kind", "I", false)
  | 4 => ("StampSheets$Asks", "worth", "I", false)
  | _ => ("StampSheets$Asks", "over", "I", false)
def tyX1 : Nat → FieldType := fun k => match k with
  | 0 => .array .int
  | 1 => .int
  | 2 => .int
  | 3 => .int
  | 4 => .int
  | _ => .int
abbrev wsX10 : List Cond := u_ws RX1 TX1 6
theorem nmX1 : ∀ a, a < 6 → ∀ b, b < 6 → a ≠ b → (TX1 a).2.1 ≠ (TX1 b).2.1 := by decide +kernel
theorem tyX1_ok : ∀ k, k < 6 → parseFieldDescriptor (TX1 k).2.2.1 = some (tyX1 k) := by decide +kernel
abbrev cX1_init : ByteArray := prog_3_method_1_code
def yX1_init : MethodName := ⟨RX1, "<init>", "()V"⟩
abbrev cX1_isAlso : ByteArray := prog_3_method_2_code
def yX1_isAlso : MethodName := ⟨RX1, "isAlso", "(II)Z"⟩
abbrev cX1_above : ByteArray := prog_3_method_3_code
def yX1_above : MethodName := ⟨RX1, "above", "(I)I"⟩
abbrev cX1_answer : ByteArray := prog_3_method_4_code
def yX1_answer : MethodName := ⟨RX1, "answer", "(LStampSheets$Sheet;II)I"⟩
abbrev cX1_bodyFor : ByteArray := prog_3_method_5_code
def yX1_bodyFor : MethodName := ⟨RX1, "bodyFor", "(I)I"⟩
abbrev cX1_bodyTold : ByteArray := prog_3_method_6_code
def yX1_bodyTold : MethodName := ⟨RX1, "bodyTold", "(II)I"⟩
abbrev cX1_body : ByteArray := prog_3_method_7_code
def yX1_body : MethodName := ⟨RX1, "body", "(II)I"⟩
abbrev cX1_leave : ByteArray := prog_3_method_8_code
def yX1_leave : MethodName := ⟨RX1, "leave", "(I)V"⟩
def RX2 : String := "StampSheets$Finder"
def TX2 : u_T := fun k => match k with
  | 0 => ("StampSheets$Finder", "hangs", "[Z", true)
  | 1 => ("StampSheets$Finder", "hanging", "[I", true)
  | 2 => ("StampSheets$Finder", "pays", "[I", true)
  | 3 => ("StampSheets$Finder", "many", "I", false)
  | 4 => ("StampSheets$Finder", "suited", "[I", true)
  | 5 => ("StampSheets$Finder", "table", "[I", true)
  | 6 => ("StampSheets$Finder", "paid", "[I", true)
  | _ => ("StampSheets$Finder", "cases", "[J", true)
def tyX2 : Nat → FieldType := fun k => match k with
  | 0 => .array .boolean
  | 1 => .array .int
  | 2 => .array .int
  | 3 => .int
  | 4 => .array .int
  | 5 => .array .int
  | 6 => .array .int
  | _ => .array .long
abbrev wsX20 : List Cond := u_ws RX2 TX2 8
theorem nmX2 : ∀ a, a < 8 → ∀ b, b < 8 → a ≠ b → (TX2 a).2.1 ≠ (TX2 b).2.1 := by decide +kernel
theorem tyX2_ok : ∀ k, k < 8 → parseFieldDescriptor (TX2 k).2.2.1 = some (tyX2 k) := by decide +kernel
abbrev cX2_init : ByteArray := prog_4_method_1_code
def yX2_init : MethodName := ⟨RX2, "<init>", "()V"⟩
abbrev cX2_learn : ByteArray := prog_4_method_2_code
def yX2_learn : MethodName := ⟨RX2, "learn", "(LStampSheets$Sheet;)V"⟩
abbrev cX2_hangsByOneLess : ByteArray := prog_4_method_3_code
def yX2_hangsByOneLess : MethodName := ⟨RX2, "hangsByOneLess", "(LStampSheets$Sheet;I)Z"⟩
abbrev cX2_weigh : ByteArray := prog_4_method_4_code
def yX2_weigh : MethodName := ⟨RX2, "weigh", "(LStampSheets$Sheet;)V"⟩
abbrev cX2_isPiece : ByteArray := prog_4_method_5_code
def yX2_isPiece : MethodName := ⟨RX2, "isPiece", "(LStampSheets$Sheet;I)Z"⟩
abbrev cX2_couldServe : ByteArray := prog_4_method_6_code
def yX2_couldServe : MethodName := ⟨RX2, "couldServe", "(LStampSheets$Sheet;II)Z"⟩
abbrev cX2_countAll : ByteArray := prog_4_method_7_code
def yX2_countAll : MethodName := ⟨RX2, "countAll", "(LStampSheets$Sheet;)I"⟩
abbrev cX2_countOf : ByteArray := prog_4_method_8_code
def yX2_countOf : MethodName := ⟨RX2, "countOf", "(LStampSheets$Sheet;IZ)I"⟩
abbrev cX2_isStraight : ByteArray := prog_4_method_9_code
def yX2_isStraight : MethodName := ⟨RX2, "isStraight", "(LStampSheets$Sheet;I)Z"⟩
abbrev cX2_markSums : ByteArray := prog_4_method_10_code
def yX2_markSums : MethodName := ⟨RX2, "markSums", "(LStampSheets$Sheet;)V"⟩
abbrev cX2_countSums : ByteArray := prog_4_method_11_code
def yX2_countSums : MethodName := ⟨RX2, "countSums", "()I"⟩
abbrev cX2_leastSumUnpaid : ByteArray := prog_4_method_12_code
def yX2_leastSumUnpaid : MethodName := ⟨RX2, "leastSumUnpaid", "()I"⟩
abbrev cX2_greatestSum : ByteArray := prog_4_method_13_code
def yX2_greatestSum : MethodName := ⟨RX2, "greatestSum", "(LStampSheets$Sheet;)I"⟩
abbrev cX2_bestFor : ByteArray := prog_4_method_14_code
def yX2_bestFor : MethodName := ⟨RX2, "bestFor", "(LStampSheets$Sheet;I)I"⟩
abbrev cX2_rankOf : ByteArray := prog_4_method_15_code
def yX2_rankOf : MethodName := ⟨RX2, "rankOf", "(LStampSheets$Sheet;I)I"⟩
abbrev cX2_countFor : ByteArray := prog_4_method_16_code
def yX2_countFor : MethodName := ⟨RX2, "countFor", "(LStampSheets$Sheet;I)I"⟩
abbrev cX2_cheapestFor : ByteArray := prog_4_method_17_code
def yX2_cheapestFor : MethodName := ⟨RX2, "cheapestFor", "(LStampSheets$Sheet;I)I"⟩
abbrev cX2_mostServed : ByteArray := prog_4_method_18_code
def yX2_mostServed : MethodName := ⟨RX2, "mostServed", "(LStampSheets$Sheet;)I"⟩
abbrev cX2_findSuited : ByteArray := prog_4_method_19_code
def yX2_findSuited : MethodName := ⟨RX2, "findSuited", "(LStampSheets$Sheet;)V"⟩
abbrev cX2_suitedBy : ByteArray := prog_4_method_20_code
def yX2_suitedBy : MethodName := ⟨RX2, "suitedBy", "(LStampSheets$Sheet;I)I"⟩
abbrev cX2_findServable : ByteArray := prog_4_method_21_code
def yX2_findServable : MethodName := ⟨RX2, "findServable", "(LStampSheets$Sheet;)V"⟩
abbrev cX2_servableBy : ByteArray := prog_4_method_22_code
def yX2_servableBy : MethodName := ⟨RX2, "servableBy", "(I)I"⟩
abbrev cX2_withOneMore : ByteArray := prog_4_method_23_code
def yX2_withOneMore : MethodName := ⟨RX2, "withOneMore", "(II)I"⟩
abbrev cX2_canServe : ByteArray := prog_4_method_24_code
def yX2_canServe : MethodName := ⟨RX2, "canServe", "(II)Z"⟩
abbrev cX2_pieceAmongServed : ByteArray := prog_4_method_25_code
def yX2_pieceAmongServed : MethodName := ⟨RX2, "pieceAmongServed", "(LStampSheets$Sheet;II)I"⟩
abbrev cX2_firstPieceLeaving : ByteArray := prog_4_method_26_code
def yX2_firstPieceLeaving : MethodName := ⟨RX2, "firstPieceLeaving", "(III)I"⟩
abbrev cX2_countCouplings : ByteArray := prog_4_method_27_code
def yX2_countCouplings : MethodName := ⟨RX2, "countCouplings", "(LStampSheets$Sheet;)I"⟩
abbrev cX2_sideOf : ByteArray := prog_4_method_28_code
def yX2_sideOf : MethodName := ⟨RX2, "sideOf", "(LStampSheets$Sheet;II)I"⟩
abbrev cX2_casesOfFewLost : ByteArray := prog_4_method_29_code
def yX2_casesOfFewLost : MethodName := ⟨RX2, "casesOfFewLost", "(LStampSheets$Sheet;III)J"⟩
abbrev cX2_addStamp : ByteArray := prog_4_method_30_code
def yX2_addStamp : MethodName := ⟨RX2, "addStamp", "(JJ)V"⟩
def RX3 : String := "StampSheets$Reader"
def TX3 : u_T := fun k => match k with
  | 0 => ("StampSheets$Reader", "tape", "[I", true)
  | 1 => ("StampSheets$Reader", "length", "I", false)
  | 2 => ("StampSheets$Reader", "at", "I", false)
  | 3 => ("StampSheets$Reader", "start", "I", false)
  | 4 => ("StampSheets$Reader", "token", "I", false)
  | 5 => ("StampSheets$Reader", "number", "I", false)
  | _ => ("StampSheets$Reader", "fault", "I", false)
def tyX3 : Nat → FieldType := fun k => match k with
  | 0 => .array .int
  | 1 => .int
  | 2 => .int
  | 3 => .int
  | 4 => .int
  | 5 => .int
  | _ => .int
abbrev wsX30 : List Cond := u_ws RX3 TX3 7
theorem nmX3 : ∀ a, a < 7 → ∀ b, b < 7 → a ≠ b → (TX3 a).2.1 ≠ (TX3 b).2.1 := by decide +kernel
theorem tyX3_ok : ∀ k, k < 7 → parseFieldDescriptor (TX3 k).2.2.1 = some (tyX3 k) := by decide +kernel
abbrev cX3_init : ByteArray := prog_5_method_1_code
def yX3_init : MethodName := ⟨RX3, "<init>", "()V"⟩
abbrev cX3_append : ByteArray := prog_5_method_2_code
def yX3_append : MethodName := ⟨RX3, "append", "(I)Z"⟩
abbrev cX3_read : ByteArray := prog_5_method_3_code
def yX3_read : MethodName := ⟨RX3, "read", "(LStampSheets$Sheet;)Z"⟩
abbrev cX3_readLaw : ByteArray := prog_5_method_4_code
def yX3_readLaw : MethodName := ⟨RX3, "readLaw", "(LStampSheets$Sheet;)Z"⟩
abbrev cX3_readStamps : ByteArray := prog_5_method_5_code
def yX3_readStamps : MethodName := ⟨RX3, "readStamps", "(LStampSheets$Sheet;)Z"⟩
abbrev cX3_readCustomers : ByteArray := prog_5_method_6_code
def yX3_readCustomers : MethodName := ⟨RX3, "readCustomers", "(LStampSheets$Sheet;)Z"⟩
abbrev cX3_kindOfSort : ByteArray := prog_5_method_7_code
def yX3_kindOfSort : MethodName := ⟨RX3, "kindOfSort", "()I"⟩
abbrev cX3_takes : ByteArray := prog_5_method_8_code
def yX3_takes : MethodName := ⟨RX3, "takes", "(I)Z"⟩
abbrev cX3_takeNumber : ByteArray := prog_5_method_9_code
def yX3_takeNumber : MethodName := ⟨RX3, "takeNumber", "(II)I"⟩
abbrev cX3_refuse : ByteArray := prog_5_method_10_code
def yX3_refuse : MethodName := ⟨RX3, "refuse", "(I)Z"⟩
abbrev cX3_step : ByteArray := prog_5_method_11_code
def yX3_step : MethodName := ⟨RX3, "step", "()V"⟩
abbrev cX3_stepOverNumber : ByteArray := prog_5_method_12_code
def yX3_stepOverNumber : MethodName := ⟨RX3, "stepOverNumber", "()V"⟩
abbrev cX3_isFigureSign : ByteArray := prog_5_method_13_code
def yX3_isFigureSign : MethodName := ⟨RX3, "isFigureSign", "(I)Z"⟩
def RX4 : String := "StampSheets$Row"
def TX4 : u_T := fun k => match k with
  | 0 => ("StampSheets$Row", "items", "[I", true)
  | 1 => ("StampSheets$Row", "there", "Z", false)
  | 2 => ("StampSheets$Row", "lane", "I", false)
  | _ => ("StampSheets$Row", "size", "I", false)
def tyX4 : Nat → FieldType := fun k => match k with
  | 0 => .array .int
  | 1 => .boolean
  | 2 => .int
  | _ => .int
abbrev wsX40 : List Cond := u_ws RX4 TX4 4
theorem nmX4 : ∀ a, a < 4 → ∀ b, b < 4 → a ≠ b → (TX4 a).2.1 ≠ (TX4 b).2.1 := by decide +kernel
theorem tyX4_ok : ∀ k, k < 4 → parseFieldDescriptor (TX4 k).2.2.1 = some (tyX4 k) := by decide +kernel
abbrev cX4_init : ByteArray := prog_6_method_1_code
def yX4_init : MethodName := ⟨RX4, "<init>", "()V"⟩
abbrev cX4_begin : ByteArray := prog_6_method_2_code
def yX4_begin : MethodName := ⟨RX4, "begin", "(II)V"⟩
abbrev cX4_reaches : ByteArray := prog_6_method_3_code
def yX4_reaches : MethodName := ⟨RX4, "reaches", "(II)Z"⟩
abbrev cX4_put : ByteArray := prog_6_method_4_code
def yX4_put : MethodName := ⟨RX4, "put", "(II)I"⟩
def RX5 : String := "StampSheets$Sheet"
def TX5 : u_T := fun k => match k with
  | 0 => ("StampSheets$Sheet", "wide", "I", false)
  | 1 => ("StampSheets$Sheet", "cells", "I", false)
  | 2 => ("StampSheets$Sheet", "customers", "I", false)
  | 3 => ("StampSheets$Sheet", "over", "I", false)
  | 4 => ("StampSheets$Sheet", "torn", "I", false)
  | 5 => ("StampSheets$Sheet", "on", "I", false)
  | 6 => ("StampSheets$Sheet", "spoilt", "I", false)
  | 7 => ("StampSheets$Sheet", "air", "I", false)
  | 8 => ("StampSheets$Sheet", "next", "[I", true)
  | 9 => ("StampSheets$Sheet", "kindOf", "[I", true)
  | 10 => ("StampSheets$Sheet", "worth", "[I", true)
  | 11 => ("StampSheets$Sheet", "least", "[I", true)
  | 12 => ("StampSheets$Sheet", "most", "[I", true)
  | _ => ("StampSheets$Sheet", "pieceOf", "[I", true)
def tyX5 : Nat → FieldType := fun k => match k with
  | 0 => .int
  | 1 => .int
  | 2 => .int
  | 3 => .int
  | 4 => .int
  | 5 => .int
  | 6 => .int
  | 7 => .int
  | 8 => .array .int
  | 9 => .array .int
  | 10 => .array .int
  | 11 => .array .int
  | 12 => .array .int
  | _ => .array .int
abbrev wsX50 : List Cond := u_ws RX5 TX5 14
theorem nmX5 : ∀ a, a < 14 → ∀ b, b < 14 → a ≠ b → (TX5 a).2.1 ≠ (TX5 b).2.1 := by decide +kernel
theorem tyX5_ok : ∀ k, k < 14 → parseFieldDescriptor (TX5 k).2.2.1 = some (tyX5 k) := by decide +kernel
abbrev cX5_init : ByteArray := prog_7_method_1_code
def yX5_init : MethodName := ⟨RX5, "<init>", "()V"⟩
abbrev cX5_begin : ByteArray := prog_7_method_2_code
def yX5_begin : MethodName := ⟨RX5, "begin", "(III)V"⟩
abbrev cX5_findNext : ByteArray := prog_7_method_3_code
def yX5_findNext : MethodName := ⟨RX5, "findNext", "(I)I"⟩
abbrev cX5_put : ByteArray := prog_7_method_4_code
def yX5_put : MethodName := ⟨RX5, "put", "(III)V"⟩
abbrev cX5_add : ByteArray := prog_7_method_5_code
def yX5_add : MethodName := ⟨RX5, "add", "(II)V"⟩
abbrev cX5_become : ByteArray := prog_7_method_6_code
def yX5_become : MethodName := ⟨RX5, "become", "(LStampSheets$Sheet;)V"⟩
abbrev cX5_sell : ByteArray := prog_7_method_7_code
def yX5_sell : MethodName := ⟨RX5, "sell", "(III)V"⟩
abbrev cX5_takeBack : ByteArray := prog_7_method_8_code
def yX5_takeBack : MethodName := ⟨RX5, "takeBack", "(I)V"⟩
abbrev cX5_lose : ByteArray := prog_7_method_9_code
def yX5_lose : MethodName := ⟨RX5, "lose", "(I)V"⟩
abbrev cX5_isOn : ByteArray := prog_7_method_10_code
def yX5_isOn : MethodName := ⟨RX5, "isOn", "(I)Z"⟩
abbrev cX5_holds : ByteArray := prog_7_method_11_code
def yX5_holds : MethodName := ⟨RX5, "holds", "(I)Z"⟩
abbrev cX5_isServed : ByteArray := prog_7_method_12_code
def yX5_isServed : MethodName := ⟨RX5, "isServed", "(I)Z"⟩
abbrev cX5_suits : ByteArray := prog_7_method_13_code
def yX5_suits : MethodName := ⟨RX5, "suits", "(II)Z"⟩
abbrev cX5_served : ByteArray := prog_7_method_14_code
def yX5_served : MethodName := ⟨RX5, "served", "()I"⟩
abbrev cX5_howIs : ByteArray := prog_7_method_15_code
def yX5_howIs : MethodName := ⟨RX5, "howIs", "(I)I"⟩
abbrev cX5_ownerOf : ByteArray := prog_7_method_16_code
def yX5_ownerOf : MethodName := ⟨RX5, "ownerOf", "(I)I"⟩
abbrev cX5_paysOf : ByteArray := prog_7_method_17_code
def yX5_paysOf : MethodName := ⟨RX5, "paysOf", "(I)I"⟩
abbrev cX5_payOfStamp : ByteArray := prog_7_method_18_code
def yX5_payOfStamp : MethodName := ⟨RX5, "payOfStamp", "(II)I"⟩
abbrev cX5_tearsOf : ByteArray := prog_7_method_19_code
def yX5_tearsOf : MethodName := ⟨RX5, "tearsOf", "(I)I"⟩
abbrev cX5_nextTo : ByteArray := prog_7_method_20_code
def yX5_nextTo : MethodName := ⟨RX5, "nextTo", "(I)I"⟩
abbrev cX5_partAround : ByteArray := prog_7_method_21_code
def yX5_partAround : MethodName := ⟨RX5, "partAround", "(II)I"⟩
abbrev cX5_countParts : ByteArray := prog_7_method_22_code
def yX5_countParts : MethodName := ⟨RX5, "countParts", "(I)I"⟩
abbrev cX5_partNumber : ByteArray := prog_7_method_23_code
def yX5_partNumber : MethodName := ⟨RX5, "partNumber", "(I)I"⟩
abbrev cX5_stepsBetween : ByteArray := prog_7_method_24_code
def yX5_stepsBetween : MethodName := ⟨RX5, "stepsBetween", "(II)I"⟩
abbrev cX5_firstStep : ByteArray := prog_7_method_25_code
def yX5_firstStep : MethodName := ⟨RX5, "firstStep", "(II)I"⟩
def RX6 : String := "StampSheets$Told"
def TX6 : u_T := fun k => match k with
  | 0 => ("StampSheets$Told", "cells", "[I", true)
  | 1 => ("StampSheets$Told", "pays", "[I", true)
  | _ => ("StampSheets$Told", "size", "I", false)
def tyX6 : Nat → FieldType := fun k => match k with
  | 0 => .array .int
  | 1 => .array .int
  | _ => .int
abbrev wsX60 : List Cond := u_ws RX6 TX6 3
theorem nmX6 : ∀ a, a < 3 → ∀ b, b < 3 → a ≠ b → (TX6 a).2.1 ≠ (TX6 b).2.1 := by decide +kernel
theorem tyX6_ok : ∀ k, k < 3 → parseFieldDescriptor (TX6 k).2.2.1 = some (tyX6 k) := by decide +kernel
abbrev cX6_init : ByteArray := prog_8_method_1_code
def yX6_init : MethodName := ⟨RX6, "<init>", "()V"⟩
abbrev cX6_takeCells : ByteArray := prog_8_method_2_code
def yX6_takeCells : MethodName := ⟨RX6, "takeCells", "(LStampSheets$Row;III)Z"⟩
abbrev cX6_takePays : ByteArray := prog_8_method_3_code
def yX6_takePays : MethodName := ⟨RX6, "takePays", "(LStampSheets$Row;I)V"⟩
abbrev cX6_isSo : ByteArray := prog_8_method_4_code
def yX6_isSo : MethodName := ⟨RX6, "isSo", "(LStampSheets$Sheet;)Z"⟩
def RX7 : String := "StampSheets"
def TX7 : u_T := fun k => match k with
  | 0 => ("StampSheets", "rows", "[LStampSheets$Row;", true)
  | 1 => ("StampSheets", "reader", "LStampSheets$Reader;", true)
  | 2 => ("StampSheets", "now", "LStampSheets$Sheet;", true)
  | 3 => ("StampSheets", "trial", "LStampSheets$Sheet;", true)
  | 4 => ("StampSheets", "images", "[LStampSheets$Sheet;", true)
  | 5 => ("StampSheets", "acts", "LStampSheets$Acts;", true)
  | 6 => ("StampSheets", "finder", "LStampSheets$Finder;", true)
  | 7 => ("StampSheets", "asks", "LStampSheets$Asks;", true)
  | 8 => ("StampSheets", "told", "LStampSheets$Told;", true)
  | _ => ("StampSheets", "status", "I", false)
def tyX7 : Nat → FieldType := fun k => match k with
  | 0 => .array (.object "StampSheets$Row")
  | 1 => .object "StampSheets$Reader"
  | 2 => .object "StampSheets$Sheet"
  | 3 => .object "StampSheets$Sheet"
  | 4 => .array (.object "StampSheets$Sheet")
  | 5 => .object "StampSheets$Acts"
  | 6 => .object "StampSheets$Finder"
  | 7 => .object "StampSheets$Asks"
  | 8 => .object "StampSheets$Told"
  | _ => .int
abbrev wsX70 : List Cond := u_ws RX7 TX7 10
theorem nmX7 : ∀ a, a < 10 → ∀ b, b < 10 → a ≠ b → (TX7 a).2.1 ≠ (TX7 b).2.1 := by decide +kernel
theorem tyX7_ok : ∀ k, k < 10 → parseFieldDescriptor (TX7 k).2.2.1 = some (tyX7 k) := by decide +kernel
abbrev cX7_init : ByteArray := prog_1_method_1_code
def yX7_init : MethodName := ⟨RX7, "<init>", "()V"⟩
abbrev cX7_row : ByteArray := prog_1_method_2_code
def yX7_row : MethodName := ⟨RX7, "row", "(III)I"⟩
abbrev cX7_set : ByteArray := prog_1_method_3_code
def yX7_set : MethodName := ⟨RX7, "set", "(III)I"⟩
abbrev cX7_copy : ByteArray := prog_1_method_4_code
def yX7_copy : MethodName := ⟨RX7, "copy", "(IIIII)I"⟩
abbrev cX7_drop : ByteArray := prog_1_method_5_code
def yX7_drop : MethodName := ⟨RX7, "drop", "(I)I"⟩
abbrev cX7_feed : ByteArray := prog_1_method_6_code
def yX7_feed : MethodName := ⟨RX7, "feed", "(I)I"⟩
abbrev cX7_sheet : ByteArray := prog_1_method_7_code
def yX7_sheet : MethodName := ⟨RX7, "sheet", "()I"⟩
abbrev cX7_fault : ByteArray := prog_1_method_8_code
def yX7_fault : MethodName := ⟨RX7, "fault", "()I"⟩
abbrev cX7_undo : ByteArray := prog_1_method_9_code
def yX7_undo : MethodName := ⟨RX7, "undo", "()I"⟩
abbrev cX7_serve : ByteArray := prog_1_method_10_code
def yX7_serve : MethodName := ⟨RX7, "serve", "(II)I"⟩
abbrev cX7_bringBack : ByteArray := prog_1_method_11_code
def yX7_bringBack : MethodName := ⟨RX7, "bringBack", "(I)I"⟩
abbrev cX7_spoil : ByteArray := prog_1_method_12_code
def yX7_spoil : MethodName := ⟨RX7, "spoil", "(I)I"⟩
abbrev cX7_value : ByteArray := prog_1_method_13_code
def yX7_value : MethodName := ⟨RX7, "value", "(II)I"⟩
abbrev cX7_over : ByteArray := prog_1_method_14_code
def yX7_over : MethodName := ⟨RX7, "over", "(I)I"⟩
abbrev cX7_cell : ByteArray := prog_1_method_15_code
def yX7_cell : MethodName := ⟨RX7, "cell", "(II)I"⟩
abbrev cX7_customer : ByteArray := prog_1_method_16_code
def yX7_customer : MethodName := ⟨RX7, "customer", "(II)I"⟩
abbrev cX7_stand : ByteArray := prog_1_method_17_code
def yX7_stand : MethodName := ⟨RX7, "stand", "(I)I"⟩
abbrev cX7_piece : ByteArray := prog_1_method_18_code
def yX7_piece : MethodName := ⟨RX7, "piece", "(II)I"⟩
abbrev cX7_parts : ByteArray := prog_1_method_19_code
def yX7_parts : MethodName := ⟨RX7, "parts", "(I)I"⟩
abbrev cX7_pieces : ByteArray := prog_1_method_20_code
def yX7_pieces : MethodName := ⟨RX7, "pieces", "(II)I"⟩
abbrev cX7_sums : ByteArray := prog_1_method_21_code
def yX7_sums : MethodName := ⟨RX7, "sums", "(I)I"⟩
abbrev cX7_best : ByteArray := prog_1_method_22_code
def yX7_best : MethodName := ⟨RX7, "best", "(II)I"⟩
abbrev cX7_ways : ByteArray := prog_1_method_23_code
def yX7_ways : MethodName := ⟨RX7, "ways", "(I)I"⟩
abbrev cX7_thrift : ByteArray := prog_1_method_24_code
def yX7_thrift : MethodName := ⟨RX7, "thrift", "(II)I"⟩
abbrev cX7_serving : ByteArray := prog_1_method_25_code
def yX7_serving : MethodName := ⟨RX7, "serving", "(I)I"⟩
abbrev cX7_couples : ByteArray := prog_1_method_26_code
def yX7_couples : MethodName := ⟨RX7, "couples", "()I"⟩
abbrev cX7_parting : ByteArray := prog_1_method_27_code
def yX7_parting : MethodName := ⟨RX7, "parting", "(III)I"⟩
abbrev cX7_way : ByteArray := prog_1_method_28_code
def yX7_way : MethodName := ⟨RX7, "way", "(III)I"⟩
abbrev cX7_lone : ByteArray := prog_1_method_29_code
def yX7_lone : MethodName := ⟨RX7, "lone", "()I"⟩
abbrev cX7_who : ByteArray := prog_1_method_30_code
def yX7_who : MethodName := ⟨RX7, "who", "(IIIIIII)I"⟩
abbrev cX7_fits : ByteArray := prog_1_method_31_code
def yX7_fits : MethodName := ⟨RX7, "fits", "(IIIIII)I"⟩
abbrev cX7_wrong : ByteArray := prog_1_method_32_code
def yX7_wrong : MethodName := ⟨RX7, "wrong", "(IIII)J"⟩
abbrev cX7_drawn : ByteArray := prog_1_method_33_code
def yX7_drawn : MethodName := ⟨RX7, "drawn", "(III)I"⟩
abbrev cX7_image : ByteArray := prog_1_method_34_code
def yX7_image : MethodName := ⟨RX7, "image", "(I)I"⟩
abbrev cX7_restore : ByteArray := prog_1_method_35_code
def yX7_restore : MethodName := ⟨RX7, "restore", "(I)I"⟩
abbrev cX7_kind : ByteArray := prog_1_method_36_code
def yX7_kind : MethodName := ⟨RX7, "kind", "(I)I"⟩
abbrev cX7_as : ByteArray := prog_1_method_37_code
def yX7_as : MethodName := ⟨RX7, "as", "(II)I"⟩
abbrev cX7_ask : ByteArray := prog_1_method_38_code
def yX7_ask : MethodName := ⟨RX7, "ask", "(II)I"⟩
abbrev cX7_trace : ByteArray := prog_1_method_39_code
def yX7_trace : MethodName := ⟨RX7, "trace", "(I)I"⟩
abbrev cX7_count : ByteArray := prog_1_method_40_code
def yX7_count : MethodName := ⟨RX7, "count", "(I)I"⟩
abbrev cX7_status : ByteArray := prog_1_method_41_code
def yX7_status : MethodName := ⟨RX7, "status", "()I"⟩
abbrev cX7_found : ByteArray := prog_1_method_42_code
def yX7_found : MethodName := ⟨RX7, "found", "(I)I"⟩
abbrev cX7_fine : ByteArray := prog_1_method_43_code
def yX7_fine : MethodName := ⟨RX7, "fine", "(I)I"⟩
abbrev cX7_isThere : ByteArray := prog_1_method_44_code
def yX7_isThere : MethodName := ⟨RX7, "isThere", "()Z"⟩
abbrev cX7_isCell : ByteArray := prog_1_method_45_code
def yX7_isCell : MethodName := ⟨RX7, "isCell", "(I)Z"⟩
abbrev cX7_areTwoCells : ByteArray := prog_1_method_46_code
def yX7_areTwoCells : MethodName := ⟨RX7, "areTwoCells", "(II)Z"⟩
abbrev cX7_isCustomer : ByteArray := prog_1_method_47_code
def yX7_isCustomer : MethodName := ⟨RX7, "isCustomer", "(I)Z"⟩
abbrev cX7_isRow : ByteArray := prog_1_method_48_code
def yX7_isRow : MethodName := ⟨RX7, "isRow", "(I)Z"⟩
abbrev cX7_isFigure : ByteArray := prog_1_method_49_code
def yX7_isFigure : MethodName := ⟨RX7, "isFigure", "(I)Z"⟩
abbrev cX7_isEither : ByteArray := prog_1_method_50_code
def yX7_isEither : MethodName := ⟨RX7, "isEither", "(I)Z"⟩
abbrev cX7_areRowsOf : ByteArray := prog_1_method_51_code
def yX7_areRowsOf : MethodName := ⟨RX7, "areRowsOf", "(III)Z"⟩
abbrev cX7_countRows : ByteArray := prog_1_method_52_code
def yX7_countRows : MethodName := ⟨RX7, "countRows", "()I"⟩
abbrev cX7_putInPlace : ByteArray := prog_1_method_53_code
def yX7_putInPlace : MethodName := ⟨RX7, "putInPlace", "(LStampSheets$Sheet;)V"⟩
abbrev cX7_liveDay : ByteArray := prog_1_method_54_code
def yX7_liveDay : MethodName := ⟨RX7, "liveDay", "(LStampSheets$Sheet;J)V"⟩
abbrev cX7_restBy : ByteArray := prog_1_method_55_code
def yX7_restBy : MethodName := ⟨RX7, "restBy", "(JI)I"⟩
abbrev cX7_powerOf : ByteArray := prog_1_method_56_code
def yX7_powerOf : MethodName := ⟨RX7, "powerOf", "(JI)J"⟩
abbrev cX7_commonDivisor : ByteArray := prog_1_method_57_code
def yX7_commonDivisor : MethodName := ⟨RX7, "commonDivisor", "(JJ)J"⟩
abbrev cX7_takeTold : ByteArray := prog_1_method_58_code
def yX7_takeTold : MethodName := ⟨RX7, "takeTold", "(IIIII)I"⟩
abbrev cX7_kindsThatFit : ByteArray := prog_1_method_59_code
def yX7_kindsThatFit : MethodName := ⟨RX7, "kindsThatFit", "(I)I"⟩
abbrev cX7_valuesThatFit : ByteArray := prog_1_method_60_code
def yX7_valuesThatFit : MethodName := ⟨RX7, "valuesThatFit", "(I)I"⟩
abbrev cX7_oversThatFit : ByteArray := prog_1_method_61_code
def yX7_oversThatFit : MethodName := ⟨RX7, "oversThatFit", "()I"⟩
abbrev cX7_countSwaps : ByteArray := prog_1_method_62_code
def yX7_countSwaps : MethodName := ⟨RX7, "countSwaps", "()I"⟩
abbrev cX7_firstSwap : ByteArray := prog_1_method_63_code
def yX7_firstSwap : MethodName := ⟨RX7, "firstSwap", "()I"⟩
abbrev cX7_fitsSwapped : ByteArray := prog_1_method_64_code
def yX7_fitsSwapped : MethodName := ⟨RX7, "fitsSwapped", "(II)Z"⟩
def RX8 : String := "StampSheetsModel"
def TX8 : u_T := fun k => match k with
  | 0 => ("StampSheetsModel", "lanes", "[I", true)
  | 1 => ("StampSheetsModel", "sizes", "[I", true)
  | 2 => ("StampSheetsModel", "items", "[I", true)
  | 3 => ("StampSheetsModel", "moved", "[I", true)
  | 4 => ("StampSheetsModel", "status", "I", false)
  | 5 => ("StampSheetsModel", "tape", "[I", true)
  | 6 => ("StampSheetsModel", "typed", "I", false)
  | 7 => ("StampSheetsModel", "at", "I", false)
  | 8 => ("StampSheetsModel", "start", "I", false)
  | 9 => ("StampSheetsModel", "fault", "I", false)
  | 10 => ("StampSheetsModel", "s", "[I", true)
  | 11 => ("StampSheetsModel", "draft", "[I", true)
  | 12 => ("StampSheetsModel", "next", "[I", true)
  | 13 => ("StampSheetsModel", "past", "[I", true)
  | 14 => ("StampSheetsModel", "acts", "I", false)
  | 15 => ("StampSheetsModel", "images", "[I", true)
  | 16 => ("StampSheetsModel", "kept", "[Z", true)
  | 17 => ("StampSheetsModel", "board", "[J", true)
  | 18 => ("StampSheetsModel", "trace", "[I", true)
  | 19 => ("StampSheetsModel", "traced", "I", false)
  | 20 => ("StampSheetsModel", "without", "[J", true)
  | 21 => ("StampSheetsModel", "lost", "[J", true)
  | _ => ("StampSheetsModel", "held", "[I", true)
def tyX8 : Nat → FieldType := fun k => match k with
  | 0 => .array .int
  | 1 => .array .int
  | 2 => .array .int
  | 3 => .array .int
  | 4 => .int
  | 5 => .array .int
  | 6 => .int
  | 7 => .int
  | 8 => .int
  | 9 => .int
  | 10 => .array .int
  | 11 => .array .int
  | 12 => .array .int
  | 13 => .array .int
  | 14 => .int
  | 15 => .array .int
  | 16 => .array .boolean
  | 17 => .array .long
  | 18 => .array .int
  | 19 => .int
  | 20 => .array .long
  | 21 => .array .long
  | _ => .array .int
abbrev wsX80 : List Cond := u_ws RX8 TX8 23
theorem nmX8 : ∀ a, a < 23 → ∀ b, b < 23 → a ≠ b → (TX8 a).2.1 ≠ (TX8 b).2.1 := by decide +kernel
theorem tyX8_ok : ∀ k, k < 23 → parseFieldDescriptor (TX8 k).2.2.1 = some (tyX8 k) := by decide +kernel
abbrev cX8_init : ByteArray := prog_10_method_1_code
def yX8_init : MethodName := ⟨RX8, "<init>", "()V"⟩
abbrev cX8_in : ByteArray := prog_10_method_3_code
def yX8_in : MethodName := ⟨RX8, "in", "(III)Z"⟩
abbrev cX8_has : ByteArray := prog_10_method_4_code
def yX8_has : MethodName := ⟨RX8, "has", "(II)Z"⟩
abbrev cX8_ones : ByteArray := prog_10_method_5_code
def yX8_ones : MethodName := ⟨RX8, "ones", "(I)I"⟩
abbrev cX8_isRow : ByteArray := prog_10_method_6_code
def yX8_isRow : MethodName := ⟨RX8, "isRow", "(I)Z"⟩
abbrev cX8_finds : ByteArray := prog_10_method_7_code
def yX8_finds : MethodName := ⟨RX8, "finds", "(I)I"⟩
abbrev cX8_row : ByteArray := prog_10_method_8_code
def yX8_row : MethodName := ⟨RX8, "row", "(III)I"⟩
abbrev cX8_set : ByteArray := prog_10_method_9_code
def yX8_set : MethodName := ⟨RX8, "set", "(III)I"⟩
abbrev cX8_isPlace : ByteArray := prog_10_method_10_code
def yX8_isPlace : MethodName := ⟨RX8, "isPlace", "(III)Z"⟩
abbrev cX8_copy : ByteArray := prog_10_method_11_code
def yX8_copy : MethodName := ⟨RX8, "copy", "(IIIII)I"⟩
abbrev cX8_drop : ByteArray := prog_10_method_12_code
def yX8_drop : MethodName := ⟨RX8, "drop", "(I)I"⟩
abbrev cX8_feed : ByteArray := prog_10_method_13_code
def yX8_feed : MethodName := ⟨RX8, "feed", "(I)I"⟩
abbrev cX8_byteAt : ByteArray := prog_10_method_14_code
def yX8_byteAt : MethodName := ⟨RX8, "byteAt", "(I)I"⟩
abbrev cX8_isFigure : ByteArray := prog_10_method_15_code
def yX8_isFigure : MethodName := ⟨RX8, "isFigure", "(I)Z"⟩
abbrev cX8_wrongs : ByteArray := prog_10_method_16_code
def yX8_wrongs : MethodName := ⟨RX8, "wrongs", "(I)Z"⟩
abbrev cX8_takes : ByteArray := prog_10_method_17_code
def yX8_takes : MethodName := ⟨RX8, "takes", "(I)Z"⟩
abbrev cX8_number : ByteArray := prog_10_method_18_code
def yX8_number : MethodName := ⟨RX8, "number", "(III)Z"⟩
abbrev cX8_kindBy : ByteArray := prog_10_method_19_code
def yX8_kindBy : MethodName := ⟨RX8, "kindBy", "(I)I"⟩
abbrev cX8_readsLaw : ByteArray := prog_10_method_20_code
def yX8_readsLaw : MethodName := ⟨RX8, "readsLaw", "()Z"⟩
abbrev cX8_readsStamp : ByteArray := prog_10_method_21_code
def yX8_readsStamp : MethodName := ⟨RX8, "readsStamp", "(I)Z"⟩
abbrev cX8_readsCustomer : ByteArray := prog_10_method_22_code
def yX8_readsCustomer : MethodName := ⟨RX8, "readsCustomer", "()Z"⟩
abbrev cX8_reads : ByteArray := prog_10_method_23_code
def yX8_reads : MethodName := ⟨RX8, "reads", "()Z"⟩
abbrev cX8_joins : ByteArray := prog_10_method_24_code
def yX8_joins : MethodName := ⟨RX8, "joins", "()V"⟩
abbrev cX8_sheet : ByteArray := prog_10_method_25_code
def yX8_sheet : MethodName := ⟨RX8, "sheet", "()I"⟩
abbrev cX8_fault : ByteArray := prog_10_method_26_code
def yX8_fault : MethodName := ⟨RX8, "fault", "()I"⟩
abbrev cX8_keeps : ByteArray := prog_10_method_27_code
def yX8_keeps : MethodName := ⟨RX8, "keeps", "()V"⟩
abbrev cX8_undo : ByteArray := prog_10_method_28_code
def yX8_undo : MethodName := ⟨RX8, "undo", "()I"⟩
abbrev cX8_isCell : ByteArray := prog_10_method_29_code
def yX8_isCell : MethodName := ⟨RX8, "isCell", "(I)Z"⟩
abbrev cX8_isCustomer : ByteArray := prog_10_method_30_code
def yX8_isCustomer : MethodName := ⟨RX8, "isCustomer", "(I)Z"⟩
abbrev cX8_gone : ByteArray := prog_10_method_31_code
def yX8_gone : MethodName := ⟨RX8, "gone", "()I"⟩
abbrev cX8_on : ByteArray := prog_10_method_32_code
def yX8_on : MethodName := ⟨RX8, "on", "()I"⟩
abbrev cX8_servedNow : ByteArray := prog_10_method_33_code
def yX8_servedNow : MethodName := ⟨RX8, "servedNow", "()I"⟩
abbrev cX8_reach : ByteArray := prog_10_method_34_code
def yX8_reach : MethodName := ⟨RX8, "reach", "(II)I"⟩
abbrev cX8_lowest : ByteArray := prog_10_method_35_code
def yX8_lowest : MethodName := ⟨RX8, "lowest", "(I)I"⟩
abbrev cX8_hangs : ByteArray := prog_10_method_36_code
def yX8_hangs : MethodName := ⟨RX8, "hangs", "(I)Z"⟩
abbrev cX8_isPiece : ByteArray := prog_10_method_37_code
def yX8_isPiece : MethodName := ⟨RX8, "isPiece", "(I)Z"⟩
abbrev cX8_pays : ByteArray := prog_10_method_38_code
def yX8_pays : MethodName := ⟨RX8, "pays", "(I)I"⟩
abbrev cX8_tears : ByteArray := prog_10_method_39_code
def yX8_tears : MethodName := ⟨RX8, "tears", "(I)I"⟩
abbrev cX8_serves : ByteArray := prog_10_method_40_code
def yX8_serves : MethodName := ⟨RX8, "serves", "(II)V"⟩
abbrev cX8_serve : ByteArray := prog_10_method_41_code
def yX8_serve : MethodName := ⟨RX8, "serve", "(II)I"⟩
abbrev cX8_bringBack : ByteArray := prog_10_method_42_code
def yX8_bringBack : MethodName := ⟨RX8, "bringBack", "(I)I"⟩
abbrev cX8_spoil : ByteArray := prog_10_method_43_code
def yX8_spoil : MethodName := ⟨RX8, "spoil", "(I)I"⟩
abbrev cX8_value : ByteArray := prog_10_method_44_code
def yX8_value : MethodName := ⟨RX8, "value", "(II)I"⟩
abbrev cX8_over : ByteArray := prog_10_method_45_code
def yX8_over : MethodName := ⟨RX8, "over", "(I)I"⟩
abbrev cX8_ownerOf : ByteArray := prog_10_method_46_code
def yX8_ownerOf : MethodName := ⟨RX8, "ownerOf", "(I)I"⟩
abbrev cX8_cell : ByteArray := prog_10_method_47_code
def yX8_cell : MethodName := ⟨RX8, "cell", "(II)I"⟩
abbrev cX8_customer : ByteArray := prog_10_method_48_code
def yX8_customer : MethodName := ⟨RX8, "customer", "(II)I"⟩
abbrev cX8_stand : ByteArray := prog_10_method_49_code
def yX8_stand : MethodName := ⟨RX8, "stand", "(I)I"⟩
abbrev cX8_partOf : ByteArray := prog_10_method_50_code
def yX8_partOf : MethodName := ⟨RX8, "partOf", "(II)I"⟩
abbrev cX8_manyParts : ByteArray := prog_10_method_51_code
def yX8_manyParts : MethodName := ⟨RX8, "manyParts", "(I)I"⟩
abbrev cX8_piece : ByteArray := prog_10_method_52_code
def yX8_piece : MethodName := ⟨RX8, "piece", "(II)I"⟩
abbrev cX8_parts : ByteArray := prog_10_method_53_code
def yX8_parts : MethodName := ⟨RX8, "parts", "(I)I"⟩
abbrev cX8_surveys : ByteArray := prog_10_method_54_code
def yX8_surveys : MethodName := ⟨RX8, "surveys", "()V"⟩
abbrev cX8_paysBy : ByteArray := prog_10_method_55_code
def yX8_paysBy : MethodName := ⟨RX8, "paysBy", "(I)I"⟩
abbrev cX8_isStraight : ByteArray := prog_10_method_56_code
def yX8_isStraight : MethodName := ⟨RX8, "isStraight", "(I)Z"⟩
abbrev cX8_pieces : ByteArray := prog_10_method_57_code
def yX8_pieces : MethodName := ⟨RX8, "pieces", "(II)I"⟩
abbrev cX8_sums : ByteArray := prog_10_method_58_code
def yX8_sums : MethodName := ⟨RX8, "sums", "(I)I"⟩
abbrev cX8_fitsFor : ByteArray := prog_10_method_59_code
def yX8_fitsFor : MethodName := ⟨RX8, "fitsFor", "(II)Z"⟩
abbrev cX8_bestFor : ByteArray := prog_10_method_60_code
def yX8_bestFor : MethodName := ⟨RX8, "bestFor", "(I)I"⟩
abbrev cX8_best : ByteArray := prog_10_method_61_code
def yX8_best : MethodName := ⟨RX8, "best", "(II)I"⟩
abbrev cX8_ways : ByteArray := prog_10_method_62_code
def yX8_ways : MethodName := ⟨RX8, "ways", "(I)I"⟩
abbrev cX8_thrift : ByteArray := prog_10_method_63_code
def yX8_thrift : MethodName := ⟨RX8, "thrift", "(II)I"⟩
abbrev cX8_serveAll : ByteArray := prog_10_method_64_code
def yX8_serveAll : MethodName := ⟨RX8, "serveAll", "()V"⟩
abbrev cX8_can : ByteArray := prog_10_method_65_code
def yX8_can : MethodName := ⟨RX8, "can", "(JI)Z"⟩
abbrev cX8_serving : ByteArray := prog_10_method_66_code
def yX8_serving : MethodName := ⟨RX8, "serving", "(I)I"⟩
abbrev cX8_couples : ByteArray := prog_10_method_67_code
def yX8_couples : MethodName := ⟨RX8, "couples", "()I"⟩
abbrev cX8_parting : ByteArray := prog_10_method_68_code
def yX8_parting : MethodName := ⟨RX8, "parting", "(III)I"⟩
abbrev cX8_stepsOf : ByteArray := prog_10_method_69_code
def yX8_stepsOf : MethodName := ⟨RX8, "stepsOf", "(II)I"⟩
abbrev cX8_way : ByteArray := prog_10_method_70_code
def yX8_way : MethodName := ⟨RX8, "way", "(III)I"⟩
abbrev cX8_lone : ByteArray := prog_10_method_71_code
def yX8_lone : MethodName := ⟨RX8, "lone", "()I"⟩
abbrev cX8_findingOf : ByteArray := prog_10_method_72_code
def yX8_findingOf : MethodName := ⟨RX8, "findingOf", "(IIIII)I"⟩
abbrev cX8_isSo : ByteArray := prog_10_method_73_code
def yX8_isSo : MethodName := ⟨RX8, "isSo", "(IIIII)Z"⟩
abbrev cX8_who : ByteArray := prog_10_method_74_code
def yX8_who : MethodName := ⟨RX8, "who", "(IIIIIII)I"⟩
abbrev cX8_swaps : ByteArray := prog_10_method_75_code
def yX8_swaps : MethodName := ⟨RX8, "swaps", "(II)V"⟩
abbrev cX8_fits : ByteArray := prog_10_method_76_code
def yX8_fits : MethodName := ⟨RX8, "fits", "(IIIIII)I"⟩
abbrev cX8_wrong : ByteArray := prog_10_method_77_code
def yX8_wrong : MethodName := ⟨RX8, "wrong", "(IIII)J"⟩
abbrev cX8_day : ByteArray := prog_10_method_78_code
def yX8_day : MethodName := ⟨RX8, "day", "(J)V"⟩
abbrev cX8_drawn : ByteArray := prog_10_method_79_code
def yX8_drawn : MethodName := ⟨RX8, "drawn", "(III)I"⟩
abbrev cX8_image : ByteArray := prog_10_method_80_code
def yX8_image : MethodName := ⟨RX8, "image", "(I)I"⟩
abbrev cX8_restore : ByteArray := prog_10_method_81_code
def yX8_restore : MethodName := ⟨RX8, "restore", "(I)I"⟩
abbrev cX8_kind : ByteArray := prog_10_method_82_code
def yX8_kind : MethodName := ⟨RX8, "kind", "(I)I"⟩
abbrev cX8_as : ByteArray := prog_10_method_83_code
def yX8_as : MethodName := ⟨RX8, "as", "(II)I"⟩
abbrev cX8_leaves : ByteArray := prog_10_method_84_code
def yX8_leaves : MethodName := ⟨RX8, "leaves", "(I)V"⟩
abbrev cX8_markLow : ByteArray := prog_10_method_85_code
def yX8_markLow : MethodName := ⟨RX8, "markLow", "(I)I"⟩
abbrev cX8_sizeHigh : ByteArray := prog_10_method_86_code
def yX8_sizeHigh : MethodName := ⟨RX8, "sizeHigh", "(I)I"⟩
abbrev cX8_ask : ByteArray := prog_10_method_87_code
def yX8_ask : MethodName := ⟨RX8, "ask", "(II)I"⟩
abbrev cX8_trace : ByteArray := prog_10_method_88_code
def yX8_trace : MethodName := ⟨RX8, "trace", "(I)I"⟩
abbrev cX8_count : ByteArray := prog_10_method_89_code
def yX8_count : MethodName := ⟨RX8, "count", "(I)I"⟩
abbrev cX8_status : ByteArray := prog_10_method_90_code
def yX8_status : MethodName := ⟨RX8, "status", "()I"⟩
def RJ6 : String := "java/lang/Integer"
def TJ6 : u_T := fun k => match k with
  | _ => ("", "", "", false)
def tyJ6 : Nat → FieldType := fun k => match k with
  | _ => .int
abbrev wsJ60 : List Cond := u_ws RJ6 TJ6 0
theorem nmJ6 : ∀ a, a < 0 → ∀ b, b < 0 → a ≠ b → (TJ6 a).2.1 ≠ (TJ6 b).2.1 := by decide +kernel
theorem tyJ6_ok : ∀ k, k < 0 → parseFieldDescriptor (TJ6 k).2.2.1 = some (tyJ6 k) := by decide +kernel
abbrev cJ6_lowestOneBit_0f7a4 : ByteArray := prog_11_method_46_code
def yJ6_lowestOneBit_0f7a4 : MethodName := ⟨RJ6, "lowestOneBit", "(I)I"⟩
abbrev cJ6_numberOfTrailingZeros_0f7a4 : ByteArray := prog_11_method_48_code
def yJ6_numberOfTrailingZeros_0f7a4 : MethodName := ⟨RJ6, "numberOfTrailingZeros", "(I)I"⟩
abbrev cJ6_bitCount_0f7a4 : ByteArray := prog_11_method_49_code
def yJ6_bitCount_0f7a4 : MethodName := ⟨RJ6, "bitCount", "(I)I"⟩
def RJ9 : String := "java/lang/Math"
def TJ9 : u_T := fun k => match k with
  | _ => ("", "", "", false)
def tyJ9 : Nat → FieldType := fun k => match k with
  | _ => .int
abbrev wsJ90 : List Cond := u_ws RJ9 TJ9 0
theorem nmJ9 : ∀ a, a < 0 → ∀ b, b < 0 → a ≠ b → (TJ9 a).2.1 ≠ (TJ9 b).2.1 := by decide +kernel
theorem tyJ9_ok : ∀ k, k < 0 → parseFieldDescriptor (TJ9 k).2.2.1 = some (tyJ9 k) := by decide +kernel
abbrev cJ9_max_7cf53 : ByteArray := prog_12_method_65_code
def yJ9_max_7cf53 : MethodName := ⟨RJ9, "max", "(II)I"⟩
abbrev cJ9_min_7cf53 : ByteArray := prog_12_method_69_code
def yJ9_min_7cf53 : MethodName := ⟨RJ9, "min", "(II)I"⟩
def RJ10 : String := "java/lang/System"
def TJ10 : u_T := fun k => match k with
  | _ => ("", "", "", false)
def tyJ10 : Nat → FieldType := fun k => match k with
  | _ => .int
abbrev wsJ100 : List Cond := u_ws RJ10 TJ10 0
theorem nmJ10 : ∀ a, a < 0 → ∀ b, b < 0 → a ≠ b → (TJ10 a).2.1 ≠ (TJ10 b).2.1 := by decide +kernel
theorem tyJ10_ok : ∀ k, k < 0 → parseFieldDescriptor (TJ10 k).2.2.1 = some (tyJ10 k) := by decide +kernel
def RJ7 : String := "java/util/Arrays"
def TJ7 : u_T := fun k => match k with
  | _ => ("", "", "", false)
def tyJ7 : Nat → FieldType := fun k => match k with
  | _ => .int
abbrev wsJ70 : List Cond := u_ws RJ7 TJ7 0
theorem nmJ7 : ∀ a, a < 0 → ∀ b, b < 0 → a ≠ b → (TJ7 a).2.1 ≠ (TJ7 b).2.1 := by decide +kernel
theorem tyJ7_ok : ∀ k, k < 0 → parseFieldDescriptor (TJ7 k).2.2.1 = some (tyJ7 k) := by decide +kernel
abbrev cJ7_fill_d0a16 : ByteArray := prog_14_method_101_code
def yJ7_fill_d0a16 : MethodName := ⟨RJ7, "fill", "([JJ)V"⟩
abbrev cJ7_fill_53178 : ByteArray := prog_14_method_103_code
def yJ7_fill_53178 : MethodName := ⟨RJ7, "fill", "([II)V"⟩
def RL : String := "StampSheetsLaw"
abbrev cL_law : ByteArray := code
def yL_law : MethodName := ⟨RL, "law", "([I)Z"⟩
abbrev vwCl : List vw_C := [(RX0, TX0, 5), (RX1, TX1, 6), (RX2, TX2, 8), (RX3, TX3, 7), (RX4, TX4, 4), (RX5, TX5, 14), (RX6, TX6, 3), (RX7, TX7, 10), (RX8, TX8, 23)]
set_option maxRecDepth 20000 in
theorem inX0 : ∀ w ∈ wsX00, w ∈ lw_tbl := by decide +kernel
set_option maxRecDepth 20000 in
theorem inX1 : ∀ w ∈ wsX10, w ∈ lw_tbl := by decide +kernel
set_option maxRecDepth 20000 in
theorem inX2 : ∀ w ∈ wsX20, w ∈ lw_tbl := by decide +kernel
set_option maxRecDepth 20000 in
theorem inX3 : ∀ w ∈ wsX30, w ∈ lw_tbl := by decide +kernel
set_option maxRecDepth 20000 in
theorem inX4 : ∀ w ∈ wsX40, w ∈ lw_tbl := by decide +kernel
set_option maxRecDepth 20000 in
theorem inX5 : ∀ w ∈ wsX50, w ∈ lw_tbl := by decide +kernel
set_option maxRecDepth 20000 in
theorem inX6 : ∀ w ∈ wsX60, w ∈ lw_tbl := by decide +kernel
set_option maxRecDepth 20000 in
theorem inX7 : ∀ w ∈ wsX70, w ∈ lw_tbl := by decide +kernel
set_option maxRecDepth 20000 in
theorem inX8 : ∀ w ∈ wsX80, w ∈ lw_tbl := by decide +kernel
def zTB : List Cond := lw_tbl.filter goodWord
def zisN (w : Cond) : Bool := match w with
  | .fieldLinkNest .. => true
  | .methodLinkNest .. => true
  | _ => false
def zNL : List Cond := lw_tbl.filter zisN
theorem zTB_mem {w : Cond} (i : Nat) (h : lw_tbl[i]? = some w) (hg : goodWord w = true) : w ∈ zTB := List.mem_filter.mpr ⟨List.mem_of_getElem? h, hg⟩
theorem zNL_mem {w : Cond} (i : Nat) (h : lw_tbl[i]? = some w) (hg : zisN w = true) : w ∈ zNL := List.mem_filter.mpr ⟨List.mem_of_getElem? h, hg⟩
theorem zTB_in {ws : List Cond} (h : ∀ w ∈ ws, w ∈ lw_tbl) (hg : ws.all goodWord = true) : ∀ w ∈ ws, w ∈ zTB := fun w hw => List.mem_filter.mpr ⟨h w hw, List.all_eq_true.mp hg w hw⟩
theorem zTB_good : GoodIn zTB zTB := fun w hw => ⟨hw, good_of_word (List.mem_filter.mp hw).2⟩
theorem zTB_cons {w : Cond} (h : w ∈ zTB) : GoodIn zTB (w :: zTB) := fun v hv => (List.mem_cons.mp hv).elim (fun e => e ▸ zTB_good w h) (zTB_good v)
theorem zNw_warm {w : Cond} {s U : State} (hw : w ∈ zNL) (hW : s.WarmedH U.vm) (h : va_Nw w s) : va_Nw w U := by
  have h1 := (List.mem_filter.mp hw).2
  cases w <;> first | exact va_Nw.warmF hW h | exact va_Nw.warmM hW h | cases h1
theorem zNw_same {w : Cond} {s U : State} (hw : w ∈ zNL) (hW : s.vm = U.vm) (h : va_Nw w s) : va_Nw w U := by
  have h1 := (List.mem_filter.mp hw).2
  cases w <;> first | exact va_Nw.same rfl hW h | cases h1
theorem zNw_use {w : Cond} {s : State} {a : Array Value} (hw : w ∈ zNL) (h : va_Nw w s) : w.before a s = true := by
  have h1 := (List.mem_filter.mp hw).2
  cases w <;> first | exact va_Nw.use rfl h | cases h1
end
section
/-! A small machine over a picture of the memory: cells by numbers, ints and longs by places; an operation is a function of what comes behind it. -/
abbrev ZM : Type := (Nat → Nat → Int32) × (Nat → Nat → Int64)
abbrev ZL : Type := List (Option Value)
abbrev ZR : Type := Option Value × ZM
abbrev ZO : Type := ZR ⊕ (Nat × ZL × List Value × ZM)
abbrev ZK : Type := Nat → ZL → List Value → ZM → Option ZO
abbrev ZE : Type := (Nat → List Value → ZM → Option (Int32 × ZM)) × (Nat → List Value → ZM → Option (Int64 × ZM)) × (Nat → List Value → ZM → Option ZM)
abbrev ZP : Type := ZE → ZK → ZL → List Value → ZM → Option ZO
abbrev ZY : Type := (Nat × Nat) ⊕ ((Nat × List Nat) ⊕ (Nat × List (Option Nat)))
/-- the cells: arrays (0 ints, 1 longs, 2 booleans) with their lengths; arrays of cells; objects, whose fields are numbers or cells -/
def zLay : List ZY := [
.inr (.inr (7, [some 1, some 18, some 20, some 27, some 34, some 49, some 53, some 61, some 63, none])),
  .inr (.inl (3, [2, 3, 4, 5, 6, 7, 8, 9])),
  .inr (.inr (4, [some 10, none, none, none])),
  .inr (.inr (4, [some 11, none, none, none])),
  .inr (.inr (4, [some 12, none, none, none])),
  .inr (.inr (4, [some 13, none, none, none])),
  .inr (.inr (4, [some 14, none, none, none])),
  .inr (.inr (4, [some 15, none, none, none])),
  .inr (.inr (4, [some 16, none, none, none])),
  .inr (.inr (4, [some 17, none, none, none])),
  .inl (0, 40),
  .inl (0, 40),
  .inl (0, 40),
  .inl (0, 40),
  .inl (0, 40),
  .inl (0, 40),
  .inl (0, 40),
  .inl (0, 40),
  .inr (.inr (3, [some 19, none, none, none, none, none, none])),
  .inl (0, 120),
  .inr (.inr (5, [none, none, none, none, none, none, none, none, some 21, some 22, some 23, some 24, some 25, some 26])),
  .inl (0, 10),
  .inl (0, 10),
  .inl (0, 10),
  .inl (0, 5),
  .inl (0, 5),
  .inl (0, 5),
  .inr (.inr (5, [none, none, none, none, none, none, none, none, some 28, some 29, some 30, some 31, some 32, some 33])),
  .inl (0, 10),
  .inl (0, 10),
  .inl (0, 10),
  .inl (0, 5),
  .inl (0, 5),
  .inl (0, 5),
  .inr (.inl (4, [35, 42])),
  .inr (.inr (5, [none, none, none, none, none, none, none, none, some 36, some 37, some 38, some 39, some 40, some 41])),
  .inl (0, 10),
  .inl (0, 10),
  .inl (0, 10),
  .inl (0, 5),
  .inl (0, 5),
  .inl (0, 5),
  .inr (.inr (5, [none, none, none, none, none, none, none, none, some 43, some 44, some 45, some 46, some 47, some 48])),
  .inl (0, 10),
  .inl (0, 10),
  .inl (0, 10),
  .inl (0, 5),
  .inl (0, 5),
  .inl (0, 5),
  .inr (.inr (0, [some 50, some 51, some 52, none, none])),
  .inl (0, 24),
  .inl (0, 24),
  .inl (0, 24),
  .inr (.inr (2, [some 54, some 55, some 56, none, some 57, some 58, some 59, some 60])),
  .inl (2, 1024),
  .inl (0, 275),
  .inl (0, 275),
  .inl (0, 1024),
  .inl (0, 1024),
  .inl (0, 100),
  .inl (1, 11),
  .inr (.inr (1, [some 62, none, none, none, none, none])),
  .inl (0, 16),
  .inr (.inr (6, [some 64, some 65, none])),
  .inl (0, 10),
  .inl (0, 10),
  .inr (.inr (8, [some 67, some 68, some 69, some 70, none, some 71, none, none, none, none, some 72, some 73, some 74, some 75, none, some 76, some 77, some 78, some 79, none, some 80, some 81, some 82])),
  .inl (0, 8),
  .inl (0, 8),
  .inl (0, 320),
  .inl (0, 40),
  .inl (0, 120),
  .inl (0, 41),
  .inl (0, 41),
  .inl (0, 10),
  .inl (0, 432),
  .inl (0, 82),
  .inl (2, 2),
  .inl (1, 1024),
  .inl (0, 16),
  .inl (1, 5),
  .inl (1, 11),
  .inl (0, 18)]
def zfld (M : ZM) (ad : Nat → Nat) (k j : Nat) (f : Option Nat) : Value := match f with
  | none => .int (M.1 k j)
  | some t => .ref (ad t)
def zcell (dA : Nat → ClassId) (ad : Nat → Nat) (M : ZM) (k : Nat) (y : ZY) : va_E := match y with
  | .inl (t, n) => .inl (dA t, n, if t = 1 then .inr (.inl (M.2 k)) else .inl (M.1 k))
  | .inr (.inl (t, ts)) => .inl (dA t, ts.length, .inr (.inr (.inr (.inr (fun j => (ts[j]?).map ad)))))
  | .inr (.inr (ci, fs)) => .inr (ci, fs.mapIdx (zfld M ad k))
def zwd (dA : Nat → ClassId) (ad : Nat → Nat) (M : ZM) : va_W := zLay.mapIdx (fun k y => (ad k, zcell dA ad M k y))
theorem zwd_at {dA : Nat → ClassId} {ad : Nat → Nat} {M : ZM} {k : Nat} {y : ZY} (h : zLay[k]? = some y) : (zwd dA ad M)[k]? = some (ad k, zcell dA ad M k y) := by
  simp [zwd, List.getElem?_mapIdx, h]
theorem zwd_set {dA : Nat → ClassId} {ad : Nat → Nat} {M M' : ZM} {a : Nat} {y : ZY} {e : va_E} (ha : zLay[a]? = some y) (h : zcell dA ad M' a y = e) (ho : ∀ k, k ≠ a → M'.1 k = M.1 k ∧ M'.2 k = M.2 k) : (zwd dA ad M).set a (ad a, e) = zwd dA ad M' := by
  apply List.ext_getElem?
  intro k
  rw [List.getElem?_set]
  by_cases hk : a = k
  · subst hk
    have hlt : a < (zwd dA ad M).length := by
      simp only [zwd, List.length_mapIdx]
      exact (List.getElem?_eq_some_iff.mp ha).1
    rw [if_pos rfl, if_pos hlt, zwd_at ha, h]
  · rw [if_neg hk]
    simp only [zwd, List.getElem?_mapIdx]
    cases hy : zLay[k]? with
    | none => rfl
    | some z =>
      obtain ⟨h1, h2⟩ := ho k (fun e => hk e.symm)
      simp only [Option.map_some, Option.some.injEq, Prod.mk.injEq, true_and]
      rcases z with ⟨t, n⟩ | ⟨t, ts⟩ | ⟨ci, fs⟩
      · simp only [zcell, h1, h2]
      · rfl
      · have : zfld M' ad k = zfld M ad k := by
          funext j f
          cases f <;> simp [zfld, h1]
        simp only [zcell, this]
def zw (M : ZM) (c k : Nat) (v : Int32) : ZM := (fun c' => if c' = c then upd (M.1 c) k v else M.1 c', M.2)
def zwl (M : ZM) (c k : Nat) (v : Int64) : ZM := (M.1, fun c' => if c' = c then vp_updL (M.2 c) k v else M.2 c')
def zcp (M : ZM) (a sp b dp n : Nat) : ZM := (fun c' => if c' = b then va_cpy (M.1 a) (M.1 b) sp dp n else M.1 c', M.2)
/-- a check: what follows, or nothing -/
def zck {α : Type} (b : Bool) (x : Option α) : Option α := match b with
  | true => x
  | false => none
theorem zck_some {α : Type} {b : Bool} {x : Option α} {o : α} (h : zck b x = some o) : b = true ∧ x = some o := by
  cases b
  · cases h
  · exact ⟨rfl, h⟩
def zfi (a ci j : Nat) : Bool := match zLay[a]? with
  | some (.inr (.inr (c, fs))) => c == ci && (match fs[j]? with | some none => true | _ => false)
  | _ => false
def zfr (a ci j : Nat) : Bool := match zLay[a]? with
  | some (.inr (.inr (c, fs))) => c == ci && (match fs[j]? with | some (some _) => true | _ => false)
  | _ => false
def zrf (a j : Nat) : Nat := match zLay[a]? with
  | some (.inr (.inr (_, fs))) => (match fs[j]? with | some (some t) => t | _ => 0)
  | _ => 0
def zis (a ci : Nat) : Bool := match zLay[a]? with
  | some (.inr (.inr (c, _))) => c == ci
  | _ => false
def zty (a t : Nat) : Bool := match zLay[a]? with
  | some (.inl (t', _)) => t' == t
  | _ => false
def zln (a : Nat) : Nat := match zLay[a]? with
  | some (.inl (_, n)) => n
  | _ => 0
def ztr3 (a t : Nat) : Bool := match zLay[a]? with
  | some (.inr (.inl (t', _))) => t' == t
  | _ => false
def zrl (a : Nat) : Nat := match zLay[a]? with
  | some (.inr (.inl (_, ts))) => ts.length
  | _ => 0
def zel (a i : Nat) : Nat := match zLay[a]? with
  | some (.inr (.inl (_, ts))) => (match ts[i]? with | some t => t | none => 0)
  | _ => 0
def zin (i : Int32) (n : Nat) : Bool := !(decide (i < 0)) && decide (i.toNatClampNeg < n)
theorem zin_in {i : Int32} {n : Nat} (h : zin i n = true) : vp_in i n := by
  simp only [zin, Bool.and_eq_true, Bool.not_eq_true', decide_eq_false_iff_not, decide_eq_true_eq] at h
  intro q
  rcases q with q | q
  · exact h.1 q
  · omega
def zb01 (x : Int32) : Bool := x == 0 || x == 1
theorem zb01_nar {x : Int32} (h : zb01 x = true) : narrow .boolean (.int x) = .int x ∧ fits .boolean (.int x) = true ∧ vp_nar .boolean x = x := by
  simp only [zb01, Bool.or_eq_true, beq_iff_eq] at h
  rcases h with rfl | rfl <;> exact ⟨by decide +kernel, by decide +kernel, by decide +kernel⟩
theorem zfi_spec {a ci j : Nat} (h : zfi a ci j = true) : ∃ fs, zLay[a]? = some (.inr (.inr (ci, fs))) ∧ fs[j]? = some none := by
  unfold zfi at h
  split at h
  · rename_i c fs hy
    simp only [Bool.and_eq_true, beq_iff_eq] at h
    obtain ⟨rfl, h2⟩ := h
    refine ⟨fs, hy, ?_⟩
    split at h2
    · assumption
    · cases h2
  · cases h
theorem zfr_spec {a ci j : Nat} (h : zfr a ci j = true) : ∃ fs, zLay[a]? = some (.inr (.inr (ci, fs))) ∧ fs[j]? = some (some (zrf a j)) := by
  unfold zfr at h
  split at h
  · rename_i c fs hy
    simp only [Bool.and_eq_true, beq_iff_eq] at h
    obtain ⟨rfl, h2⟩ := h
    refine ⟨fs, hy, ?_⟩
    unfold zrf
    rw [hy]
    split at h2
    · rename_i t ht
      simp [ht]
    · cases h2
  · cases h
theorem zis_spec {a ci : Nat} (h : zis a ci = true) : ∃ fs, zLay[a]? = some (.inr (.inr (ci, fs))) := by
  unfold zis at h
  split at h
  · rename_i c fs hy
    simp only [beq_iff_eq] at h
    subst h
    exact ⟨fs, hy⟩
  · cases h
theorem zty_spec {a t : Nat} (h : zty a t = true) : zLay[a]? = some (.inl (t, zln a)) := by
  unfold zty at h
  split at h
  · rename_i t' n hy
    simp only [beq_iff_eq] at h
    subst h
    simp only [zln, hy]
  · cases h
theorem ztr3_spec {a t : Nat} (h : ztr3 a t = true) : ∃ ts, zLay[a]? = some (.inr (.inl (t, ts))) ∧ ts.length = zrl a ∧ ∀ i, i < zrl a → ts[i]? = some (zel a i) := by
  unfold ztr3 at h
  split at h
  · rename_i t' ts hy
    simp only [beq_iff_eq] at h
    subst h
    refine ⟨ts, hy, by simp only [zrl, hy], fun i hi => ?_⟩
    simp only [zrl, hy] at hi
    simp only [zel, hy]
    have := List.getElem?_eq_getElem hi
    rw [this]
  · cases h
def ztr (ad : Nat → Nat) (v : Value) : Value := match v with
  | .ref k => .ref (ad k)
  | w => w
theorem ztr_cat (ad : Nat → Nat) (v : Value) : (ztr ad v).category = v.category := by cases v <;> rfl
theorem ztr_sum (ad : Nat → Nat) (st : List Value) : ((st.map (ztr ad)).map fun v => v.category).sum = (st.map fun v => v.category).sum := by
  induction st with
  | nil => rfl
  | cons a t ih => simp only [List.map_cons, List.sum_cons, ih, ztr_cat]
/-- the locals by their places -/
def zLH (ad : Nat → Nat) (ls : Array Slot) (nL : Nat) (lo : ZL) : Prop := ls.size = nL ∧ lv_wf ls ∧ ∀ (i : Nat) (v : Value), lo[i]? = some (some v) → ls[i]? = some (.val (ztr ad v))
def zas (ad : Nat → Nat) (lo : ZL) : List (Nat × Value) := (List.range lo.length).filterMap (fun i => match lo[i]? with | some (some v) => some (i, ztr ad v) | _ => none)
theorem zas_mem {ad : Nat → Nat} {lo : ZL} {q : Nat × Value} : q ∈ zas ad lo ↔ ∃ v, lo[q.1]? = some (some v) ∧ q.2 = ztr ad v := by
  unfold zas
  rw [List.mem_filterMap]
  constructor
  · rintro ⟨i, hi, h⟩
    split at h
    · rename_i v hv
      cases h
      exact ⟨v, hv, rfl⟩
    · cases h
  · rintro ⟨v, hv, he⟩
    refine ⟨q.1, List.mem_range.mpr (List.getElem?_eq_some_iff.mp hv).1, ?_⟩
    rw [hv]
    simp only [← he]
theorem zLH_has {ad : Nat → Nat} {ls : Array Slot} {nL : Nat} {lo : ZL} (h : zLH ad ls nL lo) : lv_has ls nL (zas ad lo) :=
  ⟨h.1, h.2.1, fun q hq => by obtain ⟨v, hv, he⟩ := zas_mem.mp hq; rw [he]; exact h.2.2 q.1 v hv⟩
/-- a long ahead of the place is lost -/
def zkl (lo : ZL) (i : Nat) : ZL := match i with
  | 0 => lo
  | j + 1 => match lo[j]? with
    | some (some v) => if v.category = 2 then lo.set j none else lo
    | _ => lo
def zs1 (lo : ZL) (i : Nat) (v : Value) : ZL := (zkl lo i).set i (some v)
def zs2 (lo : ZL) (i : Nat) (v : Value) : ZL := ((zkl lo i).set i (some v)).set (i + 1) none
theorem zkl_get {lo : ZL} {i k : Nat} {v : Value} (h : (zkl lo i)[k]? = some (some v)) : lo[k]? = some (some v) ∧ ¬ (k + 1 = i ∧ v.category = 2) := by
  unfold zkl at h
  split at h
  · exact ⟨h, fun q => by omega⟩
  · rename_i j
    split at h
    · rename_i w hw
      split at h
      · rw [List.getElem?_set] at h
        split at h
        · split at h <;> cases h
        · exact ⟨h, fun q => by omega⟩
      · rename_i hc
        refine ⟨h, fun q => hc ?_⟩
        have : k = j := by omega
        subst this
        rw [hw] at h
        cases h
        exact q.2
    · rename_i hn
      refine ⟨h, fun q => ?_⟩
      have : k = j := by omega
      subst this
      exact hn v h
theorem zLH_s1 {ad : Nat → Nat} {ls' : Array Slot} {nL i : Nat} {lo : ZL} {v : Value}
    (h : lv_has ls' nL ((i, ztr ad v) :: (zas ad lo).filter (fun q => !(q.1 == i) && !(q.1 + 1 == i && q.2.category == 2)))) : zLH ad ls' nL (zs1 lo i v) := by
  refine ⟨h.1, h.2.1, fun k w hk => ?_⟩
  unfold zs1 at hk
  rw [List.getElem?_set] at hk
  split at hk
  · rename_i e
    subst e
    split at hk
    · cases hk
      exact h.2.2 _ List.mem_cons_self
    · cases hk
  · rename_i hne
    obtain ⟨h1, h2⟩ := zkl_get hk
    refine h.2.2 (k, ztr ad w) (List.mem_cons_of_mem _ (List.mem_filter.mpr ⟨zas_mem.mpr ⟨w, h1, rfl⟩, ?_⟩))
    simp only [ztr_cat, Bool.and_eq_true, Bool.not_eq_true', beq_eq_false_iff_ne, ne_eq, Bool.and_eq_false_imp, beq_iff_eq]
    refine ⟨fun e => hne e.symm, fun e c => ?_⟩
    exact h2 ⟨e, c⟩
theorem zLH_s2 {ad : Nat → Nat} {ls' : Array Slot} {nL i : Nat} {lo : ZL} {v : Value}
    (h : lv_has ls' nL ((i, ztr ad v) :: (zas ad lo).filter (fun q => !(q.1 == i) && (!(q.1 == i + 1) && !(q.1 + 1 == i && q.2.category == 2))))) : zLH ad ls' nL (zs2 lo i v) := by
  refine ⟨h.1, h.2.1, fun k w hk => ?_⟩
  unfold zs2 at hk
  rw [List.getElem?_set] at hk
  split at hk
  · split at hk <;> cases hk
  · rename_i hne1
    rw [List.getElem?_set] at hk
    split at hk
    · rename_i e
      subst e
      split at hk
      · cases hk
        exact h.2.2 _ List.mem_cons_self
      · cases hk
    · rename_i hne
      obtain ⟨h1, h2⟩ := zkl_get hk
      refine h.2.2 (k, ztr ad w) (List.mem_cons_of_mem _ (List.mem_filter.mpr ⟨zas_mem.mpr ⟨w, h1, rfl⟩, ?_⟩))
      simp only [ztr_cat, Bool.and_eq_true, Bool.not_eq_true', beq_eq_false_iff_ne, ne_eq, Bool.and_eq_false_imp, beq_iff_eq]
      refine ⟨fun e => hne e.symm, fun e => hne1 e.symm, fun e c => ?_⟩
      exact h2 ⟨e, c⟩
end
section
/-! The operations, and that each does what its instruction does -/
def zTys (dA : Nat → ClassId) : List (ClassId × FieldType) := [(dA 0, .int), (dA 1, .long), (dA 2, .boolean), (dA 3, .object "StampSheets$Row"), (dA 4, .object "StampSheets$Sheet")]
def zAd (ad : Nat → Nat) (A : Nat → Prop) : Prop := (∀ i j, i < 83 → j < 83 → ad i = ad j → i = j) ∧ ∀ i, i < 83 → A (ad i)
def zS1 (ad : Nat → Nat) (A : Nat → Prop) (U : State) (H : Heap) (k : Nat) (C n : String) (xs : List Int32) : Prop := va_Z C n "[I" (.ref (ad k)) A U H ∧ va_T .int (ad k) xs.length (fun j => .int (xs.getD j 0)) A U H
def zWITHOUT : List Int32 := [1431655765, 858993459, 252645135, 16711935, 65535]
def zABOVE : List Int32 := [0, 0, 1, 1, 0, 4]
def zSIZEB : List Int32 := [10, 11, 12, 0, 13, 14]
def zMARKB : List Int32 := [20, 21, 24, 22, 23, 0]
def zSt (ad : Nat → Nat) (A : Nat → Prop) (U : State) (H : Heap) : Prop := zS1 ad A U H 1001 "StampSheets$Finder" "WITHOUT" zWITHOUT ∧ zS1 ad A U H 1002 "StampSheets$Asks" "ABOVE" zABOVE ∧ zS1 ad A U H 1003 "StampSheets$Asks" "SIZE_BODIES" zSIZEB ∧ zS1 ad A U H 1004 "StampSheets$Asks" "MARK_BODIES" zMARKB
theorem zS1.moved {ad : Nat → Nat} {A : Nat → Prop} {u U : State} {H H1 : Heap} {k : Nat} {C n : String} {xs : List Int32} (h : zS1 ad A u H k C n xs) (hvm : u.vm.Alike U.vm) (hq : ∀ a : Nat, a < H.size → ¬ A a → H1[a]? = H[a]?) : zS1 ad A U H1 k C n xs := ⟨(h.1.moved hvm).kept hq, (h.2.moved hvm).kept hq⟩
theorem zSt.moved {ad : Nat → Nat} {A : Nat → Prop} {u U : State} {H H1 : Heap} (h : zSt ad A u H) (hvm : u.vm.Alike U.vm) (hq : ∀ a : Nat, a < H.size → ¬ A a → H1[a]? = H[a]?) : zSt ad A U H1 := ⟨h.1.moved hvm hq, h.2.1.moved hvm hq, h.2.2.1.moved hvm hq, h.2.2.2.moved hvm hq⟩
/-- what holds in a method's frame -/
def zCx (p : Program) (R : Room) (s : State) (m : MethodId) (args : Array Value) (c : Code) (cc : ByteArray) (own : String) (nL : Nat) (D : va_G) (dA : Nat → ClassId) (ad : Nat → Nat) (A : Nat → Prop) (d cells slots : Nat) : Prop :=
  p.tables.exec = Jvm.exec ∧ c.code = cc ∧ c.maxLocals = nL ∧ s.vm.findClass own = some m.cls ∧ (∀ w ∈ zTB, w.before args s = true) ∧ (∀ w ∈ zNL, va_Nw w s) ∧ va_K D vwCl (zTys dA) s ∧ zAd ad A ∧ zSt ad A s s.heap ∧ (d + 1 ≤ R.frames ∧ 64 * (d + 1) ≤ R.locals ∧ cells ≤ R.cells ∧ slots ≤ R.slots)
def zV (p : Program) (l : Launch) (e : Env) (R : Room) (s : State) (m : MethodId) (args : Array Value) (below : List Frame) (meth : Method) (c : Code) (nL : Nat) (D : va_G) (dA : Nat → ClassId) (ad : Nat → Nat) (A : Nat → Prop) (cells slots : Nat) (Q : State → Prop) (pc : Nat) (lo : ZL) (st : List Value) (M : ZM) : Prop :=
  ∀ (H : Heap) (locs : List Loc) (ls : Array Slot), va_P D vwCl (zwd dA ad M) H → va_S A s.heap H locs → zLH ad ls nL lo → lo.length = nL → W p l e R s m args below meth c H locs cells slots Q (F0 m pc ls (st.map (ztr ad)))
/-- how a method is left: 0 nothing, 1 an int, 2 a long, 3 a boolean -/
def zRT (rk : Nat) (v : Option Value) (cc : ByteArray) (pc : Nat) : Prop :=
  (rk = 0 ∧ v = none ∧ decode cc pc = .ok (.return_, 1)) ∨ (rk = 1 ∧ (∃ x, v = some (.int x)) ∧ decode cc pc = .ok (.ireturn, 1)) ∨ (rk = 2 ∧ (∃ x, v = some (.long x)) ∧ decode cc pc = .ok (.lreturn, 1)) ∨ (rk = 3 ∧ (∃ x, v = some (.int x) ∧ zb01 x = true) ∧ decode cc pc = .ok (.ireturn, 1))
def zRr (p : Program) (l : Launch) (e : Env) (R : Room) (s : State) (m : MethodId) (args : Array Value) (below : List Frame) (meth : Method) (c : Code) (D : va_G) (dA : Nat → ClassId) (ad : Nat → Nat) (A : Nat → Prop) (cells slots : Nat) (Q : State → Prop) (rk : Nat) (cc : ByteArray) (r : ZR) : Prop :=
  ∀ (pc : Nat) (H : Heap) (locs : List Loc) (ls : Array Slot), va_P D vwCl (zwd dA ad r.2) H → va_S A s.heap H locs → zRT rk r.1 cc pc → W p l e R s m args below meth c H locs cells slots Q (F0 m pc ls (r.1.toList.map (ztr ad)))
def zRep (D : va_G) (dA : Nat → ClassId) (ad : Nat → Nat) (A : Nat → Prop) (M : ZM) (U : State) : Prop := va_P D vwCl (zwd dA ad M) U.heap ∧ va_K D vwCl (zTys dA) U ∧ (∀ w ∈ zNL, va_Nw w U) ∧ zSt ad A U U.heap
def zrm (d : Nat) : Room := { frames := d, cells := 0, slots := 0, locals := 64 * d }
abbrev ZT : Type := MethodName × ByteArray × Nat × Option FieldType
def zws (q : ZT) : List Cond := .code q.1 q.2.1 q.2.2.1 q.2.2.2 :: zTB
def zPc (D : va_G) (dA : Nat → ClassId) (ad : Nat → Nat) (A : Nat → Prop) (as : List Value) (M : ZM) : Array Value → State → Prop := va_Pc (as.map (ztr ad)) (zRep D dA ad A M)
def zQi (D : va_G) (dA : Nat → ClassId) (ad : Nat → Nat) (A : Nat → Prop) (r : Int32) (M' : ZM) : Array Value → State → Outcome → State → Prop := va_Qi (fun x (_ : Unit) => x = r) (fun _ t => va_P D vwCl (zwd dA ad M') t.heap) A
def zQl (D : va_G) (dA : Nat → ClassId) (ad : Nat → Nat) (A : Nat → Prop) (r : Int64) (M' : ZM) : Array Value → State → Outcome → State → Prop := va_Ql (fun x (_ : Unit) => x = r) (fun _ t => va_P D vwCl (zwd dA ad M') t.heap) A
def zQv (D : va_G) (dA : Nat → ClassId) (ad : Nat → Nat) (A : Nat → Prop) (M' : ZM) : Array Value → State → Outcome → State → Prop := va_Qv (fun (_ : Unit) => True) (fun _ t => va_P D vwCl (zwd dA ad M') t.heap) A
/-- the callees: what the table of methods answers is what the machine does, in a room of depth d -/
def zES (mt : Nat → Option ZT) (l : Launch) (D : va_G) (dA : Nat → ClassId) (ad : Nat → Nat) (A : Nat → Prop) (d : Nat) (E : ZE) : Prop :=
  ∀ (y : Nat) (q : ZT), mt y = some q → ∀ (as : List Value) (M : ZM),
    (∀ r M', E.1 y as M = some (r, M') → Met l q.1 (zws q) (zrm d) (zPc D dA ad A as M) (zQi D dA ad A r M') 0 0 A) ∧
    (∀ r M', E.2.1 y as M = some (r, M') → Met l q.1 (zws q) (zrm d) (zPc D dA ad A as M) (zQl D dA ad A r M') 0 0 A) ∧
    (∀ M', E.2.2 y as M = some M' → Met l q.1 (zws q) (zrm d) (zPc D dA ad A as M) (zQv D dA ad A M') 0 0 A)
/-- an operation is right at a place of a code -/
def ZOK (mt : Nat → Option ZT) (cc : ByteArray) (own : String) (rk pc : Nat) (op : ZP) : Prop :=
  ∀ (p : Program) (l : Launch) (e : Env) (R : Room) (s : State) (m : MethodId) (args : Array Value) (below : List Frame) (meth : Method) (c : Code) (nL : Nat) (D : va_G) (dA : Nat → ClassId) (ad : Nat → Nat) (A : Nat → Prop) (cells slots : Nat) (Q : State → Prop) (d : Nat) (E : ZE),
    zCx p R s m args c cc own nL D dA ad A d cells slots → zES mt l D dA ad A d E → ∀ (k : ZK) (lo : ZL) (st : List Value) (M : ZM) (o : ZO), op E k lo st M = some o →
    (∀ pc' lo' st' M', k pc' lo' st' M' = some o → zV p l e R s m args below meth c nL D dA ad A cells slots Q pc' lo' st' M') → (∀ r, o = .inl r → zRr p l e R s m args below meth c D dA ad A cells slots Q rk cc r) →
    zV p l e R s m args below meth c nL D dA ad A cells slots Q pc lo st M
theorem zkl_len (lo : ZL) (i : Nat) : (zkl lo i).length = lo.length := by
  unfold zkl
  split
  · rfl
  · split
    · split
      · rw [List.length_set]
      · rfl
    · rfl
theorem zs1_len (lo : ZL) (i : Nat) (v : Value) : (zs1 lo i v).length = lo.length := by rw [zs1, List.length_set, zkl_len]
theorem zs2_len (lo : ZL) (i : Nat) (v : Value) : (zs2 lo i v).length = lo.length := by rw [zs2, List.length_set, List.length_set, zkl_len]
section ZD
variable {ad : Nat → Nat} {A : Nat → Prop} {dA : Nat → ClassId} {D : va_G}
theorem zD (h : zAd ad A) (M : ZM) : va_D A (zwd dA ad M) := by
  have key : ∀ (k : Nat) (q : Nat × va_E), (zwd dA ad M)[k]? = some q → k < 83 ∧ q.1 = ad k := by
    intro k q hk
    simp only [zwd, List.getElem?_mapIdx] at hk
    cases hy : zLay[k]? with
    | none => rw [hy] at hk; cases hk
    | some y =>
      rw [hy] at hk
      cases hk
      exact ⟨(List.getElem?_eq_some_iff.mp hy).1, rfl⟩
  refine ⟨fun i j p q hi hj he => ?_, fun k q hk => ?_⟩
  · obtain ⟨h1, h2⟩ := key i p hi
    obtain ⟨h3, h4⟩ := key j q hj
    exact h.1 i j h1 h3 (by rw [← h2, ← h4, he])
  · obtain ⟨h1, h2⟩ := key k q hk
    rw [h2]
    exact h.2 k h1
end ZD

def zo_i (v : Int32) (n : Nat) : ZP := fun E k lo st M => k n lo (.int v :: st) M
def zo_l (v : Int64) (n : Nat) : ZP := fun E k lo st M => k n lo (.long v :: st) M
theorem zk_iconst {mt : Nat → Option ZT} {cc : ByteArray} {own : String} {rk pc : Nat} {z : Int} {v : Int32} (hv : Int32.ofInt z = v) (hd : decode cc pc = .ok (.iconst z, 1)) : ZOK mt cc own rk pc (zo_i v (pc + 1)) := by
  intro p l e R s m args below meth c nL D dA ad A cells slots Q d E hC hE k lo st M o ho hk hr H locs ls hP hS hL hlen
  obtain ⟨hx, hb, hml, hown, hts, hnl, hK, hAd, hSt, hR⟩ := hC
  exact lv_iconst hx hb hd hv (hk _ _ _ _ ho H locs ls hP hS hL hlen)
theorem zk_bipush {mt : Nat → Option ZT} {cc : ByteArray} {own : String} {rk pc : Nat} {z : Int} {v : Int32} (hv : (Int8.ofInt z).toInt32 = v) (hd : decode cc pc = .ok (.bipush z, 2)) : ZOK mt cc own rk pc (zo_i v (pc + 2)) := by
  intro p l e R s m args below meth c nL D dA ad A cells slots Q d E hC hE k lo st M o ho hk hr H locs ls hP hS hL hlen
  obtain ⟨hx, hb, hml, hown, hts, hnl, hK, hAd, hSt, hR⟩ := hC
  exact lv_bipush hx hb hd hv (hk _ _ _ _ ho H locs ls hP hS hL hlen)
theorem zk_sipush {mt : Nat → Option ZT} {cc : ByteArray} {own : String} {rk pc : Nat} {z : Int} {v : Int32} (hv : (Int16.ofInt z).toInt32 = v) (hd : decode cc pc = .ok (.sipush z, 3)) : ZOK mt cc own rk pc (zo_i v (pc + 3)) := by
  intro p l e R s m args below meth c nL D dA ad A cells slots Q d E hC hE k lo st M o ho hk hr H locs ls hP hS hL hlen
  obtain ⟨hx, hb, hml, hown, hts, hnl, hK, hAd, hSt, hR⟩ := hC
  exact lv_sipush hx hb hd hv (hk _ _ _ _ ho H locs ls hP hS hL hlen)
theorem zk_lconst {mt : Nat → Option ZT} {cc : ByteArray} {own : String} {rk pc : Nat} {z : Fin 2} {v : Int64} (hv : Int64.ofNat (z : Nat) = v) (hd : decode cc pc = .ok (.lconst z, 1)) : ZOK mt cc own rk pc (zo_l v (pc + 1)) := by
  intro p l e R s m args below meth c nL D dA ad A cells slots Q d E hC hE k lo st M o ho hk hr H locs ls hP hS hL hlen
  obtain ⟨hx, hb, hml, hown, hts, hnl, hK, hAd, hSt, hR⟩ := hC
  exact lv_lconst hx hb hd hv (hk _ _ _ _ ho H locs ls hP hS hL hlen)
theorem zk_ldc {mt : Nat → Option ZT} {cc : ByteArray} {own : String} {rk pc : Nat} {i : Nat} {v : Int32} (hm : Cond.constant own i v ∈ zTB) (hd : decode cc pc = .ok (.ldc i, 2)) : ZOK mt cc own rk pc (zo_i v (pc + 2)) := by
  intro p l e R s m args below meth c nL D dA ad A cells slots Q d E hC hE k lo st M o ho hk hr H locs ls hP hS hL hlen
  obtain ⟨hx, hb, hml, hown, hts, hnl, hK, hAd, hSt, hR⟩ := hC
  exact lv_ldc hx hb hown (hts _ hm) hd (hk _ _ _ _ ho H locs ls hP hS hL hlen)
theorem zk_ldcw {mt : Nat → Option ZT} {cc : ByteArray} {own : String} {rk pc : Nat} {i : Nat} {v : Int32} (hm : Cond.constant own i v ∈ zTB) (hd : decode cc pc = .ok (.ldc_w i, 3)) : ZOK mt cc own rk pc (zo_i v (pc + 3)) := by
  intro p l e R s m args below meth c nL D dA ad A cells slots Q d E hC hE k lo st M o ho hk hr H locs ls hP hS hL hlen
  obtain ⟨hx, hb, hml, hown, hts, hnl, hK, hAd, hSt, hR⟩ := hC
  exact lv_ldcw hx hb hown (hts _ hm) hd (hk _ _ _ _ ho H locs ls hP hS hL hlen)
theorem zk_ldc2 {mt : Nat → Option ZT} {cc : ByteArray} {own : String} {rk pc : Nat} {i : Nat} {v : Int64} (hm : Cond.constantLong own i v ∈ zTB) (hd : decode cc pc = .ok (.ldc2_w i, 3)) : ZOK mt cc own rk pc (zo_l v (pc + 3)) := by
  intro p l e R s m args below meth c nL D dA ad A cells slots Q d E hC hE k lo st M o ho hk hr H locs ls hP hS hL hlen
  obtain ⟨hx, hb, hml, hown, hts, hnl, hK, hAd, hSt, hR⟩ := hC
  exact lv_ldc2 hx hb hown (hts _ hm) hd (hk _ _ _ _ ho H locs ls hP hS hL hlen)
def zo_il (i n : Nat) : ZP := fun E k lo st M => match lo[i]? with | some (some (.int x)) => k n lo (.int x :: st) M | _ => none
theorem zk_iload {mt : Nat → Option ZT} {cc : ByteArray} {own : String} {rk pc : Nat} {i : Nat} (hd : decode cc pc = .ok (.iload i, 2)) : ZOK mt cc own rk pc (zo_il i (pc + 2)) := by
  intro p l e R s m args below meth c nL D dA ad A cells slots Q d E hC hE k lo st M o ho hk hr H locs ls hP hS hL hlen
  obtain ⟨hx, hb, hml, hown, hts, hnl, hK, hAd, hSt, hR⟩ := hC
  unfold zo_il at ho
  split at ho
  · rename_i x hi
    exact lv_iload hx hb hd (hL.2.2 _ _ hi) (hk _ _ _ _ ho H locs ls hP hS hL hlen)
  · cases ho
theorem zk_iload_n {mt : Nat → Option ZT} {cc : ByteArray} {own : String} {rk pc : Nat} {j : Fin 4} {i : Nat} (hi : (j : Nat) = i) (hd : decode cc pc = .ok (.iload_n j, 1)) : ZOK mt cc own rk pc (zo_il i (pc + 1)) := by
  intro p l e R s m args below meth c nL D dA ad A cells slots Q d E hC hE k lo st M o ho hk hr H locs ls hP hS hL hlen
  obtain ⟨hx, hb, hml, hown, hts, hnl, hK, hAd, hSt, hR⟩ := hC
  unfold zo_il at ho
  split at ho
  · rename_i x hi2
    exact lv_iload_n hx hb hd hi (hL.2.2 _ _ hi2) (hk _ _ _ _ ho H locs ls hP hS hL hlen)
  · cases ho
def zo_ll (i n : Nat) : ZP := fun E k lo st M => match lo[i]? with | some (some (.long x)) => k n lo (.long x :: st) M | _ => none
theorem zk_lload {mt : Nat → Option ZT} {cc : ByteArray} {own : String} {rk pc : Nat} {i : Nat} (hd : decode cc pc = .ok (.lload i, 2)) : ZOK mt cc own rk pc (zo_ll i (pc + 2)) := by
  intro p l e R s m args below meth c nL D dA ad A cells slots Q d E hC hE k lo st M o ho hk hr H locs ls hP hS hL hlen
  obtain ⟨hx, hb, hml, hown, hts, hnl, hK, hAd, hSt, hR⟩ := hC
  unfold zo_ll at ho
  split at ho
  · rename_i x hi
    exact lv_lload hx hb hd (hL.2.2 _ _ hi) (hk _ _ _ _ ho H locs ls hP hS hL hlen)
  · cases ho
theorem zk_lload_n {mt : Nat → Option ZT} {cc : ByteArray} {own : String} {rk pc : Nat} {j : Fin 4} {i : Nat} (hi : (j : Nat) = i) (hd : decode cc pc = .ok (.lload_n j, 1)) : ZOK mt cc own rk pc (zo_ll i (pc + 1)) := by
  intro p l e R s m args below meth c nL D dA ad A cells slots Q d E hC hE k lo st M o ho hk hr H locs ls hP hS hL hlen
  obtain ⟨hx, hb, hml, hown, hts, hnl, hK, hAd, hSt, hR⟩ := hC
  unfold zo_ll at ho
  split at ho
  · rename_i x hi2
    exact lv_lload_n hx hb hd hi (hL.2.2 _ _ hi2) (hk _ _ _ _ ho H locs ls hP hS hL hlen)
  · cases ho
def zo_al (i n : Nat) : ZP := fun E k lo st M => match lo[i]? with | some (some (.ref x)) => k n lo (.ref x :: st) M | _ => none
theorem zk_aload {mt : Nat → Option ZT} {cc : ByteArray} {own : String} {rk pc : Nat} {i : Nat} (hd : decode cc pc = .ok (.aload i, 2)) : ZOK mt cc own rk pc (zo_al i (pc + 2)) := by
  intro p l e R s m args below meth c nL D dA ad A cells slots Q d E hC hE k lo st M o ho hk hr H locs ls hP hS hL hlen
  obtain ⟨hx, hb, hml, hown, hts, hnl, hK, hAd, hSt, hR⟩ := hC
  unfold zo_al at ho
  split at ho
  · rename_i x hi
    exact lv_aload hx hb hd (hL.2.2 _ _ hi) (hk _ _ _ _ ho H locs ls hP hS hL hlen)
  · cases ho
theorem zk_aload_n {mt : Nat → Option ZT} {cc : ByteArray} {own : String} {rk pc : Nat} {j : Fin 4} {i : Nat} (hi : (j : Nat) = i) (hd : decode cc pc = .ok (.aload_n j, 1)) : ZOK mt cc own rk pc (zo_al i (pc + 1)) := by
  intro p l e R s m args below meth c nL D dA ad A cells slots Q d E hC hE k lo st M o ho hk hr H locs ls hP hS hL hlen
  obtain ⟨hx, hb, hml, hown, hts, hnl, hK, hAd, hSt, hR⟩ := hC
  unfold zo_al at ho
  split at ho
  · rename_i x hi2
    exact lv_aload_n hx hb hd hi (hL.2.2 _ _ hi2) (hk _ _ _ _ ho H locs ls hP hS hL hlen)
  · cases ho
def zo_is (i n : Nat) : ZP := fun E k lo st M => match st with | .int x :: r => zck (decide (i < lo.length)) (k n (zs1 lo i (.int x)) r M) | _ => none
theorem zk_istore {mt : Nat → Option ZT} {cc : ByteArray} {own : String} {rk pc : Nat} {i : Nat} (hd : decode cc pc = .ok (.istore i, 2)) : ZOK mt cc own rk pc (zo_is i (pc + 2)) := by
  intro p l e R s m args below meth c nL D dA ad A cells slots Q d E hC hE k lo st M o ho hk hr H locs ls hP hS hL hlen
  obtain ⟨hx, hb, hml, hown, hts, hnl, hK, hAd, hSt, hR⟩ := hC
  unfold zo_is at ho
  split at ho
  · rename_i x r
    obtain ⟨hi1, ho⟩ := zck_some ho
    have hi2 := of_decide_eq_true hi1
    rw [hlen] at hi2
    exact lv_istore hx hb hd (zLH_has hL) hi2 rfl (fun ls' h' => hk _ _ _ _ ho H locs ls' hP hS (zLH_s1 h') (by rw [zs1_len]; exact hlen))
  · cases ho
theorem zk_istore_n {mt : Nat → Option ZT} {cc : ByteArray} {own : String} {rk pc : Nat} {j : Fin 4} {i : Nat} (hi : (j : Nat) = i) (hd : decode cc pc = .ok (.istore_n j, 1)) : ZOK mt cc own rk pc (zo_is i (pc + 1)) := by
  intro p l e R s m args below meth c nL D dA ad A cells slots Q d E hC hE k lo st M o ho hk hr H locs ls hP hS hL hlen
  obtain ⟨hx, hb, hml, hown, hts, hnl, hK, hAd, hSt, hR⟩ := hC
  unfold zo_is at ho
  split at ho
  · rename_i x r
    obtain ⟨hi1, ho⟩ := zck_some ho
    have hi2 := of_decide_eq_true hi1
    rw [hlen] at hi2
    exact lv_istore_n hx hb hd hi (zLH_has hL) hi2 rfl (fun ls' h' => hk _ _ _ _ ho H locs ls' hP hS (zLH_s1 h') (by rw [zs1_len]; exact hlen))
  · cases ho
def zo_ls (i n : Nat) : ZP := fun E k lo st M => match st with | .long x :: r => zck (decide (i + 1 < lo.length)) (k n (zs2 lo i (.long x)) r M) | _ => none
theorem zk_lstore {mt : Nat → Option ZT} {cc : ByteArray} {own : String} {rk pc : Nat} {i : Nat} (hd : decode cc pc = .ok (.lstore i, 2)) : ZOK mt cc own rk pc (zo_ls i (pc + 2)) := by
  intro p l e R s m args below meth c nL D dA ad A cells slots Q d E hC hE k lo st M o ho hk hr H locs ls hP hS hL hlen
  obtain ⟨hx, hb, hml, hown, hts, hnl, hK, hAd, hSt, hR⟩ := hC
  unfold zo_ls at ho
  split at ho
  · rename_i x r
    obtain ⟨hi1, ho⟩ := zck_some ho
    have hi2 := of_decide_eq_true hi1
    rw [hlen] at hi2
    exact lv_lstore hx hb hd (zLH_has hL) hi2 rfl (fun ls' h' => hk _ _ _ _ ho H locs ls' hP hS (zLH_s2 h') (by rw [zs2_len]; exact hlen))
  · cases ho
theorem zk_lstore_n {mt : Nat → Option ZT} {cc : ByteArray} {own : String} {rk pc : Nat} {j : Fin 4} {i : Nat} (hi : (j : Nat) = i) (hd : decode cc pc = .ok (.lstore_n j, 1)) : ZOK mt cc own rk pc (zo_ls i (pc + 1)) := by
  intro p l e R s m args below meth c nL D dA ad A cells slots Q d E hC hE k lo st M o ho hk hr H locs ls hP hS hL hlen
  obtain ⟨hx, hb, hml, hown, hts, hnl, hK, hAd, hSt, hR⟩ := hC
  unfold zo_ls at ho
  split at ho
  · rename_i x r
    obtain ⟨hi1, ho⟩ := zck_some ho
    have hi2 := of_decide_eq_true hi1
    rw [hlen] at hi2
    exact lv_lstore_n hx hb hd hi (zLH_has hL) hi2 rfl (fun ls' h' => hk _ _ _ _ ho H locs ls' hP hS (zLH_s2 h') (by rw [zs2_len]; exact hlen))
  · cases ho
def zo_as (i n : Nat) : ZP := fun E k lo st M => match st with | .ref x :: r => zck (decide (i < lo.length)) (k n (zs1 lo i (.ref x)) r M) | _ => none
theorem zk_astore {mt : Nat → Option ZT} {cc : ByteArray} {own : String} {rk pc : Nat} {i : Nat} (hd : decode cc pc = .ok (.astore i, 2)) : ZOK mt cc own rk pc (zo_as i (pc + 2)) := by
  intro p l e R s m args below meth c nL D dA ad A cells slots Q d E hC hE k lo st M o ho hk hr H locs ls hP hS hL hlen
  obtain ⟨hx, hb, hml, hown, hts, hnl, hK, hAd, hSt, hR⟩ := hC
  unfold zo_as at ho
  split at ho
  · rename_i x r
    obtain ⟨hi1, ho⟩ := zck_some ho
    have hi2 := of_decide_eq_true hi1
    rw [hlen] at hi2
    exact lv_astore hx hb hd (zLH_has hL) hi2 rfl (fun ls' h' => hk _ _ _ _ ho H locs ls' hP hS (zLH_s1 h') (by rw [zs1_len]; exact hlen))
  · cases ho
theorem zk_astore_n {mt : Nat → Option ZT} {cc : ByteArray} {own : String} {rk pc : Nat} {j : Fin 4} {i : Nat} (hi : (j : Nat) = i) (hd : decode cc pc = .ok (.astore_n j, 1)) : ZOK mt cc own rk pc (zo_as i (pc + 1)) := by
  intro p l e R s m args below meth c nL D dA ad A cells slots Q d E hC hE k lo st M o ho hk hr H locs ls hP hS hL hlen
  obtain ⟨hx, hb, hml, hown, hts, hnl, hK, hAd, hSt, hR⟩ := hC
  unfold zo_as at ho
  split at ho
  · rename_i x r
    obtain ⟨hi1, ho⟩ := zck_some ho
    have hi2 := of_decide_eq_true hi1
    rw [hlen] at hi2
    exact lv_astore_n hx hb hd hi (zLH_has hL) hi2 rfl (fun ls' h' => hk _ _ _ _ ho H locs ls' hP hS (zLH_s1 h') (by rw [zs1_len]; exact hlen))
  · cases ho
def zo_inc (i : Nat) (v : Int32) (n : Nat) : ZP := fun E k lo st M => match lo[i]? with | some (some (.int x)) => k n (zs1 lo i (.int (x + v))) st M | _ => none
theorem zas_place {ad : Nat → Nat} {lo : ZL} {i : Nat} {v : Value} (h : lo[i]? = some (some v)) : ∃ k : Nat, (zas ad lo)[k]? = some (i, ztr ad v) := List.mem_iff_getElem?.mp (zas_mem.mpr ⟨v, h, rfl⟩)
theorem zk_iinc {mt : Nat → Option ZT} {cc : ByteArray} {own : String} {rk pc : Nat} {i : Nat} {z : Int} {v : Int32} (hv : Int32.ofInt z = v) (hd : decode cc pc = .ok (.iinc i z, 3)) : ZOK mt cc own rk pc (zo_inc i v (pc + 3)) := by
  intro p l e R s m args below meth c nL D dA ad A cells slots Q d E hC hE k lo st M o ho hk hr H locs ls hP hS hL hlen
  obtain ⟨hx, hb, hml, hown, hts, hnl, hK, hAd, hSt, hR⟩ := hC
  unfold zo_inc at ho
  split at ho
  · rename_i x hi
    obtain ⟨kk, hkk⟩ := zas_place (ad := ad) hi
    have hlt := (List.getElem?_eq_some_iff.mp hi).1
    rw [hlen] at hlt
    exact lv_iinc (v := x + v) hx hb hd (zLH_has hL) hkk (by rw [hv]) hlt rfl (fun ls' h' => hk _ _ _ _ ho H locs ls' hP hS (zLH_s1 h') (by rw [zs1_len]; exact hlen))
  · cases ho
def zo_bin (f : Int32 → Int32 → Int32) (n : Nat) : ZP := fun E k lo st M => match st with | .int y :: .int x :: r => k n lo (.int (f x y) :: r) M | _ => none
def zshl (x y : Int32) : Int32 := x <<< (y &&& 31)
def zshr (x y : Int32) : Int32 := x >>> (y &&& 31)
def zushr (x y : Int32) : Int32 := (x.toUInt32 >>> (y.toUInt32 &&& Int32.toUInt32 31)).toInt32
def zrem (x y : Int32) : Int32 := x - x / y * y
def zlrem (x y : Int64) : Int64 := x - x / y * y
def zlshl (x : Int64) (y : Int32) : Int64 := x <<< (y.toInt64 &&& 63)
def zlshr (x : Int64) (y : Int32) : Int64 := x >>> (y.toInt64 &&& 63)
theorem zk_iadd {mt : Nat → Option ZT} {cc : ByteArray} {own : String} {rk pc : Nat} (hd : decode cc pc = .ok (.iadd, 1)) : ZOK mt cc own rk pc (zo_bin (· + ·) (pc + 1)) := by
  intro p l e R s m args below meth c nL D dA ad A cells slots Q d E hC hE k lo st M o ho hk hr H locs ls hP hS hL hlen
  obtain ⟨hx, hb, hml, hown, hts, hnl, hK, hAd, hSt, hR⟩ := hC
  unfold zo_bin at ho
  split at ho
  · exact lv_iadd hx hb hd (hk _ _ _ _ ho H locs ls hP hS hL hlen)
  · cases ho
theorem zk_isub {mt : Nat → Option ZT} {cc : ByteArray} {own : String} {rk pc : Nat} (hd : decode cc pc = .ok (.isub, 1)) : ZOK mt cc own rk pc (zo_bin (· - ·) (pc + 1)) := by
  intro p l e R s m args below meth c nL D dA ad A cells slots Q d E hC hE k lo st M o ho hk hr H locs ls hP hS hL hlen
  obtain ⟨hx, hb, hml, hown, hts, hnl, hK, hAd, hSt, hR⟩ := hC
  unfold zo_bin at ho
  split at ho
  · exact lv_isub hx hb hd (hk _ _ _ _ ho H locs ls hP hS hL hlen)
  · cases ho
theorem zk_imul {mt : Nat → Option ZT} {cc : ByteArray} {own : String} {rk pc : Nat} (hd : decode cc pc = .ok (.imul, 1)) : ZOK mt cc own rk pc (zo_bin (· * ·) (pc + 1)) := by
  intro p l e R s m args below meth c nL D dA ad A cells slots Q d E hC hE k lo st M o ho hk hr H locs ls hP hS hL hlen
  obtain ⟨hx, hb, hml, hown, hts, hnl, hK, hAd, hSt, hR⟩ := hC
  unfold zo_bin at ho
  split at ho
  · exact lv_imul hx hb hd (hk _ _ _ _ ho H locs ls hP hS hL hlen)
  · cases ho
theorem zk_iand {mt : Nat → Option ZT} {cc : ByteArray} {own : String} {rk pc : Nat} (hd : decode cc pc = .ok (.iand, 1)) : ZOK mt cc own rk pc (zo_bin (· &&& ·) (pc + 1)) := by
  intro p l e R s m args below meth c nL D dA ad A cells slots Q d E hC hE k lo st M o ho hk hr H locs ls hP hS hL hlen
  obtain ⟨hx, hb, hml, hown, hts, hnl, hK, hAd, hSt, hR⟩ := hC
  unfold zo_bin at ho
  split at ho
  · exact lv_iand hx hb hd (hk _ _ _ _ ho H locs ls hP hS hL hlen)
  · cases ho
theorem zk_ior {mt : Nat → Option ZT} {cc : ByteArray} {own : String} {rk pc : Nat} (hd : decode cc pc = .ok (.ior, 1)) : ZOK mt cc own rk pc (zo_bin (· ||| ·) (pc + 1)) := by
  intro p l e R s m args below meth c nL D dA ad A cells slots Q d E hC hE k lo st M o ho hk hr H locs ls hP hS hL hlen
  obtain ⟨hx, hb, hml, hown, hts, hnl, hK, hAd, hSt, hR⟩ := hC
  unfold zo_bin at ho
  split at ho
  · exact lv_ior hx hb hd (hk _ _ _ _ ho H locs ls hP hS hL hlen)
  · cases ho
theorem zk_ixor {mt : Nat → Option ZT} {cc : ByteArray} {own : String} {rk pc : Nat} (hd : decode cc pc = .ok (.ixor, 1)) : ZOK mt cc own rk pc (zo_bin (· ^^^ ·) (pc + 1)) := by
  intro p l e R s m args below meth c nL D dA ad A cells slots Q d E hC hE k lo st M o ho hk hr H locs ls hP hS hL hlen
  obtain ⟨hx, hb, hml, hown, hts, hnl, hK, hAd, hSt, hR⟩ := hC
  unfold zo_bin at ho
  split at ho
  · exact lv_ixor hx hb hd (hk _ _ _ _ ho H locs ls hP hS hL hlen)
  · cases ho
theorem zk_ishl {mt : Nat → Option ZT} {cc : ByteArray} {own : String} {rk pc : Nat} (hd : decode cc pc = .ok (.ishl, 1)) : ZOK mt cc own rk pc (zo_bin zshl (pc + 1)) := by
  intro p l e R s m args below meth c nL D dA ad A cells slots Q d E hC hE k lo st M o ho hk hr H locs ls hP hS hL hlen
  obtain ⟨hx, hb, hml, hown, hts, hnl, hK, hAd, hSt, hR⟩ := hC
  unfold zo_bin at ho
  split at ho
  · exact lv_ishl hx hb hd (hk _ _ _ _ ho H locs ls hP hS hL hlen)
  · cases ho
theorem zk_ishr {mt : Nat → Option ZT} {cc : ByteArray} {own : String} {rk pc : Nat} (hd : decode cc pc = .ok (.ishr, 1)) : ZOK mt cc own rk pc (zo_bin zshr (pc + 1)) := by
  intro p l e R s m args below meth c nL D dA ad A cells slots Q d E hC hE k lo st M o ho hk hr H locs ls hP hS hL hlen
  obtain ⟨hx, hb, hml, hown, hts, hnl, hK, hAd, hSt, hR⟩ := hC
  unfold zo_bin at ho
  split at ho
  · exact lv_ishr hx hb hd (hk _ _ _ _ ho H locs ls hP hS hL hlen)
  · cases ho
theorem zk_iushr {mt : Nat → Option ZT} {cc : ByteArray} {own : String} {rk pc : Nat} (hd : decode cc pc = .ok (.iushr, 1)) : ZOK mt cc own rk pc (zo_bin zushr (pc + 1)) := by
  intro p l e R s m args below meth c nL D dA ad A cells slots Q d E hC hE k lo st M o ho hk hr H locs ls hP hS hL hlen
  obtain ⟨hx, hb, hml, hown, hts, hnl, hK, hAd, hSt, hR⟩ := hC
  unfold zo_bin at ho
  split at ho
  · exact lv_iushr hx hb hd rfl (hk _ _ _ _ ho H locs ls hP hS hL hlen)
  · cases ho
def zo_dv (f : Int32 → Int32 → Int32) (n : Nat) : ZP := fun E k lo st M => match st with | .int y :: .int x :: r => zck (!(decide (y = 0))) (k n lo (.int (f x y) :: r) M) | _ => none
theorem zk_idiv {mt : Nat → Option ZT} {cc : ByteArray} {own : String} {rk pc : Nat} (hd : decode cc pc = .ok (.idiv, 1)) : ZOK mt cc own rk pc (zo_dv (· / ·) (pc + 1)) := by
  intro p l e R s m args below meth c nL D dA ad A cells slots Q d E hC hE k lo st M o ho hk hr H locs ls hP hS hL hlen
  obtain ⟨hx, hb, hml, hown, hts, hnl, hK, hAd, hSt, hR⟩ := hC
  unfold zo_dv at ho
  split at ho
  · obtain ⟨h1, ho⟩ := zck_some ho
    exact lv_idiv hx hb hd (by simpa using h1) (hk _ _ _ _ ho H locs ls hP hS hL hlen)
  · cases ho
theorem zk_irem {mt : Nat → Option ZT} {cc : ByteArray} {own : String} {rk pc : Nat} (hd : decode cc pc = .ok (.irem, 1)) : ZOK mt cc own rk pc (zo_dv zrem (pc + 1)) := by
  intro p l e R s m args below meth c nL D dA ad A cells slots Q d E hC hE k lo st M o ho hk hr H locs ls hP hS hL hlen
  obtain ⟨hx, hb, hml, hown, hts, hnl, hK, hAd, hSt, hR⟩ := hC
  unfold zo_dv at ho
  split at ho
  · obtain ⟨h1, ho⟩ := zck_some ho
    exact lv_irem hx hb hd (by simpa using h1) (hk _ _ _ _ ho H locs ls hP hS hL hlen)
  · cases ho
def zo_un (f : Int32 → Int32) (n : Nat) : ZP := fun E k lo st M => match st with | .int x :: r => k n lo (.int (f x) :: r) M | _ => none
theorem zk_ineg {mt : Nat → Option ZT} {cc : ByteArray} {own : String} {rk pc : Nat} (hd : decode cc pc = .ok (.ineg, 1)) : ZOK mt cc own rk pc (zo_un (fun x => -x) (pc + 1)) := by
  intro p l e R s m args below meth c nL D dA ad A cells slots Q d E hC hE k lo st M o ho hk hr H locs ls hP hS hL hlen
  obtain ⟨hx, hb, hml, hown, hts, hnl, hK, hAd, hSt, hR⟩ := hC
  unfold zo_un at ho
  split at ho
  · exact lv_ineg hx hb hd (hk _ _ _ _ ho H locs ls hP hS hL hlen)
  · cases ho
theorem zk_i2b {mt : Nat → Option ZT} {cc : ByteArray} {own : String} {rk pc : Nat} (hd : decode cc pc = .ok (.i2b, 1)) : ZOK mt cc own rk pc (zo_un (fun x => x.toInt8.toInt32) (pc + 1)) := by
  intro p l e R s m args below meth c nL D dA ad A cells slots Q d E hC hE k lo st M o ho hk hr H locs ls hP hS hL hlen
  obtain ⟨hx, hb, hml, hown, hts, hnl, hK, hAd, hSt, hR⟩ := hC
  unfold zo_un at ho
  split at ho
  · exact lv_i2b hx hb hd rfl (hk _ _ _ _ ho H locs ls hP hS hL hlen)
  · cases ho
theorem zk_i2s {mt : Nat → Option ZT} {cc : ByteArray} {own : String} {rk pc : Nat} (hd : decode cc pc = .ok (.i2s, 1)) : ZOK mt cc own rk pc (zo_un (fun x => x.toInt16.toInt32) (pc + 1)) := by
  intro p l e R s m args below meth c nL D dA ad A cells slots Q d E hC hE k lo st M o ho hk hr H locs ls hP hS hL hlen
  obtain ⟨hx, hb, hml, hown, hts, hnl, hK, hAd, hSt, hR⟩ := hC
  unfold zo_un at ho
  split at ho
  · exact lv_i2s hx hb hd rfl (hk _ _ _ _ ho H locs ls hP hS hL hlen)
  · cases ho
def zo_i2l (n : Nat) : ZP := fun E k lo st M => match st with | .int x :: r => k n lo (.long x.toInt64 :: r) M | _ => none
def zo_l2i (n : Nat) : ZP := fun E k lo st M => match st with | .long x :: r => k n lo (.int x.toInt32 :: r) M | _ => none
theorem zk_i2l {mt : Nat → Option ZT} {cc : ByteArray} {own : String} {rk pc : Nat} (hd : decode cc pc = .ok (.i2l, 1)) : ZOK mt cc own rk pc (zo_i2l (pc + 1)) := by
  intro p l e R s m args below meth c nL D dA ad A cells slots Q d E hC hE k lo st M o ho hk hr H locs ls hP hS hL hlen
  obtain ⟨hx, hb, hml, hown, hts, hnl, hK, hAd, hSt, hR⟩ := hC
  unfold zo_i2l at ho
  split at ho
  · exact lv_i2l hx hb hd rfl (hk _ _ _ _ ho H locs ls hP hS hL hlen)
  · cases ho
theorem zk_l2i {mt : Nat → Option ZT} {cc : ByteArray} {own : String} {rk pc : Nat} (hd : decode cc pc = .ok (.l2i, 1)) : ZOK mt cc own rk pc (zo_l2i (pc + 1)) := by
  intro p l e R s m args below meth c nL D dA ad A cells slots Q d E hC hE k lo st M o ho hk hr H locs ls hP hS hL hlen
  obtain ⟨hx, hb, hml, hown, hts, hnl, hK, hAd, hSt, hR⟩ := hC
  unfold zo_l2i at ho
  split at ho
  · exact lv_l2i hx hb hd rfl (hk _ _ _ _ ho H locs ls hP hS hL hlen)
  · cases ho
def zo_lbin (f : Int64 → Int64 → Int64) (n : Nat) : ZP := fun E k lo st M => match st with | .long y :: .long x :: r => k n lo (.long (f x y) :: r) M | _ => none
theorem zk_ladd {mt : Nat → Option ZT} {cc : ByteArray} {own : String} {rk pc : Nat} (hd : decode cc pc = .ok (.ladd, 1)) : ZOK mt cc own rk pc (zo_lbin (· + ·) (pc + 1)) := by
  intro p l e R s m args below meth c nL D dA ad A cells slots Q d E hC hE k lo st M o ho hk hr H locs ls hP hS hL hlen
  obtain ⟨hx, hb, hml, hown, hts, hnl, hK, hAd, hSt, hR⟩ := hC
  unfold zo_lbin at ho
  split at ho
  · exact lv_ladd hx hb hd (hk _ _ _ _ ho H locs ls hP hS hL hlen)
  · cases ho
theorem zk_lsub {mt : Nat → Option ZT} {cc : ByteArray} {own : String} {rk pc : Nat} (hd : decode cc pc = .ok (.lsub, 1)) : ZOK mt cc own rk pc (zo_lbin (· - ·) (pc + 1)) := by
  intro p l e R s m args below meth c nL D dA ad A cells slots Q d E hC hE k lo st M o ho hk hr H locs ls hP hS hL hlen
  obtain ⟨hx, hb, hml, hown, hts, hnl, hK, hAd, hSt, hR⟩ := hC
  unfold zo_lbin at ho
  split at ho
  · exact lv_lsub hx hb hd (hk _ _ _ _ ho H locs ls hP hS hL hlen)
  · cases ho
theorem zk_lmul {mt : Nat → Option ZT} {cc : ByteArray} {own : String} {rk pc : Nat} (hd : decode cc pc = .ok (.lmul, 1)) : ZOK mt cc own rk pc (zo_lbin (· * ·) (pc + 1)) := by
  intro p l e R s m args below meth c nL D dA ad A cells slots Q d E hC hE k lo st M o ho hk hr H locs ls hP hS hL hlen
  obtain ⟨hx, hb, hml, hown, hts, hnl, hK, hAd, hSt, hR⟩ := hC
  unfold zo_lbin at ho
  split at ho
  · exact lv_lmul hx hb hd (hk _ _ _ _ ho H locs ls hP hS hL hlen)
  · cases ho
theorem zk_land {mt : Nat → Option ZT} {cc : ByteArray} {own : String} {rk pc : Nat} (hd : decode cc pc = .ok (.land, 1)) : ZOK mt cc own rk pc (zo_lbin (· &&& ·) (pc + 1)) := by
  intro p l e R s m args below meth c nL D dA ad A cells slots Q d E hC hE k lo st M o ho hk hr H locs ls hP hS hL hlen
  obtain ⟨hx, hb, hml, hown, hts, hnl, hK, hAd, hSt, hR⟩ := hC
  unfold zo_lbin at ho
  split at ho
  · exact lv_land hx hb hd (hk _ _ _ _ ho H locs ls hP hS hL hlen)
  · cases ho
theorem zk_lor {mt : Nat → Option ZT} {cc : ByteArray} {own : String} {rk pc : Nat} (hd : decode cc pc = .ok (.lor, 1)) : ZOK mt cc own rk pc (zo_lbin (· ||| ·) (pc + 1)) := by
  intro p l e R s m args below meth c nL D dA ad A cells slots Q d E hC hE k lo st M o ho hk hr H locs ls hP hS hL hlen
  obtain ⟨hx, hb, hml, hown, hts, hnl, hK, hAd, hSt, hR⟩ := hC
  unfold zo_lbin at ho
  split at ho
  · exact lv_lor hx hb hd (hk _ _ _ _ ho H locs ls hP hS hL hlen)
  · cases ho
def zo_ldv (f : Int64 → Int64 → Int64) (n : Nat) : ZP := fun E k lo st M => match st with | .long y :: .long x :: r => zck (!(decide (y = 0))) (k n lo (.long (f x y) :: r) M) | _ => none
theorem zk_ldiv {mt : Nat → Option ZT} {cc : ByteArray} {own : String} {rk pc : Nat} (hd : decode cc pc = .ok (.ldiv, 1)) : ZOK mt cc own rk pc (zo_ldv (· / ·) (pc + 1)) := by
  intro p l e R s m args below meth c nL D dA ad A cells slots Q d E hC hE k lo st M o ho hk hr H locs ls hP hS hL hlen
  obtain ⟨hx, hb, hml, hown, hts, hnl, hK, hAd, hSt, hR⟩ := hC
  unfold zo_ldv at ho
  split at ho
  · obtain ⟨h1, ho⟩ := zck_some ho
    exact lv_ldiv hx hb hd (by simpa using h1) (hk _ _ _ _ ho H locs ls hP hS hL hlen)
  · cases ho
theorem zk_lrem {mt : Nat → Option ZT} {cc : ByteArray} {own : String} {rk pc : Nat} (hd : decode cc pc = .ok (.lrem, 1)) : ZOK mt cc own rk pc (zo_ldv zlrem (pc + 1)) := by
  intro p l e R s m args below meth c nL D dA ad A cells slots Q d E hC hE k lo st M o ho hk hr H locs ls hP hS hL hlen
  obtain ⟨hx, hb, hml, hown, hts, hnl, hK, hAd, hSt, hR⟩ := hC
  unfold zo_ldv at ho
  split at ho
  · obtain ⟨h1, ho⟩ := zck_some ho
    exact lv_lrem hx hb hd (by simpa using h1) (hk _ _ _ _ ho H locs ls hP hS hL hlen)
  · cases ho
def zo_lsh (f : Int64 → Int32 → Int64) (n : Nat) : ZP := fun E k lo st M => match st with | .int y :: .long x :: r => k n lo (.long (f x y) :: r) M | _ => none
theorem zk_lshl {mt : Nat → Option ZT} {cc : ByteArray} {own : String} {rk pc : Nat} (hd : decode cc pc = .ok (.lshl, 1)) : ZOK mt cc own rk pc (zo_lsh zlshl (pc + 1)) := by
  intro p l e R s m args below meth c nL D dA ad A cells slots Q d E hC hE k lo st M o ho hk hr H locs ls hP hS hL hlen
  obtain ⟨hx, hb, hml, hown, hts, hnl, hK, hAd, hSt, hR⟩ := hC
  unfold zo_lsh at ho
  split at ho
  · exact lv_lshl hx hb hd rfl (hk _ _ _ _ ho H locs ls hP hS hL hlen)
  · cases ho
theorem zk_lshr {mt : Nat → Option ZT} {cc : ByteArray} {own : String} {rk pc : Nat} (hd : decode cc pc = .ok (.lshr, 1)) : ZOK mt cc own rk pc (zo_lsh zlshr (pc + 1)) := by
  intro p l e R s m args below meth c nL D dA ad A cells slots Q d E hC hE k lo st M o ho hk hr H locs ls hP hS hL hlen
  obtain ⟨hx, hb, hml, hown, hts, hnl, hK, hAd, hSt, hR⟩ := hC
  unfold zo_lsh at ho
  split at ho
  · exact lv_lshr hx hb hd rfl (hk _ _ _ _ ho H locs ls hP hS hL hlen)
  · cases ho
def zo_lcmp (n : Nat) : ZP := fun E k lo st M => match st with | .long y :: .long x :: r => k n lo (.int (lg_cmp x y) :: r) M | _ => none
theorem zk_lcmp {mt : Nat → Option ZT} {cc : ByteArray} {own : String} {rk pc : Nat} (hd : decode cc pc = .ok (.lcmp, 1)) : ZOK mt cc own rk pc (zo_lcmp (pc + 1)) := by
  intro p l e R s m args below meth c nL D dA ad A cells slots Q d E hC hE k lo st M o ho hk hr H locs ls hP hS hL hlen
  obtain ⟨hx, hb, hml, hown, hts, hnl, hK, hAd, hSt, hR⟩ := hC
  unfold zo_lcmp at ho
  split at ho
  · exact W.lcmp hx hb hd (hk _ _ _ _ ho H locs ls hP hS hL hlen)
  · cases ho
def zo_dup (n : Nat) : ZP := fun E k lo st M => match st with | v :: r => zck (v.category == 1) (k n lo (v :: v :: r) M) | _ => none
theorem zk_dup {mt : Nat → Option ZT} {cc : ByteArray} {own : String} {rk pc : Nat} (hd : decode cc pc = .ok (.dup, 1)) : ZOK mt cc own rk pc (zo_dup (pc + 1)) := by
  intro p l e R s m args below meth c nL D dA ad A cells slots Q d E hC hE k lo st M o ho hk hr H locs ls hP hS hL hlen
  obtain ⟨hx, hb, hml, hown, hts, hnl, hK, hAd, hSt, hR⟩ := hC
  unfold zo_dup at ho
  split at ho
  · rename_i v r
    obtain ⟨h1, ho⟩ := zck_some ho
    exact lv_dup hx hb hd (by rw [ztr_cat]; simpa using h1) (hk _ _ _ _ ho H locs ls hP hS hL hlen)
  · cases ho
def zo_pop (n : Nat) : ZP := fun E k lo st M => match st with | v :: r => zck (v.category == 1) (k n lo r M) | _ => none
theorem zk_pop {mt : Nat → Option ZT} {cc : ByteArray} {own : String} {rk pc : Nat} (hd : decode cc pc = .ok (.pop, 1)) : ZOK mt cc own rk pc (zo_pop (pc + 1)) := by
  intro p l e R s m args below meth c nL D dA ad A cells slots Q d E hC hE k lo st M o ho hk hr H locs ls hP hS hL hlen
  obtain ⟨hx, hb, hml, hown, hts, hnl, hK, hAd, hSt, hR⟩ := hC
  unfold zo_pop at ho
  split at ho
  · rename_i v r
    obtain ⟨h1, ho⟩ := zck_some ho
    exact lv_pop hx hb hd (by rw [ztr_cat]; simpa using h1) (hk _ _ _ _ ho H locs ls hP hS hL hlen)
  · cases ho
def zo_dup2 (n : Nat) : ZP := fun E k lo st M => match st with | v :: w :: r => zck (v.category == 1 && w.category == 1) (k n lo (v :: w :: v :: w :: r) M) | _ => none
theorem zk_dup2 {mt : Nat → Option ZT} {cc : ByteArray} {own : String} {rk pc : Nat} (hd : decode cc pc = .ok (.dup2, 1)) : ZOK mt cc own rk pc (zo_dup2 (pc + 1)) := by
  intro p l e R s m args below meth c nL D dA ad A cells slots Q d E hC hE k lo st M o ho hk hr H locs ls hP hS hL hlen
  obtain ⟨hx, hb, hml, hown, hts, hnl, hK, hAd, hSt, hR⟩ := hC
  unfold zo_dup2 at ho
  split at ho
  · rename_i v w r
    obtain ⟨h1, ho⟩ := zck_some ho
    simp only [Bool.and_eq_true, beq_iff_eq] at h1
    exact lv_dup2_11 hx hb hd (by rw [ztr_cat]; exact h1.1) (by rw [ztr_cat]; exact h1.2) (hk _ _ _ _ ho H locs ls hP hS hL hlen)
  · cases ho
def zo_ifeq (t n : Nat) : ZP := fun E k lo st M => match st with | .int x :: r => if x = 0 then k t lo r M else k n lo r M | _ => none
theorem zk_ifeq {mt : Nat → Option ZT} {cc : ByteArray} {own : String} {rk pc : Nat} {off : Int} {t : Nat} (ht : (pc : Int) + off = (t : Int)) (hd : decode cc pc = .ok (.ifCond .eq off, 3)) : ZOK mt cc own rk pc (zo_ifeq t (pc + 3)) := by
  intro p l e R s m args below meth c nL D dA ad A cells slots Q d E hC hE k lo st M o ho hk hr H locs ls hP hS hL hlen
  obtain ⟨hx, hb, hml, hown, hts, hnl, hK, hAd, hSt, hR⟩ := hC
  unfold zo_ifeq at ho
  split at ho
  · rename_i x r
    refine lv_if_eq hx hb hd ht (fun h1 => ?_) (fun h1 => ?_)
    · rw [if_pos h1] at ho
      exact hk _ _ _ _ ho H locs ls hP hS hL hlen
    · rw [if_neg h1] at ho
      exact hk _ _ _ _ ho H locs ls hP hS hL hlen
  · cases ho
def zo_ifne (t n : Nat) : ZP := fun E k lo st M => match st with | .int x :: r => if x = 0 then k n lo r M else k t lo r M | _ => none
theorem zk_ifne {mt : Nat → Option ZT} {cc : ByteArray} {own : String} {rk pc : Nat} {off : Int} {t : Nat} (ht : (pc : Int) + off = (t : Int)) (hd : decode cc pc = .ok (.ifCond .ne off, 3)) : ZOK mt cc own rk pc (zo_ifne t (pc + 3)) := by
  intro p l e R s m args below meth c nL D dA ad A cells slots Q d E hC hE k lo st M o ho hk hr H locs ls hP hS hL hlen
  obtain ⟨hx, hb, hml, hown, hts, hnl, hK, hAd, hSt, hR⟩ := hC
  unfold zo_ifne at ho
  split at ho
  · rename_i x r
    refine lv_if_ne hx hb hd ht (fun h1 => ?_) (fun h1 => ?_)
    · rw [if_neg h1] at ho
      exact hk _ _ _ _ ho H locs ls hP hS hL hlen
    · rw [if_pos h1] at ho
      exact hk _ _ _ _ ho H locs ls hP hS hL hlen
  · cases ho
def zo_iflt (t n : Nat) : ZP := fun E k lo st M => match st with | .int x :: r => if x < 0 then k t lo r M else k n lo r M | _ => none
theorem zk_iflt {mt : Nat → Option ZT} {cc : ByteArray} {own : String} {rk pc : Nat} {off : Int} {t : Nat} (ht : (pc : Int) + off = (t : Int)) (hd : decode cc pc = .ok (.ifCond .lt off, 3)) : ZOK mt cc own rk pc (zo_iflt t (pc + 3)) := by
  intro p l e R s m args below meth c nL D dA ad A cells slots Q d E hC hE k lo st M o ho hk hr H locs ls hP hS hL hlen
  obtain ⟨hx, hb, hml, hown, hts, hnl, hK, hAd, hSt, hR⟩ := hC
  unfold zo_iflt at ho
  split at ho
  · rename_i x r
    refine lv_if_lt hx hb hd ht (fun h1 => ?_) (fun h1 => ?_)
    · rw [if_pos h1] at ho
      exact hk _ _ _ _ ho H locs ls hP hS hL hlen
    · rw [if_neg h1] at ho
      exact hk _ _ _ _ ho H locs ls hP hS hL hlen
  · cases ho
def zo_ifge (t n : Nat) : ZP := fun E k lo st M => match st with | .int x :: r => if 0 ≤ x then k t lo r M else k n lo r M | _ => none
theorem zk_ifge {mt : Nat → Option ZT} {cc : ByteArray} {own : String} {rk pc : Nat} {off : Int} {t : Nat} (ht : (pc : Int) + off = (t : Int)) (hd : decode cc pc = .ok (.ifCond .ge off, 3)) : ZOK mt cc own rk pc (zo_ifge t (pc + 3)) := by
  intro p l e R s m args below meth c nL D dA ad A cells slots Q d E hC hE k lo st M o ho hk hr H locs ls hP hS hL hlen
  obtain ⟨hx, hb, hml, hown, hts, hnl, hK, hAd, hSt, hR⟩ := hC
  unfold zo_ifge at ho
  split at ho
  · rename_i x r
    refine lv_if_ge hx hb hd ht (fun h1 => ?_) (fun h1 => ?_)
    · rw [if_pos h1] at ho
      exact hk _ _ _ _ ho H locs ls hP hS hL hlen
    · rw [if_neg h1] at ho
      exact hk _ _ _ _ ho H locs ls hP hS hL hlen
  · cases ho
def zo_ifgt (t n : Nat) : ZP := fun E k lo st M => match st with | .int x :: r => if 0 < x then k t lo r M else k n lo r M | _ => none
theorem zk_ifgt {mt : Nat → Option ZT} {cc : ByteArray} {own : String} {rk pc : Nat} {off : Int} {t : Nat} (ht : (pc : Int) + off = (t : Int)) (hd : decode cc pc = .ok (.ifCond .gt off, 3)) : ZOK mt cc own rk pc (zo_ifgt t (pc + 3)) := by
  intro p l e R s m args below meth c nL D dA ad A cells slots Q d E hC hE k lo st M o ho hk hr H locs ls hP hS hL hlen
  obtain ⟨hx, hb, hml, hown, hts, hnl, hK, hAd, hSt, hR⟩ := hC
  unfold zo_ifgt at ho
  split at ho
  · rename_i x r
    refine lv_if_gt hx hb hd ht (fun h1 => ?_) (fun h1 => ?_)
    · rw [if_pos h1] at ho
      exact hk _ _ _ _ ho H locs ls hP hS hL hlen
    · rw [if_neg h1] at ho
      exact hk _ _ _ _ ho H locs ls hP hS hL hlen
  · cases ho
def zo_ifle (t n : Nat) : ZP := fun E k lo st M => match st with | .int x :: r => if x ≤ 0 then k t lo r M else k n lo r M | _ => none
theorem zk_ifle {mt : Nat → Option ZT} {cc : ByteArray} {own : String} {rk pc : Nat} {off : Int} {t : Nat} (ht : (pc : Int) + off = (t : Int)) (hd : decode cc pc = .ok (.ifCond .le off, 3)) : ZOK mt cc own rk pc (zo_ifle t (pc + 3)) := by
  intro p l e R s m args below meth c nL D dA ad A cells slots Q d E hC hE k lo st M o ho hk hr H locs ls hP hS hL hlen
  obtain ⟨hx, hb, hml, hown, hts, hnl, hK, hAd, hSt, hR⟩ := hC
  unfold zo_ifle at ho
  split at ho
  · rename_i x r
    refine lv_if_le hx hb hd ht (fun h1 => ?_) (fun h1 => ?_)
    · rw [if_pos h1] at ho
      exact hk _ _ _ _ ho H locs ls hP hS hL hlen
    · rw [if_neg h1] at ho
      exact hk _ _ _ _ ho H locs ls hP hS hL hlen
  · cases ho
def zo_iceq (t n : Nat) : ZP := fun E k lo st M => match st with | .int y :: .int x :: r => if x = y then k t lo r M else k n lo r M | _ => none
theorem zk_iceq {mt : Nat → Option ZT} {cc : ByteArray} {own : String} {rk pc : Nat} {off : Int} {t : Nat} (ht : (pc : Int) + off = (t : Int)) (hd : decode cc pc = .ok (.if_icmp .eq off, 3)) : ZOK mt cc own rk pc (zo_iceq t (pc + 3)) := by
  intro p l e R s m args below meth c nL D dA ad A cells slots Q d E hC hE k lo st M o ho hk hr H locs ls hP hS hL hlen
  obtain ⟨hx, hb, hml, hown, hts, hnl, hK, hAd, hSt, hR⟩ := hC
  unfold zo_iceq at ho
  split at ho
  · rename_i y x r
    refine lv_icmp_eq hx hb hd ht (fun h1 => ?_) (fun h1 => ?_)
    · rw [if_pos h1] at ho
      exact hk _ _ _ _ ho H locs ls hP hS hL hlen
    · rw [if_neg h1] at ho
      exact hk _ _ _ _ ho H locs ls hP hS hL hlen
  · cases ho
def zo_icne (t n : Nat) : ZP := fun E k lo st M => match st with | .int y :: .int x :: r => if x = y then k n lo r M else k t lo r M | _ => none
theorem zk_icne {mt : Nat → Option ZT} {cc : ByteArray} {own : String} {rk pc : Nat} {off : Int} {t : Nat} (ht : (pc : Int) + off = (t : Int)) (hd : decode cc pc = .ok (.if_icmp .ne off, 3)) : ZOK mt cc own rk pc (zo_icne t (pc + 3)) := by
  intro p l e R s m args below meth c nL D dA ad A cells slots Q d E hC hE k lo st M o ho hk hr H locs ls hP hS hL hlen
  obtain ⟨hx, hb, hml, hown, hts, hnl, hK, hAd, hSt, hR⟩ := hC
  unfold zo_icne at ho
  split at ho
  · rename_i y x r
    refine lv_icmp_ne hx hb hd ht (fun h1 => ?_) (fun h1 => ?_)
    · rw [if_neg h1] at ho
      exact hk _ _ _ _ ho H locs ls hP hS hL hlen
    · rw [if_pos h1] at ho
      exact hk _ _ _ _ ho H locs ls hP hS hL hlen
  · cases ho
def zo_iclt (t n : Nat) : ZP := fun E k lo st M => match st with | .int y :: .int x :: r => if x < y then k t lo r M else k n lo r M | _ => none
theorem zk_iclt {mt : Nat → Option ZT} {cc : ByteArray} {own : String} {rk pc : Nat} {off : Int} {t : Nat} (ht : (pc : Int) + off = (t : Int)) (hd : decode cc pc = .ok (.if_icmp .lt off, 3)) : ZOK mt cc own rk pc (zo_iclt t (pc + 3)) := by
  intro p l e R s m args below meth c nL D dA ad A cells slots Q d E hC hE k lo st M o ho hk hr H locs ls hP hS hL hlen
  obtain ⟨hx, hb, hml, hown, hts, hnl, hK, hAd, hSt, hR⟩ := hC
  unfold zo_iclt at ho
  split at ho
  · rename_i y x r
    refine lv_icmp_lt hx hb hd ht (fun h1 => ?_) (fun h1 => ?_)
    · rw [if_pos h1] at ho
      exact hk _ _ _ _ ho H locs ls hP hS hL hlen
    · rw [if_neg h1] at ho
      exact hk _ _ _ _ ho H locs ls hP hS hL hlen
  · cases ho
def zo_icge (t n : Nat) : ZP := fun E k lo st M => match st with | .int y :: .int x :: r => if y ≤ x then k t lo r M else k n lo r M | _ => none
theorem zk_icge {mt : Nat → Option ZT} {cc : ByteArray} {own : String} {rk pc : Nat} {off : Int} {t : Nat} (ht : (pc : Int) + off = (t : Int)) (hd : decode cc pc = .ok (.if_icmp .ge off, 3)) : ZOK mt cc own rk pc (zo_icge t (pc + 3)) := by
  intro p l e R s m args below meth c nL D dA ad A cells slots Q d E hC hE k lo st M o ho hk hr H locs ls hP hS hL hlen
  obtain ⟨hx, hb, hml, hown, hts, hnl, hK, hAd, hSt, hR⟩ := hC
  unfold zo_icge at ho
  split at ho
  · rename_i y x r
    refine lv_icmp_ge hx hb hd ht (fun h1 => ?_) (fun h1 => ?_)
    · rw [if_pos h1] at ho
      exact hk _ _ _ _ ho H locs ls hP hS hL hlen
    · rw [if_neg h1] at ho
      exact hk _ _ _ _ ho H locs ls hP hS hL hlen
  · cases ho
def zo_icgt (t n : Nat) : ZP := fun E k lo st M => match st with | .int y :: .int x :: r => if y < x then k t lo r M else k n lo r M | _ => none
theorem zk_icgt {mt : Nat → Option ZT} {cc : ByteArray} {own : String} {rk pc : Nat} {off : Int} {t : Nat} (ht : (pc : Int) + off = (t : Int)) (hd : decode cc pc = .ok (.if_icmp .gt off, 3)) : ZOK mt cc own rk pc (zo_icgt t (pc + 3)) := by
  intro p l e R s m args below meth c nL D dA ad A cells slots Q d E hC hE k lo st M o ho hk hr H locs ls hP hS hL hlen
  obtain ⟨hx, hb, hml, hown, hts, hnl, hK, hAd, hSt, hR⟩ := hC
  unfold zo_icgt at ho
  split at ho
  · rename_i y x r
    refine lv_icmp_gt hx hb hd ht (fun h1 => ?_) (fun h1 => ?_)
    · rw [if_pos h1] at ho
      exact hk _ _ _ _ ho H locs ls hP hS hL hlen
    · rw [if_neg h1] at ho
      exact hk _ _ _ _ ho H locs ls hP hS hL hlen
  · cases ho
def zo_icle (t n : Nat) : ZP := fun E k lo st M => match st with | .int y :: .int x :: r => if x ≤ y then k t lo r M else k n lo r M | _ => none
theorem zk_icle {mt : Nat → Option ZT} {cc : ByteArray} {own : String} {rk pc : Nat} {off : Int} {t : Nat} (ht : (pc : Int) + off = (t : Int)) (hd : decode cc pc = .ok (.if_icmp .le off, 3)) : ZOK mt cc own rk pc (zo_icle t (pc + 3)) := by
  intro p l e R s m args below meth c nL D dA ad A cells slots Q d E hC hE k lo st M o ho hk hr H locs ls hP hS hL hlen
  obtain ⟨hx, hb, hml, hown, hts, hnl, hK, hAd, hSt, hR⟩ := hC
  unfold zo_icle at ho
  split at ho
  · rename_i y x r
    refine lv_icmp_le hx hb hd ht (fun h1 => ?_) (fun h1 => ?_)
    · rw [if_pos h1] at ho
      exact hk _ _ _ _ ho H locs ls hP hS hL hlen
    · rw [if_neg h1] at ho
      exact hk _ _ _ _ ho H locs ls hP hS hL hlen
  · cases ho
def zo_goto (t : Nat) : ZP := fun E k lo st M => k t lo st M
theorem zk_goto {mt : Nat → Option ZT} {cc : ByteArray} {own : String} {rk pc : Nat} {off : Int} {t : Nat} (ht : (pc : Int) + off = (t : Int)) (hd : decode cc pc = .ok (.goto off, 3)) : ZOK mt cc own rk pc (zo_goto t) := by
  intro p l e R s m args below meth c nL D dA ad A cells slots Q d E hC hE k lo st M o ho hk hr H locs ls hP hS hL hlen
  obtain ⟨hx, hb, hml, hown, hts, hnl, hK, hAd, hSt, hR⟩ := hC
  exact lv_goto hx hb hd ht (hk _ _ _ _ ho H locs ls hP hS hL hlen)
def zo_retv : ZP := fun E k lo st M => match st with | [] => some (.inl (none, M)) | _ => none
theorem zk_retv {mt : Nat → Option ZT} {cc : ByteArray} {own : String} {rk pc : Nat} (hrk : rk = 0) (hd : decode cc pc = .ok (.return_, 1)) : ZOK mt cc own rk pc (zo_retv) := by
  intro p l e R s m args below meth c nL D dA ad A cells slots Q d E hC hE k lo st M o ho hk hr H locs ls hP hS hL hlen
  obtain ⟨hx, hb, hml, hown, hts, hnl, hK, hAd, hSt, hR⟩ := hC
  unfold zo_retv at ho
  split at ho
  · have h2 := Option.some.inj ho
    exact hr _ h2.symm pc H locs ls hP hS (Or.inl ⟨hrk, rfl, hd⟩)
  · cases ho
def zo_reti : ZP := fun E k lo st M => match st with | [.int x] => some (.inl (some (.int x), M)) | _ => none
theorem zk_reti {mt : Nat → Option ZT} {cc : ByteArray} {own : String} {rk pc : Nat} (hrk : rk = 1) (hd : decode cc pc = .ok (.ireturn, 1)) : ZOK mt cc own rk pc (zo_reti) := by
  intro p l e R s m args below meth c nL D dA ad A cells slots Q d E hC hE k lo st M o ho hk hr H locs ls hP hS hL hlen
  obtain ⟨hx, hb, hml, hown, hts, hnl, hK, hAd, hSt, hR⟩ := hC
  unfold zo_reti at ho
  split at ho
  · have h2 := Option.some.inj ho
    exact hr _ h2.symm pc H locs ls hP hS (Or.inr (Or.inl ⟨hrk, ⟨_, rfl⟩, hd⟩))
  · cases ho
def zo_retj : ZP := fun E k lo st M => match st with | [.long x] => some (.inl (some (.long x), M)) | _ => none
theorem zk_retj {mt : Nat → Option ZT} {cc : ByteArray} {own : String} {rk pc : Nat} (hrk : rk = 2) (hd : decode cc pc = .ok (.lreturn, 1)) : ZOK mt cc own rk pc (zo_retj) := by
  intro p l e R s m args below meth c nL D dA ad A cells slots Q d E hC hE k lo st M o ho hk hr H locs ls hP hS hL hlen
  obtain ⟨hx, hb, hml, hown, hts, hnl, hK, hAd, hSt, hR⟩ := hC
  unfold zo_retj at ho
  split at ho
  · have h2 := Option.some.inj ho
    exact hr _ h2.symm pc H locs ls hP hS (Or.inr (Or.inr (Or.inl ⟨hrk, ⟨_, rfl⟩, hd⟩)))
  · cases ho
def zo_retz : ZP := fun E k lo st M => match st with | [.int x] => zck (zb01 x) (some (.inl (some (.int x), M))) | _ => none
theorem zk_retz {mt : Nat → Option ZT} {cc : ByteArray} {own : String} {rk pc : Nat} (hrk : rk = 3) (hd : decode cc pc = .ok (.ireturn, 1)) : ZOK mt cc own rk pc (zo_retz) := by
  intro p l e R s m args below meth c nL D dA ad A cells slots Q d E hC hE k lo st M o ho hk hr H locs ls hP hS hL hlen
  obtain ⟨hx, hb, hml, hown, hts, hnl, hK, hAd, hSt, hR⟩ := hC
  unfold zo_retz at ho
  split at ho
  · obtain ⟨h1, ho⟩ := zck_some ho
    have h2 := Option.some.inj ho
    exact hr _ h2.symm pc H locs ls hP hS (Or.inr (Or.inr (Or.inr ⟨hrk, ⟨_, rfl, h1⟩, hd⟩)))
  · cases ho
end
section
/-! Fields, arrays, switches, calls -/
theorem zfld_set {M : ZM} {ad : Nat → Nat} {a j : Nat} {fs : List (Option Nat)} {x : Int32} (h : fs[j]? = some none) : fs.mapIdx (zfld (zw M a j x) ad a) = (fs.mapIdx (zfld M ad a)).set j (.int x) := by
  apply List.ext_getElem?
  intro i
  rw [List.getElem?_mapIdx, List.getElem?_set, List.getElem?_mapIdx]
  by_cases hi : j = i
  · subst hi
    have hlt : j < (fs.mapIdx (zfld M ad a)).length := by
      rw [List.length_mapIdx]
      exact (List.getElem?_eq_some_iff.mp h).1
    rw [if_pos rfl, if_pos hlt, h]
    simp [zfld, zw, upd]
  · rw [if_neg hi]
    cases hf : fs[i]? with
    | none => rfl
    | some f =>
      cases f with
      | none =>
        have : ¬ i = j := fun e => hi e.symm
        simp [zfld, zw, upd, this]
      | some t => rfl
theorem zset_obj {dA : Nat → ClassId} {ad : Nat → Nat} {M : ZM} {a ci j : Nat} {fs : List (Option Nat)} {x : Int32} (hy : zLay[a]? = some (.inr (.inr (ci, fs)))) (h : fs[j]? = some none) : (zwd dA ad M).set a (ad a, .inr (ci, (fs.mapIdx (zfld M ad a)).set j (.int x))) = zwd dA ad (zw M a j x) :=
  zwd_set hy (by simp only [zcell, zfld_set h]) (fun k hk => ⟨by simp [zw, hk], rfl⟩)
theorem zset_int {dA : Nat → ClassId} {ad : Nat → Nat} {M : ZM} {a t n : Nat} {i : Nat} {x : Int32} (ht : ¬ t = 1) (hy : zLay[a]? = some (.inl (t, n))) : (zwd dA ad M).set a (ad a, .inl (dA t, n, .inl (upd (M.1 a) i x))) = zwd dA ad (zw M a i x) :=
  zwd_set hy (by simp [zcell, ht, zw]) (fun k hk => ⟨by simp [zw, hk], rfl⟩)
theorem zset_long {dA : Nat → ClassId} {ad : Nat → Nat} {M : ZM} {a n : Nat} {i : Nat} {x : Int64} (hy : zLay[a]? = some (.inl (1, n))) : (zwd dA ad M).set a (ad a, .inl (dA 1, n, .inr (.inl (vp_updL (M.2 a) i x)))) = zwd dA ad (zwl M a i x) :=
  zwd_set hy (by simp [zcell, zwl]) (fun k hk => ⟨rfl, by simp [zwl, hk]⟩)
theorem zset_cpy {dA : Nat → ClassId} {ad : Nat → Nat} {M : ZM} {a b n : Nat} {sp dp len : Nat} (hy : zLay[b]? = some (.inl (0, n))) : (zwd dA ad M).set b (ad b, .inl (dA 0, n, .inl (va_cpy (M.1 a) (M.1 b) sp dp len))) = zwd dA ad (zcp M a sp b dp len) :=
  zwd_set hy (by simp [zcell, zcp]) (fun k hk => ⟨by simp [zcp, hk], rfl⟩)
theorem zat_int {dA : Nat → ClassId} {ad : Nat → Nat} {M : ZM} {a t n : Nat} (ht : ¬ t = 1) (hy : zLay[a]? = some (.inl (t, n))) : (zwd dA ad M)[a]? = some (ad a, .inl (dA t, n, .inl (M.1 a))) := by
  rw [zwd_at hy]
  simp [zcell, ht]
theorem zat_long {dA : Nat → ClassId} {ad : Nat → Nat} {M : ZM} {a n : Nat} (hy : zLay[a]? = some (.inl (1, n))) : (zwd dA ad M)[a]? = some (ad a, .inl (dA 1, n, .inr (.inl (M.2 a)))) := by
  rw [zwd_at hy]
  simp [zcell]
def zo_get (ci j n : Nat) : ZP := fun E k lo st M => match st with | .ref a :: r => zck (zfi a ci j) (k n lo (.int (M.1 a j) :: r) M) | _ => none
def zo_getr (ci j n : Nat) : ZP := fun E k lo st M => match st with | .ref a :: r => zck (zfr a ci j) (k n lo (.ref (zrf a j) :: r) M) | _ => none
def zo_put (ci j n : Nat) : ZP := fun E k lo st M => match st with | .int x :: .ref a :: r => zck (zfi a ci j) (k n lo r (zw M a j x)) | _ => none
def zo_putz (ci j n : Nat) : ZP := fun E k lo st M => match st with | .int x :: .ref a :: r => zck (zfi a ci j && zb01 x) (k n lo r (zw M a j x)) | _ => none
set_option maxHeartbeats 1000000 in
theorem zk_get {mt : Nat → Option ZT} {cc : ByteArray} {own : String} {rk pc : Nat} {ci j idx : Nat} {C : String} {T : u_T} {N : Nat} (hc : vwCl[ci]? = some (C, T, N)) (hin : ∀ w ∈ u_ws C T N, w ∈ zTB) (hj : j < N) (hm : Cond.fieldLink own idx (T j).1 (T j).2.1 (T j).2.2.1 ∈ zTB) (hd : decode cc pc = .ok (.getfield idx, 3)) : ZOK mt cc own rk pc (zo_get ci j (pc + 3)) := by
  intro p l e R s m args below meth c nL D dA ad A cells slots Q d E hC hE k lo st M o ho hk hr H locs ls hP hS hL hlen
  obtain ⟨hx, hb, hml, hown, hts, hnl, hK, hAd, hSt, hR⟩ := hC
  unfold zo_get at ho
  split at ho
  · rename_i a r
    obtain ⟨h1, ho⟩ := zck_some ho
    obtain ⟨fs, hy, hf⟩ := zfi_spec h1
    exact va_get hx hb hts hin hown hK hP a (zwd_at hy) hc j hj (hts _ hm) (fun _ h => h) (v := .int (M.1 a j)) (by rw [List.getElem?_mapIdx, hf]; rfl) hd (hk _ _ _ _ ho H locs ls hP hS hL hlen)
  · cases ho
set_option maxHeartbeats 1000000 in
theorem zk_getr {mt : Nat → Option ZT} {cc : ByteArray} {own : String} {rk pc : Nat} {ci j idx : Nat} {C : String} {T : u_T} {N : Nat} (hc : vwCl[ci]? = some (C, T, N)) (hin : ∀ w ∈ u_ws C T N, w ∈ zTB) (hj : j < N) (hm : Cond.fieldLink own idx (T j).1 (T j).2.1 (T j).2.2.1 ∈ zTB) (hd : decode cc pc = .ok (.getfield idx, 3)) : ZOK mt cc own rk pc (zo_getr ci j (pc + 3)) := by
  intro p l e R s m args below meth c nL D dA ad A cells slots Q d E hC hE k lo st M o ho hk hr H locs ls hP hS hL hlen
  obtain ⟨hx, hb, hml, hown, hts, hnl, hK, hAd, hSt, hR⟩ := hC
  unfold zo_getr at ho
  split at ho
  · rename_i a r
    obtain ⟨h1, ho⟩ := zck_some ho
    obtain ⟨fs, hy, hf⟩ := zfr_spec h1
    exact va_get hx hb hts hin hown hK hP a (zwd_at hy) hc j hj (hts _ hm) (fun _ h => h) (v := .ref (ad (zrf a j))) (by rw [List.getElem?_mapIdx, hf]; rfl) hd (hk _ _ _ _ ho H locs ls hP hS hL hlen)
  · cases ho
set_option maxHeartbeats 1000000 in
theorem zk_put {mt : Nat → Option ZT} {cc : ByteArray} {own : String} {rk pc : Nat} {ci j idx : Nat} {C : String} {T : u_T} {N : Nat} (hc : vwCl[ci]? = some (C, T, N)) (hin : ∀ w ∈ u_ws C T N, w ∈ zTB) (hj : j < N) (hm : Cond.fieldLink own idx (T j).1 (T j).2.1 (T j).2.2.1 ∈ zTB) (ty : Nat → FieldType) (hty : ∀ k, k < N → parseFieldDescriptor (T k).2.2.1 = some (ty k)) (hnm : ∀ a, a < N → ∀ b, b < N → a ≠ b → (T a).2.1 ≠ (T b).2.1) (hfin : (T j).2.2.2 = false) (hde : parseFieldDescriptor (T j).2.2.1 = some .int) (hd : decode cc pc = .ok (.putfield idx, 3)) : ZOK mt cc own rk pc (zo_put ci j (pc + 3)) := by
  intro p l e R s m args below meth c nL D dA ad A cells slots Q d E hC hE k lo st M o ho hk hr H locs ls hP hS hL hlen
  obtain ⟨hx, hb, hml, hown, hts, hnl, hK, hAd, hSt, hR⟩ := hC
  unfold zo_put at ho
  split at ho
  · rename_i x a r
    obtain ⟨h1, ho⟩ := zck_some ho
    obtain ⟨fs, hy, hf⟩ := zfi_spec h1
    refine va_put (v := .int x) hx hb hts hin ty hty hnm hown hK hP (zD hAd M) hS a (zwd_at hy) hc j hj (hts _ hm) (fun _ h => h) hfin hde rfl rfl ?_ hd (fun H1 locs1 hP1 hD1 hS1 => ?_)
    · rw [List.length_mapIdx]
      exact (List.getElem?_eq_some_iff.mp hf).1
    · rw [zset_obj hy hf] at hP1
      exact hk _ _ _ _ ho H1 locs1 ls hP1 hS1 hL hlen
  · cases ho
set_option maxHeartbeats 1000000 in
theorem zk_putz {mt : Nat → Option ZT} {cc : ByteArray} {own : String} {rk pc : Nat} {ci j idx : Nat} {C : String} {T : u_T} {N : Nat} (hc : vwCl[ci]? = some (C, T, N)) (hin : ∀ w ∈ u_ws C T N, w ∈ zTB) (hj : j < N) (hm : Cond.fieldLink own idx (T j).1 (T j).2.1 (T j).2.2.1 ∈ zTB) (ty : Nat → FieldType) (hty : ∀ k, k < N → parseFieldDescriptor (T k).2.2.1 = some (ty k)) (hnm : ∀ a, a < N → ∀ b, b < N → a ≠ b → (T a).2.1 ≠ (T b).2.1) (hfin : (T j).2.2.2 = false) (hde : parseFieldDescriptor (T j).2.2.1 = some .boolean) (hd : decode cc pc = .ok (.putfield idx, 3)) : ZOK mt cc own rk pc (zo_putz ci j (pc + 3)) := by
  intro p l e R s m args below meth c nL D dA ad A cells slots Q d E hC hE k lo st M o ho hk hr H locs ls hP hS hL hlen
  obtain ⟨hx, hb, hml, hown, hts, hnl, hK, hAd, hSt, hR⟩ := hC
  unfold zo_putz at ho
  split at ho
  · rename_i x a r
    obtain ⟨h1, ho⟩ := zck_some ho
    simp only [Bool.and_eq_true] at h1
    obtain ⟨h1, h3⟩ := h1
    obtain ⟨fs, hy, hf⟩ := zfi_spec h1
    refine va_put (v := .int x) hx hb hts hin ty hty hnm hown hK hP (zD hAd M) hS a (zwd_at hy) hc j hj (hts _ hm) (fun _ h => h) hfin hde (zb01_nar h3).1 (zb01_nar h3).2.1 ?_ hd (fun H1 locs1 hP1 hD1 hS1 => ?_)
    · rw [List.length_mapIdx]
      exact (List.getElem?_eq_some_iff.mp hf).1
    · rw [zset_obj hy hf] at hP1
      exact hk _ _ _ _ ho H1 locs1 ls hP1 hS1 hL hlen
  · cases ho
set_option maxHeartbeats 1000000 in
theorem zk_getN {mt : Nat → Option ZT} {cc : ByteArray} {own : String} {rk pc : Nat} {ci j idx : Nat} {C : String} {T : u_T} {N : Nat} (hc : vwCl[ci]? = some (C, T, N)) (hin : ∀ w ∈ u_ws C T N, w ∈ zTB) (hj : j < N) {host : String} (hm : Cond.fieldLinkNest own idx (T j).1 (T j).2.1 (T j).2.2.1 host ∈ zNL) (hd : decode cc pc = .ok (.getfield idx, 3)) : ZOK mt cc own rk pc (zo_get ci j (pc + 3)) := by
  intro p l e R s m args below meth c nL D dA ad A cells slots Q d E hC hE k lo st M o ho hk hr H locs ls hP hS hL hlen
  obtain ⟨hx, hb, hml, hown, hts, hnl, hK, hAd, hSt, hR⟩ := hC
  unfold zo_get at ho
  split at ho
  · rename_i a r
    obtain ⟨h1, ho⟩ := zck_some ho
    obtain ⟨fs, hy, hf⟩ := zfi_spec h1
    exact va_getN hx hb hts hin hown hK hP a (zwd_at hy) hc j hj (zNw_use hm (hnl _ hm)) (fun _ h => h) (v := .int (M.1 a j)) (by rw [List.getElem?_mapIdx, hf]; rfl) hd (hk _ _ _ _ ho H locs ls hP hS hL hlen)
  · cases ho
set_option maxHeartbeats 1000000 in
theorem zk_getrN {mt : Nat → Option ZT} {cc : ByteArray} {own : String} {rk pc : Nat} {ci j idx : Nat} {C : String} {T : u_T} {N : Nat} (hc : vwCl[ci]? = some (C, T, N)) (hin : ∀ w ∈ u_ws C T N, w ∈ zTB) (hj : j < N) {host : String} (hm : Cond.fieldLinkNest own idx (T j).1 (T j).2.1 (T j).2.2.1 host ∈ zNL) (hd : decode cc pc = .ok (.getfield idx, 3)) : ZOK mt cc own rk pc (zo_getr ci j (pc + 3)) := by
  intro p l e R s m args below meth c nL D dA ad A cells slots Q d E hC hE k lo st M o ho hk hr H locs ls hP hS hL hlen
  obtain ⟨hx, hb, hml, hown, hts, hnl, hK, hAd, hSt, hR⟩ := hC
  unfold zo_getr at ho
  split at ho
  · rename_i a r
    obtain ⟨h1, ho⟩ := zck_some ho
    obtain ⟨fs, hy, hf⟩ := zfr_spec h1
    exact va_getN hx hb hts hin hown hK hP a (zwd_at hy) hc j hj (zNw_use hm (hnl _ hm)) (fun _ h => h) (v := .ref (ad (zrf a j))) (by rw [List.getElem?_mapIdx, hf]; rfl) hd (hk _ _ _ _ ho H locs ls hP hS hL hlen)
  · cases ho
set_option maxHeartbeats 1000000 in
theorem zk_putN {mt : Nat → Option ZT} {cc : ByteArray} {own : String} {rk pc : Nat} {ci j idx : Nat} {C : String} {T : u_T} {N : Nat} (hc : vwCl[ci]? = some (C, T, N)) (hin : ∀ w ∈ u_ws C T N, w ∈ zTB) (hj : j < N) {host : String} (hm : Cond.fieldLinkNest own idx (T j).1 (T j).2.1 (T j).2.2.1 host ∈ zNL) (ty : Nat → FieldType) (hty : ∀ k, k < N → parseFieldDescriptor (T k).2.2.1 = some (ty k)) (hnm : ∀ a, a < N → ∀ b, b < N → a ≠ b → (T a).2.1 ≠ (T b).2.1) (hfin : (T j).2.2.2 = false) (hde : parseFieldDescriptor (T j).2.2.1 = some .int) (hd : decode cc pc = .ok (.putfield idx, 3)) : ZOK mt cc own rk pc (zo_put ci j (pc + 3)) := by
  intro p l e R s m args below meth c nL D dA ad A cells slots Q d E hC hE k lo st M o ho hk hr H locs ls hP hS hL hlen
  obtain ⟨hx, hb, hml, hown, hts, hnl, hK, hAd, hSt, hR⟩ := hC
  unfold zo_put at ho
  split at ho
  · rename_i x a r
    obtain ⟨h1, ho⟩ := zck_some ho
    obtain ⟨fs, hy, hf⟩ := zfi_spec h1
    refine va_putN (v := .int x) hx hb hts hin ty hty hnm hown hK hP (zD hAd M) hS a (zwd_at hy) hc j hj (zNw_use hm (hnl _ hm)) (fun _ h => h) hfin hde rfl rfl ?_ hd (fun H1 locs1 hP1 hD1 hS1 => ?_)
    · rw [List.length_mapIdx]
      exact (List.getElem?_eq_some_iff.mp hf).1
    · rw [zset_obj hy hf] at hP1
      exact hk _ _ _ _ ho H1 locs1 ls hP1 hS1 hL hlen
  · cases ho
set_option maxHeartbeats 1000000 in
theorem zk_putzN {mt : Nat → Option ZT} {cc : ByteArray} {own : String} {rk pc : Nat} {ci j idx : Nat} {C : String} {T : u_T} {N : Nat} (hc : vwCl[ci]? = some (C, T, N)) (hin : ∀ w ∈ u_ws C T N, w ∈ zTB) (hj : j < N) {host : String} (hm : Cond.fieldLinkNest own idx (T j).1 (T j).2.1 (T j).2.2.1 host ∈ zNL) (ty : Nat → FieldType) (hty : ∀ k, k < N → parseFieldDescriptor (T k).2.2.1 = some (ty k)) (hnm : ∀ a, a < N → ∀ b, b < N → a ≠ b → (T a).2.1 ≠ (T b).2.1) (hfin : (T j).2.2.2 = false) (hde : parseFieldDescriptor (T j).2.2.1 = some .boolean) (hd : decode cc pc = .ok (.putfield idx, 3)) : ZOK mt cc own rk pc (zo_putz ci j (pc + 3)) := by
  intro p l e R s m args below meth c nL D dA ad A cells slots Q d E hC hE k lo st M o ho hk hr H locs ls hP hS hL hlen
  obtain ⟨hx, hb, hml, hown, hts, hnl, hK, hAd, hSt, hR⟩ := hC
  unfold zo_putz at ho
  split at ho
  · rename_i x a r
    obtain ⟨h1, ho⟩ := zck_some ho
    simp only [Bool.and_eq_true] at h1
    obtain ⟨h1, h3⟩ := h1
    obtain ⟨fs, hy, hf⟩ := zfi_spec h1
    refine va_putN (v := .int x) hx hb hts hin ty hty hnm hown hK hP (zD hAd M) hS a (zwd_at hy) hc j hj (zNw_use hm (hnl _ hm)) (fun _ h => h) hfin hde (zb01_nar h3).1 (zb01_nar h3).2.1 ?_ hd (fun H1 locs1 hP1 hD1 hS1 => ?_)
    · rw [List.length_mapIdx]
      exact (List.getElem?_eq_some_iff.mp hf).1
    · rw [zset_obj hy hf] at hP1
      exact hk _ _ _ _ ho H1 locs1 ls hP1 hS1 hL hlen
  · cases ho
def zo_iald (n : Nat) : ZP := fun E k lo st M => match st with | .int i :: .ref a :: r => zck (zty a 0 && zin i (zln a)) (k n lo (.int (M.1 a i.toNatClampNeg) :: r) M) | _ => none
def zo_zald (n : Nat) : ZP := fun E k lo st M => match st with | .int i :: .ref a :: r => zck (zty a 2 && zin i (zln a)) (k n lo (.int (M.1 a i.toNatClampNeg) :: r) M) | _ => none
def zo_lald (n : Nat) : ZP := fun E k lo st M => match st with | .int i :: .ref a :: r => zck (zty a 1 && zin i (zln a)) (k n lo (.long (M.2 a i.toNatClampNeg) :: r) M) | _ => none
def zo_aald (t n : Nat) : ZP := fun E k lo st M => match st with | .int i :: .ref a :: r => zck (ztr3 a t && zin i (zrl a)) (k n lo (.ref (zel a i.toNatClampNeg) :: r) M) | _ => none
def zo_iast (n : Nat) : ZP := fun E k lo st M => match st with | .int x :: .int i :: .ref a :: r => zck (zty a 0 && zin i (zln a)) (k n lo r (zw M a i.toNatClampNeg x)) | _ => none
def zo_zast (n : Nat) : ZP := fun E k lo st M => match st with | .int x :: .int i :: .ref a :: r => zck (zty a 2 && zin i (zln a) && zb01 x) (k n lo r (zw M a i.toNatClampNeg x)) | _ => none
def zo_last (n : Nat) : ZP := fun E k lo st M => match st with | .long x :: .int i :: .ref a :: r => zck (zty a 1 && zin i (zln a)) (k n lo r (zwl M a i.toNatClampNeg x)) | _ => none
def zo_alen (t n : Nat) : ZP := fun E k lo st M => match st with | .ref a :: r => zck (zty a t) (k n lo (.int (Int32.ofNat (zln a)) :: r) M) | _ => none
set_option maxHeartbeats 1000000 in
theorem zk_iaload {mt : Nat → Option ZT} {cc : ByteArray} {own : String} {rk pc : Nat} (hd : decode cc pc = .ok (.iaload, 1)) : ZOK mt cc own rk pc (zo_iald (pc + 1)) := by
  intro p l e R s m args below meth c nL D dA ad A cells slots Q d E hC hE k lo st M o ho hk hr H locs ls hP hS hL hlen
  obtain ⟨hx, hb, hml, hown, hts, hnl, hK, hAd, hSt, hR⟩ := hC
  unfold zo_iald at ho
  split at ho
  · rename_i i a r
    obtain ⟨h1, ho⟩ := zck_some ho
    simp only [Bool.and_eq_true] at h1
    exact va_iald hx hb hK hP a 0 (zat_int (by decide) (zty_spec h1.1)) rfl (zin_in h1.2) hd (hk _ _ _ _ ho H locs ls hP hS hL hlen)
  · cases ho
set_option maxHeartbeats 1000000 in
theorem zk_baloadz {mt : Nat → Option ZT} {cc : ByteArray} {own : String} {rk pc : Nat} (hd : decode cc pc = .ok (.baload, 1)) : ZOK mt cc own rk pc (zo_zald (pc + 1)) := by
  intro p l e R s m args below meth c nL D dA ad A cells slots Q d E hC hE k lo st M o ho hk hr H locs ls hP hS hL hlen
  obtain ⟨hx, hb, hml, hown, hts, hnl, hK, hAd, hSt, hR⟩ := hC
  unfold zo_zald at ho
  split at ho
  · rename_i i a r
    obtain ⟨h1, ho⟩ := zck_some ho
    simp only [Bool.and_eq_true] at h1
    exact va_zald hx hb hK hP a 2 (zat_int (by decide) (zty_spec h1.1)) rfl (zin_in h1.2) hd (hk _ _ _ _ ho H locs ls hP hS hL hlen)
  · cases ho
set_option maxHeartbeats 1000000 in
theorem zk_laload {mt : Nat → Option ZT} {cc : ByteArray} {own : String} {rk pc : Nat} (hd : decode cc pc = .ok (.laload, 1)) : ZOK mt cc own rk pc (zo_lald (pc + 1)) := by
  intro p l e R s m args below meth c nL D dA ad A cells slots Q d E hC hE k lo st M o ho hk hr H locs ls hP hS hL hlen
  obtain ⟨hx, hb, hml, hown, hts, hnl, hK, hAd, hSt, hR⟩ := hC
  unfold zo_lald at ho
  split at ho
  · rename_i i a r
    obtain ⟨h1, ho⟩ := zck_some ho
    simp only [Bool.and_eq_true] at h1
    exact va_lald hx hb hK hP a 1 (zat_long (zty_spec h1.1)) rfl (zin_in h1.2) hd (hk _ _ _ _ ho H locs ls hP hS hL hlen)
  · cases ho
set_option maxHeartbeats 1000000 in
theorem zk_aaload {mt : Nat → Option ZT} {cc : ByteArray} {own : String} {rk pc : Nat} {t : Nat} {C : String} (ht : ∀ dA, (zTys dA)[t]? = some (dA t, .object C)) (hd : decode cc pc = .ok (.aaload, 1)) : ZOK mt cc own rk pc (zo_aald t (pc + 1)) := by
  intro p l e R s m args below meth c nL D dA ad A cells slots Q d E hC hE k lo st M o ho hk hr H locs ls hP hS hL hlen
  obtain ⟨hx, hb, hml, hown, hts, hnl, hK, hAd, hSt, hR⟩ := hC
  unfold zo_aald at ho
  split at ho
  · rename_i i a r
    obtain ⟨h1, ho⟩ := zck_some ho
    simp only [Bool.and_eq_true] at h1
    obtain ⟨ts, hy, hl1, hl2⟩ := ztr3_spec h1.1
    have h3 := zin_in h1.2
    have hlt : i.toNatClampNeg < zrl a := Nat.not_le.mp fun q => h3 (Or.inr q)
    refine va_aldq hx hb hK hP a t (zwd_at hy) (ht dA) (by rw [hl1]; exact h3) hd ?_
    rw [hl2 _ hlt]
    exact hk _ _ _ _ ho H locs ls hP hS hL hlen
  · cases ho
set_option maxHeartbeats 1000000 in
theorem zk_iastore {mt : Nat → Option ZT} {cc : ByteArray} {own : String} {rk pc : Nat} (hd : decode cc pc = .ok (.iastore, 1)) : ZOK mt cc own rk pc (zo_iast (pc + 1)) := by
  intro p l e R s m args below meth c nL D dA ad A cells slots Q d E hC hE k lo st M o ho hk hr H locs ls hP hS hL hlen
  obtain ⟨hx, hb, hml, hown, hts, hnl, hK, hAd, hSt, hR⟩ := hC
  unfold zo_iast at ho
  split at ho
  · rename_i x i a r
    obtain ⟨h1, ho⟩ := zck_some ho
    simp only [Bool.and_eq_true] at h1
    refine va_iast hx hb hK hP (zD hAd M) hS a 0 (zat_int (by decide) (zty_spec h1.1)) rfl (zin_in h1.2) hd (fun H1 locs1 hP1 hD1 hS1 => ?_)
    rw [zset_int (by decide) (zty_spec h1.1)] at hP1
    exact hk _ _ _ _ ho H1 locs1 ls hP1 hS1 hL hlen
  · cases ho
set_option maxHeartbeats 1000000 in
theorem zk_lastore {mt : Nat → Option ZT} {cc : ByteArray} {own : String} {rk pc : Nat} (hd : decode cc pc = .ok (.lastore, 1)) : ZOK mt cc own rk pc (zo_last (pc + 1)) := by
  intro p l e R s m args below meth c nL D dA ad A cells slots Q d E hC hE k lo st M o ho hk hr H locs ls hP hS hL hlen
  obtain ⟨hx, hb, hml, hown, hts, hnl, hK, hAd, hSt, hR⟩ := hC
  unfold zo_last at ho
  split at ho
  · rename_i x i a r
    obtain ⟨h1, ho⟩ := zck_some ho
    simp only [Bool.and_eq_true] at h1
    refine va_last hx hb hK hP (zD hAd M) hS a 1 (zat_long (zty_spec h1.1)) rfl (zin_in h1.2) hd (fun H1 locs1 hP1 hD1 hS1 => ?_)
    rw [zset_long (zty_spec h1.1)] at hP1
    exact hk _ _ _ _ ho H1 locs1 ls hP1 hS1 hL hlen
  · cases ho
set_option maxHeartbeats 1000000 in
theorem zk_bastorez {mt : Nat → Option ZT} {cc : ByteArray} {own : String} {rk pc : Nat} (hd : decode cc pc = .ok (.bastore, 1)) : ZOK mt cc own rk pc (zo_zast (pc + 1)) := by
  intro p l e R s m args below meth c nL D dA ad A cells slots Q d E hC hE k lo st M o ho hk hr H locs ls hP hS hL hlen
  obtain ⟨hx, hb, hml, hown, hts, hnl, hK, hAd, hSt, hR⟩ := hC
  unfold zo_zast at ho
  split at ho
  · rename_i x i a r
    obtain ⟨h1, ho⟩ := zck_some ho
    simp only [Bool.and_eq_true] at h1
    refine va_zast hx hb hK hP (zD hAd M) hS a 2 (zat_int (by decide) (zty_spec h1.1.1)) rfl (zin_in h1.1.2) hd (fun H1 locs1 hP1 hD1 hS1 => ?_)
    rw [(zb01_nar h1.2).2.2, zset_int (by decide) (zty_spec h1.1.1)] at hP1
    exact hk _ _ _ _ ho H1 locs1 ls hP1 hS1 hL hlen
  · cases ho
set_option maxHeartbeats 1000000 in
theorem zk_alen {mt : Nat → Option ZT} {cc : ByteArray} {own : String} {rk pc : Nat} {t : Nat} {ty : FieldType} (ht : ∀ dA, (zTys dA)[t]? = some (dA t, ty)) (hd : decode cc pc = .ok (.arraylength, 1)) : ZOK mt cc own rk pc (zo_alen t (pc + 1)) := by
  intro p l e R s m args below meth c nL D dA ad A cells slots Q d E hC hE k lo st M o ho hk hr H locs ls hP hS hL hlen
  obtain ⟨hx, hb, hml, hown, hts, hnl, hK, hAd, hSt, hR⟩ := hC
  unfold zo_alen at ho
  split at ho
  · rename_i a r
    obtain ⟨h1, ho⟩ := zck_some ho
    exact va_alen hx hb hK hP a t (zwd_at (zty_spec h1)) (ht dA) rfl hd (hk _ _ _ _ ho H locs ls hP hS hL hlen)
  · cases ho
def zo_gst (id n : Nat) : ZP := fun E k lo st M => k n lo (.ref id :: st) M
def zo_sald (id : Nat) (xs : List Int32) (n : Nat) : ZP := fun E k lo st M => match st with | .int i :: .ref a :: r => zck (a == id && zin i xs.length) (k n lo (.int (xs.getD i.toNatClampNeg 0) :: r) M) | _ => none
set_option maxHeartbeats 1000000 in
theorem zk_getstatic {mt : Nat → Option ZT} {cc : ByteArray} {own : String} {rk pc : Nat} {id idx : Nat} {C nm : String} {xs : List Int32} (hz : ∀ {ad : Nat → Nat} {A : Nat → Prop} {U : State} {H : Heap}, zSt ad A U H → zS1 ad A U H id C nm xs) (hm : Cond.fieldLink own idx C nm "[I" ∈ zTB) (hd : decode cc pc = .ok (.getstatic idx, 3)) : ZOK mt cc own rk pc (zo_gst id (pc + 3)) := by
  intro p l e R s m args below meth c nL D dA ad A cells slots Q d E hC hE k lo st M o ho hk hr H locs ls hP hS hL hlen
  obtain ⟨hx, hb, hml, hown, hts, hnl, hK, hAd, hSt, hR⟩ := hC
  exact va_gets hx hb (hz hSt).1 hS hown (hts _ hm) (fun _ h => h) hd (hk _ _ _ _ ho H locs ls hP hS hL hlen)
set_option maxHeartbeats 1000000 in
theorem zk_sald {mt : Nat → Option ZT} {cc : ByteArray} {own : String} {rk pc : Nat} {id : Nat} {C nm : String} {xs : List Int32} (hz : ∀ {ad : Nat → Nat} {A : Nat → Prop} {U : State} {H : Heap}, zSt ad A U H → zS1 ad A U H id C nm xs) (hd : decode cc pc = .ok (.iaload, 1)) : ZOK mt cc own rk pc (zo_sald id xs (pc + 1)) := by
  intro p l e R s m args below meth c nL D dA ad A cells slots Q d E hC hE k lo st M o ho hk hr H locs ls hP hS hL hlen
  obtain ⟨hx, hb, hml, hown, hts, hnl, hK, hAd, hSt, hR⟩ := hC
  unfold zo_sald at ho
  split at ho
  · rename_i i a r
    obtain ⟨h1, ho2⟩ := zck_some ho
    simp only [Bool.and_eq_true, beq_iff_eq] at h1
    obtain ⟨rfl, h2⟩ := h1
    exact va_ti hx hb (hz hSt).2 hS (zin_in h2) rfl hd (hk _ _ _ _ ho2 H locs ls hP hS hL hlen)
  · cases ho
def zsw (k : Nat → Option ZO) (x : Int32) (dflt : Nat) : List (Int32 × Nat) → Option ZO
  | [] => k dflt
  | (v, t) :: r => if x = v then k t else zsw k x dflt r
def zo_sw (ps : List (Int32 × Nat)) (d : Nat) : ZP := fun E k lo st M => match st with | .int x :: r => zsw (fun t => k t lo r M) x d ps | _ => none
theorem zsw_spec {k : Nat → Option ZO} {x : Int32} {d : Nat} {o : ZO} : ∀ {ps : List (Int32 × Nat)}, zsw k x d ps = some o → (∃ q ∈ ps, x = q.1 ∧ k q.2 = some o) ∨ ((∀ q ∈ ps, ¬ x = q.1) ∧ k d = some o)
  | [], h => Or.inr ⟨fun q hq => (List.not_mem_nil hq).elim, h⟩
  | (v, t) :: r, h => by
    unfold zsw at h
    split at h
    · rename_i e
      exact Or.inl ⟨(v, t), List.mem_cons_self, e, h⟩
    · rename_i e
      rcases zsw_spec h with ⟨q, hq, h1, h2⟩ | ⟨h1, h2⟩
      · exact Or.inl ⟨q, List.mem_cons_of_mem _ hq, h1, h2⟩
      · refine Or.inr ⟨fun q hq => ?_, h2⟩
        rcases List.mem_cons.mp hq with rfl | hq
        · exact e
        · exact h1 q hq
/-- the pairs of a table: each number from lo on with its target -/
def ztabOK (pc : Nat) (dflt lo hi : Int) (offs : Array Int) (ps : List (Int32 × Nat)) (d : Nat) : Bool :=
  decide ((pc : Int) + dflt = (d : Int)) && (ps.all fun q => decide (lo ≤ q.1.toInt) && decide (q.1.toInt ≤ hi) && (match offs[(q.1.toInt - lo).toNat]? with | some off => decide ((pc : Int) + off = (q.2 : Int)) | none => false)) && decide (hi = lo + ps.length - 1) && decide (0 < ps.length) && decide (-1000 ≤ lo ∧ hi ≤ 1000) && (ps.zipIdx.all fun q => decide (q.1.1.toInt = lo + q.2))
set_option maxHeartbeats 1000000 in
theorem zk_table {mt : Nat → Option ZT} {cc : ByteArray} {own : String} {rk pc : Nat} {dflt lw hi : Int} {offs : Array Int} {ps : List (Int32 × Nat)} {dt len : Nat} (ht : ztabOK pc dflt lw hi offs ps dt = true) (hd : decode cc pc = .ok (.tableswitch dflt lw hi offs, len)) : ZOK mt cc own rk pc (zo_sw ps dt) := by
  intro p l e R s m args below meth c nL D dA ad A cells slots Q d E hC hE k lo st M o ho hk hr H locs ls hP hS hL hlen
  obtain ⟨hx, hb, hml, hown, hts, hnl, hK, hAd, hSt, hR⟩ := hC
  unfold zo_sw at ho
  split at ho
  · rename_i x r
    simp only [ztabOK, Bool.and_eq_true, decide_eq_true_eq, List.all_eq_true] at ht
    obtain ⟨⟨⟨⟨⟨t1, t2⟩, t3⟩, t4⟩, t5⟩, t6⟩ := ht
    rcases zsw_spec ho with ⟨q, hq, h1, h2⟩ | ⟨h1, h2⟩
    · obtain ⟨⟨u1, u2⟩, u3⟩ := t2 q hq
      subst h1
      split at u3
      · rename_i off hoff
        exact lv_tableIn hx hb hd (by omega) (by omega) hoff (by simpa using u3) (hk _ _ _ _ h2 H locs ls hP hS hL hlen)
      · cases u3
    · refine lv_tableOut hx hb hd ?_ t1 (hk _ _ _ _ h2 H locs ls hP hS hL hlen)
      refine Classical.byContradiction fun hn => ?_
      have hn1 : lw ≤ x.toInt := by omega
      have hn2 : x.toInt ≤ hi := by omega
      have hlt : (x.toInt - lw).toNat < ps.length := by omega
      have hm : (ps[(x.toInt - lw).toNat], (x.toInt - lw).toNat) ∈ ps.zipIdx := by
        rw [List.mem_zipIdx_iff_getElem?]
        exact List.getElem?_eq_getElem hlt
      have h6 := t6 _ hm
      dsimp only at h6
      refine h1 _ (List.getElem_mem hlt) (Int32.toInt_inj.mp ?_)
      rw [h6]
      omega
  · cases ho
/-- the pairs of a lookup -/
def zlkOK (pc : Nat) (dflt : Int) (os : List (Int × Int)) (ps : List (Int32 × Nat)) (d : Nat) : Bool :=
  decide ((pc : Int) + dflt = (d : Int)) && decide (ps.map (fun q => q.1.toInt) = os.map (fun q => q.1)) && decide (ps.map (fun q => (q.2 : Int)) = os.map (fun q => (pc : Int) + q.2))
section ZC
variable {D : va_G} {dA : Nat → ClassId} {ad : Nat → Nat} {A : Nat → Prop}
theorem zPc_blind (as : List Value) (M : ZM) : FrameBlind (zPc D dA ad A as M) := by
  intro a U g mk q
  obtain ⟨q0, qP, qK, qN, qS⟩ := q
  exact ⟨q0, qP, va_K.moved (u := U) (U := U.calling g mk a) (Vm.Alike.refl U.vm) qK, fun w hw => zNw_same (s := U) (U := U.calling g mk a) hw rfl (qN w hw), qS.moved (U := U.calling g mk a) (Vm.Alike.refl U.vm) (fun _ _ _ => rfl)⟩
theorem zPc_here {s U : State} {H : Heap} {locs : List Loc} {as : List Value} {M : ZM} {av : Array Value} (ha : av = (as.map (ztr ad)).toArray) (hK : va_K D vwCl (zTys dA) s) (hnl : ∀ w ∈ zNL, va_Nw w s) (hSt : zSt ad A s s.heap) (hP : va_P D vwCl (zwd dA ad M) H) (hS : va_S A s.heap H locs) (hU : U.heap = H) (hW : s.WarmedH U.vm) : zPc D dA ad A as M av U :=
  ⟨ha, by rw [hU]; exact hP, va_K.moved hW.alike hK, fun w hw => zNw_warm hw hW (hnl w hw), hSt.moved hW.alike (fun a h1 h2 => by rw [hU]; exact hS.2.1 a h1 h2)⟩
theorem zstk {st : List Value} {n : Nat} : st.map (ztr ad) = ((st.take n).reverse.map (ztr ad)).reverse ++ (st.drop n).map (ztr ad) := by
  rw [← List.map_reverse, List.reverse_reverse, ← List.map_append, List.take_append_drop]
end ZC
def zo_csi (y n nx : Nat) : ZP := fun E k lo st M => zck (decide (n ≤ st.length) && decide (((st.drop n).map fun v => v.category).sum ≤ 8)) ((E.1 y (st.take n).reverse M).bind fun q => k nx lo (.int q.1 :: st.drop n) q.2)
def zo_cvi (ci y n nx : Nat) : ZP := fun E k lo st M => match st.drop n with | .ref b :: r => zck (zis b ci && (decide (n ≤ st.length) && decide ((r.map fun v => v.category).sum ≤ 8))) ((E.1 y (.ref b :: (st.take n).reverse) M).bind fun q => k nx lo (.int q.1 :: r) q.2) | _ => none
set_option maxHeartbeats 1000000 in
theorem zk_csi {mt : Nat → Option ZT} {cc : ByteArray} {own : String} {rk pc : Nat} (y : Nat) {Y : MethodName} {by_ : ByteArray} {mL : Nat} {rt : Option FieldType} (hy : mt y = some (Y, by_, mL, rt)) {idx n : Nat} (hm : Cond.methodLink own idx Y ∈ zTB) (hst : Cond.static Y ∈ zTB) (hds : Y.cls ≠ "java/lang/invoke/MethodHandle" ∧ Y.cls ≠ "java/lang/invoke/VarHandle" ∧ (parseMethodDescriptor Y.desc).map (fun d => d.parameters.length) = some n) (hmL : mL ≤ 45) (hcd : Cond.code Y by_ mL rt ∈ zTB) (hini : Cond.initialized Y.cls ∈ zTB) (hd : decode cc pc = .ok (.invokestatic idx, 3)) : ZOK mt cc own rk pc (zo_csi y n (pc + 3)) := by
  intro p l e R s m args below meth c nL D dA ad A cells slots Q d E hC hE k lo st M o ho hk hr H locs ls hP hS hL hlen
  obtain ⟨hx, hb, hml, hown, hts, hnl, hK, hAd, hSt, hR⟩ := hC
  unfold zo_csi at ho
  obtain ⟨h1, ho⟩ := zck_some ho
  simp only [Bool.and_eq_true, decide_eq_true_eq] at h1
  obtain ⟨q, hq, ho⟩ := Option.bind_eq_some_iff.mp ho
  rcases q with ⟨r1, M1⟩
  have hM := (hE y _ hy _ _).1 r1 M1 hq
  refine va_calli (va_runS (rest := (st.drop n).map (ztr ad)) (As := (st.take n).reverse.map (ztr ad)) (n := n) ⟨hx, hb, hml, hown, hts⟩ hM ⟨callB_of n hts (zTB_cons hcd) rfl rfl rfl (hts _ hini) (hts _ hm) hds ⟨by simpa [zrm] using hR.1, by have := hR.2.1; simp only [zrm]; omega⟩, hts _ hst⟩ ⟨zPc_blind _ _, fun U hU hW => zPc_here rfl hK hnl hSt hP hS hU hW⟩ rfl (by simp; omega) hL.1 zstk (lv_room (by rw [ztr_sum]; exact h1.2)) hd ⟨hR.2.2.1, hR.2.2.2⟩) hS (fun q _ h => h) (fun q h => h) (fun r0 u t H1 locs1 ht hvm hp hB hz hk1 hS1 => ?_)
  subst hp
  exact hk _ _ _ _ ho H1 locs1 ls (by rw [← ht]; exact hB) hS1 hL hlen
set_option maxHeartbeats 1000000 in
theorem zk_cvi {mt : Nat → Option ZT} {cc : ByteArray} {own : String} {rk pc : Nat} (y : Nat) {Y : MethodName} {by_ : ByteArray} {mL : Nat} {rt : Option FieldType} (hy : mt y = some (Y, by_, mL, rt)) {idx n : Nat} {ci : Nat} {T : u_T} {N : Nat} (hc : vwCl[ci]? = some (Y.cls, T, N)) (hm : Cond.methodLink own idx Y ∈ zTB) (hin2 : Cond.instanceMethod Y ∈ zTB) (hsel : Cond.selects Y.cls Y Y ∈ zTB) (hds : Y.cls ≠ "java/lang/invoke/MethodHandle" ∧ Y.cls ≠ "java/lang/invoke/VarHandle" ∧ (parseMethodDescriptor Y.desc).map (fun d => d.parameters.length) = some n) (hmL : mL ≤ 45) (hcd : Cond.code Y by_ mL rt ∈ zTB) (hini : Cond.initialized Y.cls ∈ zTB) (hd : decode cc pc = .ok (.invokevirtual idx, 3)) : ZOK mt cc own rk pc (zo_cvi ci y n (pc + 3)) := by
  intro p l e R s m args below meth c nL D dA ad A cells slots Q d E hC hE k lo st M o ho hk hr H locs ls hP hS hL hlen
  obtain ⟨hx, hb, hml, hown, hts, hnl, hK, hAd, hSt, hR⟩ := hC
  unfold zo_cvi at ho
  split at ho
  · rename_i b r hdr
    obtain ⟨h1, ho⟩ := zck_some ho
    simp only [Bool.and_eq_true, decide_eq_true_eq] at h1
    obtain ⟨q, hq, ho⟩ := Option.bind_eq_some_iff.mp ho
    rcases q with ⟨r1, M1⟩
    have hM := (hE y _ hy _ _).1 r1 M1 hq
    obtain ⟨fs, hyb⟩ := zis_spec h1.1
    have hstk : st.map (ztr ad) = ((st.take n).reverse.map (ztr ad)).reverse ++ .ref (ad b) :: r.map (ztr ad) := by
      rw [zstk (n := n), hdr]
      rfl
    refine va_calli (va_runV (C := Y.cls) (b := ad b) (rest := r.map (ztr ad)) (As := (st.take n).reverse.map (ztr ad)) (n := n) ⟨hx, hb, hml, hown, hts⟩ hM ⟨callB_of n hts (zTB_cons hcd) rfl rfl rfl (hts _ hini) (hts _ hm) hds ⟨by simpa [zrm] using hR.1, by have := hR.2.1; simp only [zrm]; omega⟩, hts _ hin2, hts _ hsel⟩ ⟨zPc_blind _ _, va_recv hK hP hc (zwd_at hyb), fun U hU hW => zPc_here rfl hK hnl hSt hP hS hU hW⟩ rfl (by simp; omega) hL.1 hstk (lv_room (by rw [ztr_sum]; exact h1.2.2)) hd ⟨hR.2.2.1, hR.2.2.2⟩) hS (fun q _ h => h) (fun q h => h) (fun r0 u t H1 locs1 ht hvm hp hB hz hk1 hS1 => ?_)
    subst hp
    exact hk _ _ _ _ ho H1 locs1 ls (by rw [← ht]; exact hB) hS1 hL hlen
  · cases ho
set_option maxHeartbeats 1000000 in
theorem zk_csiN {mt : Nat → Option ZT} {cc : ByteArray} {own : String} {rk pc : Nat} (y : Nat) {Y : MethodName} {by_ : ByteArray} {mL : Nat} {rt : Option FieldType} (hy : mt y = some (Y, by_, mL, rt)) {idx n : Nat} {host : String} (hm : Cond.methodLinkNest own idx Y host ∈ zNL) (hst : Cond.static Y ∈ zTB) (hds : Y.cls ≠ "java/lang/invoke/MethodHandle" ∧ Y.cls ≠ "java/lang/invoke/VarHandle" ∧ (parseMethodDescriptor Y.desc).map (fun d => d.parameters.length) = some n) (hmL : mL ≤ 45) (hcd : Cond.code Y by_ mL rt ∈ zTB) (hini : Cond.initialized Y.cls ∈ zTB) (hd : decode cc pc = .ok (.invokestatic idx, 3)) : ZOK mt cc own rk pc (zo_csi y n (pc + 3)) := by
  intro p l e R s m args below meth c nL D dA ad A cells slots Q d E hC hE k lo st M o ho hk hr H locs ls hP hS hL hlen
  obtain ⟨hx, hb, hml, hown, hts, hnl, hK, hAd, hSt, hR⟩ := hC
  unfold zo_csi at ho
  obtain ⟨h1, ho⟩ := zck_some ho
  simp only [Bool.and_eq_true, decide_eq_true_eq] at h1
  obtain ⟨q, hq, ho⟩ := Option.bind_eq_some_iff.mp ho
  rcases q with ⟨r1, M1⟩
  have hM := (hE y _ hy _ _).1 r1 M1 hq
  refine va_calli (va_runSN (rest := (st.drop n).map (ztr ad)) (As := (st.take n).reverse.map (ztr ad)) (n := n) ⟨hx, hb, hml, hown, hts⟩ hM ⟨va_cnB n hts (zTB_cons hcd) rfl rfl rfl (hnl _ hm) (hts _ hini) hds ⟨by simpa [zrm] using hR.1, by have := hR.2.1; simp only [zrm]; omega⟩, hts _ hst, trivial⟩ ⟨zPc_blind _ _, fun U hU hW => zPc_here rfl hK hnl hSt hP hS hU hW⟩ rfl (by simp; omega) hL.1 zstk (lv_room (by rw [ztr_sum]; exact h1.2)) hd ⟨hR.2.2.1, hR.2.2.2⟩) hS (fun q _ h => h) (fun q h => h) (fun r0 u t H1 locs1 ht hvm hp hB hz hk1 hS1 => ?_)
  subst hp
  exact hk _ _ _ _ ho H1 locs1 ls (by rw [← ht]; exact hB) hS1 hL hlen
set_option maxHeartbeats 1000000 in
theorem zk_cviN {mt : Nat → Option ZT} {cc : ByteArray} {own : String} {rk pc : Nat} (y : Nat) {Y : MethodName} {by_ : ByteArray} {mL : Nat} {rt : Option FieldType} (hy : mt y = some (Y, by_, mL, rt)) {idx n : Nat} {ci : Nat} {T : u_T} {N : Nat} (hc : vwCl[ci]? = some (Y.cls, T, N)) {host : String} (hm : Cond.methodLinkNest own idx Y host ∈ zNL) (hin2 : Cond.instanceMethod Y ∈ zTB) (hsel : Cond.selects Y.cls Y Y ∈ zTB) (hds : Y.cls ≠ "java/lang/invoke/MethodHandle" ∧ Y.cls ≠ "java/lang/invoke/VarHandle" ∧ (parseMethodDescriptor Y.desc).map (fun d => d.parameters.length) = some n) (hmL : mL ≤ 45) (hcd : Cond.code Y by_ mL rt ∈ zTB) (hini : Cond.initialized Y.cls ∈ zTB) (hd : decode cc pc = .ok (.invokevirtual idx, 3)) : ZOK mt cc own rk pc (zo_cvi ci y n (pc + 3)) := by
  intro p l e R s m args below meth c nL D dA ad A cells slots Q d E hC hE k lo st M o ho hk hr H locs ls hP hS hL hlen
  obtain ⟨hx, hb, hml, hown, hts, hnl, hK, hAd, hSt, hR⟩ := hC
  unfold zo_cvi at ho
  split at ho
  · rename_i b r hdr
    obtain ⟨h1, ho⟩ := zck_some ho
    simp only [Bool.and_eq_true, decide_eq_true_eq] at h1
    obtain ⟨q, hq, ho⟩ := Option.bind_eq_some_iff.mp ho
    rcases q with ⟨r1, M1⟩
    have hM := (hE y _ hy _ _).1 r1 M1 hq
    obtain ⟨fs, hyb⟩ := zis_spec h1.1
    have hstk : st.map (ztr ad) = ((st.take n).reverse.map (ztr ad)).reverse ++ .ref (ad b) :: r.map (ztr ad) := by
      rw [zstk (n := n), hdr]
      rfl
    refine va_calli (va_runVN (C := Y.cls) (b := ad b) (rest := r.map (ztr ad)) (As := (st.take n).reverse.map (ztr ad)) (n := n) ⟨hx, hb, hml, hown, hts⟩ hM ⟨va_cnB n hts (zTB_cons hcd) rfl rfl rfl (hnl _ hm) (hts _ hini) hds ⟨by simpa [zrm] using hR.1, by have := hR.2.1; simp only [zrm]; omega⟩, hts _ hin2, hts _ hsel⟩ ⟨zPc_blind _ _, va_recv hK hP hc (zwd_at hyb), fun U hU hW => zPc_here rfl hK hnl hSt hP hS hU hW⟩ rfl (by simp; omega) hL.1 hstk (lv_room (by rw [ztr_sum]; exact h1.2.2)) hd ⟨hR.2.2.1, hR.2.2.2⟩) hS (fun q _ h => h) (fun q h => h) (fun r0 u t H1 locs1 ht hvm hp hB hz hk1 hS1 => ?_)
    subst hp
    exact hk _ _ _ _ ho H1 locs1 ls (by rw [← ht]; exact hB) hS1 hL hlen
  · cases ho
def zo_csl (y n nx : Nat) : ZP := fun E k lo st M => zck (decide (n ≤ st.length) && decide (((st.drop n).map fun v => v.category).sum ≤ 8)) ((E.2.1 y (st.take n).reverse M).bind fun q => k nx lo (.long q.1 :: st.drop n) q.2)
def zo_cvl (ci y n nx : Nat) : ZP := fun E k lo st M => match st.drop n with | .ref b :: r => zck (zis b ci && (decide (n ≤ st.length) && decide ((r.map fun v => v.category).sum ≤ 8))) ((E.2.1 y (.ref b :: (st.take n).reverse) M).bind fun q => k nx lo (.long q.1 :: r) q.2) | _ => none
set_option maxHeartbeats 1000000 in
theorem zk_csl {mt : Nat → Option ZT} {cc : ByteArray} {own : String} {rk pc : Nat} (y : Nat) {Y : MethodName} {by_ : ByteArray} {mL : Nat} {rt : Option FieldType} (hy : mt y = some (Y, by_, mL, rt)) {idx n : Nat} (hm : Cond.methodLink own idx Y ∈ zTB) (hst : Cond.static Y ∈ zTB) (hds : Y.cls ≠ "java/lang/invoke/MethodHandle" ∧ Y.cls ≠ "java/lang/invoke/VarHandle" ∧ (parseMethodDescriptor Y.desc).map (fun d => d.parameters.length) = some n) (hmL : mL ≤ 45) (hcd : Cond.code Y by_ mL rt ∈ zTB) (hini : Cond.initialized Y.cls ∈ zTB) (hd : decode cc pc = .ok (.invokestatic idx, 3)) : ZOK mt cc own rk pc (zo_csl y n (pc + 3)) := by
  intro p l e R s m args below meth c nL D dA ad A cells slots Q d E hC hE k lo st M o ho hk hr H locs ls hP hS hL hlen
  obtain ⟨hx, hb, hml, hown, hts, hnl, hK, hAd, hSt, hR⟩ := hC
  unfold zo_csl at ho
  obtain ⟨h1, ho⟩ := zck_some ho
  simp only [Bool.and_eq_true, decide_eq_true_eq] at h1
  obtain ⟨q, hq, ho⟩ := Option.bind_eq_some_iff.mp ho
  rcases q with ⟨r1, M1⟩
  have hM := (hE y _ hy _ _).2.1 r1 M1 hq
  refine va_calll (va_runS (rest := (st.drop n).map (ztr ad)) (As := (st.take n).reverse.map (ztr ad)) (n := n) ⟨hx, hb, hml, hown, hts⟩ hM ⟨callB_of n hts (zTB_cons hcd) rfl rfl rfl (hts _ hini) (hts _ hm) hds ⟨by simpa [zrm] using hR.1, by have := hR.2.1; simp only [zrm]; omega⟩, hts _ hst⟩ ⟨zPc_blind _ _, fun U hU hW => zPc_here rfl hK hnl hSt hP hS hU hW⟩ rfl (by simp; omega) hL.1 zstk (lv_room (by rw [ztr_sum]; exact h1.2)) hd ⟨hR.2.2.1, hR.2.2.2⟩) hS (fun q _ h => h) (fun q h => h) (fun r0 u t H1 locs1 ht hvm hp hB hz hk1 hS1 => ?_)
  subst hp
  exact hk _ _ _ _ ho H1 locs1 ls (by rw [← ht]; exact hB) hS1 hL hlen
set_option maxHeartbeats 1000000 in
theorem zk_cvl {mt : Nat → Option ZT} {cc : ByteArray} {own : String} {rk pc : Nat} (y : Nat) {Y : MethodName} {by_ : ByteArray} {mL : Nat} {rt : Option FieldType} (hy : mt y = some (Y, by_, mL, rt)) {idx n : Nat} {ci : Nat} {T : u_T} {N : Nat} (hc : vwCl[ci]? = some (Y.cls, T, N)) (hm : Cond.methodLink own idx Y ∈ zTB) (hin2 : Cond.instanceMethod Y ∈ zTB) (hsel : Cond.selects Y.cls Y Y ∈ zTB) (hds : Y.cls ≠ "java/lang/invoke/MethodHandle" ∧ Y.cls ≠ "java/lang/invoke/VarHandle" ∧ (parseMethodDescriptor Y.desc).map (fun d => d.parameters.length) = some n) (hmL : mL ≤ 45) (hcd : Cond.code Y by_ mL rt ∈ zTB) (hini : Cond.initialized Y.cls ∈ zTB) (hd : decode cc pc = .ok (.invokevirtual idx, 3)) : ZOK mt cc own rk pc (zo_cvl ci y n (pc + 3)) := by
  intro p l e R s m args below meth c nL D dA ad A cells slots Q d E hC hE k lo st M o ho hk hr H locs ls hP hS hL hlen
  obtain ⟨hx, hb, hml, hown, hts, hnl, hK, hAd, hSt, hR⟩ := hC
  unfold zo_cvl at ho
  split at ho
  · rename_i b r hdr
    obtain ⟨h1, ho⟩ := zck_some ho
    simp only [Bool.and_eq_true, decide_eq_true_eq] at h1
    obtain ⟨q, hq, ho⟩ := Option.bind_eq_some_iff.mp ho
    rcases q with ⟨r1, M1⟩
    have hM := (hE y _ hy _ _).2.1 r1 M1 hq
    obtain ⟨fs, hyb⟩ := zis_spec h1.1
    have hstk : st.map (ztr ad) = ((st.take n).reverse.map (ztr ad)).reverse ++ .ref (ad b) :: r.map (ztr ad) := by
      rw [zstk (n := n), hdr]
      rfl
    refine va_calll (va_runV (C := Y.cls) (b := ad b) (rest := r.map (ztr ad)) (As := (st.take n).reverse.map (ztr ad)) (n := n) ⟨hx, hb, hml, hown, hts⟩ hM ⟨callB_of n hts (zTB_cons hcd) rfl rfl rfl (hts _ hini) (hts _ hm) hds ⟨by simpa [zrm] using hR.1, by have := hR.2.1; simp only [zrm]; omega⟩, hts _ hin2, hts _ hsel⟩ ⟨zPc_blind _ _, va_recv hK hP hc (zwd_at hyb), fun U hU hW => zPc_here rfl hK hnl hSt hP hS hU hW⟩ rfl (by simp; omega) hL.1 hstk (lv_room (by rw [ztr_sum]; exact h1.2.2)) hd ⟨hR.2.2.1, hR.2.2.2⟩) hS (fun q _ h => h) (fun q h => h) (fun r0 u t H1 locs1 ht hvm hp hB hz hk1 hS1 => ?_)
    subst hp
    exact hk _ _ _ _ ho H1 locs1 ls (by rw [← ht]; exact hB) hS1 hL hlen
  · cases ho
set_option maxHeartbeats 1000000 in
theorem zk_cslN {mt : Nat → Option ZT} {cc : ByteArray} {own : String} {rk pc : Nat} (y : Nat) {Y : MethodName} {by_ : ByteArray} {mL : Nat} {rt : Option FieldType} (hy : mt y = some (Y, by_, mL, rt)) {idx n : Nat} {host : String} (hm : Cond.methodLinkNest own idx Y host ∈ zNL) (hst : Cond.static Y ∈ zTB) (hds : Y.cls ≠ "java/lang/invoke/MethodHandle" ∧ Y.cls ≠ "java/lang/invoke/VarHandle" ∧ (parseMethodDescriptor Y.desc).map (fun d => d.parameters.length) = some n) (hmL : mL ≤ 45) (hcd : Cond.code Y by_ mL rt ∈ zTB) (hini : Cond.initialized Y.cls ∈ zTB) (hd : decode cc pc = .ok (.invokestatic idx, 3)) : ZOK mt cc own rk pc (zo_csl y n (pc + 3)) := by
  intro p l e R s m args below meth c nL D dA ad A cells slots Q d E hC hE k lo st M o ho hk hr H locs ls hP hS hL hlen
  obtain ⟨hx, hb, hml, hown, hts, hnl, hK, hAd, hSt, hR⟩ := hC
  unfold zo_csl at ho
  obtain ⟨h1, ho⟩ := zck_some ho
  simp only [Bool.and_eq_true, decide_eq_true_eq] at h1
  obtain ⟨q, hq, ho⟩ := Option.bind_eq_some_iff.mp ho
  rcases q with ⟨r1, M1⟩
  have hM := (hE y _ hy _ _).2.1 r1 M1 hq
  refine va_calll (va_runSN (rest := (st.drop n).map (ztr ad)) (As := (st.take n).reverse.map (ztr ad)) (n := n) ⟨hx, hb, hml, hown, hts⟩ hM ⟨va_cnB n hts (zTB_cons hcd) rfl rfl rfl (hnl _ hm) (hts _ hini) hds ⟨by simpa [zrm] using hR.1, by have := hR.2.1; simp only [zrm]; omega⟩, hts _ hst, trivial⟩ ⟨zPc_blind _ _, fun U hU hW => zPc_here rfl hK hnl hSt hP hS hU hW⟩ rfl (by simp; omega) hL.1 zstk (lv_room (by rw [ztr_sum]; exact h1.2)) hd ⟨hR.2.2.1, hR.2.2.2⟩) hS (fun q _ h => h) (fun q h => h) (fun r0 u t H1 locs1 ht hvm hp hB hz hk1 hS1 => ?_)
  subst hp
  exact hk _ _ _ _ ho H1 locs1 ls (by rw [← ht]; exact hB) hS1 hL hlen
set_option maxHeartbeats 1000000 in
theorem zk_cvlN {mt : Nat → Option ZT} {cc : ByteArray} {own : String} {rk pc : Nat} (y : Nat) {Y : MethodName} {by_ : ByteArray} {mL : Nat} {rt : Option FieldType} (hy : mt y = some (Y, by_, mL, rt)) {idx n : Nat} {ci : Nat} {T : u_T} {N : Nat} (hc : vwCl[ci]? = some (Y.cls, T, N)) {host : String} (hm : Cond.methodLinkNest own idx Y host ∈ zNL) (hin2 : Cond.instanceMethod Y ∈ zTB) (hsel : Cond.selects Y.cls Y Y ∈ zTB) (hds : Y.cls ≠ "java/lang/invoke/MethodHandle" ∧ Y.cls ≠ "java/lang/invoke/VarHandle" ∧ (parseMethodDescriptor Y.desc).map (fun d => d.parameters.length) = some n) (hmL : mL ≤ 45) (hcd : Cond.code Y by_ mL rt ∈ zTB) (hini : Cond.initialized Y.cls ∈ zTB) (hd : decode cc pc = .ok (.invokevirtual idx, 3)) : ZOK mt cc own rk pc (zo_cvl ci y n (pc + 3)) := by
  intro p l e R s m args below meth c nL D dA ad A cells slots Q d E hC hE k lo st M o ho hk hr H locs ls hP hS hL hlen
  obtain ⟨hx, hb, hml, hown, hts, hnl, hK, hAd, hSt, hR⟩ := hC
  unfold zo_cvl at ho
  split at ho
  · rename_i b r hdr
    obtain ⟨h1, ho⟩ := zck_some ho
    simp only [Bool.and_eq_true, decide_eq_true_eq] at h1
    obtain ⟨q, hq, ho⟩ := Option.bind_eq_some_iff.mp ho
    rcases q with ⟨r1, M1⟩
    have hM := (hE y _ hy _ _).2.1 r1 M1 hq
    obtain ⟨fs, hyb⟩ := zis_spec h1.1
    have hstk : st.map (ztr ad) = ((st.take n).reverse.map (ztr ad)).reverse ++ .ref (ad b) :: r.map (ztr ad) := by
      rw [zstk (n := n), hdr]
      rfl
    refine va_calll (va_runVN (C := Y.cls) (b := ad b) (rest := r.map (ztr ad)) (As := (st.take n).reverse.map (ztr ad)) (n := n) ⟨hx, hb, hml, hown, hts⟩ hM ⟨va_cnB n hts (zTB_cons hcd) rfl rfl rfl (hnl _ hm) (hts _ hini) hds ⟨by simpa [zrm] using hR.1, by have := hR.2.1; simp only [zrm]; omega⟩, hts _ hin2, hts _ hsel⟩ ⟨zPc_blind _ _, va_recv hK hP hc (zwd_at hyb), fun U hU hW => zPc_here rfl hK hnl hSt hP hS hU hW⟩ rfl (by simp; omega) hL.1 hstk (lv_room (by rw [ztr_sum]; exact h1.2.2)) hd ⟨hR.2.2.1, hR.2.2.2⟩) hS (fun q _ h => h) (fun q h => h) (fun r0 u t H1 locs1 ht hvm hp hB hz hk1 hS1 => ?_)
    subst hp
    exact hk _ _ _ _ ho H1 locs1 ls (by rw [← ht]; exact hB) hS1 hL hlen
  · cases ho
def zo_csv (y n nx : Nat) : ZP := fun E k lo st M => zck (decide (n ≤ st.length) && decide (((st.drop n).map fun v => v.category).sum ≤ 8)) ((E.2.2 y (st.take n).reverse M).bind fun q => k nx lo (st.drop n) q)
def zo_cvv (ci y n nx : Nat) : ZP := fun E k lo st M => match st.drop n with | .ref b :: r => zck (zis b ci && (decide (n ≤ st.length) && decide ((r.map fun v => v.category).sum ≤ 8))) ((E.2.2 y (.ref b :: (st.take n).reverse) M).bind fun q => k nx lo (r) q) | _ => none
set_option maxHeartbeats 1000000 in
theorem zk_csv {mt : Nat → Option ZT} {cc : ByteArray} {own : String} {rk pc : Nat} (y : Nat) {Y : MethodName} {by_ : ByteArray} {mL : Nat} {rt : Option FieldType} (hy : mt y = some (Y, by_, mL, rt)) {idx n : Nat} (hm : Cond.methodLink own idx Y ∈ zTB) (hst : Cond.static Y ∈ zTB) (hds : Y.cls ≠ "java/lang/invoke/MethodHandle" ∧ Y.cls ≠ "java/lang/invoke/VarHandle" ∧ (parseMethodDescriptor Y.desc).map (fun d => d.parameters.length) = some n) (hmL : mL ≤ 45) (hcd : Cond.code Y by_ mL rt ∈ zTB) (hini : Cond.initialized Y.cls ∈ zTB) (hd : decode cc pc = .ok (.invokestatic idx, 3)) : ZOK mt cc own rk pc (zo_csv y n (pc + 3)) := by
  intro p l e R s m args below meth c nL D dA ad A cells slots Q d E hC hE k lo st M o ho hk hr H locs ls hP hS hL hlen
  obtain ⟨hx, hb, hml, hown, hts, hnl, hK, hAd, hSt, hR⟩ := hC
  unfold zo_csv at ho
  obtain ⟨h1, ho⟩ := zck_some ho
  simp only [Bool.and_eq_true, decide_eq_true_eq] at h1
  obtain ⟨q, hq, ho⟩ := Option.bind_eq_some_iff.mp ho
  obtain ⟨M1, rfl⟩ : ∃ z, z = q := ⟨_, rfl⟩
  have hM := (hE y _ hy _ _).2.2 M1 hq
  refine va_callv (va_runS (rest := (st.drop n).map (ztr ad)) (As := (st.take n).reverse.map (ztr ad)) (n := n) ⟨hx, hb, hml, hown, hts⟩ hM ⟨callB_of n hts (zTB_cons hcd) rfl rfl rfl (hts _ hini) (hts _ hm) hds ⟨by simpa [zrm] using hR.1, by have := hR.2.1; simp only [zrm]; omega⟩, hts _ hst⟩ ⟨zPc_blind _ _, fun U hU hW => zPc_here rfl hK hnl hSt hP hS hU hW⟩ rfl (by simp; omega) hL.1 zstk (lv_room (by rw [ztr_sum]; exact h1.2)) hd ⟨hR.2.2.1, hR.2.2.2⟩) hS (fun q _ h => h) (fun q h => h) (fun u t H1 locs1 ht hvm hp hB hz hk1 hS1 => ?_)
  exact hk _ _ _ _ ho H1 locs1 ls (by rw [← ht]; exact hB) hS1 hL hlen
set_option maxHeartbeats 1000000 in
theorem zk_cvv {mt : Nat → Option ZT} {cc : ByteArray} {own : String} {rk pc : Nat} (y : Nat) {Y : MethodName} {by_ : ByteArray} {mL : Nat} {rt : Option FieldType} (hy : mt y = some (Y, by_, mL, rt)) {idx n : Nat} {ci : Nat} {T : u_T} {N : Nat} (hc : vwCl[ci]? = some (Y.cls, T, N)) (hm : Cond.methodLink own idx Y ∈ zTB) (hin2 : Cond.instanceMethod Y ∈ zTB) (hsel : Cond.selects Y.cls Y Y ∈ zTB) (hds : Y.cls ≠ "java/lang/invoke/MethodHandle" ∧ Y.cls ≠ "java/lang/invoke/VarHandle" ∧ (parseMethodDescriptor Y.desc).map (fun d => d.parameters.length) = some n) (hmL : mL ≤ 45) (hcd : Cond.code Y by_ mL rt ∈ zTB) (hini : Cond.initialized Y.cls ∈ zTB) (hd : decode cc pc = .ok (.invokevirtual idx, 3)) : ZOK mt cc own rk pc (zo_cvv ci y n (pc + 3)) := by
  intro p l e R s m args below meth c nL D dA ad A cells slots Q d E hC hE k lo st M o ho hk hr H locs ls hP hS hL hlen
  obtain ⟨hx, hb, hml, hown, hts, hnl, hK, hAd, hSt, hR⟩ := hC
  unfold zo_cvv at ho
  split at ho
  · rename_i b r hdr
    obtain ⟨h1, ho⟩ := zck_some ho
    simp only [Bool.and_eq_true, decide_eq_true_eq] at h1
    obtain ⟨q, hq, ho⟩ := Option.bind_eq_some_iff.mp ho
    obtain ⟨M1, rfl⟩ : ∃ z, z = q := ⟨_, rfl⟩
    have hM := (hE y _ hy _ _).2.2 M1 hq
    obtain ⟨fs, hyb⟩ := zis_spec h1.1
    have hstk : st.map (ztr ad) = ((st.take n).reverse.map (ztr ad)).reverse ++ .ref (ad b) :: r.map (ztr ad) := by
      rw [zstk (n := n), hdr]
      rfl
    refine va_callv (va_runV (C := Y.cls) (b := ad b) (rest := r.map (ztr ad)) (As := (st.take n).reverse.map (ztr ad)) (n := n) ⟨hx, hb, hml, hown, hts⟩ hM ⟨callB_of n hts (zTB_cons hcd) rfl rfl rfl (hts _ hini) (hts _ hm) hds ⟨by simpa [zrm] using hR.1, by have := hR.2.1; simp only [zrm]; omega⟩, hts _ hin2, hts _ hsel⟩ ⟨zPc_blind _ _, va_recv hK hP hc (zwd_at hyb), fun U hU hW => zPc_here rfl hK hnl hSt hP hS hU hW⟩ rfl (by simp; omega) hL.1 hstk (lv_room (by rw [ztr_sum]; exact h1.2.2)) hd ⟨hR.2.2.1, hR.2.2.2⟩) hS (fun q _ h => h) (fun q h => h) (fun u t H1 locs1 ht hvm hp hB hz hk1 hS1 => ?_)
    exact hk _ _ _ _ ho H1 locs1 ls (by rw [← ht]; exact hB) hS1 hL hlen
  · cases ho
set_option maxHeartbeats 1000000 in
theorem zk_csvN {mt : Nat → Option ZT} {cc : ByteArray} {own : String} {rk pc : Nat} (y : Nat) {Y : MethodName} {by_ : ByteArray} {mL : Nat} {rt : Option FieldType} (hy : mt y = some (Y, by_, mL, rt)) {idx n : Nat} {host : String} (hm : Cond.methodLinkNest own idx Y host ∈ zNL) (hst : Cond.static Y ∈ zTB) (hds : Y.cls ≠ "java/lang/invoke/MethodHandle" ∧ Y.cls ≠ "java/lang/invoke/VarHandle" ∧ (parseMethodDescriptor Y.desc).map (fun d => d.parameters.length) = some n) (hmL : mL ≤ 45) (hcd : Cond.code Y by_ mL rt ∈ zTB) (hini : Cond.initialized Y.cls ∈ zTB) (hd : decode cc pc = .ok (.invokestatic idx, 3)) : ZOK mt cc own rk pc (zo_csv y n (pc + 3)) := by
  intro p l e R s m args below meth c nL D dA ad A cells slots Q d E hC hE k lo st M o ho hk hr H locs ls hP hS hL hlen
  obtain ⟨hx, hb, hml, hown, hts, hnl, hK, hAd, hSt, hR⟩ := hC
  unfold zo_csv at ho
  obtain ⟨h1, ho⟩ := zck_some ho
  simp only [Bool.and_eq_true, decide_eq_true_eq] at h1
  obtain ⟨q, hq, ho⟩ := Option.bind_eq_some_iff.mp ho
  obtain ⟨M1, rfl⟩ : ∃ z, z = q := ⟨_, rfl⟩
  have hM := (hE y _ hy _ _).2.2 M1 hq
  refine va_callv (va_runSN (rest := (st.drop n).map (ztr ad)) (As := (st.take n).reverse.map (ztr ad)) (n := n) ⟨hx, hb, hml, hown, hts⟩ hM ⟨va_cnB n hts (zTB_cons hcd) rfl rfl rfl (hnl _ hm) (hts _ hini) hds ⟨by simpa [zrm] using hR.1, by have := hR.2.1; simp only [zrm]; omega⟩, hts _ hst, trivial⟩ ⟨zPc_blind _ _, fun U hU hW => zPc_here rfl hK hnl hSt hP hS hU hW⟩ rfl (by simp; omega) hL.1 zstk (lv_room (by rw [ztr_sum]; exact h1.2)) hd ⟨hR.2.2.1, hR.2.2.2⟩) hS (fun q _ h => h) (fun q h => h) (fun u t H1 locs1 ht hvm hp hB hz hk1 hS1 => ?_)
  exact hk _ _ _ _ ho H1 locs1 ls (by rw [← ht]; exact hB) hS1 hL hlen
set_option maxHeartbeats 1000000 in
theorem zk_cvvN {mt : Nat → Option ZT} {cc : ByteArray} {own : String} {rk pc : Nat} (y : Nat) {Y : MethodName} {by_ : ByteArray} {mL : Nat} {rt : Option FieldType} (hy : mt y = some (Y, by_, mL, rt)) {idx n : Nat} {ci : Nat} {T : u_T} {N : Nat} (hc : vwCl[ci]? = some (Y.cls, T, N)) {host : String} (hm : Cond.methodLinkNest own idx Y host ∈ zNL) (hin2 : Cond.instanceMethod Y ∈ zTB) (hsel : Cond.selects Y.cls Y Y ∈ zTB) (hds : Y.cls ≠ "java/lang/invoke/MethodHandle" ∧ Y.cls ≠ "java/lang/invoke/VarHandle" ∧ (parseMethodDescriptor Y.desc).map (fun d => d.parameters.length) = some n) (hmL : mL ≤ 45) (hcd : Cond.code Y by_ mL rt ∈ zTB) (hini : Cond.initialized Y.cls ∈ zTB) (hd : decode cc pc = .ok (.invokevirtual idx, 3)) : ZOK mt cc own rk pc (zo_cvv ci y n (pc + 3)) := by
  intro p l e R s m args below meth c nL D dA ad A cells slots Q d E hC hE k lo st M o ho hk hr H locs ls hP hS hL hlen
  obtain ⟨hx, hb, hml, hown, hts, hnl, hK, hAd, hSt, hR⟩ := hC
  unfold zo_cvv at ho
  split at ho
  · rename_i b r hdr
    obtain ⟨h1, ho⟩ := zck_some ho
    simp only [Bool.and_eq_true, decide_eq_true_eq] at h1
    obtain ⟨q, hq, ho⟩ := Option.bind_eq_some_iff.mp ho
    obtain ⟨M1, rfl⟩ : ∃ z, z = q := ⟨_, rfl⟩
    have hM := (hE y _ hy _ _).2.2 M1 hq
    obtain ⟨fs, hyb⟩ := zis_spec h1.1
    have hstk : st.map (ztr ad) = ((st.take n).reverse.map (ztr ad)).reverse ++ .ref (ad b) :: r.map (ztr ad) := by
      rw [zstk (n := n), hdr]
      rfl
    refine va_callv (va_runVN (C := Y.cls) (b := ad b) (rest := r.map (ztr ad)) (As := (st.take n).reverse.map (ztr ad)) (n := n) ⟨hx, hb, hml, hown, hts⟩ hM ⟨va_cnB n hts (zTB_cons hcd) rfl rfl rfl (hnl _ hm) (hts _ hini) hds ⟨by simpa [zrm] using hR.1, by have := hR.2.1; simp only [zrm]; omega⟩, hts _ hin2, hts _ hsel⟩ ⟨zPc_blind _ _, va_recv hK hP hc (zwd_at hyb), fun U hU hW => zPc_here rfl hK hnl hSt hP hS hU hW⟩ rfl (by simp; omega) hL.1 hstk (lv_room (by rw [ztr_sum]; exact h1.2.2)) hd ⟨hR.2.2.1, hR.2.2.2⟩) hS (fun q _ h => h) (fun q h => h) (fun u t H1 locs1 ht hvm hp hB hz hk1 hS1 => ?_)
    exact hk _ _ _ _ ho H1 locs1 ls (by rw [← ht]; exact hB) hS1 hL hlen
  · cases ho
def zo_cpy (n : Nat) : ZP := fun E k lo st M => match st with | [.int len, .int dp, .ref b, .int sp, .ref a] => zck (zty a 0 && zty b 0 && (!(decide (sp < 0)) && !(decide (dp < 0)) && !(decide (len < 0)) && decide (sp.toNatClampNeg + len.toNatClampNeg ≤ zln a) && decide (dp.toNatClampNeg + len.toNatClampNeg ≤ zln b))) (k n lo [] (zcp M a sp.toNatClampNeg b dp.toNatClampNeg len.toNatClampNeg)) | _ => none
set_option maxHeartbeats 1000000 in
theorem zk_cpy {mt : Nat → Option ZT} {cc : ByteArray} {own : String} {rk pc : Nat} {idx : Nat} (hm : Cond.methodLink own idx arraycopyName ∈ zTB) (hnat : Cond.native arraycopyName ∈ zTB) (hst : Cond.static arraycopyName ∈ zTB) (hini : Cond.initialized "java/lang/System" ∈ zTB) (hd : decode cc pc = .ok (.invokestatic idx, 3)) : ZOK mt cc own rk pc (zo_cpy (pc + 3)) := by
  intro p l e R s m args below meth c nL D dA ad A cells slots Q d E hC hE k lo st M o ho hk hr H locs ls hP hS hL hlen
  obtain ⟨hx, hb, hml, hown, hts, hnl, hK, hAd, hSt, hR⟩ := hC
  unfold zo_cpy at ho
  split at ho
  · rename_i len dp b sp a
    obtain ⟨h1, ho⟩ := zck_some ho
    simp only [Bool.and_eq_true, Bool.not_eq_true', decide_eq_false_iff_not, decide_eq_true_eq] at h1
    obtain ⟨⟨ha, hb2⟩, ⟨⟨⟨h2, h3⟩, h4⟩, h5⟩, h6⟩ := h1
    refine va_copyi (rest := []) hx hb (by rw [hml]; exact hL.1.symm) hown (hts _ hm) (hts _ hnat) (hts _ hst) (hts _ hini) hK hP (zD hAd M) hS a b 0 0 (zat_int (by decide) (zty_spec ha)) (zat_int (by decide) (zty_spec hb2)) rfl rfl rfl h2 h3 h4 h5 h6 (fun _ _ => rfl) (by omega) ?_ hd (fun H1 locs1 hP1 hD1 hS1 => ?_)
    · have h7 : nativeFrameWords "java/lang/System" "arraycopy" 5 + 11 ≤ 64 := by decide +kernel
      simp only [List.map_nil, List.sum_nil]
      omega
    · rw [zset_cpy (zty_spec hb2)] at hP1
      exact hk _ _ _ _ ho H1 locs1 ls hP1 hS1 hL hlen
  · cases ho
end
section
/-! Runs of operations, methods, calls of methods: what the small machine answers is what the machine does -/
def zlkB (pc : Nat) : List (Int × Int) → List (Int32 × Nat) → Bool
  | [], [] => true
  | (a, o) :: r, (v, t) :: r' => decide (a = v.toInt) && decide ((pc : Int) + o = (t : Int)) && zlkB pc r r'
  | _, _ => false
theorem zlk_spec {k : Nat → Option ZO} {x : Int32} {d pc : Nat} {o : ZO} {dflt : Int} (hd : (pc : Int) + dflt = (d : Int)) : ∀ {os : List (Int × Int)} {ps : List (Int32 × Nat)}, zlkB pc os ps = true → zsw k x d ps = some o → ∃ t : Nat, (pc : Int) + Op.lookupswitch.offset os dflt x.toInt = (t : Int) ∧ k t = some o
  | [], [], _, h => ⟨d, hd, h⟩
  | (a, f) :: r, (v, t) :: r', hz, h => by
    simp only [zlkB, Bool.and_eq_true, decide_eq_true_eq] at hz
    obtain ⟨⟨h1, h2⟩, h3⟩ := hz
    rw [Op.lookupswitch.offset_cons]
    unfold zsw at h
    by_cases e : x = v
    · rw [if_pos e] at h
      rw [if_pos (by rw [h1, e])]
      exact ⟨t, h2, h⟩
    · rw [if_neg e] at h
      rw [if_neg (by rw [h1]; exact fun q => e (Int32.toInt_inj.mp q).symm)]
      exact zlk_spec hd h3 h
theorem zk_lookup {mt : Nat → Option ZT} {cc : ByteArray} {own : String} {rk pc : Nat} {dflt : Int} {os : Array (Int × Int)} {ps : List (Int32 × Nat)} {dt len : Nat} (ht : (pc : Int) + dflt = (dt : Int)) (hp : (os.toList.zip (os.toList.drop 1)).all (fun (a, next) => a.1 < next.1) = true) (hz : zlkB pc os.toList ps = true) (hd : decode cc pc = .ok (.lookupswitch dflt os, len)) : ZOK mt cc own rk pc (zo_sw ps dt) := by
  intro p l e R s m args below meth c nL D dA ad A cells slots Q d E hC hE k lo st M o ho hk hr H locs ls hP hS hL hlen
  obtain ⟨hx, hb, hml, hown, hts, hnl, hK, hAd, hSt, hR⟩ := hC
  unfold zo_sw at ho
  split at ho
  · rename_i x r
    obtain ⟨t, h1, h2⟩ := zlk_spec ht hz ho
    exact lv_lookup hx hb hd hp rfl h1 (hk _ _ _ _ h2 H locs ls hP hS hL hlen)
  · cases ho
def zfind : List (Nat × ZP) → Nat → Option ZP
  | [], _ => none
  | (a, op) :: r, pc => match Nat.beq a pc with
    | true => some op
    | false => zfind r pc
def zcut : List (Nat × List Bool) → Nat → Option (List Bool)
  | [], _ => none
  | (a, ms) :: r, pc => match Nat.beq a pc with
    | true => some ms
    | false => zcut r pc
def zmask : List Bool → ZL → ZL
  | true :: bs, v :: vs => v :: zmask bs vs
  | false :: bs, _ :: vs => none :: zmask bs vs
  | _, vs => vs
theorem zmask_len : ∀ (bs : List Bool) (lo : ZL), (zmask bs lo).length = lo.length
  | true :: bs, v :: vs => by simp [zmask, zmask_len bs vs]
  | false :: bs, _ :: vs => by simp [zmask, zmask_len bs vs]
  | [], vs => by simp [zmask]
  | true :: _, [] => by simp [zmask]
  | false :: _, [] => by simp [zmask]
theorem zmask_get : ∀ (bs : List Bool) (lo : ZL) (i : Nat) (v : Value), (zmask bs lo)[i]? = some (some v) → lo[i]? = some (some v)
  | true :: bs, w :: vs, i, v, h => by
    cases i with
    | zero => simpa [zmask] using h
    | succ i => simp only [zmask, List.getElem?_cons_succ] at h ⊢; exact zmask_get bs vs i v h
  | false :: bs, w :: vs, i, v, h => by
    cases i with
    | zero => simp [zmask] at h
    | succ i => simp only [zmask, List.getElem?_cons_succ] at h ⊢; exact zmask_get bs vs i v h
  | [], vs, i, v, h => by simpa [zmask] using h
  | true :: _, [], i, v, h => by simp [zmask] at h
  | false :: _, [], i, v, h => by simp [zmask] at h
theorem zmask_LH {ad : Nat → Nat} {ls : Array Slot} {nL : Nat} {lo : ZL} (bs : List Bool) (h : zLH ad ls nL lo) : zLH ad ls nL (zmask bs lo) := ⟨h.1, h.2.1, fun i v hi => h.2.2 i v (zmask_get bs lo i v hi)⟩
def zrun (E : ZE) (tb : List (Nat × ZP)) (cu : List (Nat × List Bool)) : Nat → ZK
  | 0 => fun _ _ _ _ => none
  | f + 1 => fun pc lo st M => match zfind tb pc with
    | none => none
    | some op => op E (fun pc' lo' st' M' => match zcut cu pc' with
      | some ms => some (.inr (pc', zmask ms lo', st', M'))
      | none => zrun E tb cu f pc' lo' st' M') lo st M
def zloop (E : ZE) (tb : List (Nat × ZP)) (cu : List (Nat × List Bool)) : Nat → Nat → ZL → List Value → ZM → Option ZR
  | 0, _, _, _, _ => none
  | n + 1, pc, lo, st, M => match zrun E tb cu 2000 pc lo st M with
    | some (.inl r) => some r
    | some (.inr q) => zloop E tb cu n q.1 q.2.1 q.2.2.1 q.2.2.2
    | none => none
theorem zloop_mono {E : ZE} {tb : List (Nat × ZP)} {cu : List (Nat × List Bool)} {r : ZR} : ∀ {n k : Nat} {pc : Nat} {lo : ZL} {st : List Value} {M : ZM}, n ≤ k → zloop E tb cu n pc lo st M = some r → zloop E tb cu k pc lo st M = some r
  | 0, _, _, _, _, _, _, h => by cases h
  | n + 1, 0, _, _, _, _, hk, _ => by omega
  | n + 1, k + 1, pc, lo, st, M, hk, h => by
    unfold zloop at h ⊢
    split at h
    · exact h
    · exact zloop_mono (by omega) h
    · cases h
theorem zfind_mem {pc : Nat} {op : ZP} : ∀ {tb : List (Nat × ZP)}, zfind tb pc = some op → (pc, op) ∈ tb
  | [], h => by cases h
  | (a, op1) :: r, h => by
    unfold zfind at h
    split at h
    · rename_i e
      have := Nat.eq_of_beq_eq_true e
      subst this
      cases h
      exact List.mem_cons_self
    · exact List.mem_cons_of_mem _ (zfind_mem h)
section ZS
variable {mt : Nat → Option ZT} {cc : ByteArray} {own : String} {rk : Nat} {p : Program} {l : Launch} {e : Env} {R : Room} {s : State} {m : MethodId} {args : Array Value} {below : List Frame} {meth : Method} {c : Code} {nL : Nat} {D : va_G} {dA : Nat → ClassId} {ad : Nat → Nat} {A : Nat → Prop} {cells slots : Nat} {Q : State → Prop} {d : Nat} {E : ZE} {tb : List (Nat × ZP)} {cu : List (Nat × List Bool)}
theorem zrun_ok (hC : zCx p R s m args c cc own nL D dA ad A d cells slots) (hE : zES mt l D dA ad A d E) (hT : ∀ q ∈ tb, ZOK mt cc own rk q.1 q.2) {o : ZO} (hq : ∀ q, o = .inr q → zV p l e R s m args below meth c nL D dA ad A cells slots Q q.1 q.2.1 q.2.2.1 q.2.2.2) (hr : ∀ r, o = .inl r → zRr p l e R s m args below meth c D dA ad A cells slots Q rk cc r) :
    ∀ (f pc : Nat) (lo : ZL) (st : List Value) (M : ZM), zrun E tb cu f pc lo st M = some o → zV p l e R s m args below meth c nL D dA ad A cells slots Q pc lo st M := by
  intro f
  induction f with
  | zero => intro pc lo st M h; cases h
  | succ f ih =>
    intro pc lo st M h
    unfold zrun at h
    split at h
    · cases h
    · rename_i op hop
      refine hT _ (zfind_mem hop) p l e R s m args below meth c nL D dA ad A cells slots Q d E hC hE _ lo st M o h ?_ hr
      intro pc' lo' st' M' h'
      split at h'
      · rename_i ms hms
        have h2 := Option.some.inj h'
        intro H locs ls hP hS hL hlen
        exact hq _ h2.symm H locs ls hP hS (zmask_LH ms hL) (by rw [← hlen]; exact zmask_len ms lo')
      · exact ih pc' lo' st' M' h'
theorem zloop_ok (hC : zCx p R s m args c cc own nL D dA ad A d cells slots) (hE : zES mt l D dA ad A d E) (hT : ∀ q ∈ tb, ZOK mt cc own rk q.1 q.2) {r : ZR} (hr : zRr p l e R s m args below meth c D dA ad A cells slots Q rk cc r) :
    ∀ (n pc : Nat) (lo : ZL) (st : List Value) (M : ZM), zloop E tb cu n pc lo st M = some r → zV p l e R s m args below meth c nL D dA ad A cells slots Q pc lo st M := by
  intro n
  induction n with
  | zero => intro pc lo st M h; cases h
  | succ n ih =>
    intro pc lo st M h
    unfold zloop at h
    split at h
    · rename_i r1 h1
      cases h
      exact zrun_ok hC hE hT (fun q hq => by cases hq) (fun r2 h2 => by cases h2; exact hr) 2000 pc lo st M h1
    · rename_i q h1
      exact zrun_ok hC hE hT (fun q2 hq => by cases hq; exact ih _ _ _ _ h) (fun r2 h2 => by cases h2) 2000 pc lo st M h1
    · cases h
end ZS
def zargs : List Value → ZL
  | [] => []
  | v :: r => if v.category = 2 then some v :: none :: zargs r else some v :: zargs r
def zent (as : List Value) (nL : Nat) : ZL := zargs as ++ List.replicate (nL - (zargs as).length) none
theorem zargs_len (ad : Nat → Nat) : ∀ as : List Value, (lg_sl (as.map (ztr ad))).length = (zargs as).length
  | [] => rfl
  | v :: r => by
    have ih := zargs_len ad r
    unfold lg_sl at ih ⊢
    rw [List.map_cons, List.flatMap_cons, List.length_append, ih, ztr_cat]
    simp only [zargs]
    split
    · simp; omega
    · simp; omega
theorem zargs_at (ad : Nat → Nat) : ∀ (as : List Value) (k i : Nat) (v : Value), (zargs as)[i]? = some (some v) → (k + i, ztr ad v) ∈ lv_args k (as.map (ztr ad))
  | [], k, i, v, h => by simp [zargs] at h
  | w :: r, k, i, v, h => by
    rw [List.map_cons]
    unfold lv_args
    unfold zargs at h
    rw [ztr_cat]
    by_cases hc : w.category = 2
    · rw [if_pos hc] at h ⊢
      match i, h with
      | 0, h =>
        simp only [List.getElem?_cons_zero, Option.some.injEq] at h
        subst h
        exact List.mem_cons_self
      | 1, h => simp at h
      | i + 2, h =>
        simp only [List.getElem?_cons_succ] at h
        have := zargs_at ad r (k + 2) i v h
        rw [show k + (i + 2) = k + 2 + i by omega]
        exact List.mem_cons_of_mem _ this
    · rw [if_neg hc] at h ⊢
      match i, h with
      | 0, h =>
        simp only [List.getElem?_cons_zero, Option.some.injEq] at h
        subst h
        exact List.mem_cons_self
      | i + 1, h =>
        simp only [List.getElem?_cons_succ] at h
        have := zargs_at ad r (k + 1) i v h
        rw [show k + (i + 1) = k + 1 + i by omega]
        exact List.mem_cons_of_mem _ this
theorem zent_LH (ad : Nat → Nat) {as : List Value} {nL : Nat} (h : (zargs as).length ≤ nL) : zLH ad ((lg_sl (as.map (ztr ad)) ++ List.replicate (nL - (lg_sl (as.map (ztr ad))).length) Slot.unset).toArray) nL (zent as nL) := by
  have h1 := lv_entry (as.map (ztr ad)) (n := nL) (by rw [zargs_len]; exact h)
  refine ⟨h1.1, h1.2.1, fun i v hi => ?_⟩
  have h2 : (zargs as)[i]? = some (some v) := by
    unfold zent at hi
    rw [List.getElem?_append] at hi
    split at hi
    · exact hi
    · rw [List.getElem?_replicate] at hi
      split at hi <;> cases hi
  have h3 := zargs_at ad as 0 i v h2
  rw [Nat.zero_add] at h3
  exact h1.2.2 _ h3
theorem zent_len {as : List Value} {nL : Nat} (h : (zargs as).length ≤ nL) : (zent as nL).length = nL := by
  simp only [zent, List.length_append, List.length_replicate]
  omega
abbrev ZB : Type := Nat × Nat × (List (Nat × ZP)) × List (Nat × List Bool)
/-- a call of a body: number of locals, kind of answer, operations, cuts -/
noncomputable def zcall (E : ZE) (b : ZB) (as : List Value) (M : ZM) : Option ZR :=
  @dite (Option ZR) ((zargs as).length ≤ b.1 ∧ ∃ (n : Nat) (r : ZR), zloop E b.2.2.1 b.2.2.2 n 0 (zent as b.1) [] M = some r) (Classical.propDecidable _) (fun h => some (Classical.choose (Classical.choose_spec h.2))) (fun _ => none)
theorem zcall_eq {E : ZE} {b : ZB} {as : List Value} {M : ZM} {r : ZR} (n : Nat) (hl : (zargs as).length ≤ b.1) (h : zloop E b.2.2.1 b.2.2.2 n 0 (zent as b.1) [] M = some r) : zcall E b as M = some r := by
  have hex : (zargs as).length ≤ b.1 ∧ ∃ (n : Nat) (r : ZR), zloop E b.2.2.1 b.2.2.2 n 0 (zent as b.1) [] M = some r := ⟨hl, n, r, h⟩
  unfold zcall
  rw [dif_pos hex]
  have h2 := Classical.choose_spec (Classical.choose_spec hex.2)
  have h3 := zloop_mono (Nat.le_max_left n (Classical.choose hex.2)) h
  have h4 := zloop_mono (Nat.le_max_right n (Classical.choose hex.2)) h2
  rw [h3] at h4
  exact h4.symm
theorem zcall_some {E : ZE} {b : ZB} {as : List Value} {M : ZM} {r : ZR} (h : zcall E b as M = some r) : (zargs as).length ≤ b.1 ∧ ∃ n, zloop E b.2.2.1 b.2.2.2 n 0 (zent as b.1) [] M = some r := by
  unfold zcall at h
  split at h
  · rename_i hex
    cases h
    exact ⟨hex.1, Classical.choose hex.2, Classical.choose_spec (Classical.choose_spec hex.2)⟩
  · cases h
def zci (o : Option ZR) : Option (Int32 × ZM) := match o with
  | some (some (.int r), M) => some (r, M)
  | _ => none
def zcl (o : Option ZR) : Option (Int64 × ZM) := match o with
  | some (some (.long r), M) => some (r, M)
  | _ => none
def zcv (o : Option ZR) : Option ZM := match o with
  | some (none, M) => some M
  | _ => none
theorem zci_some {o : Option ZR} {r : Int32} {M : ZM} (h : zci o = some (r, M)) : o = some (some (.int r), M) := by
  unfold zci at h
  split at h
  · cases h; rfl
  · cases h
theorem zcl_some {o : Option ZR} {r : Int64} {M : ZM} (h : zcl o = some (r, M)) : o = some (some (.long r), M) := by
  unfold zcl at h
  split at h
  · cases h; rfl
  · cases h
theorem zcv_some {o : Option ZR} {M : ZM} (h : zcv o = some M) : o = some (none, M) := by
  unfold zcv at h
  split at h
  · cases h; rfl
  · cases h
noncomputable def zenv (bt : Nat → Option ZB) : Nat → ZE
  | 0 => (fun _ _ _ => none, fun _ _ _ => none, fun _ _ _ => none)
  | d + 1 => (fun y as M => (bt y).bind fun b => zci (zcall (zenv bt d) b as M), fun y as M => (bt y).bind fun b => zcl (zcall (zenv bt d) b as M), fun y as M => (bt y).bind fun b => zcv (zcall (zenv bt d) b as M))
/-- the kind of an answer -/
def zrk (rk : Nat) (ret : Option FieldType) : Prop := (rk = 0 ∧ ret = none) ∨ (rk = 1 ∧ ret = some .int) ∨ (rk = 2 ∧ ret = some .long) ∨ (rk = 3 ∧ ret = some .boolean)
/-- a method's body is right -/
def zBok (mt : Nat → Option ZT) (q : ZT) (b : ZB) : Prop := b.1 = q.2.2.1 ∧ zrk b.2.1 q.2.2.2 ∧ plainName q.1.cls = true ∧ ∀ e ∈ b.2.2.1, ZOK mt q.2.1 q.1.cls b.2.1 e.1 e.2
section ZN
variable {mt : Nat → Option ZT} {bt : Nat → Option ZB} {l : Launch} {D : va_G} {dA : Nat → ClassId} {ad : Nat → Nat} {A : Nat → Prop}
theorem zmet (hAd : zAd ad A) {d : Nat} {E : ZE} (hE : zES mt l D dA ad A d E) {q : ZT} {b : ZB} (hB : zBok mt q b) {as : List Value} {M : ZM} {r : ZR} (hc : zcall E b as M = some r) {Qc : Array Value → State → Outcome → State → Prop}
    (hQ : ∀ (a : Array Value) (s t : State) (H : Heap) (locs : List Loc), t.heap = H → va_P D vwCl (zwd dA ad r.2) H → va_S A s.heap H locs → Qc a s (.returned (r.1.map (ztr ad))) t) : Met l q.1 (zws q) (zrm (d + 1)) (zPc D dA ad A as M) Qc 0 0 A := by
  obtain ⟨hb1, hrk, hpl, hT⟩ := hB
  obtain ⟨hl, n, hn⟩ := zcall_some hc
  refine Met.ofW (cc := q.2.1) (maxL := q.2.2.1) (ret := q.2.2.2) hpl rfl ?_
  intro p e s m args below meth c s₁ B hml hv
  obtain ⟨rfl, hP, hK, hN, hSt⟩ := hv
  have hts0 := atoms_spec (ws := zws q) B.pre
  have hts : ∀ w ∈ zTB, w.before ((as.map (ztr ad)).toArray) s = true := fun w hw => hts0 w (List.mem_cons_of_mem _ hw)
  have hown : s.vm.findClass q.1.cls = some m.cls := findClass_of_methodNamed B.named
  have hC : zCx p (headSpec (zws q) (zrm (d + 1))).room s m ((as.map (ztr ad)).toArray) c q.2.1 q.1.cls q.2.2.1 D dA ad A d 0 0 := ⟨B.exec, B.bytes, hml, hown, hts, hN, hK, hAd, hSt, Nat.le_refl _, Nat.le_refl _, Nat.le_refl _, Nat.le_refl _⟩
  have hR : zRr p l e (headSpec (zws q) (zrm (d + 1))).room s m ((as.map (ztr ad)).toArray) below meth c D dA ad A 0 0 (MQ below Qc ((as.map (ztr ad)).toArray) s 0 0 A) b.2.1 q.2.1 r := by
    intro pc H locs ls hP1 hS1 hRT
    have hq1 : ∀ t : State, t.heap = H → Qc ((as.map (ztr ad)).toArray) s (.returned (r.1.map (ztr ad))) t := fun t ht => hQ _ s t H locs ht hP1 hS1
    have hret := B.returns
    rcases hRT with ⟨h1, h2, h3⟩ | ⟨h1, ⟨x, h2⟩, h3⟩ | ⟨h1, ⟨x, h2⟩, h3⟩ | ⟨h1, ⟨x, h2, h4⟩, h3⟩
    · have hr2 : q.2.2.2 = none := by rcases hrk with ⟨_, a⟩ | ⟨a, _⟩ | ⟨a, _⟩ | ⟨a, _⟩ <;> first | exact a | omega
      rw [h2] at hq1 ⊢
      exact W.vret B.exec B.bytes (hret.trans hr2) (fun t ht _ => hq1 t ht) hS1.2.2 h3 B.notSynchronized
    · have hr2 : q.2.2.2 = some .int := by rcases hrk with ⟨a, _⟩ | ⟨_, a⟩ | ⟨a, _⟩ | ⟨a, _⟩ <;> first | exact a | omega
      rw [h2] at hq1 ⊢
      exact W.iret B.exec B.bytes (hret.trans hr2) (fun t ht _ => hq1 t ht) hS1.2.2 h3 B.notSynchronized
    · have hr2 : q.2.2.2 = some .long := by rcases hrk with ⟨a, _⟩ | ⟨a, _⟩ | ⟨_, a⟩ | ⟨a, _⟩ <;> first | exact a | omega
      rw [h2] at hq1 ⊢
      exact W.lret B.exec B.bytes (hret.trans hr2) (fun t ht _ => hq1 t ht) hS1.2.2 h3 B.notSynchronized
    · have hr2 : q.2.2.2 = some .boolean := by rcases hrk with ⟨a, _⟩ | ⟨a, _⟩ | ⟨a, _⟩ | ⟨_, a⟩ <;> first | exact a | omega
      rw [h2] at hq1 ⊢
      exact W.zret B.exec B.bytes (hret.trans hr2) (zb01_nar h4).1 (fun t ht _ => hq1 t ht) hS1.2.2 h3 B.notSynchronized
  have hZ := zloop_ok (cu := b.2.2.2) hC hE hT hR n 0 (zent as b.1) [] M hn
  rw [lg_entry_eq]
  rw [hb1] at hl hZ
  exact hZ s.heap [] _ hP va_S.rf (zent_LH ad hl) (zent_len hl)
theorem zenv_ok (hAd : zAd ad A) (hB : ∀ (y : Nat) (q : ZT), mt y = some q → ∀ b, bt y = some b → zBok mt q b) : ∀ d, zES mt l D dA ad A d (zenv bt d)
  | 0 => fun y q hq as M => ⟨fun r M' h => (by cases h), fun r M' h => (by cases h), fun M' h => (by cases h)⟩
  | d + 1 => by
    have ih := zenv_ok hAd hB d
    intro y q hq as M
    refine ⟨fun r M' h => ?_, fun r M' h => ?_, fun M' h => ?_⟩
    · obtain ⟨b, hb, h1⟩ := Option.bind_eq_some_iff.mp h
      exact zmet (Qc := zQi D dA ad A r M') hAd ih (hB y q hq b hb) (zci_some h1) (fun a s t H locs ht hP hS => ⟨⟨r, (), rfl, rfl, by subst ht; exact hP⟩, hS.F ht⟩)
    · obtain ⟨b, hb, h1⟩ := Option.bind_eq_some_iff.mp h
      exact zmet (Qc := zQl D dA ad A r M') hAd ih (hB y q hq b hb) (zcl_some h1) (fun a s t H locs ht hP hS => ⟨⟨r, (), rfl, rfl, by subst ht; exact hP⟩, hS.F ht⟩)
    · obtain ⟨b, hb, h1⟩ := Option.bind_eq_some_iff.mp h
      exact zmet (Qc := zQv D dA ad A M') hAd ih (hB y q hq b hb) (zcv_some h1) (fun a s t H locs ht hP hS => ⟨⟨(), rfl, trivial, by subst ht; exact hP⟩, hS.F ht⟩)
end ZN
end
