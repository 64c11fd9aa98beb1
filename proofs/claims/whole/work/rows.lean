section
-- ===== PART A: goes FIRST, ahead of the names: the tables' words, and 'selects' of the private methods out of them =====
/-- a private method of a class that the tables say can be made, by its rows of tables_1 -/
def lw_okq (q : MethodName × Nat) : Prop := (q.1.cls ≠ "java/lang/invoke/MethodHandle" ∧ q.1.cls ≠ "java/lang/invoke/VarHandle") ∧ Cond.instantiable q.1.cls q.2 ∈ tables_1 ∧ Cond.privateMethod q.1 ∈ tables_1 ∧ Cond.instanceMethod q.1 ∈ tables_1
theorem lw_p0 : lw_okq (⟨"StampSheets", "found", "(I)I"⟩, 10) := ⟨⟨by decide +kernel, by decide +kernel⟩, List.mem_of_getElem? (i := 15) (by decide +kernel), List.mem_of_getElem? (i := 294) (by decide +kernel), List.mem_of_getElem? (i := 295) (by decide +kernel)⟩
theorem lw_p1 : lw_okq (⟨"StampSheets$Row", "begin", "(II)V"⟩, 4) := ⟨⟨by decide +kernel, by decide +kernel⟩, List.mem_of_getElem? (i := 231) (by decide +kernel), List.mem_of_getElem? (i := 299) (by decide +kernel), List.mem_of_getElem? (i := 300) (by decide +kernel)⟩
theorem lw_p2 : lw_okq (⟨"StampSheets", "fine", "(I)I"⟩, 10) := ⟨⟨by decide +kernel, by decide +kernel⟩, List.mem_of_getElem? (i := 15) (by decide +kernel), List.mem_of_getElem? (i := 306) (by decide +kernel), List.mem_of_getElem? (i := 307) (by decide +kernel)⟩
theorem lw_p3 : lw_okq (⟨"StampSheets$Row", "reaches", "(II)Z"⟩, 4) := ⟨⟨by decide +kernel, by decide +kernel⟩, List.mem_of_getElem? (i := 231) (by decide +kernel), List.mem_of_getElem? (i := 314) (by decide +kernel), List.mem_of_getElem? (i := 315) (by decide +kernel)⟩
theorem lw_p4 : lw_okq (⟨"StampSheets$Row", "put", "(II)I"⟩, 4) := ⟨⟨by decide +kernel, by decide +kernel⟩, List.mem_of_getElem? (i := 231) (by decide +kernel), List.mem_of_getElem? (i := 318) (by decide +kernel), List.mem_of_getElem? (i := 319) (by decide +kernel)⟩
theorem lw_p5 : lw_okq (⟨"StampSheets$Reader", "append", "(I)Z"⟩, 7) := ⟨⟨by decide +kernel, by decide +kernel⟩, List.mem_of_getElem? (i := 25) (by decide +kernel), List.mem_of_getElem? (i := 337) (by decide +kernel), List.mem_of_getElem? (i := 338) (by decide +kernel)⟩
theorem lw_p6 : lw_okq (⟨"StampSheets$Reader", "read", "(LStampSheets$Sheet;)Z"⟩, 7) := ⟨⟨by decide +kernel, by decide +kernel⟩, List.mem_of_getElem? (i := 25) (by decide +kernel), List.mem_of_getElem? (i := 346) (by decide +kernel), List.mem_of_getElem? (i := 347) (by decide +kernel)⟩
theorem lw_p7 : lw_okq (⟨"StampSheets$Reader", "step", "()V"⟩, 7) := ⟨⟨by decide +kernel, by decide +kernel⟩, List.mem_of_getElem? (i := 25) (by decide +kernel), List.mem_of_getElem? (i := 350) (by decide +kernel), List.mem_of_getElem? (i := 351) (by decide +kernel)⟩
theorem lw_p8 : lw_okq (⟨"StampSheets$Reader", "stepOverNumber", "()V"⟩, 7) := ⟨⟨by decide +kernel, by decide +kernel⟩, List.mem_of_getElem? (i := 25) (by decide +kernel), List.mem_of_getElem? (i := 357) (by decide +kernel), List.mem_of_getElem? (i := 358) (by decide +kernel)⟩
theorem lw_p9 : lw_okq (⟨"StampSheets$Reader", "readLaw", "(LStampSheets$Sheet;)Z"⟩, 7) := ⟨⟨by decide +kernel, by decide +kernel⟩, List.mem_of_getElem? (i := 25) (by decide +kernel), List.mem_of_getElem? (i := 361) (by decide +kernel), List.mem_of_getElem? (i := 362) (by decide +kernel)⟩
theorem lw_p10 : lw_okq (⟨"StampSheets$Reader", "takes", "(I)Z"⟩, 7) := ⟨⟨by decide +kernel, by decide +kernel⟩, List.mem_of_getElem? (i := 25) (by decide +kernel), List.mem_of_getElem? (i := 365) (by decide +kernel), List.mem_of_getElem? (i := 366) (by decide +kernel)⟩
theorem lw_p11 : lw_okq (⟨"StampSheets$Reader", "refuse", "(I)Z"⟩, 7) := ⟨⟨by decide +kernel, by decide +kernel⟩, List.mem_of_getElem? (i := 25) (by decide +kernel), List.mem_of_getElem? (i := 369) (by decide +kernel), List.mem_of_getElem? (i := 370) (by decide +kernel)⟩
theorem lw_p12 : lw_okq (⟨"StampSheets$Reader", "takeNumber", "(II)I"⟩, 7) := ⟨⟨by decide +kernel, by decide +kernel⟩, List.mem_of_getElem? (i := 25) (by decide +kernel), List.mem_of_getElem? (i := 373) (by decide +kernel), List.mem_of_getElem? (i := 374) (by decide +kernel)⟩
theorem lw_p13 : lw_okq (⟨"StampSheets$Sheet", "begin", "(III)V"⟩, 14) := ⟨⟨by decide +kernel, by decide +kernel⟩, List.mem_of_getElem? (i := 57) (by decide +kernel), List.mem_of_getElem? (i := 380) (by decide +kernel), List.mem_of_getElem? (i := 381) (by decide +kernel)⟩
theorem lw_p14 : lw_okq (⟨"StampSheets$Sheet", "findNext", "(I)I"⟩, 14) := ⟨⟨by decide +kernel, by decide +kernel⟩, List.mem_of_getElem? (i := 57) (by decide +kernel), List.mem_of_getElem? (i := 385) (by decide +kernel), List.mem_of_getElem? (i := 386) (by decide +kernel)⟩
theorem lw_p15 : lw_okq (⟨"StampSheets$Reader", "readStamps", "(LStampSheets$Sheet;)Z"⟩, 7) := ⟨⟨by decide +kernel, by decide +kernel⟩, List.mem_of_getElem? (i := 25) (by decide +kernel), List.mem_of_getElem? (i := 389) (by decide +kernel), List.mem_of_getElem? (i := 390) (by decide +kernel)⟩
def lw_privs_1 : List (MethodName × Nat) := [(⟨"StampSheets", "found", "(I)I"⟩, 10), (⟨"StampSheets$Row", "begin", "(II)V"⟩, 4), (⟨"StampSheets", "fine", "(I)I"⟩, 10), (⟨"StampSheets$Row", "reaches", "(II)Z"⟩, 4), (⟨"StampSheets$Row", "put", "(II)I"⟩, 4), (⟨"StampSheets$Reader", "append", "(I)Z"⟩, 7), (⟨"StampSheets$Reader", "read", "(LStampSheets$Sheet;)Z"⟩, 7), (⟨"StampSheets$Reader", "step", "()V"⟩, 7), (⟨"StampSheets$Reader", "stepOverNumber", "()V"⟩, 7), (⟨"StampSheets$Reader", "readLaw", "(LStampSheets$Sheet;)Z"⟩, 7), (⟨"StampSheets$Reader", "takes", "(I)Z"⟩, 7), (⟨"StampSheets$Reader", "refuse", "(I)Z"⟩, 7), (⟨"StampSheets$Reader", "takeNumber", "(II)I"⟩, 7), (⟨"StampSheets$Sheet", "begin", "(III)V"⟩, 14), (⟨"StampSheets$Sheet", "findNext", "(I)I"⟩, 14), (⟨"StampSheets$Reader", "readStamps", "(LStampSheets$Sheet;)Z"⟩, 7)]
theorem lw_r1 : ∀ q ∈ lw_privs_1, lw_okq q := List.forall_mem_cons.mpr ⟨lw_p0, List.forall_mem_cons.mpr ⟨lw_p1, List.forall_mem_cons.mpr ⟨lw_p2, List.forall_mem_cons.mpr ⟨lw_p3, List.forall_mem_cons.mpr ⟨lw_p4, List.forall_mem_cons.mpr ⟨lw_p5, List.forall_mem_cons.mpr ⟨lw_p6, List.forall_mem_cons.mpr ⟨lw_p7, List.forall_mem_cons.mpr ⟨lw_p8, List.forall_mem_cons.mpr ⟨lw_p9, List.forall_mem_cons.mpr ⟨lw_p10, List.forall_mem_cons.mpr ⟨lw_p11, List.forall_mem_cons.mpr ⟨lw_p12, List.forall_mem_cons.mpr ⟨lw_p13, List.forall_mem_cons.mpr ⟨lw_p14, List.forall_mem_cons.mpr ⟨lw_p15, fun _ h => absurd h List.not_mem_nil⟩⟩⟩⟩⟩⟩⟩⟩⟩⟩⟩⟩⟩⟩⟩⟩
theorem lw_p16 : lw_okq (⟨"StampSheets$Reader", "kindOfSort", "()I"⟩, 7) := ⟨⟨by decide +kernel, by decide +kernel⟩, List.mem_of_getElem? (i := 25) (by decide +kernel), List.mem_of_getElem? (i := 393) (by decide +kernel), List.mem_of_getElem? (i := 394) (by decide +kernel)⟩
theorem lw_p17 : lw_okq (⟨"StampSheets$Sheet", "put", "(III)V"⟩, 14) := ⟨⟨by decide +kernel, by decide +kernel⟩, List.mem_of_getElem? (i := 57) (by decide +kernel), List.mem_of_getElem? (i := 397) (by decide +kernel), List.mem_of_getElem? (i := 398) (by decide +kernel)⟩
theorem lw_p18 : lw_okq (⟨"StampSheets$Reader", "readCustomers", "(LStampSheets$Sheet;)Z"⟩, 7) := ⟨⟨by decide +kernel, by decide +kernel⟩, List.mem_of_getElem? (i := 25) (by decide +kernel), List.mem_of_getElem? (i := 401) (by decide +kernel), List.mem_of_getElem? (i := 402) (by decide +kernel)⟩
theorem lw_p19 : lw_okq (⟨"StampSheets$Sheet", "add", "(II)V"⟩, 14) := ⟨⟨by decide +kernel, by decide +kernel⟩, List.mem_of_getElem? (i := 57) (by decide +kernel), List.mem_of_getElem? (i := 405) (by decide +kernel), List.mem_of_getElem? (i := 406) (by decide +kernel)⟩
theorem lw_p20 : lw_okq (⟨"StampSheets", "putInPlace", "(LStampSheets$Sheet;)V"⟩, 10) := ⟨⟨by decide +kernel, by decide +kernel⟩, List.mem_of_getElem? (i := 15) (by decide +kernel), List.mem_of_getElem? (i := 410) (by decide +kernel), List.mem_of_getElem? (i := 411) (by decide +kernel)⟩
theorem lw_p21 : lw_okq (⟨"StampSheets$Sheet", "become", "(LStampSheets$Sheet;)V"⟩, 14) := ⟨⟨by decide +kernel, by decide +kernel⟩, List.mem_of_getElem? (i := 57) (by decide +kernel), List.mem_of_getElem? (i := 414) (by decide +kernel), List.mem_of_getElem? (i := 415) (by decide +kernel)⟩
theorem lw_p22 : lw_okq (⟨"StampSheets$Finder", "learn", "(LStampSheets$Sheet;)V"⟩, 8) := ⟨⟨by decide +kernel, by decide +kernel⟩, List.mem_of_getElem? (i := 156) (by decide +kernel), List.mem_of_getElem? (i := 419) (by decide +kernel), List.mem_of_getElem? (i := 420) (by decide +kernel)⟩
theorem lw_p23 : lw_okq (⟨"StampSheets$Finder", "hangsByOneLess", "(LStampSheets$Sheet;I)Z"⟩, 8) := ⟨⟨by decide +kernel, by decide +kernel⟩, List.mem_of_getElem? (i := 156) (by decide +kernel), List.mem_of_getElem? (i := 429) (by decide +kernel), List.mem_of_getElem? (i := 430) (by decide +kernel)⟩
theorem lw_p24 : lw_okq (⟨"StampSheets$Acts", "takeBackLatest", "(LStampSheets$Sheet;)V"⟩, 5) := ⟨⟨by decide +kernel, by decide +kernel⟩, List.mem_of_getElem? (i := 133) (by decide +kernel), List.mem_of_getElem? (i := 442) (by decide +kernel), List.mem_of_getElem? (i := 443) (by decide +kernel)⟩
theorem lw_p25 : lw_okq (⟨"StampSheets$Sheet", "takeBack", "(I)V"⟩, 14) := ⟨⟨by decide +kernel, by decide +kernel⟩, List.mem_of_getElem? (i := 57) (by decide +kernel), List.mem_of_getElem? (i := 446) (by decide +kernel), List.mem_of_getElem? (i := 447) (by decide +kernel)⟩
theorem lw_p26 : lw_okq (⟨"StampSheets$Sheet", "sell", "(III)V"⟩, 14) := ⟨⟨by decide +kernel, by decide +kernel⟩, List.mem_of_getElem? (i := 57) (by decide +kernel), List.mem_of_getElem? (i := 450) (by decide +kernel), List.mem_of_getElem? (i := 451) (by decide +kernel)⟩
theorem lw_p27 : lw_okq (⟨"StampSheets", "isCustomer", "(I)Z"⟩, 10) := ⟨⟨by decide +kernel, by decide +kernel⟩, List.mem_of_getElem? (i := 15) (by decide +kernel), List.mem_of_getElem? (i := 458) (by decide +kernel), List.mem_of_getElem? (i := 459) (by decide +kernel)⟩
theorem lw_p28 : lw_okq (⟨"StampSheets$Finder", "isPiece", "(LStampSheets$Sheet;I)Z"⟩, 8) := ⟨⟨by decide +kernel, by decide +kernel⟩, List.mem_of_getElem? (i := 156) (by decide +kernel), List.mem_of_getElem? (i := 462) (by decide +kernel), List.mem_of_getElem? (i := 463) (by decide +kernel)⟩
theorem lw_p29 : lw_okq (⟨"StampSheets$Sheet", "holds", "(I)Z"⟩, 14) := ⟨⟨by decide +kernel, by decide +kernel⟩, List.mem_of_getElem? (i := 57) (by decide +kernel), List.mem_of_getElem? (i := 466) (by decide +kernel), List.mem_of_getElem? (i := 467) (by decide +kernel)⟩
theorem lw_p30 : lw_okq (⟨"StampSheets$Sheet", "isServed", "(I)Z"⟩, 14) := ⟨⟨by decide +kernel, by decide +kernel⟩, List.mem_of_getElem? (i := 57) (by decide +kernel), List.mem_of_getElem? (i := 470) (by decide +kernel), List.mem_of_getElem? (i := 471) (by decide +kernel)⟩
theorem lw_p31 : lw_okq (⟨"StampSheets$Sheet", "paysOf", "(I)I"⟩, 14) := ⟨⟨by decide +kernel, by decide +kernel⟩, List.mem_of_getElem? (i := 57) (by decide +kernel), List.mem_of_getElem? (i := 474) (by decide +kernel), List.mem_of_getElem? (i := 475) (by decide +kernel)⟩
def lw_privs_2 : List (MethodName × Nat) := [(⟨"StampSheets$Reader", "kindOfSort", "()I"⟩, 7), (⟨"StampSheets$Sheet", "put", "(III)V"⟩, 14), (⟨"StampSheets$Reader", "readCustomers", "(LStampSheets$Sheet;)Z"⟩, 7), (⟨"StampSheets$Sheet", "add", "(II)V"⟩, 14), (⟨"StampSheets", "putInPlace", "(LStampSheets$Sheet;)V"⟩, 10), (⟨"StampSheets$Sheet", "become", "(LStampSheets$Sheet;)V"⟩, 14), (⟨"StampSheets$Finder", "learn", "(LStampSheets$Sheet;)V"⟩, 8), (⟨"StampSheets$Finder", "hangsByOneLess", "(LStampSheets$Sheet;I)Z"⟩, 8), (⟨"StampSheets$Acts", "takeBackLatest", "(LStampSheets$Sheet;)V"⟩, 5), (⟨"StampSheets$Sheet", "takeBack", "(I)V"⟩, 14), (⟨"StampSheets$Sheet", "sell", "(III)V"⟩, 14), (⟨"StampSheets", "isCustomer", "(I)Z"⟩, 10), (⟨"StampSheets$Finder", "isPiece", "(LStampSheets$Sheet;I)Z"⟩, 8), (⟨"StampSheets$Sheet", "holds", "(I)Z"⟩, 14), (⟨"StampSheets$Sheet", "isServed", "(I)Z"⟩, 14), (⟨"StampSheets$Sheet", "paysOf", "(I)I"⟩, 14)]
theorem lw_r2 : ∀ q ∈ lw_privs_2, lw_okq q := List.forall_mem_cons.mpr ⟨lw_p16, List.forall_mem_cons.mpr ⟨lw_p17, List.forall_mem_cons.mpr ⟨lw_p18, List.forall_mem_cons.mpr ⟨lw_p19, List.forall_mem_cons.mpr ⟨lw_p20, List.forall_mem_cons.mpr ⟨lw_p21, List.forall_mem_cons.mpr ⟨lw_p22, List.forall_mem_cons.mpr ⟨lw_p23, List.forall_mem_cons.mpr ⟨lw_p24, List.forall_mem_cons.mpr ⟨lw_p25, List.forall_mem_cons.mpr ⟨lw_p26, List.forall_mem_cons.mpr ⟨lw_p27, List.forall_mem_cons.mpr ⟨lw_p28, List.forall_mem_cons.mpr ⟨lw_p29, List.forall_mem_cons.mpr ⟨lw_p30, List.forall_mem_cons.mpr ⟨lw_p31, fun _ h => absurd h List.not_mem_nil⟩⟩⟩⟩⟩⟩⟩⟩⟩⟩⟩⟩⟩⟩⟩⟩
theorem lw_p32 : lw_okq (⟨"StampSheets$Sheet", "payOfStamp", "(II)I"⟩, 14) := ⟨⟨by decide +kernel, by decide +kernel⟩, List.mem_of_getElem? (i := 57) (by decide +kernel), List.mem_of_getElem? (i := 478) (by decide +kernel), List.mem_of_getElem? (i := 479) (by decide +kernel)⟩
theorem lw_p33 : lw_okq (⟨"StampSheets$Sheet", "suits", "(II)Z"⟩, 14) := ⟨⟨by decide +kernel, by decide +kernel⟩, List.mem_of_getElem? (i := 57) (by decide +kernel), List.mem_of_getElem? (i := 483) (by decide +kernel), List.mem_of_getElem? (i := 484) (by decide +kernel)⟩
theorem lw_p34 : lw_okq (⟨"StampSheets$Sheet", "tearsOf", "(I)I"⟩, 14) := ⟨⟨by decide +kernel, by decide +kernel⟩, List.mem_of_getElem? (i := 57) (by decide +kernel), List.mem_of_getElem? (i := 487) (by decide +kernel), List.mem_of_getElem? (i := 488) (by decide +kernel)⟩
theorem lw_p35 : lw_okq (⟨"StampSheets$Acts", "keep", "(III)V"⟩, 5) := ⟨⟨by decide +kernel, by decide +kernel⟩, List.mem_of_getElem? (i := 133) (by decide +kernel), List.mem_of_getElem? (i := 492) (by decide +kernel), List.mem_of_getElem? (i := 493) (by decide +kernel)⟩
theorem lw_p36 : lw_okq (⟨"StampSheets", "isCell", "(I)Z"⟩, 10) := ⟨⟨by decide +kernel, by decide +kernel⟩, List.mem_of_getElem? (i := 15) (by decide +kernel), List.mem_of_getElem? (i := 506) (by decide +kernel), List.mem_of_getElem? (i := 507) (by decide +kernel)⟩
theorem lw_p37 : lw_okq (⟨"StampSheets$Sheet", "isOn", "(I)Z"⟩, 14) := ⟨⟨by decide +kernel, by decide +kernel⟩, List.mem_of_getElem? (i := 57) (by decide +kernel), List.mem_of_getElem? (i := 510) (by decide +kernel), List.mem_of_getElem? (i := 511) (by decide +kernel)⟩
theorem lw_p38 : lw_okq (⟨"StampSheets$Sheet", "lose", "(I)V"⟩, 14) := ⟨⟨by decide +kernel, by decide +kernel⟩, List.mem_of_getElem? (i := 57) (by decide +kernel), List.mem_of_getElem? (i := 514) (by decide +kernel), List.mem_of_getElem? (i := 515) (by decide +kernel)⟩
theorem lw_p39 : lw_okq (⟨"StampSheets", "isThere", "()Z"⟩, 10) := ⟨⟨by decide +kernel, by decide +kernel⟩, List.mem_of_getElem? (i := 15) (by decide +kernel), List.mem_of_getElem? (i := 530) (by decide +kernel), List.mem_of_getElem? (i := 531) (by decide +kernel)⟩
theorem lw_p40 : lw_okq (⟨"StampSheets$Sheet", "howIs", "(I)I"⟩, 14) := ⟨⟨by decide +kernel, by decide +kernel⟩, List.mem_of_getElem? (i := 57) (by decide +kernel), List.mem_of_getElem? (i := 538) (by decide +kernel), List.mem_of_getElem? (i := 539) (by decide +kernel)⟩
theorem lw_p41 : lw_okq (⟨"StampSheets$Sheet", "ownerOf", "(I)I"⟩, 14) := ⟨⟨by decide +kernel, by decide +kernel⟩, List.mem_of_getElem? (i := 57) (by decide +kernel), List.mem_of_getElem? (i := 543) (by decide +kernel), List.mem_of_getElem? (i := 544) (by decide +kernel)⟩
theorem lw_p42 : lw_okq (⟨"StampSheets$Sheet", "served", "()I"⟩, 14) := ⟨⟨by decide +kernel, by decide +kernel⟩, List.mem_of_getElem? (i := 57) (by decide +kernel), List.mem_of_getElem? (i := 556) (by decide +kernel), List.mem_of_getElem? (i := 557) (by decide +kernel)⟩
theorem lw_p43 : lw_okq (⟨"StampSheets$Sheet", "countParts", "(I)I"⟩, 14) := ⟨⟨by decide +kernel, by decide +kernel⟩, List.mem_of_getElem? (i := 57) (by decide +kernel), List.mem_of_getElem? (i := 565) (by decide +kernel), List.mem_of_getElem? (i := 566) (by decide +kernel)⟩
theorem lw_p44 : lw_okq (⟨"StampSheets$Sheet", "partAround", "(II)I"⟩, 14) := ⟨⟨by decide +kernel, by decide +kernel⟩, List.mem_of_getElem? (i := 57) (by decide +kernel), List.mem_of_getElem? (i := 572) (by decide +kernel), List.mem_of_getElem? (i := 573) (by decide +kernel)⟩
theorem lw_p45 : lw_okq (⟨"StampSheets$Sheet", "nextTo", "(I)I"⟩, 14) := ⟨⟨by decide +kernel, by decide +kernel⟩, List.mem_of_getElem? (i := 57) (by decide +kernel), List.mem_of_getElem? (i := 576) (by decide +kernel), List.mem_of_getElem? (i := 577) (by decide +kernel)⟩
theorem lw_p46 : lw_okq (⟨"StampSheets$Sheet", "partNumber", "(I)I"⟩, 14) := ⟨⟨by decide +kernel, by decide +kernel⟩, List.mem_of_getElem? (i := 57) (by decide +kernel), List.mem_of_getElem? (i := 584) (by decide +kernel), List.mem_of_getElem? (i := 585) (by decide +kernel)⟩
theorem lw_p47 : lw_okq (⟨"StampSheets$Finder", "countAll", "(LStampSheets$Sheet;)I"⟩, 8) := ⟨⟨by decide +kernel, by decide +kernel⟩, List.mem_of_getElem? (i := 156) (by decide +kernel), List.mem_of_getElem? (i := 592) (by decide +kernel), List.mem_of_getElem? (i := 593) (by decide +kernel)⟩
def lw_privs_3 : List (MethodName × Nat) := [(⟨"StampSheets$Sheet", "payOfStamp", "(II)I"⟩, 14), (⟨"StampSheets$Sheet", "suits", "(II)Z"⟩, 14), (⟨"StampSheets$Sheet", "tearsOf", "(I)I"⟩, 14), (⟨"StampSheets$Acts", "keep", "(III)V"⟩, 5), (⟨"StampSheets", "isCell", "(I)Z"⟩, 10), (⟨"StampSheets$Sheet", "isOn", "(I)Z"⟩, 14), (⟨"StampSheets$Sheet", "lose", "(I)V"⟩, 14), (⟨"StampSheets", "isThere", "()Z"⟩, 10), (⟨"StampSheets$Sheet", "howIs", "(I)I"⟩, 14), (⟨"StampSheets$Sheet", "ownerOf", "(I)I"⟩, 14), (⟨"StampSheets$Sheet", "served", "()I"⟩, 14), (⟨"StampSheets$Sheet", "countParts", "(I)I"⟩, 14), (⟨"StampSheets$Sheet", "partAround", "(II)I"⟩, 14), (⟨"StampSheets$Sheet", "nextTo", "(I)I"⟩, 14), (⟨"StampSheets$Sheet", "partNumber", "(I)I"⟩, 14), (⟨"StampSheets$Finder", "countAll", "(LStampSheets$Sheet;)I"⟩, 8)]
theorem lw_r3 : ∀ q ∈ lw_privs_3, lw_okq q := List.forall_mem_cons.mpr ⟨lw_p32, List.forall_mem_cons.mpr ⟨lw_p33, List.forall_mem_cons.mpr ⟨lw_p34, List.forall_mem_cons.mpr ⟨lw_p35, List.forall_mem_cons.mpr ⟨lw_p36, List.forall_mem_cons.mpr ⟨lw_p37, List.forall_mem_cons.mpr ⟨lw_p38, List.forall_mem_cons.mpr ⟨lw_p39, List.forall_mem_cons.mpr ⟨lw_p40, List.forall_mem_cons.mpr ⟨lw_p41, List.forall_mem_cons.mpr ⟨lw_p42, List.forall_mem_cons.mpr ⟨lw_p43, List.forall_mem_cons.mpr ⟨lw_p44, List.forall_mem_cons.mpr ⟨lw_p45, List.forall_mem_cons.mpr ⟨lw_p46, List.forall_mem_cons.mpr ⟨lw_p47, fun _ h => absurd h List.not_mem_nil⟩⟩⟩⟩⟩⟩⟩⟩⟩⟩⟩⟩⟩⟩⟩⟩
theorem lw_p48 : lw_okq (⟨"StampSheets$Finder", "countOf", "(LStampSheets$Sheet;IZ)I"⟩, 8) := ⟨⟨by decide +kernel, by decide +kernel⟩, List.mem_of_getElem? (i := 156) (by decide +kernel), List.mem_of_getElem? (i := 596) (by decide +kernel), List.mem_of_getElem? (i := 597) (by decide +kernel)⟩
theorem lw_p49 : lw_okq (⟨"StampSheets$Finder", "isStraight", "(LStampSheets$Sheet;I)Z"⟩, 8) := ⟨⟨by decide +kernel, by decide +kernel⟩, List.mem_of_getElem? (i := 156) (by decide +kernel), List.mem_of_getElem? (i := 600) (by decide +kernel), List.mem_of_getElem? (i := 601) (by decide +kernel)⟩
theorem lw_p50 : lw_okq (⟨"StampSheets$Finder", "weigh", "(LStampSheets$Sheet;)V"⟩, 8) := ⟨⟨by decide +kernel, by decide +kernel⟩, List.mem_of_getElem? (i := 156) (by decide +kernel), List.mem_of_getElem? (i := 612) (by decide +kernel), List.mem_of_getElem? (i := 613) (by decide +kernel)⟩
theorem lw_p51 : lw_okq (⟨"StampSheets$Finder", "greatestSum", "(LStampSheets$Sheet;)I"⟩, 8) := ⟨⟨by decide +kernel, by decide +kernel⟩, List.mem_of_getElem? (i := 156) (by decide +kernel), List.mem_of_getElem? (i := 617) (by decide +kernel), List.mem_of_getElem? (i := 618) (by decide +kernel)⟩
theorem lw_p52 : lw_okq (⟨"StampSheets$Finder", "markSums", "(LStampSheets$Sheet;)V"⟩, 8) := ⟨⟨by decide +kernel, by decide +kernel⟩, List.mem_of_getElem? (i := 156) (by decide +kernel), List.mem_of_getElem? (i := 624) (by decide +kernel), List.mem_of_getElem? (i := 625) (by decide +kernel)⟩
theorem lw_p53 : lw_okq (⟨"StampSheets$Finder", "countSums", "()I"⟩, 8) := ⟨⟨by decide +kernel, by decide +kernel⟩, List.mem_of_getElem? (i := 156) (by decide +kernel), List.mem_of_getElem? (i := 629) (by decide +kernel), List.mem_of_getElem? (i := 630) (by decide +kernel)⟩
theorem lw_p54 : lw_okq (⟨"StampSheets$Finder", "leastSumUnpaid", "()I"⟩, 8) := ⟨⟨by decide +kernel, by decide +kernel⟩, List.mem_of_getElem? (i := 156) (by decide +kernel), List.mem_of_getElem? (i := 633) (by decide +kernel), List.mem_of_getElem? (i := 634) (by decide +kernel)⟩
theorem lw_p55 : lw_okq (⟨"StampSheets$Finder", "bestFor", "(LStampSheets$Sheet;I)I"⟩, 8) := ⟨⟨by decide +kernel, by decide +kernel⟩, List.mem_of_getElem? (i := 156) (by decide +kernel), List.mem_of_getElem? (i := 645) (by decide +kernel), List.mem_of_getElem? (i := 646) (by decide +kernel)⟩
theorem lw_p56 : lw_okq (⟨"StampSheets$Finder", "couldServe", "(LStampSheets$Sheet;II)Z"⟩, 8) := ⟨⟨by decide +kernel, by decide +kernel⟩, List.mem_of_getElem? (i := 156) (by decide +kernel), List.mem_of_getElem? (i := 649) (by decide +kernel), List.mem_of_getElem? (i := 650) (by decide +kernel)⟩
theorem lw_p57 : lw_okq (⟨"StampSheets$Finder", "countFor", "(LStampSheets$Sheet;I)I"⟩, 8) := ⟨⟨by decide +kernel, by decide +kernel⟩, List.mem_of_getElem? (i := 156) (by decide +kernel), List.mem_of_getElem? (i := 663) (by decide +kernel), List.mem_of_getElem? (i := 664) (by decide +kernel)⟩
theorem lw_p58 : lw_okq (⟨"StampSheets$Finder", "cheapestFor", "(LStampSheets$Sheet;I)I"⟩, 8) := ⟨⟨by decide +kernel, by decide +kernel⟩, List.mem_of_getElem? (i := 156) (by decide +kernel), List.mem_of_getElem? (i := 671) (by decide +kernel), List.mem_of_getElem? (i := 672) (by decide +kernel)⟩
theorem lw_p59 : lw_okq (⟨"StampSheets$Finder", "mostServed", "(LStampSheets$Sheet;)I"⟩, 8) := ⟨⟨by decide +kernel, by decide +kernel⟩, List.mem_of_getElem? (i := 156) (by decide +kernel), List.mem_of_getElem? (i := 679) (by decide +kernel), List.mem_of_getElem? (i := 680) (by decide +kernel)⟩
theorem lw_p60 : lw_okq (⟨"StampSheets$Finder", "findSuited", "(LStampSheets$Sheet;)V"⟩, 8) := ⟨⟨by decide +kernel, by decide +kernel⟩, List.mem_of_getElem? (i := 156) (by decide +kernel), List.mem_of_getElem? (i := 683) (by decide +kernel), List.mem_of_getElem? (i := 684) (by decide +kernel)⟩
theorem lw_p61 : lw_okq (⟨"StampSheets$Finder", "suitedBy", "(LStampSheets$Sheet;I)I"⟩, 8) := ⟨⟨by decide +kernel, by decide +kernel⟩, List.mem_of_getElem? (i := 156) (by decide +kernel), List.mem_of_getElem? (i := 687) (by decide +kernel), List.mem_of_getElem? (i := 688) (by decide +kernel)⟩
theorem lw_p62 : lw_okq (⟨"StampSheets$Finder", "findServable", "(LStampSheets$Sheet;)V"⟩, 8) := ⟨⟨by decide +kernel, by decide +kernel⟩, List.mem_of_getElem? (i := 156) (by decide +kernel), List.mem_of_getElem? (i := 692) (by decide +kernel), List.mem_of_getElem? (i := 693) (by decide +kernel)⟩
theorem lw_p63 : lw_okq (⟨"StampSheets$Finder", "servableBy", "(I)I"⟩, 8) := ⟨⟨by decide +kernel, by decide +kernel⟩, List.mem_of_getElem? (i := 156) (by decide +kernel), List.mem_of_getElem? (i := 696) (by decide +kernel), List.mem_of_getElem? (i := 697) (by decide +kernel)⟩
def lw_privs_4 : List (MethodName × Nat) := [(⟨"StampSheets$Finder", "countOf", "(LStampSheets$Sheet;IZ)I"⟩, 8), (⟨"StampSheets$Finder", "isStraight", "(LStampSheets$Sheet;I)Z"⟩, 8), (⟨"StampSheets$Finder", "weigh", "(LStampSheets$Sheet;)V"⟩, 8), (⟨"StampSheets$Finder", "greatestSum", "(LStampSheets$Sheet;)I"⟩, 8), (⟨"StampSheets$Finder", "markSums", "(LStampSheets$Sheet;)V"⟩, 8), (⟨"StampSheets$Finder", "countSums", "()I"⟩, 8), (⟨"StampSheets$Finder", "leastSumUnpaid", "()I"⟩, 8), (⟨"StampSheets$Finder", "bestFor", "(LStampSheets$Sheet;I)I"⟩, 8), (⟨"StampSheets$Finder", "couldServe", "(LStampSheets$Sheet;II)Z"⟩, 8), (⟨"StampSheets$Finder", "countFor", "(LStampSheets$Sheet;I)I"⟩, 8), (⟨"StampSheets$Finder", "cheapestFor", "(LStampSheets$Sheet;I)I"⟩, 8), (⟨"StampSheets$Finder", "mostServed", "(LStampSheets$Sheet;)I"⟩, 8), (⟨"StampSheets$Finder", "findSuited", "(LStampSheets$Sheet;)V"⟩, 8), (⟨"StampSheets$Finder", "suitedBy", "(LStampSheets$Sheet;I)I"⟩, 8), (⟨"StampSheets$Finder", "findServable", "(LStampSheets$Sheet;)V"⟩, 8), (⟨"StampSheets$Finder", "servableBy", "(I)I"⟩, 8)]
theorem lw_r4 : ∀ q ∈ lw_privs_4, lw_okq q := List.forall_mem_cons.mpr ⟨lw_p48, List.forall_mem_cons.mpr ⟨lw_p49, List.forall_mem_cons.mpr ⟨lw_p50, List.forall_mem_cons.mpr ⟨lw_p51, List.forall_mem_cons.mpr ⟨lw_p52, List.forall_mem_cons.mpr ⟨lw_p53, List.forall_mem_cons.mpr ⟨lw_p54, List.forall_mem_cons.mpr ⟨lw_p55, List.forall_mem_cons.mpr ⟨lw_p56, List.forall_mem_cons.mpr ⟨lw_p57, List.forall_mem_cons.mpr ⟨lw_p58, List.forall_mem_cons.mpr ⟨lw_p59, List.forall_mem_cons.mpr ⟨lw_p60, List.forall_mem_cons.mpr ⟨lw_p61, List.forall_mem_cons.mpr ⟨lw_p62, List.forall_mem_cons.mpr ⟨lw_p63, fun _ h => absurd h List.not_mem_nil⟩⟩⟩⟩⟩⟩⟩⟩⟩⟩⟩⟩⟩⟩⟩⟩
theorem lw_p64 : lw_okq (⟨"StampSheets$Finder", "canServe", "(II)Z"⟩, 8) := ⟨⟨by decide +kernel, by decide +kernel⟩, List.mem_of_getElem? (i := 156) (by decide +kernel), List.mem_of_getElem? (i := 706) (by decide +kernel), List.mem_of_getElem? (i := 707) (by decide +kernel)⟩
theorem lw_p65 : lw_okq (⟨"StampSheets$Finder", "pieceAmongServed", "(LStampSheets$Sheet;II)I"⟩, 8) := ⟨⟨by decide +kernel, by decide +kernel⟩, List.mem_of_getElem? (i := 156) (by decide +kernel), List.mem_of_getElem? (i := 710) (by decide +kernel), List.mem_of_getElem? (i := 711) (by decide +kernel)⟩
theorem lw_p66 : lw_okq (⟨"StampSheets$Finder", "firstPieceLeaving", "(III)I"⟩, 8) := ⟨⟨by decide +kernel, by decide +kernel⟩, List.mem_of_getElem? (i := 156) (by decide +kernel), List.mem_of_getElem? (i := 714) (by decide +kernel), List.mem_of_getElem? (i := 715) (by decide +kernel)⟩
theorem lw_p67 : lw_okq (⟨"StampSheets$Finder", "countCouplings", "(LStampSheets$Sheet;)I"⟩, 8) := ⟨⟨by decide +kernel, by decide +kernel⟩, List.mem_of_getElem? (i := 156) (by decide +kernel), List.mem_of_getElem? (i := 722) (by decide +kernel), List.mem_of_getElem? (i := 723) (by decide +kernel)⟩
theorem lw_p68 : lw_okq (⟨"StampSheets", "areTwoCells", "(II)Z"⟩, 10) := ⟨⟨by decide +kernel, by decide +kernel⟩, List.mem_of_getElem? (i := 15) (by decide +kernel), List.mem_of_getElem? (i := 730) (by decide +kernel), List.mem_of_getElem? (i := 731) (by decide +kernel)⟩
theorem lw_p69 : lw_okq (⟨"StampSheets$Finder", "sideOf", "(LStampSheets$Sheet;II)I"⟩, 8) := ⟨⟨by decide +kernel, by decide +kernel⟩, List.mem_of_getElem? (i := 156) (by decide +kernel), List.mem_of_getElem? (i := 734) (by decide +kernel), List.mem_of_getElem? (i := 735) (by decide +kernel)⟩
theorem lw_p70 : lw_okq (⟨"StampSheets$Sheet", "stepsBetween", "(II)I"⟩, 14) := ⟨⟨by decide +kernel, by decide +kernel⟩, List.mem_of_getElem? (i := 57) (by decide +kernel), List.mem_of_getElem? (i := 742) (by decide +kernel), List.mem_of_getElem? (i := 743) (by decide +kernel)⟩
theorem lw_p71 : lw_okq (⟨"StampSheets$Sheet", "firstStep", "(II)I"⟩, 14) := ⟨⟨by decide +kernel, by decide +kernel⟩, List.mem_of_getElem? (i := 57) (by decide +kernel), List.mem_of_getElem? (i := 746) (by decide +kernel), List.mem_of_getElem? (i := 747) (by decide +kernel)⟩
theorem lw_p72 : lw_okq (⟨"StampSheets", "takeTold", "(IIIII)I"⟩, 10) := ⟨⟨by decide +kernel, by decide +kernel⟩, List.mem_of_getElem? (i := 15) (by decide +kernel), List.mem_of_getElem? (i := 762) (by decide +kernel), List.mem_of_getElem? (i := 763) (by decide +kernel)⟩
theorem lw_p73 : lw_okq (⟨"StampSheets$Told", "takeCells", "(LStampSheets$Row;III)Z"⟩, 3) := ⟨⟨by decide +kernel, by decide +kernel⟩, List.mem_of_getElem? (i := 216) (by decide +kernel), List.mem_of_getElem? (i := 766) (by decide +kernel), List.mem_of_getElem? (i := 767) (by decide +kernel)⟩
theorem lw_p74 : lw_okq (⟨"StampSheets$Told", "takePays", "(LStampSheets$Row;I)V"⟩, 3) := ⟨⟨by decide +kernel, by decide +kernel⟩, List.mem_of_getElem? (i := 216) (by decide +kernel), List.mem_of_getElem? (i := 770) (by decide +kernel), List.mem_of_getElem? (i := 771) (by decide +kernel)⟩
theorem lw_p75 : lw_okq (⟨"StampSheets", "kindsThatFit", "(I)I"⟩, 10) := ⟨⟨by decide +kernel, by decide +kernel⟩, List.mem_of_getElem? (i := 15) (by decide +kernel), List.mem_of_getElem? (i := 774) (by decide +kernel), List.mem_of_getElem? (i := 775) (by decide +kernel)⟩
theorem lw_p76 : lw_okq (⟨"StampSheets$Told", "isSo", "(LStampSheets$Sheet;)Z"⟩, 3) := ⟨⟨by decide +kernel, by decide +kernel⟩, List.mem_of_getElem? (i := 216) (by decide +kernel), List.mem_of_getElem? (i := 779) (by decide +kernel), List.mem_of_getElem? (i := 780) (by decide +kernel)⟩
theorem lw_p77 : lw_okq (⟨"StampSheets", "valuesThatFit", "(I)I"⟩, 10) := ⟨⟨by decide +kernel, by decide +kernel⟩, List.mem_of_getElem? (i := 15) (by decide +kernel), List.mem_of_getElem? (i := 784) (by decide +kernel), List.mem_of_getElem? (i := 785) (by decide +kernel)⟩
theorem lw_p78 : lw_okq (⟨"StampSheets", "oversThatFit", "()I"⟩, 10) := ⟨⟨by decide +kernel, by decide +kernel⟩, List.mem_of_getElem? (i := 15) (by decide +kernel), List.mem_of_getElem? (i := 792) (by decide +kernel), List.mem_of_getElem? (i := 793) (by decide +kernel)⟩
theorem lw_p79 : lw_okq (⟨"StampSheets", "countSwaps", "()I"⟩, 10) := ⟨⟨by decide +kernel, by decide +kernel⟩, List.mem_of_getElem? (i := 15) (by decide +kernel), List.mem_of_getElem? (i := 796) (by decide +kernel), List.mem_of_getElem? (i := 797) (by decide +kernel)⟩
def lw_privs_5 : List (MethodName × Nat) := [(⟨"StampSheets$Finder", "canServe", "(II)Z"⟩, 8), (⟨"StampSheets$Finder", "pieceAmongServed", "(LStampSheets$Sheet;II)I"⟩, 8), (⟨"StampSheets$Finder", "firstPieceLeaving", "(III)I"⟩, 8), (⟨"StampSheets$Finder", "countCouplings", "(LStampSheets$Sheet;)I"⟩, 8), (⟨"StampSheets", "areTwoCells", "(II)Z"⟩, 10), (⟨"StampSheets$Finder", "sideOf", "(LStampSheets$Sheet;II)I"⟩, 8), (⟨"StampSheets$Sheet", "stepsBetween", "(II)I"⟩, 14), (⟨"StampSheets$Sheet", "firstStep", "(II)I"⟩, 14), (⟨"StampSheets", "takeTold", "(IIIII)I"⟩, 10), (⟨"StampSheets$Told", "takeCells", "(LStampSheets$Row;III)Z"⟩, 3), (⟨"StampSheets$Told", "takePays", "(LStampSheets$Row;I)V"⟩, 3), (⟨"StampSheets", "kindsThatFit", "(I)I"⟩, 10), (⟨"StampSheets$Told", "isSo", "(LStampSheets$Sheet;)Z"⟩, 3), (⟨"StampSheets", "valuesThatFit", "(I)I"⟩, 10), (⟨"StampSheets", "oversThatFit", "()I"⟩, 10), (⟨"StampSheets", "countSwaps", "()I"⟩, 10)]
theorem lw_r5 : ∀ q ∈ lw_privs_5, lw_okq q := List.forall_mem_cons.mpr ⟨lw_p64, List.forall_mem_cons.mpr ⟨lw_p65, List.forall_mem_cons.mpr ⟨lw_p66, List.forall_mem_cons.mpr ⟨lw_p67, List.forall_mem_cons.mpr ⟨lw_p68, List.forall_mem_cons.mpr ⟨lw_p69, List.forall_mem_cons.mpr ⟨lw_p70, List.forall_mem_cons.mpr ⟨lw_p71, List.forall_mem_cons.mpr ⟨lw_p72, List.forall_mem_cons.mpr ⟨lw_p73, List.forall_mem_cons.mpr ⟨lw_p74, List.forall_mem_cons.mpr ⟨lw_p75, List.forall_mem_cons.mpr ⟨lw_p76, List.forall_mem_cons.mpr ⟨lw_p77, List.forall_mem_cons.mpr ⟨lw_p78, List.forall_mem_cons.mpr ⟨lw_p79, fun _ h => absurd h List.not_mem_nil⟩⟩⟩⟩⟩⟩⟩⟩⟩⟩⟩⟩⟩⟩⟩⟩
theorem lw_p80 : lw_okq (⟨"StampSheets", "fitsSwapped", "(II)Z"⟩, 10) := ⟨⟨by decide +kernel, by decide +kernel⟩, List.mem_of_getElem? (i := 15) (by decide +kernel), List.mem_of_getElem? (i := 800) (by decide +kernel), List.mem_of_getElem? (i := 801) (by decide +kernel)⟩
theorem lw_p81 : lw_okq (⟨"StampSheets", "firstSwap", "()I"⟩, 10) := ⟨⟨by decide +kernel, by decide +kernel⟩, List.mem_of_getElem? (i := 15) (by decide +kernel), List.mem_of_getElem? (i := 804) (by decide +kernel), List.mem_of_getElem? (i := 805) (by decide +kernel)⟩
theorem lw_p82 : lw_okq (⟨"StampSheets$Finder", "casesOfFewLost", "(LStampSheets$Sheet;III)J"⟩, 8) := ⟨⟨by decide +kernel, by decide +kernel⟩, List.mem_of_getElem? (i := 156) (by decide +kernel), List.mem_of_getElem? (i := 817) (by decide +kernel), List.mem_of_getElem? (i := 818) (by decide +kernel)⟩
theorem lw_p83 : lw_okq (⟨"StampSheets$Finder", "addStamp", "(JJ)V"⟩, 8) := ⟨⟨by decide +kernel, by decide +kernel⟩, List.mem_of_getElem? (i := 156) (by decide +kernel), List.mem_of_getElem? (i := 826) (by decide +kernel), List.mem_of_getElem? (i := 827) (by decide +kernel)⟩
theorem lw_p84 : lw_okq (⟨"StampSheets", "liveDay", "(LStampSheets$Sheet;J)V"⟩, 10) := ⟨⟨by decide +kernel, by decide +kernel⟩, List.mem_of_getElem? (i := 15) (by decide +kernel), List.mem_of_getElem? (i := 840) (by decide +kernel), List.mem_of_getElem? (i := 841) (by decide +kernel)⟩
theorem lw_p85 : lw_okq (⟨"StampSheets$Asks", "answer", "(LStampSheets$Sheet;II)I"⟩, 6) := ⟨⟨by decide +kernel, by decide +kernel⟩, List.mem_of_getElem? (i := 189) (by decide +kernel), List.mem_of_getElem? (i := 876) (by decide +kernel), List.mem_of_getElem? (i := 877) (by decide +kernel)⟩
theorem lw_p86 : lw_okq (⟨"StampSheets$Asks", "bodyFor", "(I)I"⟩, 6) := ⟨⟨by decide +kernel, by decide +kernel⟩, List.mem_of_getElem? (i := 189) (by decide +kernel), List.mem_of_getElem? (i := 880) (by decide +kernel), List.mem_of_getElem? (i := 881) (by decide +kernel)⟩
theorem lw_p87 : lw_okq (⟨"StampSheets$Asks", "body", "(II)I"⟩, 6) := ⟨⟨by decide +kernel, by decide +kernel⟩, List.mem_of_getElem? (i := 189) (by decide +kernel), List.mem_of_getElem? (i := 891) (by decide +kernel), List.mem_of_getElem? (i := 892) (by decide +kernel)⟩
theorem lw_p88 : lw_okq (⟨"StampSheets$Asks", "leave", "(I)V"⟩, 6) := ⟨⟨by decide +kernel, by decide +kernel⟩, List.mem_of_getElem? (i := 189) (by decide +kernel), List.mem_of_getElem? (i := 895) (by decide +kernel), List.mem_of_getElem? (i := 896) (by decide +kernel)⟩
theorem lw_p89 : lw_okq (⟨"StampSheets", "countRows", "()I"⟩, 10) := ⟨⟨by decide +kernel, by decide +kernel⟩, List.mem_of_getElem? (i := 15) (by decide +kernel), List.mem_of_getElem? (i := 907) (by decide +kernel), List.mem_of_getElem? (i := 908) (by decide +kernel)⟩
theorem lw_p90 : lw_okq (⟨"StampSheetsModel", "finds", "(I)I"⟩, 23) := ⟨⟨by decide +kernel, by decide +kernel⟩, List.mem_of_getElem? (i := 915) (by decide +kernel), List.mem_of_getElem? (i := 1007) (by decide +kernel), List.mem_of_getElem? (i := 1008) (by decide +kernel)⟩
theorem lw_p91 : lw_okq (⟨"StampSheetsModel", "isPlace", "(III)Z"⟩, 23) := ⟨⟨by decide +kernel, by decide +kernel⟩, List.mem_of_getElem? (i := 915) (by decide +kernel), List.mem_of_getElem? (i := 1020) (by decide +kernel), List.mem_of_getElem? (i := 1021) (by decide +kernel)⟩
theorem lw_p92 : lw_okq (⟨"StampSheetsModel", "reads", "()Z"⟩, 23) := ⟨⟨by decide +kernel, by decide +kernel⟩, List.mem_of_getElem? (i := 915) (by decide +kernel), List.mem_of_getElem? (i := 1037) (by decide +kernel), List.mem_of_getElem? (i := 1038) (by decide +kernel)⟩
theorem lw_p93 : lw_okq (⟨"StampSheetsModel", "readsLaw", "()Z"⟩, 23) := ⟨⟨by decide +kernel, by decide +kernel⟩, List.mem_of_getElem? (i := 915) (by decide +kernel), List.mem_of_getElem? (i := 1041) (by decide +kernel), List.mem_of_getElem? (i := 1042) (by decide +kernel)⟩
theorem lw_p94 : lw_okq (⟨"StampSheetsModel", "takes", "(I)Z"⟩, 23) := ⟨⟨by decide +kernel, by decide +kernel⟩, List.mem_of_getElem? (i := 915) (by decide +kernel), List.mem_of_getElem? (i := 1045) (by decide +kernel), List.mem_of_getElem? (i := 1046) (by decide +kernel)⟩
theorem lw_p95 : lw_okq (⟨"StampSheetsModel", "byteAt", "(I)I"⟩, 23) := ⟨⟨by decide +kernel, by decide +kernel⟩, List.mem_of_getElem? (i := 915) (by decide +kernel), List.mem_of_getElem? (i := 1049) (by decide +kernel), List.mem_of_getElem? (i := 1050) (by decide +kernel)⟩
def lw_privs_6 : List (MethodName × Nat) := [(⟨"StampSheets", "fitsSwapped", "(II)Z"⟩, 10), (⟨"StampSheets", "firstSwap", "()I"⟩, 10), (⟨"StampSheets$Finder", "casesOfFewLost", "(LStampSheets$Sheet;III)J"⟩, 8), (⟨"StampSheets$Finder", "addStamp", "(JJ)V"⟩, 8), (⟨"StampSheets", "liveDay", "(LStampSheets$Sheet;J)V"⟩, 10), (⟨"StampSheets$Asks", "answer", "(LStampSheets$Sheet;II)I"⟩, 6), (⟨"StampSheets$Asks", "bodyFor", "(I)I"⟩, 6), (⟨"StampSheets$Asks", "body", "(II)I"⟩, 6), (⟨"StampSheets$Asks", "leave", "(I)V"⟩, 6), (⟨"StampSheets", "countRows", "()I"⟩, 10), (⟨"StampSheetsModel", "finds", "(I)I"⟩, 23), (⟨"StampSheetsModel", "isPlace", "(III)Z"⟩, 23), (⟨"StampSheetsModel", "reads", "()Z"⟩, 23), (⟨"StampSheetsModel", "readsLaw", "()Z"⟩, 23), (⟨"StampSheetsModel", "takes", "(I)Z"⟩, 23), (⟨"StampSheetsModel", "byteAt", "(I)I"⟩, 23)]
theorem lw_r6 : ∀ q ∈ lw_privs_6, lw_okq q := List.forall_mem_cons.mpr ⟨lw_p80, List.forall_mem_cons.mpr ⟨lw_p81, List.forall_mem_cons.mpr ⟨lw_p82, List.forall_mem_cons.mpr ⟨lw_p83, List.forall_mem_cons.mpr ⟨lw_p84, List.forall_mem_cons.mpr ⟨lw_p85, List.forall_mem_cons.mpr ⟨lw_p86, List.forall_mem_cons.mpr ⟨lw_p87, List.forall_mem_cons.mpr ⟨lw_p88, List.forall_mem_cons.mpr ⟨lw_p89, List.forall_mem_cons.mpr ⟨lw_p90, List.forall_mem_cons.mpr ⟨lw_p91, List.forall_mem_cons.mpr ⟨lw_p92, List.forall_mem_cons.mpr ⟨lw_p93, List.forall_mem_cons.mpr ⟨lw_p94, List.forall_mem_cons.mpr ⟨lw_p95, fun _ h => absurd h List.not_mem_nil⟩⟩⟩⟩⟩⟩⟩⟩⟩⟩⟩⟩⟩⟩⟩⟩
theorem lw_p96 : lw_okq (⟨"StampSheetsModel", "wrongs", "(I)Z"⟩, 23) := ⟨⟨by decide +kernel, by decide +kernel⟩, List.mem_of_getElem? (i := 915) (by decide +kernel), List.mem_of_getElem? (i := 1053) (by decide +kernel), List.mem_of_getElem? (i := 1054) (by decide +kernel)⟩
theorem lw_p97 : lw_okq (⟨"StampSheetsModel", "number", "(III)Z"⟩, 23) := ⟨⟨by decide +kernel, by decide +kernel⟩, List.mem_of_getElem? (i := 915) (by decide +kernel), List.mem_of_getElem? (i := 1057) (by decide +kernel), List.mem_of_getElem? (i := 1058) (by decide +kernel)⟩
theorem lw_p98 : lw_okq (⟨"StampSheetsModel", "readsStamp", "(I)Z"⟩, 23) := ⟨⟨by decide +kernel, by decide +kernel⟩, List.mem_of_getElem? (i := 915) (by decide +kernel), List.mem_of_getElem? (i := 1064) (by decide +kernel), List.mem_of_getElem? (i := 1065) (by decide +kernel)⟩
theorem lw_p99 : lw_okq (⟨"StampSheetsModel", "readsCustomer", "()Z"⟩, 23) := ⟨⟨by decide +kernel, by decide +kernel⟩, List.mem_of_getElem? (i := 915) (by decide +kernel), List.mem_of_getElem? (i := 1071) (by decide +kernel), List.mem_of_getElem? (i := 1072) (by decide +kernel)⟩
theorem lw_p100 : lw_okq (⟨"StampSheetsModel", "joins", "()V"⟩, 23) := ⟨⟨by decide +kernel, by decide +kernel⟩, List.mem_of_getElem? (i := 915) (by decide +kernel), List.mem_of_getElem? (i := 1076) (by decide +kernel), List.mem_of_getElem? (i := 1077) (by decide +kernel)⟩
theorem lw_p101 : lw_okq (⟨"StampSheetsModel", "isCustomer", "(I)Z"⟩, 23) := ⟨⟨by decide +kernel, by decide +kernel⟩, List.mem_of_getElem? (i := 915) (by decide +kernel), List.mem_of_getElem? (i := 1093) (by decide +kernel), List.mem_of_getElem? (i := 1094) (by decide +kernel)⟩
theorem lw_p102 : lw_okq (⟨"StampSheetsModel", "isPiece", "(I)Z"⟩, 23) := ⟨⟨by decide +kernel, by decide +kernel⟩, List.mem_of_getElem? (i := 915) (by decide +kernel), List.mem_of_getElem? (i := 1097) (by decide +kernel), List.mem_of_getElem? (i := 1098) (by decide +kernel)⟩
theorem lw_p103 : lw_okq (⟨"StampSheetsModel", "on", "()I"⟩, 23) := ⟨⟨by decide +kernel, by decide +kernel⟩, List.mem_of_getElem? (i := 915) (by decide +kernel), List.mem_of_getElem? (i := 1101) (by decide +kernel), List.mem_of_getElem? (i := 1102) (by decide +kernel)⟩
theorem lw_p104 : lw_okq (⟨"StampSheetsModel", "gone", "()I"⟩, 23) := ⟨⟨by decide +kernel, by decide +kernel⟩, List.mem_of_getElem? (i := 915) (by decide +kernel), List.mem_of_getElem? (i := 1105) (by decide +kernel), List.mem_of_getElem? (i := 1106) (by decide +kernel)⟩
theorem lw_p105 : lw_okq (⟨"StampSheetsModel", "hangs", "(I)Z"⟩, 23) := ⟨⟨by decide +kernel, by decide +kernel⟩, List.mem_of_getElem? (i := 915) (by decide +kernel), List.mem_of_getElem? (i := 1109) (by decide +kernel), List.mem_of_getElem? (i := 1110) (by decide +kernel)⟩
theorem lw_p106 : lw_okq (⟨"StampSheetsModel", "reach", "(II)I"⟩, 23) := ⟨⟨by decide +kernel, by decide +kernel⟩, List.mem_of_getElem? (i := 915) (by decide +kernel), List.mem_of_getElem? (i := 1119) (by decide +kernel), List.mem_of_getElem? (i := 1120) (by decide +kernel)⟩
theorem lw_p107 : lw_okq (⟨"StampSheetsModel", "pays", "(I)I"⟩, 23) := ⟨⟨by decide +kernel, by decide +kernel⟩, List.mem_of_getElem? (i := 915) (by decide +kernel), List.mem_of_getElem? (i := 1123) (by decide +kernel), List.mem_of_getElem? (i := 1124) (by decide +kernel)⟩
theorem lw_p108 : lw_okq (⟨"StampSheetsModel", "keeps", "()V"⟩, 23) := ⟨⟨by decide +kernel, by decide +kernel⟩, List.mem_of_getElem? (i := 915) (by decide +kernel), List.mem_of_getElem? (i := 1130) (by decide +kernel), List.mem_of_getElem? (i := 1131) (by decide +kernel)⟩
theorem lw_p109 : lw_okq (⟨"StampSheetsModel", "tears", "(I)I"⟩, 23) := ⟨⟨by decide +kernel, by decide +kernel⟩, List.mem_of_getElem? (i := 915) (by decide +kernel), List.mem_of_getElem? (i := 1134) (by decide +kernel), List.mem_of_getElem? (i := 1135) (by decide +kernel)⟩
theorem lw_p110 : lw_okq (⟨"StampSheetsModel", "serves", "(II)V"⟩, 23) := ⟨⟨by decide +kernel, by decide +kernel⟩, List.mem_of_getElem? (i := 915) (by decide +kernel), List.mem_of_getElem? (i := 1138) (by decide +kernel), List.mem_of_getElem? (i := 1139) (by decide +kernel)⟩
theorem lw_p111 : lw_okq (⟨"StampSheetsModel", "isCell", "(I)Z"⟩, 23) := ⟨⟨by decide +kernel, by decide +kernel⟩, List.mem_of_getElem? (i := 915) (by decide +kernel), List.mem_of_getElem? (i := 1150) (by decide +kernel), List.mem_of_getElem? (i := 1151) (by decide +kernel)⟩
def lw_privs_7 : List (MethodName × Nat) := [(⟨"StampSheetsModel", "wrongs", "(I)Z"⟩, 23), (⟨"StampSheetsModel", "number", "(III)Z"⟩, 23), (⟨"StampSheetsModel", "readsStamp", "(I)Z"⟩, 23), (⟨"StampSheetsModel", "readsCustomer", "()Z"⟩, 23), (⟨"StampSheetsModel", "joins", "()V"⟩, 23), (⟨"StampSheetsModel", "isCustomer", "(I)Z"⟩, 23), (⟨"StampSheetsModel", "isPiece", "(I)Z"⟩, 23), (⟨"StampSheetsModel", "on", "()I"⟩, 23), (⟨"StampSheetsModel", "gone", "()I"⟩, 23), (⟨"StampSheetsModel", "hangs", "(I)Z"⟩, 23), (⟨"StampSheetsModel", "reach", "(II)I"⟩, 23), (⟨"StampSheetsModel", "pays", "(I)I"⟩, 23), (⟨"StampSheetsModel", "keeps", "()V"⟩, 23), (⟨"StampSheetsModel", "tears", "(I)I"⟩, 23), (⟨"StampSheetsModel", "serves", "(II)V"⟩, 23), (⟨"StampSheetsModel", "isCell", "(I)Z"⟩, 23)]
theorem lw_r7 : ∀ q ∈ lw_privs_7, lw_okq q := List.forall_mem_cons.mpr ⟨lw_p96, List.forall_mem_cons.mpr ⟨lw_p97, List.forall_mem_cons.mpr ⟨lw_p98, List.forall_mem_cons.mpr ⟨lw_p99, List.forall_mem_cons.mpr ⟨lw_p100, List.forall_mem_cons.mpr ⟨lw_p101, List.forall_mem_cons.mpr ⟨lw_p102, List.forall_mem_cons.mpr ⟨lw_p103, List.forall_mem_cons.mpr ⟨lw_p104, List.forall_mem_cons.mpr ⟨lw_p105, List.forall_mem_cons.mpr ⟨lw_p106, List.forall_mem_cons.mpr ⟨lw_p107, List.forall_mem_cons.mpr ⟨lw_p108, List.forall_mem_cons.mpr ⟨lw_p109, List.forall_mem_cons.mpr ⟨lw_p110, List.forall_mem_cons.mpr ⟨lw_p111, fun _ h => absurd h List.not_mem_nil⟩⟩⟩⟩⟩⟩⟩⟩⟩⟩⟩⟩⟩⟩⟩⟩
theorem lw_p112 : lw_okq (⟨"StampSheetsModel", "ownerOf", "(I)I"⟩, 23) := ⟨⟨by decide +kernel, by decide +kernel⟩, List.mem_of_getElem? (i := 915) (by decide +kernel), List.mem_of_getElem? (i := 1166) (by decide +kernel), List.mem_of_getElem? (i := 1167) (by decide +kernel)⟩
theorem lw_p113 : lw_okq (⟨"StampSheetsModel", "servedNow", "()I"⟩, 23) := ⟨⟨by decide +kernel, by decide +kernel⟩, List.mem_of_getElem? (i := 915) (by decide +kernel), List.mem_of_getElem? (i := 1179) (by decide +kernel), List.mem_of_getElem? (i := 1180) (by decide +kernel)⟩
theorem lw_p114 : lw_okq (⟨"StampSheetsModel", "manyParts", "(I)I"⟩, 23) := ⟨⟨by decide +kernel, by decide +kernel⟩, List.mem_of_getElem? (i := 915) (by decide +kernel), List.mem_of_getElem? (i := 1187) (by decide +kernel), List.mem_of_getElem? (i := 1188) (by decide +kernel)⟩
theorem lw_p115 : lw_okq (⟨"StampSheetsModel", "partOf", "(II)I"⟩, 23) := ⟨⟨by decide +kernel, by decide +kernel⟩, List.mem_of_getElem? (i := 915) (by decide +kernel), List.mem_of_getElem? (i := 1191) (by decide +kernel), List.mem_of_getElem? (i := 1192) (by decide +kernel)⟩
theorem lw_p116 : lw_okq (⟨"StampSheetsModel", "isStraight", "(I)Z"⟩, 23) := ⟨⟨by decide +kernel, by decide +kernel⟩, List.mem_of_getElem? (i := 915) (by decide +kernel), List.mem_of_getElem? (i := 1203) (by decide +kernel), List.mem_of_getElem? (i := 1204) (by decide +kernel)⟩
theorem lw_p117 : lw_okq (⟨"StampSheetsModel", "surveys", "()V"⟩, 23) := ⟨⟨by decide +kernel, by decide +kernel⟩, List.mem_of_getElem? (i := 915) (by decide +kernel), List.mem_of_getElem? (i := 1211) (by decide +kernel), List.mem_of_getElem? (i := 1212) (by decide +kernel)⟩
theorem lw_p118 : lw_okq (⟨"StampSheetsModel", "paysBy", "(I)I"⟩, 23) := ⟨⟨by decide +kernel, by decide +kernel⟩, List.mem_of_getElem? (i := 915) (by decide +kernel), List.mem_of_getElem? (i := 1215) (by decide +kernel), List.mem_of_getElem? (i := 1216) (by decide +kernel)⟩
theorem lw_p119 : lw_okq (⟨"StampSheetsModel", "bestFor", "(I)I"⟩, 23) := ⟨⟨by decide +kernel, by decide +kernel⟩, List.mem_of_getElem? (i := 915) (by decide +kernel), List.mem_of_getElem? (i := 1223) (by decide +kernel), List.mem_of_getElem? (i := 1224) (by decide +kernel)⟩
theorem lw_p120 : lw_okq (⟨"StampSheetsModel", "fitsFor", "(II)Z"⟩, 23) := ⟨⟨by decide +kernel, by decide +kernel⟩, List.mem_of_getElem? (i := 915) (by decide +kernel), List.mem_of_getElem? (i := 1227) (by decide +kernel), List.mem_of_getElem? (i := 1228) (by decide +kernel)⟩
theorem lw_p121 : lw_okq (⟨"StampSheetsModel", "serveAll", "()V"⟩, 23) := ⟨⟨by decide +kernel, by decide +kernel⟩, List.mem_of_getElem? (i := 915) (by decide +kernel), List.mem_of_getElem? (i := 1243) (by decide +kernel), List.mem_of_getElem? (i := 1244) (by decide +kernel)⟩
theorem lw_p122 : lw_okq (⟨"StampSheetsModel", "stepsOf", "(II)I"⟩, 23) := ⟨⟨by decide +kernel, by decide +kernel⟩, List.mem_of_getElem? (i := 915) (by decide +kernel), List.mem_of_getElem? (i := 1264) (by decide +kernel), List.mem_of_getElem? (i := 1265) (by decide +kernel)⟩
theorem lw_p123 : lw_okq (⟨"StampSheetsModel", "findingOf", "(IIIII)I"⟩, 23) := ⟨⟨by decide +kernel, by decide +kernel⟩, List.mem_of_getElem? (i := 915) (by decide +kernel), List.mem_of_getElem? (i := 1276) (by decide +kernel), List.mem_of_getElem? (i := 1277) (by decide +kernel)⟩
theorem lw_p124 : lw_okq (⟨"StampSheetsModel", "isSo", "(IIIII)Z"⟩, 23) := ⟨⟨by decide +kernel, by decide +kernel⟩, List.mem_of_getElem? (i := 915) (by decide +kernel), List.mem_of_getElem? (i := 1280) (by decide +kernel), List.mem_of_getElem? (i := 1281) (by decide +kernel)⟩
theorem lw_p125 : lw_okq (⟨"StampSheetsModel", "swaps", "(II)V"⟩, 23) := ⟨⟨by decide +kernel, by decide +kernel⟩, List.mem_of_getElem? (i := 915) (by decide +kernel), List.mem_of_getElem? (i := 1288) (by decide +kernel), List.mem_of_getElem? (i := 1289) (by decide +kernel)⟩
theorem lw_p126 : lw_okq (⟨"StampSheetsModel", "day", "(J)V"⟩, 23) := ⟨⟨by decide +kernel, by decide +kernel⟩, List.mem_of_getElem? (i := 915) (by decide +kernel), List.mem_of_getElem? (i := 1305) (by decide +kernel), List.mem_of_getElem? (i := 1306) (by decide +kernel)⟩
theorem lw_p127 : lw_okq (⟨"StampSheetsModel", "sizeHigh", "(I)I"⟩, 23) := ⟨⟨by decide +kernel, by decide +kernel⟩, List.mem_of_getElem? (i := 915) (by decide +kernel), List.mem_of_getElem? (i := 1330) (by decide +kernel), List.mem_of_getElem? (i := 1331) (by decide +kernel)⟩
def lw_privs_8 : List (MethodName × Nat) := [(⟨"StampSheetsModel", "ownerOf", "(I)I"⟩, 23), (⟨"StampSheetsModel", "servedNow", "()I"⟩, 23), (⟨"StampSheetsModel", "manyParts", "(I)I"⟩, 23), (⟨"StampSheetsModel", "partOf", "(II)I"⟩, 23), (⟨"StampSheetsModel", "isStraight", "(I)Z"⟩, 23), (⟨"StampSheetsModel", "surveys", "()V"⟩, 23), (⟨"StampSheetsModel", "paysBy", "(I)I"⟩, 23), (⟨"StampSheetsModel", "bestFor", "(I)I"⟩, 23), (⟨"StampSheetsModel", "fitsFor", "(II)Z"⟩, 23), (⟨"StampSheetsModel", "serveAll", "()V"⟩, 23), (⟨"StampSheetsModel", "stepsOf", "(II)I"⟩, 23), (⟨"StampSheetsModel", "findingOf", "(IIIII)I"⟩, 23), (⟨"StampSheetsModel", "isSo", "(IIIII)Z"⟩, 23), (⟨"StampSheetsModel", "swaps", "(II)V"⟩, 23), (⟨"StampSheetsModel", "day", "(J)V"⟩, 23), (⟨"StampSheetsModel", "sizeHigh", "(I)I"⟩, 23)]
theorem lw_r8 : ∀ q ∈ lw_privs_8, lw_okq q := List.forall_mem_cons.mpr ⟨lw_p112, List.forall_mem_cons.mpr ⟨lw_p113, List.forall_mem_cons.mpr ⟨lw_p114, List.forall_mem_cons.mpr ⟨lw_p115, List.forall_mem_cons.mpr ⟨lw_p116, List.forall_mem_cons.mpr ⟨lw_p117, List.forall_mem_cons.mpr ⟨lw_p118, List.forall_mem_cons.mpr ⟨lw_p119, List.forall_mem_cons.mpr ⟨lw_p120, List.forall_mem_cons.mpr ⟨lw_p121, List.forall_mem_cons.mpr ⟨lw_p122, List.forall_mem_cons.mpr ⟨lw_p123, List.forall_mem_cons.mpr ⟨lw_p124, List.forall_mem_cons.mpr ⟨lw_p125, List.forall_mem_cons.mpr ⟨lw_p126, List.forall_mem_cons.mpr ⟨lw_p127, fun _ h => absurd h List.not_mem_nil⟩⟩⟩⟩⟩⟩⟩⟩⟩⟩⟩⟩⟩⟩⟩⟩
theorem lw_p128 : lw_okq (⟨"StampSheetsModel", "leaves", "(I)V"⟩, 23) := ⟨⟨by decide +kernel, by decide +kernel⟩, List.mem_of_getElem? (i := 915) (by decide +kernel), List.mem_of_getElem? (i := 1334) (by decide +kernel), List.mem_of_getElem? (i := 1335) (by decide +kernel)⟩
theorem lw_p129 : lw_okq (⟨"StampSheetsModel", "markLow", "(I)I"⟩, 23) := ⟨⟨by decide +kernel, by decide +kernel⟩, List.mem_of_getElem? (i := 915) (by decide +kernel), List.mem_of_getElem? (i := 1338) (by decide +kernel), List.mem_of_getElem? (i := 1339) (by decide +kernel)⟩
def lw_privs_9 : List (MethodName × Nat) := [(⟨"StampSheetsModel", "leaves", "(I)V"⟩, 23), (⟨"StampSheetsModel", "markLow", "(I)I"⟩, 23)]
theorem lw_r9 : ∀ q ∈ lw_privs_9, lw_okq q := List.forall_mem_cons.mpr ⟨lw_p128, List.forall_mem_cons.mpr ⟨lw_p129, fun _ h => absurd h List.not_mem_nil⟩⟩
def lw_privs : List (MethodName × Nat) := lw_privs_1 ++ (lw_privs_2 ++ (lw_privs_3 ++ (lw_privs_4 ++ (lw_privs_5 ++ (lw_privs_6 ++ (lw_privs_7 ++ (lw_privs_8 ++ (lw_privs_9))))))))
def lw_tbl : List Cond := k2_sels lw_privs ++ tables_1
theorem lw_privs_ok : ∀ q ∈ lw_privs, lw_okq q := by
  show ∀ q ∈ lw_privs_1 ++ (lw_privs_2 ++ (lw_privs_3 ++ (lw_privs_4 ++ (lw_privs_5 ++ (lw_privs_6 ++ (lw_privs_7 ++ (lw_privs_8 ++ (lw_privs_9)))))))), lw_okq q
  exact List.forall_mem_append.mpr ⟨lw_r1, List.forall_mem_append.mpr ⟨lw_r2, List.forall_mem_append.mpr ⟨lw_r3, List.forall_mem_append.mpr ⟨lw_r4, List.forall_mem_append.mpr ⟨lw_r5, List.forall_mem_append.mpr ⟨lw_r6, List.forall_mem_append.mpr ⟨lw_r7, List.forall_mem_append.mpr ⟨lw_r8, lw_r9⟩⟩⟩⟩⟩⟩⟩⟩
-- ===== end of PART A; then your names; then what follows =====
/-! THE CLAIM OUT OF ONE WALK OF THE LAW'S BODY. Your part is whole_start (and what it stands on); all else here is the same for every law, but numbers. -/
def R_law : String := "StampSheetsLaw"
def lw_P (b : Addr) (xs : List Int32) (args : Array Value) (s : State) : Prop := args = #[.ref b] ∧ s.IntsAt b xs ∧ xs.length ≤ 512 ∧ (Jvm.Cond.and given_1 narrow_1).before args s = true
def lw_Q (_ : Array Value) (s : State) (o : Outcome) (t : State) : Prop := o = .returned (some (.int 1)) ∧ Framed s o t [] 600000 7302250
def lw_Z (below : List Frame) (a : Array Value) (s : State) : State → Prop := fun t => ∃ o, t.status = .running ∧ Ended t below o ∧ lw_Q a s o t
/-- the law's own end, with 1 on the stack, nothing written that was there before, its room as the claim has it -/
theorem lw_ret {p : Program} {l : Launch} {e : Env} {s : State} {m : MethodId} {below : List Frame} {meth : Method} {c : Code} {b : Nat} (hx : p.tables.exec = Jvm.exec) (hb : c.code = code) (hr : meth.sig.returnType = ret) (hlocks : meth.locks = false) {pc : Nat} {H : Heap} {ls : Array Slot} (hdg : decode code pc = .ok (.ireturn, 1)) : W p l e room_1 s m #[Value.ref b] below meth c H [] 600000 7302250 (lw_Z below #[Value.ref b] s) (F0 m pc ls [.int 1]) := by
  intro T hT X
  obtain ⟨fs, hret, hrun, hended, hW, hframe⟩ := X.leave (v := some (.int 1)) (hlocks := hlocks) (fun h => by rw [hr] at h; cases h)
  have hmeth' : T.vm.method? m = some meth := X.method'
  refine ⟨T.setFrames fs, ?_, .returned (some (.int 1)), hrun, hended, rfl, ⟨_, rfl⟩, hW, hframe⟩
  jvm_step X.here [X.here.top, hx, hb, hdg, hmeth', hr, ret, narrow_b1]
  (try refine ⟨rfl, ?_⟩); (try refine ⟨rfl, ?_⟩)
  first | (intro acts; rw [hret _ acts rfl rfl rfl]) | rw [hret _ _ rfl rfl rfl]
  exact Steps.refl _
/-- what holds at the law's entry: the machine, the code, the tables' words (any of lw_tbl by 'hts w (by decide +kernel)'), the script of L ints xs at the cell b, what the Statement gives of the start (any of its parts by flat_of_before) -/
def lw_At (p : Program) (s : State) (m : MethodId) (meth : Method) (c : Code) (b L : Nat) (xs : Nat → Int32) : Prop :=
  p.tables.exec = Jvm.exec ∧ c.code = code ∧ meth.sig.returnType = ret ∧ c.maxLocals = 4 ∧ s.vm.findClass R_law = some m.cls ∧ (∀ w ∈ lw_tbl, w.before #[Value.ref b] s = true) ∧ va_X b L xs s s.heap ∧ b < s.heap.size ∧ meth.locks = false ∧ (Jvm.Cond.and given_1 narrow_1).before #[Value.ref b] s = true
def RX0 : String := "StampSheets$Acts"
def TX0 : u_T := fun k => match k with
  | 0 => ("StampSheets$Acts", "deed", "[I", true)
  | 1 => ("StampSheets$Acts", "whose", "[I", true)
  | 2 => ("StampSheets$Acts", "before", "[I", true)
  | 3 => ("StampSheets$Acts", "free", "I", false)
  | _ => ("StampSheets$Acts", "size", "I", false)
def tyX0 : Nat → FieldType := fun k => match k with
  | 0 => .array .int
  | 1 => .array .int
  | 2 => .array .int
  | 3 => .int
  | _ => .int
abbrev wsX00 : List Cond := u_ws RX0 TX0 5
theorem nmX0 : ∀ a, a < 5 → ∀ b, b < 5 → a ≠ b → (TX0 a).2.1 ≠ (TX0 b).2.1 := by decide +kernel
theorem tyX0_ok : ∀ k, k < 5 → parseFieldDescriptor (TX0 k).2.2.1 = some (tyX0 k) := by decide +kernel
abbrev cX0_init : ByteArray := prog_2_method_1_code
def yX0_init : MethodName := ⟨RX0, "<init>", "()V"⟩
abbrev cX0_keep : ByteArray := prog_2_method_2_code
def yX0_keep : MethodName := ⟨RX0, "keep", "(III)V"⟩
abbrev cX0_takeBackLatest : ByteArray := prog_2_method_3_code
def yX0_takeBackLatest : MethodName := ⟨RX0, "takeBackLatest", "(LStampSheets$Sheet;)V"⟩
def RX1 : String := "StampSheets$Asks"
def TX1 : u_T := fun k => match k with
  | 0 => ("StampSheets$Asks", "trace", "[I", true)
  | 1 => ("StampSheets$Asks", "left", "I", false)
  | 2 => ("StampSheets$Asks", "cell", "I", false)
  | 3 => ("StampSheets$Asks", "kind", "I", false)
  | 4 => ("StampSheets$Asks", "worth", "I", false)
  | _ => ("StampSheets$Asks", "over", "I", false)
def tyX1 : Nat → FieldType := fun k => match k with
  | 0 => .array .int
  | 1 => .int
  | 2 => .int
  | 3 => .int
  | 4 => .int
  | _ => .int
abbrev wsX10 : List Cond := u_ws RX1 TX1 6
theorem nmX1 : ∀ a, a < 6 → ∀ b, b < 6 → a ≠ b → (TX1 a).2.1 ≠ (TX1 b).2.1 := by decide +kernel
theorem tyX1_ok : ∀ k, k < 6 → parseFieldDescriptor (TX1 k).2.2.1 = some (tyX1 k) := by decide +kernel
abbrev cX1_init : ByteArray := prog_3_method_1_code
def yX1_init : MethodName := ⟨RX1, "<init>", "()V"⟩
abbrev cX1_isAlso : ByteArray := prog_3_method_2_code
def yX1_isAlso : MethodName := ⟨RX1, "isAlso", "(II)Z"⟩
abbrev cX1_above : ByteArray := prog_3_method_3_code
def yX1_above : MethodName := ⟨RX1, "above", "(I)I"⟩
abbrev cX1_answer : ByteArray := prog_3_method_4_code
def yX1_answer : MethodName := ⟨RX1, "answer", "(LStampSheets$Sheet;II)I"⟩
abbrev cX1_bodyFor : ByteArray := prog_3_method_5_code
def yX1_bodyFor : MethodName := ⟨RX1, "bodyFor", "(I)I"⟩
abbrev cX1_bodyTold : ByteArray := prog_3_method_6_code
def yX1_bodyTold : MethodName := ⟨RX1, "bodyTold", "(II)I"⟩
abbrev cX1_body : ByteArray := prog_3_method_7_code
def yX1_body : MethodName := ⟨RX1, "body", "(II)I"⟩
abbrev cX1_leave : ByteArray := prog_3_method_8_code
def yX1_leave : MethodName := ⟨RX1, "leave", "(I)V"⟩
def RX2 : String := "StampSheets$Finder"
def TX2 : u_T := fun k => match k with
  | 0 => ("StampSheets$Finder", "hangs", "[Z", true)
  | 1 => ("StampSheets$Finder", "hanging", "[I", true)
  | 2 => ("StampSheets$Finder", "pays", "[I", true)
  | 3 => ("StampSheets$Finder", "many", "I", false)
  | 4 => ("StampSheets$Finder", "suited", "[I", true)
  | 5 => ("StampSheets$Finder", "table", "[I", true)
  | 6 => ("StampSheets$Finder", "paid", "[I", true)
  | _ => ("StampSheets$Finder", "cases", "[J", true)
def tyX2 : Nat → FieldType := fun k => match k with
  | 0 => .array .boolean
  | 1 => .array .int
  | 2 => .array .int
  | 3 => .int
  | 4 => .array .int
  | 5 => .array .int
  | 6 => .array .int
  | _ => .array .long
abbrev wsX20 : List Cond := u_ws RX2 TX2 8
theorem nmX2 : ∀ a, a < 8 → ∀ b, b < 8 → a ≠ b → (TX2 a).2.1 ≠ (TX2 b).2.1 := by decide +kernel
theorem tyX2_ok : ∀ k, k < 8 → parseFieldDescriptor (TX2 k).2.2.1 = some (tyX2 k) := by decide +kernel
abbrev cX2_init : ByteArray := prog_4_method_1_code
def yX2_init : MethodName := ⟨RX2, "<init>", "()V"⟩
abbrev cX2_learn : ByteArray := prog_4_method_2_code
def yX2_learn : MethodName := ⟨RX2, "learn", "(LStampSheets$Sheet;)V"⟩
abbrev cX2_hangsByOneLess : ByteArray := prog_4_method_3_code
def yX2_hangsByOneLess : MethodName := ⟨RX2, "hangsByOneLess", "(LStampSheets$Sheet;I)Z"⟩
abbrev cX2_weigh : ByteArray := prog_4_method_4_code
def yX2_weigh : MethodName := ⟨RX2, "weigh", "(LStampSheets$Sheet;)V"⟩
abbrev cX2_isPiece : ByteArray := prog_4_method_5_code
def yX2_isPiece : MethodName := ⟨RX2, "isPiece", "(LStampSheets$Sheet;I)Z"⟩
abbrev cX2_couldServe : ByteArray := prog_4_method_6_code
def yX2_couldServe : MethodName := ⟨RX2, "couldServe", "(LStampSheets$Sheet;II)Z"⟩
abbrev cX2_countAll : ByteArray := prog_4_method_7_code
def yX2_countAll : MethodName := ⟨RX2, "countAll", "(LStampSheets$Sheet;)I"⟩
abbrev cX2_countOf : ByteArray := prog_4_method_8_code
def yX2_countOf : MethodName := ⟨RX2, "countOf", "(LStampSheets$Sheet;IZ)I"⟩
abbrev cX2_isStraight : ByteArray := prog_4_method_9_code
def yX2_isStraight : MethodName := ⟨RX2, "isStraight", "(LStampSheets$Sheet;I)Z"⟩
abbrev cX2_markSums : ByteArray := prog_4_method_10_code
def yX2_markSums : MethodName := ⟨RX2, "markSums", "(LStampSheets$Sheet;)V"⟩
abbrev cX2_countSums : ByteArray := prog_4_method_11_code
def yX2_countSums : MethodName := ⟨RX2, "countSums", "()I"⟩
abbrev cX2_leastSumUnpaid : ByteArray := prog_4_method_12_code
def yX2_leastSumUnpaid : MethodName := ⟨RX2, "leastSumUnpaid", "()I"⟩
abbrev cX2_greatestSum : ByteArray := prog_4_method_13_code
def yX2_greatestSum : MethodName := ⟨RX2, "greatestSum", "(LStampSheets$Sheet;)I"⟩
abbrev cX2_bestFor : ByteArray := prog_4_method_14_code
def yX2_bestFor : MethodName := ⟨RX2, "bestFor", "(LStampSheets$Sheet;I)I"⟩
abbrev cX2_rankOf : ByteArray := prog_4_method_15_code
def yX2_rankOf : MethodName := ⟨RX2, "rankOf", "(LStampSheets$Sheet;I)I"⟩
abbrev cX2_countFor : ByteArray := prog_4_method_16_code
def yX2_countFor : MethodName := ⟨RX2, "countFor", "(LStampSheets$Sheet;I)I"⟩
abbrev cX2_cheapestFor : ByteArray := prog_4_method_17_code
def yX2_cheapestFor : MethodName := ⟨RX2, "cheapestFor", "(LStampSheets$Sheet;I)I"⟩
abbrev cX2_mostServed : ByteArray := prog_4_method_18_code
def yX2_mostServed : MethodName := ⟨RX2, "mostServed", "(LStampSheets$Sheet;)I"⟩
abbrev cX2_findSuited : ByteArray := prog_4_method_19_code
def yX2_findSuited : MethodName := ⟨RX2, "findSuited", "(LStampSheets$Sheet;)V"⟩
abbrev cX2_suitedBy : ByteArray := prog_4_method_20_code
def yX2_suitedBy : MethodName := ⟨RX2, "suitedBy", "(LStampSheets$Sheet;I)I"⟩
abbrev cX2_findServable : ByteArray := prog_4_method_21_code
def yX2_findServable : MethodName := ⟨RX2, "findServable", "(LStampSheets$Sheet;)V"⟩
abbrev cX2_servableBy : ByteArray := prog_4_method_22_code
def yX2_servableBy : MethodName := ⟨RX2, "servableBy", "(I)I"⟩
abbrev cX2_withOneMore : ByteArray := prog_4_method_23_code
def yX2_withOneMore : MethodName := ⟨RX2, "withOneMore", "(II)I"⟩
abbrev cX2_canServe : ByteArray := prog_4_method_24_code
def yX2_canServe : MethodName := ⟨RX2, "canServe", "(II)Z"⟩
abbrev cX2_pieceAmongServed : ByteArray := prog_4_method_25_code
def yX2_pieceAmongServed : MethodName := ⟨RX2, "pieceAmongServed", "(LStampSheets$Sheet;II)I"⟩
abbrev cX2_firstPieceLeaving : ByteArray := prog_4_method_26_code
def yX2_firstPieceLeaving : MethodName := ⟨RX2, "firstPieceLeaving", "(III)I"⟩
abbrev cX2_countCouplings : ByteArray := prog_4_method_27_code
def yX2_countCouplings : MethodName := ⟨RX2, "countCouplings", "(LStampSheets$Sheet;)I"⟩
abbrev cX2_sideOf : ByteArray := prog_4_method_28_code
def yX2_sideOf : MethodName := ⟨RX2, "sideOf", "(LStampSheets$Sheet;II)I"⟩
abbrev cX2_casesOfFewLost : ByteArray := prog_4_method_29_code
def yX2_casesOfFewLost : MethodName := ⟨RX2, "casesOfFewLost", "(LStampSheets$Sheet;III)J"⟩
abbrev cX2_addStamp : ByteArray := prog_4_method_30_code
def yX2_addStamp : MethodName := ⟨RX2, "addStamp", "(JJ)V"⟩
def RX3 : String := "StampSheets$Reader"
def TX3 : u_T := fun k => match k with
  | 0 => ("StampSheets$Reader", "tape", "[I", true)
  | 1 => ("StampSheets$Reader", "length", "I", false)
  | 2 => ("StampSheets$Reader", "at", "I", false)
  | 3 => ("StampSheets$Reader", "start", "I", false)
  | 4 => ("StampSheets$Reader", "token", "I", false)
  | 5 => ("StampSheets$Reader", "number", "I", false)
  | _ => ("StampSheets$Reader", "fault", "I", false)
def tyX3 : Nat → FieldType := fun k => match k with
  | 0 => .array .int
  | 1 => .int
  | 2 => .int
  | 3 => .int
  | 4 => .int
  | 5 => .int
  | _ => .int
abbrev wsX30 : List Cond := u_ws RX3 TX3 7
theorem nmX3 : ∀ a, a < 7 → ∀ b, b < 7 → a ≠ b → (TX3 a).2.1 ≠ (TX3 b).2.1 := by decide +kernel
theorem tyX3_ok : ∀ k, k < 7 → parseFieldDescriptor (TX3 k).2.2.1 = some (tyX3 k) := by decide +kernel
abbrev cX3_init : ByteArray := prog_5_method_1_code
def yX3_init : MethodName := ⟨RX3, "<init>", "()V"⟩
abbrev cX3_append : ByteArray := prog_5_method_2_code
def yX3_append : MethodName := ⟨RX3, "append", "(I)Z"⟩
abbrev cX3_read : ByteArray := prog_5_method_3_code
def yX3_read : MethodName := ⟨RX3, "read", "(LStampSheets$Sheet;)Z"⟩
abbrev cX3_readLaw : ByteArray := prog_5_method_4_code
def yX3_readLaw : MethodName := ⟨RX3, "readLaw", "(LStampSheets$Sheet;)Z"⟩
abbrev cX3_readStamps : ByteArray := prog_5_method_5_code
def yX3_readStamps : MethodName := ⟨RX3, "readStamps", "(LStampSheets$Sheet;)Z"⟩
abbrev cX3_readCustomers : ByteArray := prog_5_method_6_code
def yX3_readCustomers : MethodName := ⟨RX3, "readCustomers", "(LStampSheets$Sheet;)Z"⟩
abbrev cX3_kindOfSort : ByteArray := prog_5_method_7_code
def yX3_kindOfSort : MethodName := ⟨RX3, "kindOfSort", "()I"⟩
abbrev cX3_takes : ByteArray := prog_5_method_8_code
def yX3_takes : MethodName := ⟨RX3, "takes", "(I)Z"⟩
abbrev cX3_takeNumber : ByteArray := prog_5_method_9_code
def yX3_takeNumber : MethodName := ⟨RX3, "takeNumber", "(II)I"⟩
abbrev cX3_refuse : ByteArray := prog_5_method_10_code
def yX3_refuse : MethodName := ⟨RX3, "refuse", "(I)Z"⟩
abbrev cX3_step : ByteArray := prog_5_method_11_code
def yX3_step : MethodName := ⟨RX3, "step", "()V"⟩
abbrev cX3_stepOverNumber : ByteArray := prog_5_method_12_code
def yX3_stepOverNumber : MethodName := ⟨RX3, "stepOverNumber", "()V"⟩
abbrev cX3_isFigureSign : ByteArray := prog_5_method_13_code
def yX3_isFigureSign : MethodName := ⟨RX3, "isFigureSign", "(I)Z"⟩
def RX4 : String := "StampSheets$Row"
def TX4 : u_T := fun k => match k with
  | 0 => ("StampSheets$Row", "items", "[I", true)
  | 1 => ("StampSheets$Row", "there", "Z", false)
  | 2 => ("StampSheets$Row", "lane", "I", false)
  | _ => ("StampSheets$Row", "size", "I", false)
def tyX4 : Nat → FieldType := fun k => match k with
  | 0 => .array .int
  | 1 => .boolean
  | 2 => .int
  | _ => .int
abbrev wsX40 : List Cond := u_ws RX4 TX4 4
theorem nmX4 : ∀ a, a < 4 → ∀ b, b < 4 → a ≠ b → (TX4 a).2.1 ≠ (TX4 b).2.1 := by decide +kernel
theorem tyX4_ok : ∀ k, k < 4 → parseFieldDescriptor (TX4 k).2.2.1 = some (tyX4 k) := by decide +kernel
abbrev cX4_init : ByteArray := prog_6_method_1_code
def yX4_init : MethodName := ⟨RX4, "<init>", "()V"⟩
abbrev cX4_begin : ByteArray := prog_6_method_2_code
def yX4_begin : MethodName := ⟨RX4, "begin", "(II)V"⟩
abbrev cX4_reaches : ByteArray := prog_6_method_3_code
def yX4_reaches : MethodName := ⟨RX4, "reaches", "(II)Z"⟩
abbrev cX4_put : ByteArray := prog_6_method_4_code
def yX4_put : MethodName := ⟨RX4, "put", "(II)I"⟩
def RX5 : String := "StampSheets$Sheet"
def TX5 : u_T := fun k => match k with
  | 0 => ("StampSheets$Sheet", "wide", "I", false)
  | 1 => ("StampSheets$Sheet", "cells", "I", false)
  | 2 => ("StampSheets$Sheet", "customers", "I", false)
  | 3 => ("StampSheets$Sheet", "over", "I", false)
  | 4 => ("StampSheets$Sheet", "torn", "I", false)
  | 5 => ("StampSheets$Sheet", "on", "I", false)
  | 6 => ("StampSheets$Sheet", "spoilt", "I", false)
  | 7 => ("StampSheets$Sheet", "air", "I", false)
  | 8 => ("StampSheets$Sheet", "next", "[I", true)
  | 9 => ("StampSheets$Sheet", "kindOf", "[I", true)
  | 10 => ("StampSheets$Sheet", "worth", "[I", true)
  | 11 => ("StampSheets$Sheet", "least", "[I", true)
  | 12 => ("StampSheets$Sheet", "most", "[I", true)
  | _ => ("StampSheets$Sheet", "pieceOf", "[I", true)
def tyX5 : Nat → FieldType := fun k => match k with
  | 0 => .int
  | 1 => .int
  | 2 => .int
  | 3 => .int
  | 4 => .int
  | 5 => .int
  | 6 => .int
  | 7 => .int
  | 8 => .array .int
  | 9 => .array .int
  | 10 => .array .int
  | 11 => .array .int
  | 12 => .array .int
  | _ => .array .int
abbrev wsX50 : List Cond := u_ws RX5 TX5 14
theorem nmX5 : ∀ a, a < 14 → ∀ b, b < 14 → a ≠ b → (TX5 a).2.1 ≠ (TX5 b).2.1 := by decide +kernel
theorem tyX5_ok : ∀ k, k < 14 → parseFieldDescriptor (TX5 k).2.2.1 = some (tyX5 k) := by decide +kernel
abbrev cX5_init : ByteArray := prog_7_method_1_code
def yX5_init : MethodName := ⟨RX5, "<init>", "()V"⟩
abbrev cX5_begin : ByteArray := prog_7_method_2_code
def yX5_begin : MethodName := ⟨RX5, "begin", "(III)V"⟩
abbrev cX5_findNext : ByteArray := prog_7_method_3_code
def yX5_findNext : MethodName := ⟨RX5, "findNext", "(I)I"⟩
abbrev cX5_put : ByteArray := prog_7_method_4_code
def yX5_put : MethodName := ⟨RX5, "put", "(III)V"⟩
abbrev cX5_add : ByteArray := prog_7_method_5_code
def yX5_add : MethodName := ⟨RX5, "add", "(II)V"⟩
abbrev cX5_become : ByteArray := prog_7_method_6_code
def yX5_become : MethodName := ⟨RX5, "become", "(LStampSheets$Sheet;)V"⟩
abbrev cX5_sell : ByteArray := prog_7_method_7_code
def yX5_sell : MethodName := ⟨RX5, "sell", "(III)V"⟩
abbrev cX5_takeBack : ByteArray := prog_7_method_8_code
def yX5_takeBack : MethodName := ⟨RX5, "takeBack", "(I)V"⟩
abbrev cX5_lose : ByteArray := prog_7_method_9_code
def yX5_lose : MethodName := ⟨RX5, "lose", "(I)V"⟩
abbrev cX5_isOn : ByteArray := prog_7_method_10_code
def yX5_isOn : MethodName := ⟨RX5, "isOn", "(I)Z"⟩
abbrev cX5_holds : ByteArray := prog_7_method_11_code
def yX5_holds : MethodName := ⟨RX5, "holds", "(I)Z"⟩
abbrev cX5_isServed : ByteArray := prog_7_method_12_code
def yX5_isServed : MethodName := ⟨RX5, "isServed", "(I)Z"⟩
abbrev cX5_suits : ByteArray := prog_7_method_13_code
def yX5_suits : MethodName := ⟨RX5, "suits", "(II)Z"⟩
abbrev cX5_served : ByteArray := prog_7_method_14_code
def yX5_served : MethodName := ⟨RX5, "served", "()I"⟩
abbrev cX5_howIs : ByteArray := prog_7_method_15_code
def yX5_howIs : MethodName := ⟨RX5, "howIs", "(I)I"⟩
abbrev cX5_ownerOf : ByteArray := prog_7_method_16_code
def yX5_ownerOf : MethodName := ⟨RX5, "ownerOf", "(I)I"⟩
abbrev cX5_paysOf : ByteArray := prog_7_method_17_code
def yX5_paysOf : MethodName := ⟨RX5, "paysOf", "(I)I"⟩
abbrev cX5_payOfStamp : ByteArray := prog_7_method_18_code
def yX5_payOfStamp : MethodName := ⟨RX5, "payOfStamp", "(II)I"⟩
abbrev cX5_tearsOf : ByteArray := prog_7_method_19_code
def yX5_tearsOf : MethodName := ⟨RX5, "tearsOf", "(I)I"⟩
abbrev cX5_nextTo : ByteArray := prog_7_method_20_code
def yX5_nextTo : MethodName := ⟨RX5, "nextTo", "(I)I"⟩
abbrev cX5_partAround : ByteArray := prog_7_method_21_code
def yX5_partAround : MethodName := ⟨RX5, "partAround", "(II)I"⟩
abbrev cX5_countParts : ByteArray := prog_7_method_22_code
def yX5_countParts : MethodName := ⟨RX5, "countParts", "(I)I"⟩
abbrev cX5_partNumber : ByteArray := prog_7_method_23_code
def yX5_partNumber : MethodName := ⟨RX5, "partNumber", "(I)I"⟩
abbrev cX5_stepsBetween : ByteArray := prog_7_method_24_code
def yX5_stepsBetween : MethodName := ⟨RX5, "stepsBetween", "(II)I"⟩
abbrev cX5_firstStep : ByteArray := prog_7_method_25_code
def yX5_firstStep : MethodName := ⟨RX5, "firstStep", "(II)I"⟩
def RX6 : String := "StampSheets$Told"
def TX6 : u_T := fun k => match k with
  | 0 => ("StampSheets$Told", "cells", "[I", true)
  | 1 => ("StampSheets$Told", "pays", "[I", true)
  | _ => ("StampSheets$Told", "size", "I", false)
def tyX6 : Nat → FieldType := fun k => match k with
  | 0 => .array .int
  | 1 => .array .int
  | _ => .int
abbrev wsX60 : List Cond := u_ws RX6 TX6 3
theorem nmX6 : ∀ a, a < 3 → ∀ b, b < 3 → a ≠ b → (TX6 a).2.1 ≠ (TX6 b).2.1 := by decide +kernel
theorem tyX6_ok : ∀ k, k < 3 → parseFieldDescriptor (TX6 k).2.2.1 = some (tyX6 k) := by decide +kernel
abbrev cX6_init : ByteArray := prog_8_method_1_code
def yX6_init : MethodName := ⟨RX6, "<init>", "()V"⟩
abbrev cX6_takeCells : ByteArray := prog_8_method_2_code
def yX6_takeCells : MethodName := ⟨RX6, "takeCells", "(LStampSheets$Row;III)Z"⟩
abbrev cX6_takePays : ByteArray := prog_8_method_3_code
def yX6_takePays : MethodName := ⟨RX6, "takePays", "(LStampSheets$Row;I)V"⟩
abbrev cX6_isSo : ByteArray := prog_8_method_4_code
def yX6_isSo : MethodName := ⟨RX6, "isSo", "(LStampSheets$Sheet;)Z"⟩
def RX7 : String := "StampSheets"
def TX7 : u_T := fun k => match k with
  | 0 => ("StampSheets", "rows", "[LStampSheets$Row;", true)
  | 1 => ("StampSheets", "reader", "LStampSheets$Reader;", true)
  | 2 => ("StampSheets", "now", "LStampSheets$Sheet;", true)
  | 3 => ("StampSheets", "trial", "LStampSheets$Sheet;", true)
  | 4 => ("StampSheets", "images", "[LStampSheets$Sheet;", true)
  | 5 => ("StampSheets", "acts", "LStampSheets$Acts;", true)
  | 6 => ("StampSheets", "finder", "LStampSheets$Finder;", true)
  | 7 => ("StampSheets", "asks", "LStampSheets$Asks;", true)
  | 8 => ("StampSheets", "told", "LStampSheets$Told;", true)
  | _ => ("StampSheets", "status", "I", false)
def tyX7 : Nat → FieldType := fun k => match k with
  | 0 => .array (.object "StampSheets$Row")
  | 1 => .object "StampSheets$Reader"
  | 2 => .object "StampSheets$Sheet"
  | 3 => .object "StampSheets$Sheet"
  | 4 => .array (.object "StampSheets$Sheet")
  | 5 => .object "StampSheets$Acts"
  | 6 => .object "StampSheets$Finder"
  | 7 => .object "StampSheets$Asks"
  | 8 => .object "StampSheets$Told"
  | _ => .int
abbrev wsX70 : List Cond := u_ws RX7 TX7 10
theorem nmX7 : ∀ a, a < 10 → ∀ b, b < 10 → a ≠ b → (TX7 a).2.1 ≠ (TX7 b).2.1 := by decide +kernel
theorem tyX7_ok : ∀ k, k < 10 → parseFieldDescriptor (TX7 k).2.2.1 = some (tyX7 k) := by decide +kernel
abbrev cX7_init : ByteArray := prog_1_method_1_code
def yX7_init : MethodName := ⟨RX7, "<init>", "()V"⟩
abbrev cX7_row : ByteArray := prog_1_method_2_code
def yX7_row : MethodName := ⟨RX7, "row", "(III)I"⟩
abbrev cX7_set : ByteArray := prog_1_method_3_code
def yX7_set : MethodName := ⟨RX7, "set", "(III)I"⟩
abbrev cX7_copy : ByteArray := prog_1_method_4_code
def yX7_copy : MethodName := ⟨RX7, "copy", "(IIIII)I"⟩
abbrev cX7_drop : ByteArray := prog_1_method_5_code
def yX7_drop : MethodName := ⟨RX7, "drop", "(I)I"⟩
abbrev cX7_feed : ByteArray := prog_1_method_6_code
def yX7_feed : MethodName := ⟨RX7, "feed", "(I)I"⟩
abbrev cX7_sheet : ByteArray := prog_1_method_7_code
def yX7_sheet : MethodName := ⟨RX7, "sheet", "()I"⟩
abbrev cX7_fault : ByteArray := prog_1_method_8_code
def yX7_fault : MethodName := ⟨RX7, "fault", "()I"⟩
abbrev cX7_undo : ByteArray := prog_1_method_9_code
def yX7_undo : MethodName := ⟨RX7, "undo", "()I"⟩
abbrev cX7_serve : ByteArray := prog_1_method_10_code
def yX7_serve : MethodName := ⟨RX7, "serve", "(II)I"⟩
abbrev cX7_bringBack : ByteArray := prog_1_method_11_code
def yX7_bringBack : MethodName := ⟨RX7, "bringBack", "(I)I"⟩
abbrev cX7_spoil : ByteArray := prog_1_method_12_code
def yX7_spoil : MethodName := ⟨RX7, "spoil", "(I)I"⟩
abbrev cX7_value : ByteArray := prog_1_method_13_code
def yX7_value : MethodName := ⟨RX7, "value", "(II)I"⟩
abbrev cX7_over : ByteArray := prog_1_method_14_code
def yX7_over : MethodName := ⟨RX7, "over", "(I)I"⟩
abbrev cX7_cell : ByteArray := prog_1_method_15_code
def yX7_cell : MethodName := ⟨RX7, "cell", "(II)I"⟩
abbrev cX7_customer : ByteArray := prog_1_method_16_code
def yX7_customer : MethodName := ⟨RX7, "customer", "(II)I"⟩
abbrev cX7_stand : ByteArray := prog_1_method_17_code
def yX7_stand : MethodName := ⟨RX7, "stand", "(I)I"⟩
abbrev cX7_piece : ByteArray := prog_1_method_18_code
def yX7_piece : MethodName := ⟨RX7, "piece", "(II)I"⟩
abbrev cX7_parts : ByteArray := prog_1_method_19_code
def yX7_parts : MethodName := ⟨RX7, "parts", "(I)I"⟩
abbrev cX7_pieces : ByteArray := prog_1_method_20_code
def yX7_pieces : MethodName := ⟨RX7, "pieces", "(II)I"⟩
abbrev cX7_sums : ByteArray := prog_1_method_21_code
def yX7_sums : MethodName := ⟨RX7, "sums", "(I)I"⟩
abbrev cX7_best : ByteArray := prog_1_method_22_code
def yX7_best : MethodName := ⟨RX7, "best", "(II)I"⟩
abbrev cX7_ways : ByteArray := prog_1_method_23_code
def yX7_ways : MethodName := ⟨RX7, "ways", "(I)I"⟩
abbrev cX7_thrift : ByteArray := prog_1_method_24_code
def yX7_thrift : MethodName := ⟨RX7, "thrift", "(II)I"⟩
abbrev cX7_serving : ByteArray := prog_1_method_25_code
def yX7_serving : MethodName := ⟨RX7, "serving", "(I)I"⟩
abbrev cX7_couples : ByteArray := prog_1_method_26_code
def yX7_couples : MethodName := ⟨RX7, "couples", "()I"⟩
abbrev cX7_parting : ByteArray := prog_1_method_27_code
def yX7_parting : MethodName := ⟨RX7, "parting", "(III)I"⟩
abbrev cX7_way : ByteArray := prog_1_method_28_code
def yX7_way : MethodName := ⟨RX7, "way", "(III)I"⟩
abbrev cX7_lone : ByteArray := prog_1_method_29_code
def yX7_lone : MethodName := ⟨RX7, "lone", "()I"⟩
abbrev cX7_who : ByteArray := prog_1_method_30_code
def yX7_who : MethodName := ⟨RX7, "who", "(IIIIIII)I"⟩
abbrev cX7_fits : ByteArray := prog_1_method_31_code
def yX7_fits : MethodName := ⟨RX7, "fits", "(IIIIII)I"⟩
abbrev cX7_wrong : ByteArray := prog_1_method_32_code
def yX7_wrong : MethodName := ⟨RX7, "wrong", "(IIII)J"⟩
abbrev cX7_drawn : ByteArray := prog_1_method_33_code
def yX7_drawn : MethodName := ⟨RX7, "drawn", "(III)I"⟩
abbrev cX7_image : ByteArray := prog_1_method_34_code
def yX7_image : MethodName := ⟨RX7, "image", "(I)I"⟩
abbrev cX7_restore : ByteArray := prog_1_method_35_code
def yX7_restore : MethodName := ⟨RX7, "restore", "(I)I"⟩
abbrev cX7_kind : ByteArray := prog_1_method_36_code
def yX7_kind : MethodName := ⟨RX7, "kind", "(I)I"⟩
abbrev cX7_as : ByteArray := prog_1_method_37_code
def yX7_as : MethodName := ⟨RX7, "as", "(II)I"⟩
abbrev cX7_ask : ByteArray := prog_1_method_38_code
def yX7_ask : MethodName := ⟨RX7, "ask", "(II)I"⟩
abbrev cX7_trace : ByteArray := prog_1_method_39_code
def yX7_trace : MethodName := ⟨RX7, "trace", "(I)I"⟩
abbrev cX7_count : ByteArray := prog_1_method_40_code
def yX7_count : MethodName := ⟨RX7, "count", "(I)I"⟩
abbrev cX7_status : ByteArray := prog_1_method_41_code
def yX7_status : MethodName := ⟨RX7, "status", "()I"⟩
abbrev cX7_found : ByteArray := prog_1_method_42_code
def yX7_found : MethodName := ⟨RX7, "found", "(I)I"⟩
abbrev cX7_fine : ByteArray := prog_1_method_43_code
def yX7_fine : MethodName := ⟨RX7, "fine", "(I)I"⟩
abbrev cX7_isThere : ByteArray := prog_1_method_44_code
def yX7_isThere : MethodName := ⟨RX7, "isThere", "()Z"⟩
abbrev cX7_isCell : ByteArray := prog_1_method_45_code
def yX7_isCell : MethodName := ⟨RX7, "isCell", "(I)Z"⟩
abbrev cX7_areTwoCells : ByteArray := prog_1_method_46_code
def yX7_areTwoCells : MethodName := ⟨RX7, "areTwoCells", "(II)Z"⟩
abbrev cX7_isCustomer : ByteArray := prog_1_method_47_code
def yX7_isCustomer : MethodName := ⟨RX7, "isCustomer", "(I)Z"⟩
abbrev cX7_isRow : ByteArray := prog_1_method_48_code
def yX7_isRow : MethodName := ⟨RX7, "isRow", "(I)Z"⟩
abbrev cX7_isFigure : ByteArray := prog_1_method_49_code
def yX7_isFigure : MethodName := ⟨RX7, "isFigure", "(I)Z"⟩
abbrev cX7_isEither : ByteArray := prog_1_method_50_code
def yX7_isEither : MethodName := ⟨RX7, "isEither", "(I)Z"⟩
abbrev cX7_areRowsOf : ByteArray := prog_1_method_51_code
def yX7_areRowsOf : MethodName := ⟨RX7, "areRowsOf", "(III)Z"⟩
abbrev cX7_countRows : ByteArray := prog_1_method_52_code
def yX7_countRows : MethodName := ⟨RX7, "countRows", "()I"⟩
abbrev cX7_putInPlace : ByteArray := prog_1_method_53_code
def yX7_putInPlace : MethodName := ⟨RX7, "putInPlace", "(LStampSheets$Sheet;)V"⟩
abbrev cX7_liveDay : ByteArray := prog_1_method_54_code
def yX7_liveDay : MethodName := ⟨RX7, "liveDay", "(LStampSheets$Sheet;J)V"⟩
abbrev cX7_restBy : ByteArray := prog_1_method_55_code
def yX7_restBy : MethodName := ⟨RX7, "restBy", "(JI)I"⟩
abbrev cX7_powerOf : ByteArray := prog_1_method_56_code
def yX7_powerOf : MethodName := ⟨RX7, "powerOf", "(JI)J"⟩
abbrev cX7_commonDivisor : ByteArray := prog_1_method_57_code
def yX7_commonDivisor : MethodName := ⟨RX7, "commonDivisor", "(JJ)J"⟩
abbrev cX7_takeTold : ByteArray := prog_1_method_58_code
def yX7_takeTold : MethodName := ⟨RX7, "takeTold", "(IIIII)I"⟩
abbrev cX7_kindsThatFit : ByteArray := prog_1_method_59_code
def yX7_kindsThatFit : MethodName := ⟨RX7, "kindsThatFit", "(I)I"⟩
abbrev cX7_valuesThatFit : ByteArray := prog_1_method_60_code
def yX7_valuesThatFit : MethodName := ⟨RX7, "valuesThatFit", "(I)I"⟩
abbrev cX7_oversThatFit : ByteArray := prog_1_method_61_code
def yX7_oversThatFit : MethodName := ⟨RX7, "oversThatFit", "()I"⟩
abbrev cX7_countSwaps : ByteArray := prog_1_method_62_code
def yX7_countSwaps : MethodName := ⟨RX7, "countSwaps", "()I"⟩
abbrev cX7_firstSwap : ByteArray := prog_1_method_63_code
def yX7_firstSwap : MethodName := ⟨RX7, "firstSwap", "()I"⟩
abbrev cX7_fitsSwapped : ByteArray := prog_1_method_64_code
def yX7_fitsSwapped : MethodName := ⟨RX7, "fitsSwapped", "(II)Z"⟩
def RX8 : String := "StampSheetsModel"
def TX8 : u_T := fun k => match k with
  | 0 => ("StampSheetsModel", "lanes", "[I", true)
  | 1 => ("StampSheetsModel", "sizes", "[I", true)
  | 2 => ("StampSheetsModel", "items", "[I", true)
  | 3 => ("StampSheetsModel", "moved", "[I", true)
  | 4 => ("StampSheetsModel", "status", "I", false)
  | 5 => ("StampSheetsModel", "tape", "[I", true)
  | 6 => ("StampSheetsModel", "typed", "I", false)
  | 7 => ("StampSheetsModel", "at", "I", false)
  | 8 => ("StampSheetsModel", "start", "I", false)
  | 9 => ("StampSheetsModel", "fault", "I", false)
  | 10 => ("StampSheetsModel", "s", "[I", true)
  | 11 => ("StampSheetsModel", "draft", "[I", true)
  | 12 => ("StampSheetsModel", "next", "[I", true)
  | 13 => ("StampSheetsModel", "past", "[I", true)
  | 14 => ("StampSheetsModel", "acts", "I", false)
  | 15 => ("StampSheetsModel", "images", "[I", true)
  | 16 => ("StampSheetsModel", "kept", "[Z", true)
  | 17 => ("StampSheetsModel", "board", "[J", true)
  | 18 => ("StampSheetsModel", "trace", "[I", true)
  | 19 => ("StampSheetsModel", "traced", "I", false)
  | 20 => ("StampSheetsModel", "without", "[J", true)
  | 21 => ("StampSheetsModel", "lost", "[J", true)
  | _ => ("StampSheetsModel", "held", "[I", true)
def tyX8 : Nat → FieldType := fun k => match k with
  | 0 => .array .int
  | 1 => .array .int
  | 2 => .array .int
  | 3 => .array .int
  | 4 => .int
  | 5 => .array .int
  | 6 => .int
  | 7 => .int
  | 8 => .int
  | 9 => .int
  | 10 => .array .int
  | 11 => .array .int
  | 12 => .array .int
  | 13 => .array .int
  | 14 => .int
  | 15 => .array .int
  | 16 => .array .boolean
  | 17 => .array .long
  | 18 => .array .int
  | 19 => .int
  | 20 => .array .long
  | 21 => .array .long
  | _ => .array .int
abbrev wsX80 : List Cond := u_ws RX8 TX8 23
theorem nmX8 : ∀ a, a < 23 → ∀ b, b < 23 → a ≠ b → (TX8 a).2.1 ≠ (TX8 b).2.1 := by decide +kernel
theorem tyX8_ok : ∀ k, k < 23 → parseFieldDescriptor (TX8 k).2.2.1 = some (tyX8 k) := by decide +kernel
abbrev cX8_init : ByteArray := prog_10_method_1_code
def yX8_init : MethodName := ⟨RX8, "<init>", "()V"⟩
abbrev cX8_in : ByteArray := prog_10_method_3_code
def yX8_in : MethodName := ⟨RX8, "in", "(III)Z"⟩
abbrev cX8_has : ByteArray := prog_10_method_4_code
def yX8_has : MethodName := ⟨RX8, "has", "(II)Z"⟩
abbrev cX8_ones : ByteArray := prog_10_method_5_code
def yX8_ones : MethodName := ⟨RX8, "ones", "(I)I"⟩
abbrev cX8_isRow : ByteArray := prog_10_method_6_code
def yX8_isRow : MethodName := ⟨RX8, "isRow", "(I)Z"⟩
abbrev cX8_finds : ByteArray := prog_10_method_7_code
def yX8_finds : MethodName := ⟨RX8, "finds", "(I)I"⟩
abbrev cX8_row : ByteArray := prog_10_method_8_code
def yX8_row : MethodName := ⟨RX8, "row", "(III)I"⟩
abbrev cX8_set : ByteArray := prog_10_method_9_code
def yX8_set : MethodName := ⟨RX8, "set", "(III)I"⟩
abbrev cX8_isPlace : ByteArray := prog_10_method_10_code
def yX8_isPlace : MethodName := ⟨RX8, "isPlace", "(III)Z"⟩
abbrev cX8_copy : ByteArray := prog_10_method_11_code
def yX8_copy : MethodName := ⟨RX8, "copy", "(IIIII)I"⟩
abbrev cX8_drop : ByteArray := prog_10_method_12_code
def yX8_drop : MethodName := ⟨RX8, "drop", "(I)I"⟩
abbrev cX8_feed : ByteArray := prog_10_method_13_code
def yX8_feed : MethodName := ⟨RX8, "feed", "(I)I"⟩
abbrev cX8_byteAt : ByteArray := prog_10_method_14_code
def yX8_byteAt : MethodName := ⟨RX8, "byteAt", "(I)I"⟩
abbrev cX8_isFigure : ByteArray := prog_10_method_15_code
def yX8_isFigure : MethodName := ⟨RX8, "isFigure", "(I)Z"⟩
abbrev cX8_wrongs : ByteArray := prog_10_method_16_code
def yX8_wrongs : MethodName := ⟨RX8, "wrongs", "(I)Z"⟩
abbrev cX8_takes : ByteArray := prog_10_method_17_code
def yX8_takes : MethodName := ⟨RX8, "takes", "(I)Z"⟩
abbrev cX8_number : ByteArray := prog_10_method_18_code
def yX8_number : MethodName := ⟨RX8, "number", "(III)Z"⟩
abbrev cX8_kindBy : ByteArray := prog_10_method_19_code
def yX8_kindBy : MethodName := ⟨RX8, "kindBy", "(I)I"⟩
abbrev cX8_readsLaw : ByteArray := prog_10_method_20_code
def yX8_readsLaw : MethodName := ⟨RX8, "readsLaw", "()Z"⟩
abbrev cX8_readsStamp : ByteArray := prog_10_method_21_code
def yX8_readsStamp : MethodName := ⟨RX8, "readsStamp", "(I)Z"⟩
abbrev cX8_readsCustomer : ByteArray := prog_10_method_22_code
def yX8_readsCustomer : MethodName := ⟨RX8, "readsCustomer", "()Z"⟩
abbrev cX8_reads : ByteArray := prog_10_method_23_code
def yX8_reads : MethodName := ⟨RX8, "reads", "()Z"⟩
abbrev cX8_joins : ByteArray := prog_10_method_24_code
def yX8_joins : MethodName := ⟨RX8, "joins", "()V"⟩
abbrev cX8_sheet : ByteArray := prog_10_method_25_code
def yX8_sheet : MethodName := ⟨RX8, "sheet", "()I"⟩
abbrev cX8_fault : ByteArray := prog_10_method_26_code
def yX8_fault : MethodName := ⟨RX8, "fault", "()I"⟩
abbrev cX8_keeps : ByteArray := prog_10_method_27_code
def yX8_keeps : MethodName := ⟨RX8, "keeps", "()V"⟩
abbrev cX8_undo : ByteArray := prog_10_method_28_code
def yX8_undo : MethodName := ⟨RX8, "undo", "()I"⟩
abbrev cX8_isCell : ByteArray := prog_10_method_29_code
def yX8_isCell : MethodName := ⟨RX8, "isCell", "(I)Z"⟩
abbrev cX8_isCustomer : ByteArray := prog_10_method_30_code
def yX8_isCustomer : MethodName := ⟨RX8, "isCustomer", "(I)Z"⟩
abbrev cX8_gone : ByteArray := prog_10_method_31_code
def yX8_gone : MethodName := ⟨RX8, "gone", "()I"⟩
abbrev cX8_on : ByteArray := prog_10_method_32_code
def yX8_on : MethodName := ⟨RX8, "on", "()I"⟩
abbrev cX8_servedNow : ByteArray := prog_10_method_33_code
def yX8_servedNow : MethodName := ⟨RX8, "servedNow", "()I"⟩
abbrev cX8_reach : ByteArray := prog_10_method_34_code
def yX8_reach : MethodName := ⟨RX8, "reach", "(II)I"⟩
abbrev cX8_lowest : ByteArray := prog_10_method_35_code
def yX8_lowest : MethodName := ⟨RX8, "lowest", "(I)I"⟩
abbrev cX8_hangs : ByteArray := prog_10_method_36_code
def yX8_hangs : MethodName := ⟨RX8, "hangs", "(I)Z"⟩
abbrev cX8_isPiece : ByteArray := prog_10_method_37_code
def yX8_isPiece : MethodName := ⟨RX8, "isPiece", "(I)Z"⟩
abbrev cX8_pays : ByteArray := prog_10_method_38_code
def yX8_pays : MethodName := ⟨RX8, "pays", "(I)I"⟩
abbrev cX8_tears : ByteArray := prog_10_method_39_code
def yX8_tears : MethodName := ⟨RX8, "tears", "(I)I"⟩
abbrev cX8_serves : ByteArray := prog_10_method_40_code
def yX8_serves : MethodName := ⟨RX8, "serves", "(II)V"⟩
abbrev cX8_serve : ByteArray := prog_10_method_41_code
def yX8_serve : MethodName := ⟨RX8, "serve", "(II)I"⟩
abbrev cX8_bringBack : ByteArray := prog_10_method_42_code
def yX8_bringBack : MethodName := ⟨RX8, "bringBack", "(I)I"⟩
abbrev cX8_spoil : ByteArray := prog_10_method_43_code
def yX8_spoil : MethodName := ⟨RX8, "spoil", "(I)I"⟩
abbrev cX8_value : ByteArray := prog_10_method_44_code
def yX8_value : MethodName := ⟨RX8, "value", "(II)I"⟩
abbrev cX8_over : ByteArray := prog_10_method_45_code
def yX8_over : MethodName := ⟨RX8, "over", "(I)I"⟩
abbrev cX8_ownerOf : ByteArray := prog_10_method_46_code
def yX8_ownerOf : MethodName := ⟨RX8, "ownerOf", "(I)I"⟩
abbrev cX8_cell : ByteArray := prog_10_method_47_code
def yX8_cell : MethodName := ⟨RX8, "cell", "(II)I"⟩
abbrev cX8_customer : ByteArray := prog_10_method_48_code
def yX8_customer : MethodName := ⟨RX8, "customer", "(II)I"⟩
abbrev cX8_stand : ByteArray := prog_10_method_49_code
def yX8_stand : MethodName := ⟨RX8, "stand", "(I)I"⟩
abbrev cX8_partOf : ByteArray := prog_10_method_50_code
def yX8_partOf : MethodName := ⟨RX8, "partOf", "(II)I"⟩
abbrev cX8_manyParts : ByteArray := prog_10_method_51_code
def yX8_manyParts : MethodName := ⟨RX8, "manyParts", "(I)I"⟩
abbrev cX8_piece : ByteArray := prog_10_method_52_code
def yX8_piece : MethodName := ⟨RX8, "piece", "(II)I"⟩
abbrev cX8_parts : ByteArray := prog_10_method_53_code
def yX8_parts : MethodName := ⟨RX8, "parts", "(I)I"⟩
abbrev cX8_surveys : ByteArray := prog_10_method_54_code
def yX8_surveys : MethodName := ⟨RX8, "surveys", "()V"⟩
abbrev cX8_paysBy : ByteArray := prog_10_method_55_code
def yX8_paysBy : MethodName := ⟨RX8, "paysBy", "(I)I"⟩
abbrev cX8_isStraight : ByteArray := prog_10_method_56_code
def yX8_isStraight : MethodName := ⟨RX8, "isStraight", "(I)Z"⟩
abbrev cX8_pieces : ByteArray := prog_10_method_57_code
def yX8_pieces : MethodName := ⟨RX8, "pieces", "(II)I"⟩
abbrev cX8_sums : ByteArray := prog_10_method_58_code
def yX8_sums : MethodName := ⟨RX8, "sums", "(I)I"⟩
abbrev cX8_fitsFor : ByteArray := prog_10_method_59_code
def yX8_fitsFor : MethodName := ⟨RX8, "fitsFor", "(II)Z"⟩
abbrev cX8_bestFor : ByteArray := prog_10_method_60_code
def yX8_bestFor : MethodName := ⟨RX8, "bestFor", "(I)I"⟩
abbrev cX8_best : ByteArray := prog_10_method_61_code
def yX8_best : MethodName := ⟨RX8, "best", "(II)I"⟩
abbrev cX8_ways : ByteArray := prog_10_method_62_code
def yX8_ways : MethodName := ⟨RX8, "ways", "(I)I"⟩
abbrev cX8_thrift : ByteArray := prog_10_method_63_code
def yX8_thrift : MethodName := ⟨RX8, "thrift", "(II)I"⟩
abbrev cX8_serveAll : ByteArray := prog_10_method_64_code
def yX8_serveAll : MethodName := ⟨RX8, "serveAll", "()V"⟩
abbrev cX8_can : ByteArray := prog_10_method_65_code
def yX8_can : MethodName := ⟨RX8, "can", "(JI)Z"⟩
abbrev cX8_serving : ByteArray := prog_10_method_66_code
def yX8_serving : MethodName := ⟨RX8, "serving", "(I)I"⟩
abbrev cX8_couples : ByteArray := prog_10_method_67_code
def yX8_couples : MethodName := ⟨RX8, "couples", "()I"⟩
abbrev cX8_parting : ByteArray := prog_10_method_68_code
def yX8_parting : MethodName := ⟨RX8, "parting", "(III)I"⟩
abbrev cX8_stepsOf : ByteArray := prog_10_method_69_code
def yX8_stepsOf : MethodName := ⟨RX8, "stepsOf", "(II)I"⟩
abbrev cX8_way : ByteArray := prog_10_method_70_code
def yX8_way : MethodName := ⟨RX8, "way", "(III)I"⟩
abbrev cX8_lone : ByteArray := prog_10_method_71_code
def yX8_lone : MethodName := ⟨RX8, "lone", "()I"⟩
abbrev cX8_findingOf : ByteArray := prog_10_method_72_code
def yX8_findingOf : MethodName := ⟨RX8, "findingOf", "(IIIII)I"⟩
abbrev cX8_isSo : ByteArray := prog_10_method_73_code
def yX8_isSo : MethodName := ⟨RX8, "isSo", "(IIIII)Z"⟩
abbrev cX8_who : ByteArray := prog_10_method_74_code
def yX8_who : MethodName := ⟨RX8, "who", "(IIIIIII)I"⟩
abbrev cX8_swaps : ByteArray := prog_10_method_75_code
def yX8_swaps : MethodName := ⟨RX8, "swaps", "(II)V"⟩
abbrev cX8_fits : ByteArray := prog_10_method_76_code
def yX8_fits : MethodName := ⟨RX8, "fits", "(IIIIII)I"⟩
abbrev cX8_wrong : ByteArray := prog_10_method_77_code
def yX8_wrong : MethodName := ⟨RX8, "wrong", "(IIII)J"⟩
abbrev cX8_day : ByteArray := prog_10_method_78_code
def yX8_day : MethodName := ⟨RX8, "day", "(J)V"⟩
abbrev cX8_drawn : ByteArray := prog_10_method_79_code
def yX8_drawn : MethodName := ⟨RX8, "drawn", "(III)I"⟩
abbrev cX8_image : ByteArray := prog_10_method_80_code
def yX8_image : MethodName := ⟨RX8, "image", "(I)I"⟩
abbrev cX8_restore : ByteArray := prog_10_method_81_code
def yX8_restore : MethodName := ⟨RX8, "restore", "(I)I"⟩
abbrev cX8_kind : ByteArray := prog_10_method_82_code
def yX8_kind : MethodName := ⟨RX8, "kind", "(I)I"⟩
abbrev cX8_as : ByteArray := prog_10_method_83_code
def yX8_as : MethodName := ⟨RX8, "as", "(II)I"⟩
abbrev cX8_leaves : ByteArray := prog_10_method_84_code
def yX8_leaves : MethodName := ⟨RX8, "leaves", "(I)V"⟩
abbrev cX8_markLow : ByteArray := prog_10_method_85_code
def yX8_markLow : MethodName := ⟨RX8, "markLow", "(I)I"⟩
abbrev cX8_sizeHigh : ByteArray := prog_10_method_86_code
def yX8_sizeHigh : MethodName := ⟨RX8, "sizeHigh", "(I)I"⟩
abbrev cX8_ask : ByteArray := prog_10_method_87_code
def yX8_ask : MethodName := ⟨RX8, "ask", "(II)I"⟩
abbrev cX8_trace : ByteArray := prog_10_method_88_code
def yX8_trace : MethodName := ⟨RX8, "trace", "(I)I"⟩
abbrev cX8_count : ByteArray := prog_10_method_89_code
def yX8_count : MethodName := ⟨RX8, "count", "(I)I"⟩
abbrev cX8_status : ByteArray := prog_10_method_90_code
def yX8_status : MethodName := ⟨RX8, "status", "()I"⟩
def RJ6 : String := "java/lang/Integer"
def TJ6 : u_T := fun k => match k with
  | _ => ("", "", "", false)
def tyJ6 : Nat → FieldType := fun k => match k with
  | _ => .int
abbrev wsJ60 : List Cond := u_ws RJ6 TJ6 0
theorem nmJ6 : ∀ a, a < 0 → ∀ b, b < 0 → a ≠ b → (TJ6 a).2.1 ≠ (TJ6 b).2.1 := by decide +kernel
theorem tyJ6_ok : ∀ k, k < 0 → parseFieldDescriptor (TJ6 k).2.2.1 = some (tyJ6 k) := by decide +kernel
abbrev cJ6_lowestOneBit_0f7a4 : ByteArray := prog_11_method_46_code
def yJ6_lowestOneBit_0f7a4 : MethodName := ⟨RJ6, "lowestOneBit", "(I)I"⟩
abbrev cJ6_numberOfTrailingZeros_0f7a4 : ByteArray := prog_11_method_48_code
def yJ6_numberOfTrailingZeros_0f7a4 : MethodName := ⟨RJ6, "numberOfTrailingZeros", "(I)I"⟩
abbrev cJ6_bitCount_0f7a4 : ByteArray := prog_11_method_49_code
def yJ6_bitCount_0f7a4 : MethodName := ⟨RJ6, "bitCount", "(I)I"⟩
def RJ9 : String := "java/lang/Math"
def TJ9 : u_T := fun k => match k with
  | _ => ("", "", "", false)
def tyJ9 : Nat → FieldType := fun k => match k with
  | _ => .int
abbrev wsJ90 : List Cond := u_ws RJ9 TJ9 0
theorem nmJ9 : ∀ a, a < 0 → ∀ b, b < 0 → a ≠ b → (TJ9 a).2.1 ≠ (TJ9 b).2.1 := by decide +kernel
theorem tyJ9_ok : ∀ k, k < 0 → parseFieldDescriptor (TJ9 k).2.2.1 = some (tyJ9 k) := by decide +kernel
abbrev cJ9_max_7cf53 : ByteArray := prog_12_method_65_code
def yJ9_max_7cf53 : MethodName := ⟨RJ9, "max", "(II)I"⟩
abbrev cJ9_min_7cf53 : ByteArray := prog_12_method_69_code
def yJ9_min_7cf53 : MethodName := ⟨RJ9, "min", "(II)I"⟩
def RJ10 : String := "java/lang/System"
def TJ10 : u_T := fun k => match k with
  | _ => ("", "", "", false)
def tyJ10 : Nat → FieldType := fun k => match k with
  | _ => .int
abbrev wsJ100 : List Cond := u_ws RJ10 TJ10 0
theorem nmJ10 : ∀ a, a < 0 → ∀ b, b < 0 → a ≠ b → (TJ10 a).2.1 ≠ (TJ10 b).2.1 := by decide +kernel
theorem tyJ10_ok : ∀ k, k < 0 → parseFieldDescriptor (TJ10 k).2.2.1 = some (tyJ10 k) := by decide +kernel
def RJ7 : String := "java/util/Arrays"
def TJ7 : u_T := fun k => match k with
  | _ => ("", "", "", false)
def tyJ7 : Nat → FieldType := fun k => match k with
  | _ => .int
abbrev wsJ70 : List Cond := u_ws RJ7 TJ7 0
theorem nmJ7 : ∀ a, a < 0 → ∀ b, b < 0 → a ≠ b → (TJ7 a).2.1 ≠ (TJ7 b).2.1 := by decide +kernel
theorem tyJ7_ok : ∀ k, k < 0 → parseFieldDescriptor (TJ7 k).2.2.1 = some (tyJ7 k) := by decide +kernel
abbrev cJ7_fill_d0a16 : ByteArray := prog_14_method_101_code
def yJ7_fill_d0a16 : MethodName := ⟨RJ7, "fill", "([JJ)V"⟩
abbrev cJ7_fill_53178 : ByteArray := prog_14_method_103_code
def yJ7_fill_53178 : MethodName := ⟨RJ7, "fill", "([II)V"⟩
def RL : String := "StampSheetsLaw"
abbrev cL_law : ByteArray := code
def yL_law : MethodName := ⟨RL, "law", "([I)Z"⟩
abbrev vwCl : List vw_C := [(RX0, TX0, 5), (RX1, TX1, 6), (RX2, TX2, 8), (RX3, TX3, 7), (RX4, TX4, 4), (RX5, TX5, 14), (RX6, TX6, 3), (RX7, TX7, 10), (RX8, TX8, 23)]
set_option maxRecDepth 20000 in
theorem inX0 : ∀ w ∈ wsX00, w ∈ lw_tbl := by decide +kernel
set_option maxRecDepth 20000 in
theorem inX1 : ∀ w ∈ wsX10, w ∈ lw_tbl := by decide +kernel
set_option maxRecDepth 20000 in
theorem inX2 : ∀ w ∈ wsX20, w ∈ lw_tbl := by decide +kernel
set_option maxRecDepth 20000 in
theorem inX3 : ∀ w ∈ wsX30, w ∈ lw_tbl := by decide +kernel
set_option maxRecDepth 20000 in
theorem inX4 : ∀ w ∈ wsX40, w ∈ lw_tbl := by decide +kernel
set_option maxRecDepth 20000 in
theorem inX5 : ∀ w ∈ wsX50, w ∈ lw_tbl := by decide +kernel
set_option maxRecDepth 20000 in
theorem inX6 : ∀ w ∈ wsX60, w ∈ lw_tbl := by decide +kernel
set_option maxRecDepth 20000 in
theorem inX7 : ∀ w ∈ wsX70, w ∈ lw_tbl := by decide +kernel
set_option maxRecDepth 20000 in
theorem inX8 : ∀ w ∈ wsX80, w ∈ lw_tbl := by decide +kernel
def zTB : List Cond := lw_tbl.filter goodWord
def zisN (w : Cond) : Bool := match w with
  | .fieldLinkNest .. => true
  | .methodLinkNest .. => true
  | _ => false
def zNL : List Cond := lw_tbl.filter zisN
theorem zTB_mem {w : Cond} (i : Nat) (h : lw_tbl[i]? = some w) (hg : goodWord w = true) : w ∈ zTB := List.mem_filter.mpr ⟨List.mem_of_getElem? h, hg⟩
theorem zNL_mem {w : Cond} (i : Nat) (h : lw_tbl[i]? = some w) (hg : zisN w = true) : w ∈ zNL := List.mem_filter.mpr ⟨List.mem_of_getElem? h, hg⟩
theorem zTB_in {ws : List Cond} (h : ∀ w ∈ ws, w ∈ lw_tbl) (hg : ws.all goodWord = true) : ∀ w ∈ ws, w ∈ zTB := fun w hw => List.mem_filter.mpr ⟨h w hw, List.all_eq_true.mp hg w hw⟩
theorem zTB_good : GoodIn zTB zTB := fun w hw => ⟨hw, good_of_word (List.mem_filter.mp hw).2⟩
theorem zTB_cons {w : Cond} (h : w ∈ zTB) : GoodIn zTB (w :: zTB) := fun v hv => (List.mem_cons.mp hv).elim (fun e => e ▸ zTB_good w h) (zTB_good v)
theorem zNw_warm {w : Cond} {s U : State} (hw : w ∈ zNL) (hW : s.WarmedH U.vm) (h : va_Nw w s) : va_Nw w U := by
  have h1 := (List.mem_filter.mp hw).2
  cases w <;> first | exact va_Nw.warmF hW h | exact va_Nw.warmM hW h | cases h1
theorem zNw_same {w : Cond} {s U : State} (hw : w ∈ zNL) (hW : s.vm = U.vm) (h : va_Nw w s) : va_Nw w U := by
  have h1 := (List.mem_filter.mp hw).2
  cases w <;> first | exact va_Nw.same rfl hW h | cases h1
theorem zNw_use {w : Cond} {s : State} {a : Array Value} (hw : w ∈ zNL) (h : va_Nw w s) : w.before a s = true := by
  have h1 := (List.mem_filter.mp hw).2
  cases w <;> first | exact va_Nw.use rfl h | cases h1
end
section
/-! A small machine over a picture of the memory: cells by numbers, ints and longs by places; an operation is a function of what comes behind it. -/
abbrev ZM : Type := (Nat → Nat → Int32) × (Nat → Nat → Int64)
abbrev ZL : Type := List (Option Value)
abbrev ZR : Type := Option Value × ZM
abbrev ZO : Type := ZR ⊕ (Nat × ZL × List Value × ZM)
abbrev ZK : Type := Nat → ZL → List Value → ZM → Option ZO
abbrev ZE : Type := (Nat → List Value → ZM → Option (Int32 × ZM)) × (Nat → List Value → ZM → Option (Int64 × ZM)) × (Nat → List Value → ZM → Option ZM)
abbrev ZP : Type := ZE → ZK → ZL → List Value → ZM → Option ZO
abbrev ZY : Type := (Nat × Nat) ⊕ ((Nat × List Nat) ⊕ (Nat × List (Option Nat)))
/-- the cells: arrays (0 ints, 1 longs, 2 booleans) with their lengths; arrays of cells; objects, whose fields are numbers or cells -/
def zLay : List ZY := [
.inr (.inr (7, [some 1, some 18, some 20, some 27, some 34, some 49, some 53, some 61, some 63, none])),
  .inr (.inl (3, [2, 3, 4, 5, 6, 7, 8, 9])),
  .inr (.inr (4, [some 10, none, none, none])),
  .inr (.inr (4, [some 11, none, none, none])),
  .inr (.inr (4, [some 12, none, none, none])),
  .inr (.inr (4, [some 13, none, none, none])),
  .inr (.inr (4, [some 14, none, none, none])),
  .inr (.inr (4, [some 15, none, none, none])),
  .inr (.inr (4, [some 16, none, none, none])),
  .inr (.inr (4, [some 17, none, none, none])),
  .inl (0, 40),
  .inl (0, 40),
  .inl (0, 40),
  .inl (0, 40),
  .inl (0, 40),
  .inl (0, 40),
  .inl (0, 40),
  .inl (0, 40),
  .inr (.inr (3, [some 19, none, none, none, none, none, none])),
  .inl (0, 120),
  .inr (.inr (5, [none, none, none, none, none, none, none, none, some 21, some 22, some 23, some 24, some 25, some 26])),
  .inl (0, 10),
  .inl (0, 10),
  .inl (0, 10),
  .inl (0, 5),
  .inl (0, 5),
  .inl (0, 5),
  .inr (.inr (5, [none, none, none, none, none, none, none, none, some 28, some 29, some 30, some 31, some 32, some 33])),
  .inl (0, 10),
  .inl (0, 10),
  .inl (0, 10),
  .inl (0, 5),
  .inl (0, 5),
  .inl (0, 5),
  .inr (.inl (4, [35, 42])),
  .inr (.inr (5, [none, none, none, none, none, none, none, none, some 36, some 37, some 38, some 39, some 40, some 41])),
  .inl (0, 10),
  .inl (0, 10),
  .inl (0, 10),
  .inl (0, 5),
  .inl (0, 5),
  .inl (0, 5),
  .inr (.inr (5, [none, none, none, none, none, none, none, none, some 43, some 44, some 45, some 46, some 47, some 48])),
  .inl (0, 10),
  .inl (0, 10),
  .inl (0, 10),
  .inl (0, 5),
  .inl (0, 5),
  .inl (0, 5),
  .inr (.inr (0, [some 50, some 51, some 52, none, none])),
  .inl (0, 24),
  .inl (0, 24),
  .inl (0, 24),
  .inr (.inr (2, [some 54, some 55, some 56, none, some 57, some 58, some 59, some 60])),
  .inl (2, 1024),
  .inl (0, 275),
  .inl (0, 275),
  .inl (0, 1024),
  .inl (0, 1024),
  .inl (0, 100),
  .inl (1, 11),
  .inr (.inr (1, [some 62, none, none, none, none, none])),
  .inl (0, 16),
  .inr (.inr (6, [some 64, some 65, none])),
  .inl (0, 10),
  .inl (0, 10),
  .inr (.inr (8, [some 67, some 68, some 69, some 70, none, some 71, none, none, none, none, some 72, some 73, some 74, some 75, none, some 76, some 77, some 78, some 79, none, some 80, some 81, some 82])),
  .inl (0, 8),
  .inl (0, 8),
  .inl (0, 320),
  .inl (0, 40),
  .inl (0, 120),
  .inl (0, 41),
  .inl (0, 41),
  .inl (0, 10),
  .inl (0, 432),
  .inl (0, 82),
  .inl (2, 2),
  .inl (1, 1024),
  .inl (0, 16),
  .inl (1, 5),
  .inl (1, 11),
  .inl (0, 18)]
def zfld (M : ZM) (ad : Nat → Nat) (k j : Nat) (f : Option Nat) : Value := match f with
  | none => .int (M.1 k j)
  | some t => .ref (ad t)
def zcell (dA : Nat → ClassId) (ad : Nat → Nat) (M : ZM) (k : Nat) (y : ZY) : va_E := match y with
  | .inl (t, n) => .inl (dA t, n, if t = 1 then .inr (.inl (M.2 k)) else .inl (M.1 k))
  | .inr (.inl (t, ts)) => .inl (dA t, ts.length, .inr (.inr (.inr (.inr (fun j => (ts[j]?).map ad)))))
  | .inr (.inr (ci, fs)) => .inr (ci, fs.mapIdx (zfld M ad k))
def zwd (dA : Nat → ClassId) (ad : Nat → Nat) (M : ZM) : va_W := zLay.mapIdx (fun k y => (ad k, zcell dA ad M k y))
theorem zwd_at {dA : Nat → ClassId} {ad : Nat → Nat} {M : ZM} {k : Nat} {y : ZY} (h : zLay[k]? = some y) : (zwd dA ad M)[k]? = some (ad k, zcell dA ad M k y) := by
  simp [zwd, List.getElem?_mapIdx, h]
theorem zwd_set {dA : Nat → ClassId} {ad : Nat → Nat} {M M' : ZM} {a : Nat} {y : ZY} {e : va_E} (ha : zLay[a]? = some y) (h : zcell dA ad M' a y = e) (ho : ∀ k, k ≠ a → M'.1 k = M.1 k ∧ M'.2 k = M.2 k) : (zwd dA ad M).set a (ad a, e) = zwd dA ad M' := by
  apply List.ext_getElem?
  intro k
  rw [List.getElem?_set]
  by_cases hk : a = k
  · subst hk
    have hlt : a < (zwd dA ad M).length := by
      simp only [zwd, List.length_mapIdx]
      exact (List.getElem?_eq_some_iff.mp ha).1
    rw [if_pos rfl, if_pos hlt, zwd_at ha, h]
  · rw [if_neg hk]
    simp only [zwd, List.getElem?_mapIdx]
    cases hy : zLay[k]? with
    | none => rfl
    | some z =>
      obtain ⟨h1, h2⟩ := ho k (fun e => hk e.symm)
      simp only [Option.map_some, Option.some.injEq, Prod.mk.injEq, true_and]
      rcases z with ⟨t, n⟩ | ⟨t, ts⟩ | ⟨ci, fs⟩
      · simp only [zcell, h1, h2]
      · rfl
      · have : zfld M' ad k = zfld M ad k := by
          funext j f
          cases f <;> simp [zfld, h1]
        simp only [zcell, this]
def zw (M : ZM) (c k : Nat) (v : Int32) : ZM := (fun c' => if c' = c then upd (M.1 c) k v else M.1 c', M.2)
def zwl (M : ZM) (c k : Nat) (v : Int64) : ZM := (M.1, fun c' => if c' = c then vp_updL (M.2 c) k v else M.2 c')
def zcp (M : ZM) (a sp b dp n : Nat) : ZM := (fun c' => if c' = b then va_cpy (M.1 a) (M.1 b) sp dp n else M.1 c', M.2)
/-- a check: what follows, or nothing -/
def zck {α : Type} (b : Bool) (x : Option α) : Option α := match b with
  | true => x
  | false => none
theorem zck_some {α : Type} {b : Bool} {x : Option α} {o : α} (h : zck b x = some o) : b = true ∧ x = some o := by
  cases b
  · cases h
  · exact ⟨rfl, h⟩
def zfi (a ci j : Nat) : Bool := match zLay[a]? with
  | some (.inr (.inr (c, fs))) => c == ci && (match fs[j]? with | some none => true | _ => false)
  | _ => false
def zfr (a ci j : Nat) : Bool := match zLay[a]? with
  | some (.inr (.inr (c, fs))) => c == ci && (match fs[j]? with | some (some _) => true | _ => false)
  | _ => false
def zrf (a j : Nat) : Nat := match zLay[a]? with
  | some (.inr (.inr (_, fs))) => (match fs[j]? with | some (some t) => t | _ => 0)
  | _ => 0
def zis (a ci : Nat) : Bool := match zLay[a]? with
  | some (.inr (.inr (c, _))) => c == ci
  | _ => false
def zty (a t : Nat) : Bool := match zLay[a]? with
  | some (.inl (t', _)) => t' == t
  | _ => false
def zln (a : Nat) : Nat := match zLay[a]? with
  | some (.inl (_, n)) => n
  | _ => 0
def ztr3 (a t : Nat) : Bool := match zLay[a]? with
  | some (.inr (.inl (t', _))) => t' == t
  | _ => false
def zrl (a : Nat) : Nat := match zLay[a]? with
  | some (.inr (.inl (_, ts))) => ts.length
  | _ => 0
def zel (a i : Nat) : Nat := match zLay[a]? with
  | some (.inr (.inl (_, ts))) => (match ts[i]? with | some t => t | none => 0)
  | _ => 0
def zin (i : Int32) (n : Nat) : Bool := !(decide (i < 0)) && decide (i.toNatClampNeg < n)
theorem zin_in {i : Int32} {n : Nat} (h : zin i n = true) : vp_in i n := by
  simp only [zin, Bool.and_eq_true, Bool.not_eq_true', decide_eq_false_iff_not, decide_eq_true_eq] at h
  intro q
  rcases q with q | q
  · exact h.1 q
  · omega
def zb01 (x : Int32) : Bool := x == 0 || x == 1
theorem zb01_nar {x : Int32} (h : zb01 x = true) : narrow .boolean (.int x) = .int x ∧ fits .boolean (.int x) = true ∧ vp_nar .boolean x = x := by
  simp only [zb01, Bool.or_eq_true, beq_iff_eq] at h
  rcases h with rfl | rfl <;> exact ⟨by decide +kernel, by decide +kernel, by decide +kernel⟩
theorem zfi_spec {a ci j : Nat} (h : zfi a ci j = true) : ∃ fs, zLay[a]? = some (.inr (.inr (ci, fs))) ∧ fs[j]? = some none := by
  unfold zfi at h
  split at h
  · rename_i c fs hy
    simp only [Bool.and_eq_true, beq_iff_eq] at h
    obtain ⟨rfl, h2⟩ := h
    refine ⟨fs, hy, ?_⟩
    split at h2
    · assumption
    · cases h2
  · cases h
theorem zfr_spec {a ci j : Nat} (h : zfr a ci j = true) : ∃ fs, zLay[a]? = some (.inr (.inr (ci, fs))) ∧ fs[j]? = some (some (zrf a j)) := by
  unfold zfr at h
  split at h
  · rename_i c fs hy
    simp only [Bool.and_eq_true, beq_iff_eq] at h
    obtain ⟨rfl, h2⟩ := h
    refine ⟨fs, hy, ?_⟩
    unfold zrf
    rw [hy]
    split at h2
    · rename_i t ht
      simp [ht]
    · cases h2
  · cases h
theorem zis_spec {a ci : Nat} (h : zis a ci = true) : ∃ fs, zLay[a]? = some (.inr (.inr (ci, fs))) := by
  unfold zis at h
  split at h
  · rename_i c fs hy
    simp only [beq_iff_eq] at h
    subst h
    exact ⟨fs, hy⟩
  · cases h
theorem zty_spec {a t : Nat} (h : zty a t = true) : zLay[a]? = some (.inl (t, zln a)) := by
  unfold zty at h
  split at h
  · rename_i t' n hy
    simp only [beq_iff_eq] at h
    subst h
    simp only [zln, hy]
  · cases h
theorem ztr3_spec {a t : Nat} (h : ztr3 a t = true) : ∃ ts, zLay[a]? = some (.inr (.inl (t, ts))) ∧ ts.length = zrl a ∧ ∀ i, i < zrl a → ts[i]? = some (zel a i) := by
  unfold ztr3 at h
  split at h
  · rename_i t' ts hy
    simp only [beq_iff_eq] at h
    subst h
    refine ⟨ts, hy, by simp only [zrl, hy], fun i hi => ?_⟩
    simp only [zrl, hy] at hi
    simp only [zel, hy]
    have := List.getElem?_eq_getElem hi
    rw [this]
  · cases h
def ztr (ad : Nat → Nat) (v : Value) : Value := match v with
  | .ref k => .ref (ad k)
  | w => w
theorem ztr_cat (ad : Nat → Nat) (v : Value) : (ztr ad v).category = v.category := by cases v <;> rfl
theorem ztr_sum (ad : Nat → Nat) (st : List Value) : ((st.map (ztr ad)).map fun v => v.category).sum = (st.map fun v => v.category).sum := by
  induction st with
  | nil => rfl
  | cons a t ih => simp only [List.map_cons, List.sum_cons, ih, ztr_cat]
/-- the locals by their places -/
def zLH (ad : Nat → Nat) (ls : Array Slot) (nL : Nat) (lo : ZL) : Prop := ls.size = nL ∧ lv_wf ls ∧ ∀ (i : Nat) (v : Value), lo[i]? = some (some v) → ls[i]? = some (.val (ztr ad v))
def zas (ad : Nat → Nat) (lo : ZL) : List (Nat × Value) := (List.range lo.length).filterMap (fun i => match lo[i]? with | some (some v) => some (i, ztr ad v) | _ => none)
theorem zas_mem {ad : Nat → Nat} {lo : ZL} {q : Nat × Value} : q ∈ zas ad lo ↔ ∃ v, lo[q.1]? = some (some v) ∧ q.2 = ztr ad v := by
  unfold zas
  rw [List.mem_filterMap]
  constructor
  · rintro ⟨i, hi, h⟩
    split at h
    · rename_i v hv
      cases h
      exact ⟨v, hv, rfl⟩
    · cases h
  · rintro ⟨v, hv, he⟩
    refine ⟨q.1, List.mem_range.mpr (List.getElem?_eq_some_iff.mp hv).1, ?_⟩
    rw [hv]
    simp only [← he]
theorem zLH_has {ad : Nat → Nat} {ls : Array Slot} {nL : Nat} {lo : ZL} (h : zLH ad ls nL lo) : lv_has ls nL (zas ad lo) :=
  ⟨h.1, h.2.1, fun q hq => by obtain ⟨v, hv, he⟩ := zas_mem.mp hq; rw [he]; exact h.2.2 q.1 v hv⟩
/-- a long ahead of the place is lost -/
def zkl (lo : ZL) (i : Nat) : ZL := match i with
  | 0 => lo
  | j + 1 => match lo[j]? with
    | some (some v) => if v.category = 2 then lo.set j none else lo
    | _ => lo
def zs1 (lo : ZL) (i : Nat) (v : Value) : ZL := (zkl lo i).set i (some v)
def zs2 (lo : ZL) (i : Nat) (v : Value) : ZL := ((zkl lo i).set i (some v)).set (i + 1) none
theorem zkl_get {lo : ZL} {i k : Nat} {v : Value} (h : (zkl lo i)[k]? = some (some v)) : lo[k]? = some (some v) ∧ ¬ (k + 1 = i ∧ v.category = 2) := by
  unfold zkl at h
  split at h
  · exact ⟨h, fun q => by omega⟩
  · rename_i j
    split at h
    · rename_i w hw
      split at h
      · rw [List.getElem?_set] at h
        split at h
        · split at h <;> cases h
        · exact ⟨h, fun q => by omega⟩
      · rename_i hc
        refine ⟨h, fun q => hc ?_⟩
        have : k = j := by omega
        subst this
        rw [hw] at h
        cases h
        exact q.2
    · rename_i hn
      refine ⟨h, fun q => ?_⟩
      have : k = j := by omega
      subst this
      exact hn v h
theorem zLH_s1 {ad : Nat → Nat} {ls' : Array Slot} {nL i : Nat} {lo : ZL} {v : Value}
    (h : lv_has ls' nL ((i, ztr ad v) :: (zas ad lo).filter (fun q => !(q.1 == i) && !(q.1 + 1 == i && q.2.category == 2)))) : zLH ad ls' nL (zs1 lo i v) := by
  refine ⟨h.1, h.2.1, fun k w hk => ?_⟩
  unfold zs1 at hk
  rw [List.getElem?_set] at hk
  split at hk
  · rename_i e
    subst e
    split at hk
    · cases hk
      exact h.2.2 _ List.mem_cons_self
    · cases hk
  · rename_i hne
    obtain ⟨h1, h2⟩ := zkl_get hk
    refine h.2.2 (k, ztr ad w) (List.mem_cons_of_mem _ (List.mem_filter.mpr ⟨zas_mem.mpr ⟨w, h1, rfl⟩, ?_⟩))
    simp only [ztr_cat, Bool.and_eq_true, Bool.not_eq_true', beq_eq_false_iff_ne, ne_eq, Bool.and_eq_false_imp, beq_iff_eq]
    refine ⟨fun e => hne e.symm, fun e c => ?_⟩
    exact h2 ⟨e, c⟩
theorem zLH_s2 {ad : Nat → Nat} {ls' : Array Slot} {nL i : Nat} {lo : ZL} {v : Value}
    (h : lv_has ls' nL ((i, ztr ad v) :: (zas ad lo).filter (fun q => !(q.1 == i) && (!(q.1 == i + 1) && !(q.1 + 1 == i && q.2.category == 2))))) : zLH ad ls' nL (zs2 lo i v) := by
  refine ⟨h.1, h.2.1, fun k w hk => ?_⟩
  unfold zs2 at hk
  rw [List.getElem?_set] at hk
  split at hk
  · split at hk <;> cases hk
  · rename_i hne1
    rw [List.getElem?_set] at hk
    split at hk
    · rename_i e
      subst e
      split at hk
      · cases hk
        exact h.2.2 _ List.mem_cons_self
      · cases hk
    · rename_i hne
      obtain ⟨h1, h2⟩ := zkl_get hk
      refine h.2.2 (k, ztr ad w) (List.mem_cons_of_mem _ (List.mem_filter.mpr ⟨zas_mem.mpr ⟨w, h1, rfl⟩, ?_⟩))
      simp only [ztr_cat, Bool.and_eq_true, Bool.not_eq_true', beq_eq_false_iff_ne, ne_eq, Bool.and_eq_false_imp, beq_iff_eq]
      refine ⟨fun e => hne e.symm, fun e => hne1 e.symm, fun e c => ?_⟩
      exact h2 ⟨e, c⟩
end
section
/-! The operations, and that each does what its instruction does -/
def zTys (dA : Nat → ClassId) : List (ClassId × FieldType) := [(dA 0, .int), (dA 1, .long), (dA 2, .boolean), (dA 3, .object "StampSheets$Row"), (dA 4, .object "StampSheets$Sheet")]
def zAd (ad : Nat → Nat) (A : Nat → Prop) : Prop := (∀ i j, i < 83 → j < 83 → ad i = ad j → i = j) ∧ ∀ i, i < 83 → A (ad i)
def zS1 (ad : Nat → Nat) (A : Nat → Prop) (U : State) (H : Heap) (k : Nat) (C n : String) (xs : List Int32) : Prop := va_Z C n "[I" (.ref (ad k)) A U H ∧ va_T .int (ad k) xs.length (fun j => .int (xs.getD j 0)) A U H
def zWITHOUT : List Int32 := [1431655765, 858993459, 252645135, 16711935, 65535]
def zABOVE : List Int32 := [0, 0, 1, 1, 0, 4]
def zSIZEB : List Int32 := [10, 11, 12, 0, 13, 14]
def zMARKB : List Int32 := [20, 21, 24, 22, 23, 0]
def zSt (ad : Nat → Nat) (A : Nat → Prop) (U : State) (H : Heap) : Prop := zS1 ad A U H 1001 "StampSheets$Finder" "WITHOUT" zWITHOUT ∧ zS1 ad A U H 1002 "StampSheets$Asks" "ABOVE" zABOVE ∧ zS1 ad A U H 1003 "StampSheets$Asks" "SIZE_BODIES" zSIZEB ∧ zS1 ad A U H 1004 "StampSheets$Asks" "MARK_BODIES" zMARKB
theorem zS1.moved {ad : Nat → Nat} {A : Nat → Prop} {u U : State} {H H1 : Heap} {k : Nat} {C n : String} {xs : List Int32} (h : zS1 ad A u H k C n xs) (hvm : u.vm.Alike U.vm) (hq : ∀ a : Nat, a < H.size → ¬ A a → H1[a]? = H[a]?) : zS1 ad A U H1 k C n xs := ⟨(h.1.moved hvm).kept hq, (h.2.moved hvm).kept hq⟩
theorem zSt.moved {ad : Nat → Nat} {A : Nat → Prop} {u U : State} {H H1 : Heap} (h : zSt ad A u H) (hvm : u.vm.Alike U.vm) (hq : ∀ a : Nat, a < H.size → ¬ A a → H1[a]? = H[a]?) : zSt ad A U H1 := ⟨h.1.moved hvm hq, h.2.1.moved hvm hq, h.2.2.1.moved hvm hq, h.2.2.2.moved hvm hq⟩
/-- what holds in a method's frame -/
def zCx (p : Program) (R : Room) (s : State) (m : MethodId) (args : Array Value) (c : Code) (cc : ByteArray) (own : String) (nL : Nat) (D : va_G) (dA : Nat → ClassId) (ad : Nat → Nat) (A : Nat → Prop) (d cells slots : Nat) : Prop :=
  p.tables.exec = Jvm.exec ∧ c.code = cc ∧ c.maxLocals = nL ∧ s.vm.findClass own = some m.cls ∧ (∀ w ∈ zTB, w.before args s = true) ∧ (∀ w ∈ zNL, va_Nw w s) ∧ va_K D vwCl (zTys dA) s ∧ zAd ad A ∧ zSt ad A s s.heap ∧ (d + 1 ≤ R.frames ∧ 64 * (d + 1) ≤ R.locals ∧ cells ≤ R.cells ∧ slots ≤ R.slots)
def zV (p : Program) (l : Launch) (e : Env) (R : Room) (s : State) (m : MethodId) (args : Array Value) (below : List Frame) (meth : Method) (c : Code) (nL : Nat) (D : va_G) (dA : Nat → ClassId) (ad : Nat → Nat) (A : Nat → Prop) (cells slots : Nat) (Q : State → Prop) (pc : Nat) (lo : ZL) (st : List Value) (M : ZM) : Prop :=
  ∀ (H : Heap) (locs : List Loc) (ls : Array Slot), va_P D vwCl (zwd dA ad M) H → va_S A s.heap H locs → zLH ad ls nL lo → lo.length = nL → W p l e R s m args below meth c H locs cells slots Q (F0 m pc ls (st.map (ztr ad)))
/-- how a method is left: 0 nothing, 1 an int, 2 a long, 3 a boolean -/
def zRT (rk : Nat) (v : Option Value) (cc : ByteArray) (pc : Nat) : Prop :=
  (rk = 0 ∧ v = none ∧ decode cc pc = .ok (.return_, 1)) ∨ (rk = 1 ∧ (∃ x, v = some (.int x)) ∧ decode cc pc = .ok (.ireturn, 1)) ∨ (rk = 2 ∧ (∃ x, v = some (.long x)) ∧ decode cc pc = .ok (.lreturn, 1)) ∨ (rk = 3 ∧ (∃ x, v = some (.int x) ∧ zb01 x = true) ∧ decode cc pc = .ok (.ireturn, 1))
def zRr (p : Program) (l : Launch) (e : Env) (R : Room) (s : State) (m : MethodId) (args : Array Value) (below : List Frame) (meth : Method) (c : Code) (D : va_G) (dA : Nat → ClassId) (ad : Nat → Nat) (A : Nat → Prop) (cells slots : Nat) (Q : State → Prop) (rk : Nat) (cc : ByteArray) (r : ZR) : Prop :=
  ∀ (pc : Nat) (H : Heap) (locs : List Loc) (ls : Array Slot), va_P D vwCl (zwd dA ad r.2) H → va_S A s.heap H locs → zRT rk r.1 cc pc → W p l e R s m args below meth c H locs cells slots Q (F0 m pc ls (r.1.toList.map (ztr ad)))
def zRep (D : va_G) (dA : Nat → ClassId) (ad : Nat → Nat) (A : Nat → Prop) (M : ZM) (U : State) : Prop := va_P D vwCl (zwd dA ad M) U.heap ∧ va_K D vwCl (zTys dA) U ∧ (∀ w ∈ zNL, va_Nw w U) ∧ zSt ad A U U.heap
def zrm (d : Nat) : Room := { frames := d, cells := 0, slots := 0, locals := 64 * d }
abbrev ZT : Type := MethodName × ByteArray × Nat × Option FieldType
def zws (q : ZT) : List Cond := .code q.1 q.2.1 q.2.2.1 q.2.2.2 :: zTB
def zPc (D : va_G) (dA : Nat → ClassId) (ad : Nat → Nat) (A : Nat → Prop) (as : List Value) (M : ZM) : Array Value → State → Prop := va_Pc (as.map (ztr ad)) (zRep D dA ad A M)
def zQi (D : va_G) (dA : Nat → ClassId) (ad : Nat → Nat) (A : Nat → Prop) (r : Int32) (M' : ZM) : Array Value → State → Outcome → State → Prop := va_Qi (fun x (_ : Unit) => x = r) (fun _ t => va_P D vwCl (zwd dA ad M') t.heap) A
def zQl (D : va_G) (dA : Nat → ClassId) (ad : Nat → Nat) (A : Nat → Prop) (r : Int64) (M' : ZM) : Array Value → State → Outcome → State → Prop := va_Ql (fun x (_ : Unit) => x = r) (fun _ t => va_P D vwCl (zwd dA ad M') t.heap) A
def zQv (D : va_G) (dA : Nat → ClassId) (ad : Nat → Nat) (A : Nat → Prop) (M' : ZM) : Array Value → State → Outcome → State → Prop := va_Qv (fun (_ : Unit) => True) (fun _ t => va_P D vwCl (zwd dA ad M') t.heap) A
/-- the callees: what the table of methods answers is what the machine does, in a room of depth d -/
def zES (mt : Nat → Option ZT) (l : Launch) (D : va_G) (dA : Nat → ClassId) (ad : Nat → Nat) (A : Nat → Prop) (d : Nat) (E : ZE) : Prop :=
  ∀ (y : Nat) (q : ZT), mt y = some q → ∀ (as : List Value) (M : ZM),
    (∀ r M', E.1 y as M = some (r, M') → Met l q.1 (zws q) (zrm d) (zPc D dA ad A as M) (zQi D dA ad A r M') 0 0 A) ∧
    (∀ r M', E.2.1 y as M = some (r, M') → Met l q.1 (zws q) (zrm d) (zPc D dA ad A as M) (zQl D dA ad A r M') 0 0 A) ∧
    (∀ M', E.2.2 y as M = some M' → Met l q.1 (zws q) (zrm d) (zPc D dA ad A as M) (zQv D dA ad A M') 0 0 A)
/-- an operation is right at a place of a code -/
def ZOK (mt : Nat → Option ZT) (cc : ByteArray) (own : String) (rk pc : Nat) (op : ZP) : Prop :=
  ∀ (p : Program) (l : Launch) (e : Env) (R : Room) (s : State) (m : MethodId) (args : Array Value) (below : List Frame) (meth : Method) (c : Code) (nL : Nat) (D : va_G) (dA : Nat → ClassId) (ad : Nat → Nat) (A : Nat → Prop) (cells slots : Nat) (Q : State → Prop) (d : Nat) (E : ZE),
    zCx p R s m args c cc own nL D dA ad A d cells slots → zES mt l D dA ad A d E → ∀ (k : ZK) (lo : ZL) (st : List Value) (M : ZM) (o : ZO), op E k lo st M = some o →
    (∀ pc' lo' st' M', k pc' lo' st' M' = some o → zV p l e R s m args below meth c nL D dA ad A cells slots Q pc' lo' st' M') → (∀ r, o = .inl r → zRr p l e R s m args below meth c D dA ad A cells slots Q rk cc r) →
    zV p l e R s m args below meth c nL D dA ad A cells slots Q pc lo st M
theorem zkl_len (lo : ZL) (i : Nat) : (zkl lo i).length = lo.length := by
  unfold zkl
  split
  · rfl
  · split
    · split
      · rw [List.length_set]
      · rfl
    · rfl
theorem zs1_len (lo : ZL) (i : Nat) (v : Value) : (zs1 lo i v).length = lo.length := by rw [zs1, List.length_set, zkl_len]
theorem zs2_len (lo : ZL) (i : Nat) (v : Value) : (zs2 lo i v).length = lo.length := by rw [zs2, List.length_set, List.length_set, zkl_len]
section ZD
variable {ad : Nat → Nat} {A : Nat → Prop} {dA : Nat → ClassId} {D : va_G}
theorem zD (h : zAd ad A) (M : ZM) : va_D A (zwd dA ad M) := by
  have key : ∀ (k : Nat) (q : Nat × va_E), (zwd dA ad M)[k]? = some q → k < 83 ∧ q.1 = ad k := by
    intro k q hk
    simp only [zwd, List.getElem?_mapIdx] at hk
    cases hy : zLay[k]? with
    | none => rw [hy] at hk; cases hk
    | some y =>
      rw [hy] at hk
      cases hk
      exact ⟨(List.getElem?_eq_some_iff.mp hy).1, rfl⟩
  refine ⟨fun i j p q hi hj he => ?_, fun k q hk => ?_⟩
  · obtain ⟨h1, h2⟩ := key i p hi
    obtain ⟨h3, h4⟩ := key j q hj
    exact h.1 i j h1 h3 (by rw [← h2, ← h4, he])
  · obtain ⟨h1, h2⟩ := key k q hk
    rw [h2]
    exact h.2 k h1
end ZD

def zo_i (v : Int32) (n : Nat) : ZP := fun E k lo st M => k n lo (.int v :: st) M
def zo_l (v : Int64) (n : Nat) : ZP := fun E k lo st M => k n lo (.long v :: st) M
theorem zk_iconst {mt : Nat → Option ZT} {cc : ByteArray} {own : String} {rk pc : Nat} {z : Int} {v : Int32} (hv : Int32.ofInt z = v) (hd : decode cc pc = .ok (.iconst z, 1)) : ZOK mt cc own rk pc (zo_i v (pc + 1)) := by
  intro p l e R s m args below meth c nL D dA ad A cells slots Q d E hC hE k lo st M o ho hk hr H locs ls hP hS hL hlen
  obtain ⟨hx, hb, hml, hown, hts, hnl, hK, hAd, hSt, hR⟩ := hC
  exact lv_iconst hx hb hd hv (hk _ _ _ _ ho H locs ls hP hS hL hlen)
theorem zk_bipush {mt : Nat → Option ZT} {cc : ByteArray} {own : String} {rk pc : Nat} {z : Int} {v : Int32} (hv : (Int8.ofInt z).toInt32 = v) (hd : decode cc pc = .ok (.bipush z, 2)) : ZOK mt cc own rk pc (zo_i v (pc + 2)) := by
  intro p l e R s m args below meth c nL D dA ad A cells slots Q d E hC hE k lo st M o ho hk hr H locs ls hP hS hL hlen
  obtain ⟨hx, hb, hml, hown, hts, hnl, hK, hAd, hSt, hR⟩ := hC
  exact lv_bipush hx hb hd hv (hk _ _ _ _ ho H locs ls hP hS hL hlen)
theorem zk_sipush {mt : Nat → Option ZT} {cc : ByteArray} {own : String} {rk pc : Nat} {z : Int} {v : Int32} (hv : (Int16.ofInt z).toInt32 = v) (hd : decode cc pc = .ok (.sipush z, 3)) : ZOK mt cc own rk pc (zo_i v (pc + 3)) := by
  intro p l e R s m args below meth c nL D dA ad A cells slots Q d E hC hE k lo st M o ho hk hr H locs ls hP hS hL hlen
  obtain ⟨hx, hb, hml, hown, hts, hnl, hK, hAd, hSt, hR⟩ := hC
  exact lv_sipush hx hb hd hv (hk _ _ _ _ ho H locs ls hP hS hL hlen)
theorem zk_lconst {mt : Nat → Option ZT} {cc : ByteArray} {own : String} {rk pc : Nat} {z : Fin 2} {v : Int64} (hv : Int64.ofNat (z : Nat) = v) (hd : decode cc pc = .ok (.lconst z, 1)) : ZOK mt cc own rk pc (zo_l v (pc + 1)) := by
  intro p l e R s m args below meth c nL D dA ad A cells slots Q d E hC hE k lo st M o ho hk hr H locs ls hP hS hL hlen
  obtain ⟨hx, hb, hml, hown, hts, hnl, hK, hAd, hSt, hR⟩ := hC
  exact lv_lconst hx hb hd hv (hk _ _ _ _ ho H locs ls hP hS hL hlen)
theorem zk_ldc {mt : Nat → Option ZT} {cc : ByteArray} {own : String} {rk pc : Nat} {i : Nat} {v : Int32} (hm : Cond.constant own i v ∈ zTB) (hd : decode cc pc = .ok (.ldc i, 2)) : ZOK mt cc own rk pc (zo_i v (pc + 2)) := by
  intro p l e R s m args below meth c nL D dA ad A cells slots Q d E hC hE k lo st M o ho hk hr H locs ls hP hS hL hlen
  obtain ⟨hx, hb, hml, hown, hts, hnl, hK, hAd, hSt, hR⟩ := hC
  exact lv_ldc hx hb hown (hts _ hm) hd (hk _ _ _ _ ho H locs ls hP hS hL hlen)
theorem zk_ldcw {mt : Nat → Option ZT} {cc : ByteArray} {own : String} {rk pc : Nat} {i : Nat} {v : Int32} (hm : Cond.constant own i v ∈ zTB) (hd : decode cc pc = .ok (.ldc_w i, 3)) : ZOK mt cc own rk pc (zo_i v (pc + 3)) := by
  intro p l e R s m args below meth c nL D dA ad A cells slots Q d E hC hE k lo st M o ho hk hr H locs ls hP hS hL hlen
  obtain ⟨hx, hb, hml, hown, hts, hnl, hK, hAd, hSt, hR⟩ := hC
  exact lv_ldcw hx hb hown (hts _ hm) hd (hk _ _ _ _ ho H locs ls hP hS hL hlen)
theorem zk_ldc2 {mt : Nat → Option ZT} {cc : ByteArray} {own : String} {rk pc : Nat} {i : Nat} {v : Int64} (hm : Cond.constantLong own i v ∈ zTB) (hd : decode cc pc = .ok (.ldc2_w i, 3)) : ZOK mt cc own rk pc (zo_l v (pc + 3)) := by
  intro p l e R s m args below meth c nL D dA ad A cells slots Q d E hC hE k lo st M o ho hk hr H locs ls hP hS hL hlen
  obtain ⟨hx, hb, hml, hown, hts, hnl, hK, hAd, hSt, hR⟩ := hC
  exact lv_ldc2 hx hb hown (hts _ hm) hd (hk _ _ _ _ ho H locs ls hP hS hL hlen)
def zo_il (i n : Nat) : ZP := fun E k lo st M => match lo[i]? with | some (some (.int x)) => k n lo (.int x :: st) M | _ => none
theorem zk_iload {mt : Nat → Option ZT} {cc : ByteArray} {own : String} {rk pc : Nat} {i : Nat} (hd : decode cc pc = .ok (.iload i, 2)) : ZOK mt cc own rk pc (zo_il i (pc + 2)) := by
  intro p l e R s m args below meth c nL D dA ad A cells slots Q d E hC hE k lo st M o ho hk hr H locs ls hP hS hL hlen
  obtain ⟨hx, hb, hml, hown, hts, hnl, hK, hAd, hSt, hR⟩ := hC
  unfold zo_il at ho
  split at ho
  · rename_i x hi
    exact lv_iload hx hb hd (hL.2.2 _ _ hi) (hk _ _ _ _ ho H locs ls hP hS hL hlen)
  · cases ho
theorem zk_iload_n {mt : Nat → Option ZT} {cc : ByteArray} {own : String} {rk pc : Nat} {j : Fin 4} {i : Nat} (hi : (j : Nat) = i) (hd : decode cc pc = .ok (.iload_n j, 1)) : ZOK mt cc own rk pc (zo_il i (pc + 1)) := by
  intro p l e R s m args below meth c nL D dA ad A cells slots Q d E hC hE k lo st M o ho hk hr H locs ls hP hS hL hlen
  obtain ⟨hx, hb, hml, hown, hts, hnl, hK, hAd, hSt, hR⟩ := hC
  unfold zo_il at ho
  split at ho
  · rename_i x hi2
    exact lv_iload_n hx hb hd hi (hL.2.2 _ _ hi2) (hk _ _ _ _ ho H locs ls hP hS hL hlen)
  · cases ho
def zo_ll (i n : Nat) : ZP := fun E k lo st M => match lo[i]? with | some (some (.long x)) => k n lo (.long x :: st) M | _ => none
theorem zk_lload {mt : Nat → Option ZT} {cc : ByteArray} {own : String} {rk pc : Nat} {i : Nat} (hd : decode cc pc = .ok (.lload i, 2)) : ZOK mt cc own rk pc (zo_ll i (pc + 2)) := by
  intro p l e R s m args below meth c nL D dA ad A cells slots Q d E hC hE k lo st M o ho hk hr H locs ls hP hS hL hlen
  obtain ⟨hx, hb, hml, hown, hts, hnl, hK, hAd, hSt, hR⟩ := hC
  unfold zo_ll at ho
  split at ho
  · rename_i x hi
    exact lv_lload hx hb hd (hL.2.2 _ _ hi) (hk _ _ _ _ ho H locs ls hP hS hL hlen)
  · cases ho
theorem zk_lload_n {mt : Nat → Option ZT} {cc : ByteArray} {own : String} {rk pc : Nat} {j : Fin 4} {i : Nat} (hi : (j : Nat) = i) (hd : decode cc pc = .ok (.lload_n j, 1)) : ZOK mt cc own rk pc (zo_ll i (pc + 1)) := by
  intro p l e R s m args below meth c nL D dA ad A cells slots Q d E hC hE k lo st M o ho hk hr H locs ls hP hS hL hlen
  obtain ⟨hx, hb, hml, hown, hts, hnl, hK, hAd, hSt, hR⟩ := hC
  unfold zo_ll at ho
  split at ho
  · rename_i x hi2
    exact lv_lload_n hx hb hd hi (hL.2.2 _ _ hi2) (hk _ _ _ _ ho H locs ls hP hS hL hlen)
  · cases ho
def zo_al (i n : Nat) : ZP := fun E k lo st M => match lo[i]? with | some (some (.ref x)) => k n lo (.ref x :: st) M | _ => none
theorem zk_aload {mt : Nat → Option ZT} {cc : ByteArray} {own : String} {rk pc : Nat} {i : Nat} (hd : decode cc pc = .ok (.aload i, 2)) : ZOK mt cc own rk pc (zo_al i (pc + 2)) := by
  intro p l e R s m args below meth c nL D dA ad A cells slots Q d E hC hE k lo st M o ho hk hr H locs ls hP hS hL hlen
  obtain ⟨hx, hb, hml, hown, hts, hnl, hK, hAd, hSt, hR⟩ := hC
  unfold zo_al at ho
  split at ho
  · rename_i x hi
    exact lv_aload hx hb hd (hL.2.2 _ _ hi) (hk _ _ _ _ ho H locs ls hP hS hL hlen)
  · cases ho
theorem zk_aload_n {mt : Nat → Option ZT} {cc : ByteArray} {own : String} {rk pc : Nat} {j : Fin 4} {i : Nat} (hi : (j : Nat) = i) (hd : decode cc pc = .ok (.aload_n j, 1)) : ZOK mt cc own rk pc (zo_al i (pc + 1)) := by
  intro p l e R s m args below meth c nL D dA ad A cells slots Q d E hC hE k lo st M o ho hk hr H locs ls hP hS hL hlen
  obtain ⟨hx, hb, hml, hown, hts, hnl, hK, hAd, hSt, hR⟩ := hC
  unfold zo_al at ho
  split at ho
  · rename_i x hi2
    exact lv_aload_n hx hb hd hi (hL.2.2 _ _ hi2) (hk _ _ _ _ ho H locs ls hP hS hL hlen)
  · cases ho
def zo_is (i n : Nat) : ZP := fun E k lo st M => match st with | .int x :: r => zck (decide (i < lo.length)) (k n (zs1 lo i (.int x)) r M) | _ => none
theorem zk_istore {mt : Nat → Option ZT} {cc : ByteArray} {own : String} {rk pc : Nat} {i : Nat} (hd : decode cc pc = .ok (.istore i, 2)) : ZOK mt cc own rk pc (zo_is i (pc + 2)) := by
  intro p l e R s m args below meth c nL D dA ad A cells slots Q d E hC hE k lo st M o ho hk hr H locs ls hP hS hL hlen
  obtain ⟨hx, hb, hml, hown, hts, hnl, hK, hAd, hSt, hR⟩ := hC
  unfold zo_is at ho
  split at ho
  · rename_i x r
    obtain ⟨hi1, ho⟩ := zck_some ho
    have hi2 := of_decide_eq_true hi1
    rw [hlen] at hi2
    exact lv_istore hx hb hd (zLH_has hL) hi2 rfl (fun ls' h' => hk _ _ _ _ ho H locs ls' hP hS (zLH_s1 h') (by rw [zs1_len]; exact hlen))
  · cases ho
theorem zk_istore_n {mt : Nat → Option ZT} {cc : ByteArray} {own : String} {rk pc : Nat} {j : Fin 4} {i : Nat} (hi : (j : Nat) = i) (hd : decode cc pc = .ok (.istore_n j, 1)) : ZOK mt cc own rk pc (zo_is i (pc + 1)) := by
  intro p l e R s m args below meth c nL D dA ad A cells slots Q d E hC hE k lo st M o ho hk hr H locs ls hP hS hL hlen
  obtain ⟨hx, hb, hml, hown, hts, hnl, hK, hAd, hSt, hR⟩ := hC
  unfold zo_is at ho
  split at ho
  · rename_i x r
    obtain ⟨hi1, ho⟩ := zck_some ho
    have hi2 := of_decide_eq_true hi1
    rw [hlen] at hi2
    exact lv_istore_n hx hb hd hi (zLH_has hL) hi2 rfl (fun ls' h' => hk _ _ _ _ ho H locs ls' hP hS (zLH_s1 h') (by rw [zs1_len]; exact hlen))
  · cases ho
def zo_ls (i n : Nat) : ZP := fun E k lo st M => match st with | .long x :: r => zck (decide (i + 1 < lo.length)) (k n (zs2 lo i (.long x)) r M) | _ => none
theorem zk_lstore {mt : Nat → Option ZT} {cc : ByteArray} {own : String} {rk pc : Nat} {i : Nat} (hd : decode cc pc = .ok (.lstore i, 2)) : ZOK mt cc own rk pc (zo_ls i (pc + 2)) := by
  intro p l e R s m args below meth c nL D dA ad A cells slots Q d E hC hE k lo st M o ho hk hr H locs ls hP hS hL hlen
  obtain ⟨hx, hb, hml, hown, hts, hnl, hK, hAd, hSt, hR⟩ := hC
  unfold zo_ls at ho
  split at ho
  · rename_i x r
    obtain ⟨hi1, ho⟩ := zck_some ho
    have hi2 := of_decide_eq_true hi1
    rw [hlen] at hi2
    exact lv_lstore hx hb hd (zLH_has hL) hi2 rfl (fun ls' h' => hk _ _ _ _ ho H locs ls' hP hS (zLH_s2 h') (by rw [zs2_len]; exact hlen))
  · cases ho
theorem zk_lstore_n {mt : Nat → Option ZT} {cc : ByteArray} {own : String} {rk pc : Nat} {j : Fin 4} {i : Nat} (hi : (j : Nat) = i) (hd : decode cc pc = .ok (.lstore_n j, 1)) : ZOK mt cc own rk pc (zo_ls i (pc + 1)) := by
  intro p l e R s m args below meth c nL D dA ad A cells slots Q d E hC hE k lo st M o ho hk hr H locs ls hP hS hL hlen
  obtain ⟨hx, hb, hml, hown, hts, hnl, hK, hAd, hSt, hR⟩ := hC
  unfold zo_ls at ho
  split at ho
  · rename_i x r
    obtain ⟨hi1, ho⟩ := zck_some ho
    have hi2 := of_decide_eq_true hi1
    rw [hlen] at hi2
    exact lv_lstore_n hx hb hd hi (zLH_has hL) hi2 rfl (fun ls' h' => hk _ _ _ _ ho H locs ls' hP hS (zLH_s2 h') (by rw [zs2_len]; exact hlen))
  · cases ho
def zo_as (i n : Nat) : ZP := fun E k lo st M => match st with | .ref x :: r => zck (decide (i < lo.length)) (k n (zs1 lo i (.ref x)) r M) | _ => none
theorem zk_astore {mt : Nat → Option ZT} {cc : ByteArray} {own : String} {rk pc : Nat} {i : Nat} (hd : decode cc pc = .ok (.astore i, 2)) : ZOK mt cc own rk pc (zo_as i (pc + 2)) := by
  intro p l e R s m args below meth c nL D dA ad A cells slots Q d E hC hE k lo st M o ho hk hr H locs ls hP hS hL hlen
  obtain ⟨hx, hb, hml, hown, hts, hnl, hK, hAd, hSt, hR⟩ := hC
  unfold zo_as at ho
  split at ho
  · rename_i x r
    obtain ⟨hi1, ho⟩ := zck_some ho
    have hi2 := of_decide_eq_true hi1
    rw [hlen] at hi2
    exact lv_astore hx hb hd (zLH_has hL) hi2 rfl (fun ls' h' => hk _ _ _ _ ho H locs ls' hP hS (zLH_s1 h') (by rw [zs1_len]; exact hlen))
  · cases ho
theorem zk_astore_n {mt : Nat → Option ZT} {cc : ByteArray} {own : String} {rk pc : Nat} {j : Fin 4} {i : Nat} (hi : (j : Nat) = i) (hd : decode cc pc = .ok (.astore_n j, 1)) : ZOK mt cc own rk pc (zo_as i (pc + 1)) := by
  intro p l e R s m args below meth c nL D dA ad A cells slots Q d E hC hE k lo st M o ho hk hr H locs ls hP hS hL hlen
  obtain ⟨hx, hb, hml, hown, hts, hnl, hK, hAd, hSt, hR⟩ := hC
  unfold zo_as at ho
  split at ho
  · rename_i x r
    obtain ⟨hi1, ho⟩ := zck_some ho
    have hi2 := of_decide_eq_true hi1
    rw [hlen] at hi2
    exact lv_astore_n hx hb hd hi (zLH_has hL) hi2 rfl (fun ls' h' => hk _ _ _ _ ho H locs ls' hP hS (zLH_s1 h') (by rw [zs1_len]; exact hlen))
  · cases ho
def zo_inc (i : Nat) (v : Int32) (n : Nat) : ZP := fun E k lo st M => match lo[i]? with | some (some (.int x)) => k n (zs1 lo i (.int (x + v))) st M | _ => none
theorem zas_place {ad : Nat → Nat} {lo : ZL} {i : Nat} {v : Value} (h : lo[i]? = some (some v)) : ∃ k : Nat, (zas ad lo)[k]? = some (i, ztr ad v) := List.mem_iff_getElem?.mp (zas_mem.mpr ⟨v, h, rfl⟩)
theorem zk_iinc {mt : Nat → Option ZT} {cc : ByteArray} {own : String} {rk pc : Nat} {i : Nat} {z : Int} {v : Int32} (hv : Int32.ofInt z = v) (hd : decode cc pc = .ok (.iinc i z, 3)) : ZOK mt cc own rk pc (zo_inc i v (pc + 3)) := by
  intro p l e R s m args below meth c nL D dA ad A cells slots Q d E hC hE k lo st M o ho hk hr H locs ls hP hS hL hlen
  obtain ⟨hx, hb, hml, hown, hts, hnl, hK, hAd, hSt, hR⟩ := hC
  unfold zo_inc at ho
  split at ho
  · rename_i x hi
    obtain ⟨kk, hkk⟩ := zas_place (ad := ad) hi
    have hlt := (List.getElem?_eq_some_iff.mp hi).1
    rw [hlen] at hlt
    exact lv_iinc (v := x + v) hx hb hd (zLH_has hL) hkk (by rw [hv]) hlt rfl (fun ls' h' => hk _ _ _ _ ho H locs ls' hP hS (zLH_s1 h') (by rw [zs1_len]; exact hlen))
  · cases ho
def zo_bin (f : Int32 → Int32 → Int32) (n : Nat) : ZP := fun E k lo st M => match st with | .int y :: .int x :: r => k n lo (.int (f x y) :: r) M | _ => none
def zshl (x y : Int32) : Int32 := x <<< (y &&& 31)
def zshr (x y : Int32) : Int32 := x >>> (y &&& 31)
def zushr (x y : Int32) : Int32 := (x.toUInt32 >>> (y.toUInt32 &&& Int32.toUInt32 31)).toInt32
def zrem (x y : Int32) : Int32 := x - x / y * y
def zlrem (x y : Int64) : Int64 := x - x / y * y
def zlshl (x : Int64) (y : Int32) : Int64 := x <<< (y.toInt64 &&& 63)
def zlshr (x : Int64) (y : Int32) : Int64 := x >>> (y.toInt64 &&& 63)
theorem zk_iadd {mt : Nat → Option ZT} {cc : ByteArray} {own : String} {rk pc : Nat} (hd : decode cc pc = .ok (.iadd, 1)) : ZOK mt cc own rk pc (zo_bin (· + ·) (pc + 1)) := by
  intro p l e R s m args below meth c nL D dA ad A cells slots Q d E hC hE k lo st M o ho hk hr H locs ls hP hS hL hlen
  obtain ⟨hx, hb, hml, hown, hts, hnl, hK, hAd, hSt, hR⟩ := hC
  unfold zo_bin at ho
  split at ho
  · exact lv_iadd hx hb hd (hk _ _ _ _ ho H locs ls hP hS hL hlen)
  · cases ho
theorem zk_isub {mt : Nat → Option ZT} {cc : ByteArray} {own : String} {rk pc : Nat} (hd : decode cc pc = .ok (.isub, 1)) : ZOK mt cc own rk pc (zo_bin (· - ·) (pc + 1)) := by
  intro p l e R s m args below meth c nL D dA ad A cells slots Q d E hC hE k lo st M o ho hk hr H locs ls hP hS hL hlen
  obtain ⟨hx, hb, hml, hown, hts, hnl, hK, hAd, hSt, hR⟩ := hC
  unfold zo_bin at ho
  split at ho
  · exact lv_isub hx hb hd (hk _ _ _ _ ho H locs ls hP hS hL hlen)
  · cases ho
theorem zk_imul {mt : Nat → Option ZT} {cc : ByteArray} {own : String} {rk pc : Nat} (hd : decode cc pc = .ok (.imul, 1)) : ZOK mt cc own rk pc (zo_bin (· * ·) (pc + 1)) := by
  intro p l e R s m args below meth c nL D dA ad A cells slots Q d E hC hE k lo st M o ho hk hr H locs ls hP hS hL hlen
  obtain ⟨hx, hb, hml, hown, hts, hnl, hK, hAd, hSt, hR⟩ := hC
  unfold zo_bin at ho
  split at ho
  · exact lv_imul hx hb hd (hk _ _ _ _ ho H locs ls hP hS hL hlen)
  · cases ho
theorem zk_iand {mt : Nat → Option ZT} {cc : ByteArray} {own : String} {rk pc : Nat} (hd : decode cc pc = .ok (.iand, 1)) : ZOK mt cc own rk pc (zo_bin (· &&& ·) (pc + 1)) := by
  intro p l e R s m args below meth c nL D dA ad A cells slots Q d E hC hE k lo st M o ho hk hr H locs ls hP hS hL hlen
  obtain ⟨hx, hb, hml, hown, hts, hnl, hK, hAd, hSt, hR⟩ := hC
  unfold zo_bin at ho
  split at ho
  · exact lv_iand hx hb hd (hk _ _ _ _ ho H locs ls hP hS hL hlen)
  · cases ho
theorem zk_ior {mt : Nat → Option ZT} {cc : ByteArray} {own : String} {rk pc : Nat} (hd : decode cc pc = .ok (.ior, 1)) : ZOK mt cc own rk pc (zo_bin (· ||| ·) (pc + 1)) := by
  intro p l e R s m args below meth c nL D dA ad A cells slots Q d E hC hE k lo st M o ho hk hr H locs ls hP hS hL hlen
  obtain ⟨hx, hb, hml, hown, hts, hnl, hK, hAd, hSt, hR⟩ := hC
  unfold zo_bin at ho
  split at ho
  · exact lv_ior hx hb hd (hk _ _ _ _ ho H locs ls hP hS hL hlen)
  · cases ho
theorem zk_ixor {mt : Nat → Option ZT} {cc : ByteArray} {own : String} {rk pc : Nat} (hd : decode cc pc = .ok (.ixor, 1)) : ZOK mt cc own rk pc (zo_bin (· ^^^ ·) (pc + 1)) := by
  intro p l e R s m args below meth c nL D dA ad A cells slots Q d E hC hE k lo st M o ho hk hr H locs ls hP hS hL hlen
  obtain ⟨hx, hb, hml, hown, hts, hnl, hK, hAd, hSt, hR⟩ := hC
  unfold zo_bin at ho
  split at ho
  · exact lv_ixor hx hb hd (hk _ _ _ _ ho H locs ls hP hS hL hlen)
  · cases ho
theorem zk_ishl {mt : Nat → Option ZT} {cc : ByteArray} {own : String} {rk pc : Nat} (hd : decode cc pc = .ok (.ishl, 1)) : ZOK mt cc own rk pc (zo_bin zshl (pc + 1)) := by
  intro p l e R s m args below meth c nL D dA ad A cells slots Q d E hC hE k lo st M o ho hk hr H locs ls hP hS hL hlen
  obtain ⟨hx, hb, hml, hown, hts, hnl, hK, hAd, hSt, hR⟩ := hC
  unfold zo_bin at ho
  split at ho
  · exact lv_ishl hx hb hd (hk _ _ _ _ ho H locs ls hP hS hL hlen)
  · cases ho
theorem zk_ishr {mt : Nat → Option ZT} {cc : ByteArray} {own : String} {rk pc : Nat} (hd : decode cc pc = .ok (.ishr, 1)) : ZOK mt cc own rk pc (zo_bin zshr (pc + 1)) := by
  intro p l e R s m args below meth c nL D dA ad A cells slots Q d E hC hE k lo st M o ho hk hr H locs ls hP hS hL hlen
  obtain ⟨hx, hb, hml, hown, hts, hnl, hK, hAd, hSt, hR⟩ := hC
  unfold zo_bin at ho
  split at ho
  · exact lv_ishr hx hb hd (hk _ _ _ _ ho H locs ls hP hS hL hlen)
  · cases ho
theorem zk_iushr {mt : Nat → Option ZT} {cc : ByteArray} {own : String} {rk pc : Nat} (hd : decode cc pc = .ok (.iushr, 1)) : ZOK mt cc own rk pc (zo_bin zushr (pc + 1)) := by
  intro p l e R s m args below meth c nL D dA ad A cells slots Q d E hC hE k lo st M o ho hk hr H locs ls hP hS hL hlen
  obtain ⟨hx, hb, hml, hown, hts, hnl, hK, hAd, hSt, hR⟩ := hC
  unfold zo_bin at ho
  split at ho
  · exact lv_iushr hx hb hd rfl (hk _ _ _ _ ho H locs ls hP hS hL hlen)
  · cases ho
def zo_dv (f : Int32 → Int32 → Int32) (n : Nat) : ZP := fun E k lo st M => match st with | .int y :: .int x :: r => zck (!(decide (y = 0))) (k n lo (.int (f x y) :: r) M) | _ => none
theorem zk_idiv {mt : Nat → Option ZT} {cc : ByteArray} {own : String} {rk pc : Nat} (hd : decode cc pc = .ok (.idiv, 1)) : ZOK mt cc own rk pc (zo_dv (· / ·) (pc + 1)) := by
  intro p l e R s m args below meth c nL D dA ad A cells slots Q d E hC hE k lo st M o ho hk hr H locs ls hP hS hL hlen
  obtain ⟨hx, hb, hml, hown, hts, hnl, hK, hAd, hSt, hR⟩ := hC
  unfold zo_dv at ho
  split at ho
  · obtain ⟨h1, ho⟩ := zck_some ho
    exact lv_idiv hx hb hd (by simpa using h1) (hk _ _ _ _ ho H locs ls hP hS hL hlen)
  · cases ho
theorem zk_irem {mt : Nat → Option ZT} {cc : ByteArray} {own : String} {rk pc : Nat} (hd : decode cc pc = .ok (.irem, 1)) : ZOK mt cc own rk pc (zo_dv zrem (pc + 1)) := by
  intro p l e R s m args below meth c nL D dA ad A cells slots Q d E hC hE k lo st M o ho hk hr H locs ls hP hS hL hlen
  obtain ⟨hx, hb, hml, hown, hts, hnl, hK, hAd, hSt, hR⟩ := hC
  unfold zo_dv at ho
  split at ho
  · obtain ⟨h1, ho⟩ := zck_some ho
    exact lv_irem hx hb hd (by simpa using h1) (hk _ _ _ _ ho H locs ls hP hS hL hlen)
  · cases ho
def zo_un (f : Int32 → Int32) (n : Nat) : ZP := fun E k lo st M => match st with | .int x :: r => k n lo (.int (f x) :: r) M | _ => none
theorem zk_ineg {mt : Nat → Option ZT} {cc : ByteArray} {own : String} {rk pc : Nat} (hd : decode cc pc = .ok (.ineg, 1)) : ZOK mt cc own rk pc (zo_un (fun x => -x) (pc + 1)) := by
  intro p l e R s m args below meth c nL D dA ad A cells slots Q d E hC hE k lo st M o ho hk hr H locs ls hP hS hL hlen
  obtain ⟨hx, hb, hml, hown, hts, hnl, hK, hAd, hSt, hR⟩ := hC
  unfold zo_un at ho
  split at ho
  · exact lv_ineg hx hb hd (hk _ _ _ _ ho H locs ls hP hS hL hlen)
  · cases ho
theorem zk_i2b {mt : Nat → Option ZT} {cc : ByteArray} {own : String} {rk pc : Nat} (hd : decode cc pc = .ok (.i2b, 1)) : ZOK mt cc own rk pc (zo_un (fun x => x.toInt8.toInt32) (pc + 1)) := by
  intro p l e R s m args below meth c nL D dA ad A cells slots Q d E hC hE k lo st M o ho hk hr H locs ls hP hS hL hlen
  obtain ⟨hx, hb, hml, hown, hts, hnl, hK, hAd, hSt, hR⟩ := hC
  unfold zo_un at ho
  split at ho
  · exact lv_i2b hx hb hd rfl (hk _ _ _ _ ho H locs ls hP hS hL hlen)
  · cases ho
theorem zk_i2s {mt : Nat → Option ZT} {cc : ByteArray} {own : String} {rk pc : Nat} (hd : decode cc pc = .ok (.i2s, 1)) : ZOK mt cc own rk pc (zo_un (fun x => x.toInt16.toInt32) (pc + 1)) := by
  intro p l e R s m args below meth c nL D dA ad A cells slots Q d E hC hE k lo st M o ho hk hr H locs ls hP hS hL hlen
  obtain ⟨hx, hb, hml, hown, hts, hnl, hK, hAd, hSt, hR⟩ := hC
  unfold zo_un at ho
  split at ho
  · exact lv_i2s hx hb hd rfl (hk _ _ _ _ ho H locs ls hP hS hL hlen)
  · cases ho
def zo_i2l (n : Nat) : ZP := fun E k lo st M => match st with | .int x :: r => k n lo (.long x.toInt64 :: r) M | _ => none
def zo_l2i (n : Nat) : ZP := fun E k lo st M => match st with | .long x :: r => k n lo (.int x.toInt32 :: r) M | _ => none
theorem zk_i2l {mt : Nat → Option ZT} {cc : ByteArray} {own : String} {rk pc : Nat} (hd : decode cc pc = .ok (.i2l, 1)) : ZOK mt cc own rk pc (zo_i2l (pc + 1)) := by
  intro p l e R s m args below meth c nL D dA ad A cells slots Q d E hC hE k lo st M o ho hk hr H locs ls hP hS hL hlen
  obtain ⟨hx, hb, hml, hown, hts, hnl, hK, hAd, hSt, hR⟩ := hC
  unfold zo_i2l at ho
  split at ho
  · exact lv_i2l hx hb hd rfl (hk _ _ _ _ ho H locs ls hP hS hL hlen)
  · cases ho
theorem zk_l2i {mt : Nat → Option ZT} {cc : ByteArray} {own : String} {rk pc : Nat} (hd : decode cc pc = .ok (.l2i, 1)) : ZOK mt cc own rk pc (zo_l2i (pc + 1)) := by
  intro p l e R s m args below meth c nL D dA ad A cells slots Q d E hC hE k lo st M o ho hk hr H locs ls hP hS hL hlen
  obtain ⟨hx, hb, hml, hown, hts, hnl, hK, hAd, hSt, hR⟩ := hC
  unfold zo_l2i at ho
  split at ho
  · exact lv_l2i hx hb hd rfl (hk _ _ _ _ ho H locs ls hP hS hL hlen)
  · cases ho
def zo_lbin (f : Int64 → Int64 → Int64) (n : Nat) : ZP := fun E k lo st M => match st with | .long y :: .long x :: r => k n lo (.long (f x y) :: r) M | _ => none
theorem zk_ladd {mt : Nat → Option ZT} {cc : ByteArray} {own : String} {rk pc : Nat} (hd : decode cc pc = .ok (.ladd, 1)) : ZOK mt cc own rk pc (zo_lbin (· + ·) (pc + 1)) := by
  intro p l e R s m args below meth c nL D dA ad A cells slots Q d E hC hE k lo st M o ho hk hr H locs ls hP hS hL hlen
  obtain ⟨hx, hb, hml, hown, hts, hnl, hK, hAd, hSt, hR⟩ := hC
  unfold zo_lbin at ho
  split at ho
  · exact lv_ladd hx hb hd (hk _ _ _ _ ho H locs ls hP hS hL hlen)
  · cases ho
theorem zk_lsub {mt : Nat → Option ZT} {cc : ByteArray} {own : String} {rk pc : Nat} (hd : decode cc pc = .ok (.lsub, 1)) : ZOK mt cc own rk pc (zo_lbin (· - ·) (pc + 1)) := by
  intro p l e R s m args below meth c nL D dA ad A cells slots Q d E hC hE k lo st M o ho hk hr H locs ls hP hS hL hlen
  obtain ⟨hx, hb, hml, hown, hts, hnl, hK, hAd, hSt, hR⟩ := hC
  unfold zo_lbin at ho
  split at ho
  · exact lv_lsub hx hb hd (hk _ _ _ _ ho H locs ls hP hS hL hlen)
  · cases ho
theorem zk_lmul {mt : Nat → Option ZT} {cc : ByteArray} {own : String} {rk pc : Nat} (hd : decode cc pc = .ok (.lmul, 1)) : ZOK mt cc own rk pc (zo_lbin (· * ·) (pc + 1)) := by
  intro p l e R s m args below meth c nL D dA ad A cells slots Q d E hC hE k lo st M o ho hk hr H locs ls hP hS hL hlen
  obtain ⟨hx, hb, hml, hown, hts, hnl, hK, hAd, hSt, hR⟩ := hC
  unfold zo_lbin at ho
  split at ho
  · exact lv_lmul hx hb hd (hk _ _ _ _ ho H locs ls hP hS hL hlen)
  · cases ho
theorem zk_land {mt : Nat → Option ZT} {cc : ByteArray} {own : String} {rk pc : Nat} (hd : decode cc pc = .ok (.land, 1)) : ZOK mt cc own rk pc (zo_lbin (· &&& ·) (pc + 1)) := by
  intro p l e R s m args below meth c nL D dA ad A cells slots Q d E hC hE k lo st M o ho hk hr H locs ls hP hS hL hlen
  obtain ⟨hx, hb, hml, hown, hts, hnl, hK, hAd, hSt, hR⟩ := hC
  unfold zo_lbin at ho
  split at ho
  · exact lv_land hx hb hd (hk _ _ _ _ ho H locs ls hP hS hL hlen)
  · cases ho
theorem zk_lor {mt : Nat → Option ZT} {cc : ByteArray} {own : String} {rk pc : Nat} (hd : decode cc pc = .ok (.lor, 1)) : ZOK mt cc own rk pc (zo_lbin (· ||| ·) (pc + 1)) := by
  intro p l e R s m args below meth c nL D dA ad A cells slots Q d E hC hE k lo st M o ho hk hr H locs ls hP hS hL hlen
  obtain ⟨hx, hb, hml, hown, hts, hnl, hK, hAd, hSt, hR⟩ := hC
  unfold zo_lbin at ho
  split at ho
  · exact lv_lor hx hb hd (hk _ _ _ _ ho H locs ls hP hS hL hlen)
  · cases ho
def zo_ldv (f : Int64 → Int64 → Int64) (n : Nat) : ZP := fun E k lo st M => match st with | .long y :: .long x :: r => zck (!(decide (y = 0))) (k n lo (.long (f x y) :: r) M) | _ => none
theorem zk_ldiv {mt : Nat → Option ZT} {cc : ByteArray} {own : String} {rk pc : Nat} (hd : decode cc pc = .ok (.ldiv, 1)) : ZOK mt cc own rk pc (zo_ldv (· / ·) (pc + 1)) := by
  intro p l e R s m args below meth c nL D dA ad A cells slots Q d E hC hE k lo st M o ho hk hr H locs ls hP hS hL hlen
  obtain ⟨hx, hb, hml, hown, hts, hnl, hK, hAd, hSt, hR⟩ := hC
  unfold zo_ldv at ho
  split at ho
  · obtain ⟨h1, ho⟩ := zck_some ho
    exact lv_ldiv hx hb hd (by simpa using h1) (hk _ _ _ _ ho H locs ls hP hS hL hlen)
  · cases ho
theorem zk_lrem {mt : Nat → Option ZT} {cc : ByteArray} {own : String} {rk pc : Nat} (hd : decode cc pc = .ok (.lrem, 1)) : ZOK mt cc own rk pc (zo_ldv zlrem (pc + 1)) := by
  intro p l e R s m args below meth c nL D dA ad A cells slots Q d E hC hE k lo st M o ho hk hr H locs ls hP hS hL hlen
  obtain ⟨hx, hb, hml, hown, hts, hnl, hK, hAd, hSt, hR⟩ := hC
  unfold zo_ldv at ho
  split at ho
  · obtain ⟨h1, ho⟩ := zck_some ho
    exact lv_lrem hx hb hd (by simpa using h1) (hk _ _ _ _ ho H locs ls hP hS hL hlen)
  · cases ho
def zo_lsh (f : Int64 → Int32 → Int64) (n : Nat) : ZP := fun E k lo st M => match st with | .int y :: .long x :: r => k n lo (.long (f x y) :: r) M | _ => none
theorem zk_lshl {mt : Nat → Option ZT} {cc : ByteArray} {own : String} {rk pc : Nat} (hd : decode cc pc = .ok (.lshl, 1)) : ZOK mt cc own rk pc (zo_lsh zlshl (pc + 1)) := by
  intro p l e R s m args below meth c nL D dA ad A cells slots Q d E hC hE k lo st M o ho hk hr H locs ls hP hS hL hlen
  obtain ⟨hx, hb, hml, hown, hts, hnl, hK, hAd, hSt, hR⟩ := hC
  unfold zo_lsh at ho
  split at ho
  · exact lv_lshl hx hb hd rfl (hk _ _ _ _ ho H locs ls hP hS hL hlen)
  · cases ho
theorem zk_lshr {mt : Nat → Option ZT} {cc : ByteArray} {own : String} {rk pc : Nat} (hd : decode cc pc = .ok (.lshr, 1)) : ZOK mt cc own rk pc (zo_lsh zlshr (pc + 1)) := by
  intro p l e R s m args below meth c nL D dA ad A cells slots Q d E hC hE k lo st M o ho hk hr H locs ls hP hS hL hlen
  obtain ⟨hx, hb, hml, hown, hts, hnl, hK, hAd, hSt, hR⟩ := hC
  unfold zo_lsh at ho
  split at ho
  · exact lv_lshr hx hb hd rfl (hk _ _ _ _ ho H locs ls hP hS hL hlen)
  · cases ho
def zo_lcmp (n : Nat) : ZP := fun E k lo st M => match st with | .long y :: .long x :: r => k n lo (.int (lg_cmp x y) :: r) M | _ => none
theorem zk_lcmp {mt : Nat → Option ZT} {cc : ByteArray} {own : String} {rk pc : Nat} (hd : decode cc pc = .ok (.lcmp, 1)) : ZOK mt cc own rk pc (zo_lcmp (pc + 1)) := by
  intro p l e R s m args below meth c nL D dA ad A cells slots Q d E hC hE k lo st M o ho hk hr H locs ls hP hS hL hlen
  obtain ⟨hx, hb, hml, hown, hts, hnl, hK, hAd, hSt, hR⟩ := hC
  unfold zo_lcmp at ho
  split at ho
  · exact W.lcmp hx hb hd (hk _ _ _ _ ho H locs ls hP hS hL hlen)
  · cases ho
def zo_dup (n : Nat) : ZP := fun E k lo st M => match st with | v :: r => zck (v.category == 1) (k n lo (v :: v :: r) M) | _ => none
theorem zk_dup {mt : Nat → Option ZT} {cc : ByteArray} {own : String} {rk pc : Nat} (hd : decode cc pc = .ok (.dup, 1)) : ZOK mt cc own rk pc (zo_dup (pc + 1)) := by
  intro p l e R s m args below meth c nL D dA ad A cells slots Q d E hC hE k lo st M o ho hk hr H locs ls hP hS hL hlen
  obtain ⟨hx, hb, hml, hown, hts, hnl, hK, hAd, hSt, hR⟩ := hC
  unfold zo_dup at ho
  split at ho
  · rename_i v r
    obtain ⟨h1, ho⟩ := zck_some ho
    exact lv_dup hx hb hd (by rw [ztr_cat]; simpa using h1) (hk _ _ _ _ ho H locs ls hP hS hL hlen)
  · cases ho
def zo_pop (n : Nat) : ZP := fun E k lo st M => match st with | v :: r => zck (v.category == 1) (k n lo r M) | _ => none
theorem zk_pop {mt : Nat → Option ZT} {cc : ByteArray} {own : String} {rk pc : Nat} (hd : decode cc pc = .ok (.pop, 1)) : ZOK mt cc own rk pc (zo_pop (pc + 1)) := by
  intro p l e R s m args below meth c nL D dA ad A cells slots Q d E hC hE k lo st M o ho hk hr H locs ls hP hS hL hlen
  obtain ⟨hx, hb, hml, hown, hts, hnl, hK, hAd, hSt, hR⟩ := hC
  unfold zo_pop at ho
  split at ho
  · rename_i v r
    obtain ⟨h1, ho⟩ := zck_some ho
    exact lv_pop hx hb hd (by rw [ztr_cat]; simpa using h1) (hk _ _ _ _ ho H locs ls hP hS hL hlen)
  · cases ho
def zo_dup2 (n : Nat) : ZP := fun E k lo st M => match st with | v :: w :: r => zck (v.category == 1 && w.category == 1) (k n lo (v :: w :: v :: w :: r) M) | _ => none
theorem zk_dup2 {mt : Nat → Option ZT} {cc : ByteArray} {own : String} {rk pc : Nat} (hd : decode cc pc = .ok (.dup2, 1)) : ZOK mt cc own rk pc (zo_dup2 (pc + 1)) := by
  intro p l e R s m args below meth c nL D dA ad A cells slots Q d E hC hE k lo st M o ho hk hr H locs ls hP hS hL hlen
  obtain ⟨hx, hb, hml, hown, hts, hnl, hK, hAd, hSt, hR⟩ := hC
  unfold zo_dup2 at ho
  split at ho
  · rename_i v w r
    obtain ⟨h1, ho⟩ := zck_some ho
    simp only [Bool.and_eq_true, beq_iff_eq] at h1
    exact lv_dup2_11 hx hb hd (by rw [ztr_cat]; exact h1.1) (by rw [ztr_cat]; exact h1.2) (hk _ _ _ _ ho H locs ls hP hS hL hlen)
  · cases ho
def zo_ifeq (t n : Nat) : ZP := fun E k lo st M => match st with | .int x :: r => if x = 0 then k t lo r M else k n lo r M | _ => none
theorem zk_ifeq {mt : Nat → Option ZT} {cc : ByteArray} {own : String} {rk pc : Nat} {off : Int} {t : Nat} (ht : (pc : Int) + off = (t : Int)) (hd : decode cc pc = .ok (.ifCond .eq off, 3)) : ZOK mt cc own rk pc (zo_ifeq t (pc + 3)) := by
  intro p l e R s m args below meth c nL D dA ad A cells slots Q d E hC hE k lo st M o ho hk hr H locs ls hP hS hL hlen
  obtain ⟨hx, hb, hml, hown, hts, hnl, hK, hAd, hSt, hR⟩ := hC
  unfold zo_ifeq at ho
  split at ho
  · rename_i x r
    refine lv_if_eq hx hb hd ht (fun h1 => ?_) (fun h1 => ?_)
    · rw [if_pos h1] at ho
      exact hk _ _ _ _ ho H locs ls hP hS hL hlen
    · rw [if_neg h1] at ho
      exact hk _ _ _ _ ho H locs ls hP hS hL hlen
  · cases ho
def zo_ifne (t n : Nat) : ZP := fun E k lo st M => match st with | .int x :: r => if x = 0 then k n lo r M else k t lo r M | _ => none
theorem zk_ifne {mt : Nat → Option ZT} {cc : ByteArray} {own : String} {rk pc : Nat} {off : Int} {t : Nat} (ht : (pc : Int) + off = (t : Int)) (hd : decode cc pc = .ok (.ifCond .ne off, 3)) : ZOK mt cc own rk pc (zo_ifne t (pc + 3)) := by
  intro p l e R s m args below meth c nL D dA ad A cells slots Q d E hC hE k lo st M o ho hk hr H locs ls hP hS hL hlen
  obtain ⟨hx, hb, hml, hown, hts, hnl, hK, hAd, hSt, hR⟩ := hC
  unfold zo_ifne at ho
  split at ho
  · rename_i x r
    refine lv_if_ne hx hb hd ht (fun h1 => ?_) (fun h1 => ?_)
    · rw [if_neg h1] at ho
      exact hk _ _ _ _ ho H locs ls hP hS hL hlen
    · rw [if_pos h1] at ho
      exact hk _ _ _ _ ho H locs ls hP hS hL hlen
  · cases ho
def zo_iflt (t n : Nat) : ZP := fun E k lo st M => match st with | .int x :: r => if x < 0 then k t lo r M else k n lo r M | _ => none
theorem zk_iflt {mt : Nat → Option ZT} {cc : ByteArray} {own : String} {rk pc : Nat} {off : Int} {t : Nat} (ht : (pc : Int) + off = (t : Int)) (hd : decode cc pc = .ok (.ifCond .lt off, 3)) : ZOK mt cc own rk pc (zo_iflt t (pc + 3)) := by
  intro p l e R s m args below meth c nL D dA ad A cells slots Q d E hC hE k lo st M o ho hk hr H locs ls hP hS hL hlen
  obtain ⟨hx, hb, hml, hown, hts, hnl, hK, hAd, hSt, hR⟩ := hC
  unfold zo_iflt at ho
  split at ho
  · rename_i x r
    refine lv_if_lt hx hb hd ht (fun h1 => ?_) (fun h1 => ?_)
    · rw [if_pos h1] at ho
      exact hk _ _ _ _ ho H locs ls hP hS hL hlen
    · rw [if_neg h1] at ho
      exact hk _ _ _ _ ho H locs ls hP hS hL hlen
  · cases ho
def zo_ifge (t n : Nat) : ZP := fun E k lo st M => match st with | .int x :: r => if 0 ≤ x then k t lo r M else k n lo r M | _ => none
theorem zk_ifge {mt : Nat → Option ZT} {cc : ByteArray} {own : String} {rk pc : Nat} {off : Int} {t : Nat} (ht : (pc : Int) + off = (t : Int)) (hd : decode cc pc = .ok (.ifCond .ge off, 3)) : ZOK mt cc own rk pc (zo_ifge t (pc + 3)) := by
  intro p l e R s m args below meth c nL D dA ad A cells slots Q d E hC hE k lo st M o ho hk hr H locs ls hP hS hL hlen
  obtain ⟨hx, hb, hml, hown, hts, hnl, hK, hAd, hSt, hR⟩ := hC
  unfold zo_ifge at ho
  split at ho
  · rename_i x r
    refine lv_if_ge hx hb hd ht (fun h1 => ?_) (fun h1 => ?_)
    · rw [if_pos h1] at ho
      exact hk _ _ _ _ ho H locs ls hP hS hL hlen
    · rw [if_neg h1] at ho
      exact hk _ _ _ _ ho H locs ls hP hS hL hlen
  · cases ho
def zo_ifgt (t n : Nat) : ZP := fun E k lo st M => match st with | .int x :: r => if 0 < x then k t lo r M else k n lo r M | _ => none
theorem zk_ifgt {mt : Nat → Option ZT} {cc : ByteArray} {own : String} {rk pc : Nat} {off : Int} {t : Nat} (ht : (pc : Int) + off = (t : Int)) (hd : decode cc pc = .ok (.ifCond .gt off, 3)) : ZOK mt cc own rk pc (zo_ifgt t (pc + 3)) := by
  intro p l e R s m args below meth c nL D dA ad A cells slots Q d E hC hE k lo st M o ho hk hr H locs ls hP hS hL hlen
  obtain ⟨hx, hb, hml, hown, hts, hnl, hK, hAd, hSt, hR⟩ := hC
  unfold zo_ifgt at ho
  split at ho
  · rename_i x r
    refine lv_if_gt hx hb hd ht (fun h1 => ?_) (fun h1 => ?_)
    · rw [if_pos h1] at ho
      exact hk _ _ _ _ ho H locs ls hP hS hL hlen
    · rw [if_neg h1] at ho
      exact hk _ _ _ _ ho H locs ls hP hS hL hlen
  · cases ho
def zo_ifle (t n : Nat) : ZP := fun E k lo st M => match st with | .int x :: r => if x ≤ 0 then k t lo r M else k n lo r M | _ => none
theorem zk_ifle {mt : Nat → Option ZT} {cc : ByteArray} {own : String} {rk pc : Nat} {off : Int} {t : Nat} (ht : (pc : Int) + off = (t : Int)) (hd : decode cc pc = .ok (.ifCond .le off, 3)) : ZOK mt cc own rk pc (zo_ifle t (pc + 3)) := by
  intro p l e R s m args below meth c nL D dA ad A cells slots Q d E hC hE k lo st M o ho hk hr H locs ls hP hS hL hlen
  obtain ⟨hx, hb, hml, hown, hts, hnl, hK, hAd, hSt, hR⟩ := hC
  unfold zo_ifle at ho
  split at ho
  · rename_i x r
    refine lv_if_le hx hb hd ht (fun h1 => ?_) (fun h1 => ?_)
    · rw [if_pos h1] at ho
      exact hk _ _ _ _ ho H locs ls hP hS hL hlen
    · rw [if_neg h1] at ho
      exact hk _ _ _ _ ho H locs ls hP hS hL hlen
  · cases ho
def zo_iceq (t n : Nat) : ZP := fun E k lo st M => match st with | .int y :: .int x :: r => if x = y then k t lo r M else k n lo r M | _ => none
theorem zk_iceq {mt : Nat → Option ZT} {cc : ByteArray} {own : String} {rk pc : Nat} {off : Int} {t : Nat} (ht : (pc : Int) + off = (t : Int)) (hd : decode cc pc = .ok (.if_icmp .eq off, 3)) : ZOK mt cc own rk pc (zo_iceq t (pc + 3)) := by
  intro p l e R s m args below meth c nL D dA ad A cells slots Q d E hC hE k lo st M o ho hk hr H locs ls hP hS hL hlen
  obtain ⟨hx, hb, hml, hown, hts, hnl, hK, hAd, hSt, hR⟩ := hC
  unfold zo_iceq at ho
  split at ho
  · rename_i y x r
    refine lv_icmp_eq hx hb hd ht (fun h1 => ?_) (fun h1 => ?_)
    · rw [if_pos h1] at ho
      exact hk _ _ _ _ ho H locs ls hP hS hL hlen
    · rw [if_neg h1] at ho
      exact hk _ _ _ _ ho H locs ls hP hS hL hlen
  · cases ho
def zo_icne (t n : Nat) : ZP := fun E k lo st M => match st with | .int y :: .int x :: r => if x = y then k n lo r M else k t lo r M | _ => none
theorem zk_icne {mt : Nat → Option ZT} {cc : ByteArray} {own : String} {rk pc : Nat} {off : Int} {t : Nat} (ht : (pc : Int) + off = (t : Int)) (hd : decode cc pc = .ok (.if_icmp .ne off, 3)) : ZOK mt cc own rk pc (zo_icne t (pc + 3)) := by
  intro p l e R s m args below meth c nL D dA ad A cells slots Q d E hC hE k lo st M o ho hk hr H locs ls hP hS hL hlen
  obtain ⟨hx, hb, hml, hown, hts, hnl, hK, hAd, hSt, hR⟩ := hC
  unfold zo_icne at ho
  split at ho
  · rename_i y x r
    refine lv_icmp_ne hx hb hd ht (fun h1 => ?_) (fun h1 => ?_)
    · rw [if_neg h1] at ho
      exact hk _ _ _ _ ho H locs ls hP hS hL hlen
    · rw [if_pos h1] at ho
      exact hk _ _ _ _ ho H locs ls hP hS hL hlen
  · cases ho
def zo_iclt (t n : Nat) : ZP := fun E k lo st M => match st with | .int y :: .int x :: r => if x < y then k t lo r M else k n lo r M | _ => none
theorem zk_iclt {mt : Nat → Option ZT} {cc : ByteArray} {own : String} {rk pc : Nat} {off : Int} {t : Nat} (ht : (pc : Int) + off = (t : Int)) (hd : decode cc pc = .ok (.if_icmp .lt off, 3)) : ZOK mt cc own rk pc (zo_iclt t (pc + 3)) := by
  intro p l e R s m args below meth c nL D dA ad A cells slots Q d E hC hE k lo st M o ho hk hr H locs ls hP hS hL hlen
  obtain ⟨hx, hb, hml, hown, hts, hnl, hK, hAd, hSt, hR⟩ := hC
  unfold zo_iclt at ho
  split at ho
  · rename_i y x r
    refine lv_icmp_lt hx hb hd ht (fun h1 => ?_) (fun h1 => ?_)
    · rw [if_pos h1] at ho
      exact hk _ _ _ _ ho H locs ls hP hS hL hlen
    · rw [if_neg h1] at ho
      exact hk _ _ _ _ ho H locs ls hP hS hL hlen
  · cases ho
def zo_icge (t n : Nat) : ZP := fun E k lo st M => match st with | .int y :: .int x :: r => if y ≤ x then k t lo r M else k n lo r M | _ => none
theorem zk_icge {mt : Nat → Option ZT} {cc : ByteArray} {own : String} {rk pc : Nat} {off : Int} {t : Nat} (ht : (pc : Int) + off = (t : Int)) (hd : decode cc pc = .ok (.if_icmp .ge off, 3)) : ZOK mt cc own rk pc (zo_icge t (pc + 3)) := by
  intro p l e R s m args below meth c nL D dA ad A cells slots Q d E hC hE k lo st M o ho hk hr H locs ls hP hS hL hlen
  obtain ⟨hx, hb, hml, hown, hts, hnl, hK, hAd, hSt, hR⟩ := hC
  unfold zo_icge at ho
  split at ho
  · rename_i y x r
    refine lv_icmp_ge hx hb hd ht (fun h1 => ?_) (fun h1 => ?_)
    · rw [if_pos h1] at ho
      exact hk _ _ _ _ ho H locs ls hP hS hL hlen
    · rw [if_neg h1] at ho
      exact hk _ _ _ _ ho H locs ls hP hS hL hlen
  · cases ho
def zo_icgt (t n : Nat) : ZP := fun E k lo st M => match st with | .int y :: .int x :: r => if y < x then k t lo r M else k n lo r M | _ => none
theorem zk_icgt {mt : Nat → Option ZT} {cc : ByteArray} {own : String} {rk pc : Nat} {off : Int} {t : Nat} (ht : (pc : Int) + off = (t : Int)) (hd : decode cc pc = .ok (.if_icmp .gt off, 3)) : ZOK mt cc own rk pc (zo_icgt t (pc + 3)) := by
  intro p l e R s m args below meth c nL D dA ad A cells slots Q d E hC hE k lo st M o ho hk hr H locs ls hP hS hL hlen
  obtain ⟨hx, hb, hml, hown, hts, hnl, hK, hAd, hSt, hR⟩ := hC
  unfold zo_icgt at ho
  split at ho
  · rename_i y x r
    refine lv_icmp_gt hx hb hd ht (fun h1 => ?_) (fun h1 => ?_)
    · rw [if_pos h1] at ho
      exact hk _ _ _ _ ho H locs ls hP hS hL hlen
    · rw [if_neg h1] at ho
      exact hk _ _ _ _ ho H locs ls hP hS hL hlen
  · cases ho
def zo_icle (t n : Nat) : ZP := fun E k lo st M => match st with | .int y :: .int x :: r => if x ≤ y then k t lo r M else k n lo r M | _ => none
theorem zk_icle {mt : Nat → Option ZT} {cc : ByteArray} {own : String} {rk pc : Nat} {off : Int} {t : Nat} (ht : (pc : Int) + off = (t : Int)) (hd : decode cc pc = .ok (.if_icmp .le off, 3)) : ZOK mt cc own rk pc (zo_icle t (pc + 3)) := by
  intro p l e R s m args below meth c nL D dA ad A cells slots Q d E hC hE k lo st M o ho hk hr H locs ls hP hS hL hlen
  obtain ⟨hx, hb, hml, hown, hts, hnl, hK, hAd, hSt, hR⟩ := hC
  unfold zo_icle at ho
  split at ho
  · rename_i y x r
    refine lv_icmp_le hx hb hd ht (fun h1 => ?_) (fun h1 => ?_)
    · rw [if_pos h1] at ho
      exact hk _ _ _ _ ho H locs ls hP hS hL hlen
    · rw [if_neg h1] at ho
      exact hk _ _ _ _ ho H locs ls hP hS hL hlen
  · cases ho
def zo_goto (t : Nat) : ZP := fun E k lo st M => k t lo st M
theorem zk_goto {mt : Nat → Option ZT} {cc : ByteArray} {own : String} {rk pc : Nat} {off : Int} {t : Nat} (ht : (pc : Int) + off = (t : Int)) (hd : decode cc pc = .ok (.goto off, 3)) : ZOK mt cc own rk pc (zo_goto t) := by
  intro p l e R s m args below meth c nL D dA ad A cells slots Q d E hC hE k lo st M o ho hk hr H locs ls hP hS hL hlen
  obtain ⟨hx, hb, hml, hown, hts, hnl, hK, hAd, hSt, hR⟩ := hC
  exact lv_goto hx hb hd ht (hk _ _ _ _ ho H locs ls hP hS hL hlen)
def zo_retv : ZP := fun E k lo st M => match st with | [] => some (.inl (none, M)) | _ => none
theorem zk_retv {mt : Nat → Option ZT} {cc : ByteArray} {own : String} {rk pc : Nat} (hrk : rk = 0) (hd : decode cc pc = .ok (.return_, 1)) : ZOK mt cc own rk pc (zo_retv) := by
  intro p l e R s m args below meth c nL D dA ad A cells slots Q d E hC hE k lo st M o ho hk hr H locs ls hP hS hL hlen
  obtain ⟨hx, hb, hml, hown, hts, hnl, hK, hAd, hSt, hR⟩ := hC
  unfold zo_retv at ho
  split at ho
  · have h2 := Option.some.inj ho
    exact hr _ h2.symm pc H locs ls hP hS (Or.inl ⟨hrk, rfl, hd⟩)
  · cases ho
def zo_reti : ZP := fun E k lo st M => match st with | [.int x] => some (.inl (some (.int x), M)) | _ => none
theorem zk_reti {mt : Nat → Option ZT} {cc : ByteArray} {own : String} {rk pc : Nat} (hrk : rk = 1) (hd : decode cc pc = .ok (.ireturn, 1)) : ZOK mt cc own rk pc (zo_reti) := by
  intro p l e R s m args below meth c nL D dA ad A cells slots Q d E hC hE k lo st M o ho hk hr H locs ls hP hS hL hlen
  obtain ⟨hx, hb, hml, hown, hts, hnl, hK, hAd, hSt, hR⟩ := hC
  unfold zo_reti at ho
  split at ho
  · have h2 := Option.some.inj ho
    exact hr _ h2.symm pc H locs ls hP hS (Or.inr (Or.inl ⟨hrk, ⟨_, rfl⟩, hd⟩))
  · cases ho
def zo_retj : ZP := fun E k lo st M => match st with | [.long x] => some (.inl (some (.long x), M)) | _ => none
theorem zk_retj {mt : Nat → Option ZT} {cc : ByteArray} {own : String} {rk pc : Nat} (hrk : rk = 2) (hd : decode cc pc = .ok (.lreturn, 1)) : ZOK mt cc own rk pc (zo_retj) := by
  intro p l e R s m args below meth c nL D dA ad A cells slots Q d E hC hE k lo st M o ho hk hr H locs ls hP hS hL hlen
  obtain ⟨hx, hb, hml, hown, hts, hnl, hK, hAd, hSt, hR⟩ := hC
  unfold zo_retj at ho
  split at ho
  · have h2 := Option.some.inj ho
    exact hr _ h2.symm pc H locs ls hP hS (Or.inr (Or.inr (Or.inl ⟨hrk, ⟨_, rfl⟩, hd⟩)))
  · cases ho
def zo_retz : ZP := fun E k lo st M => match st with | [.int x] => zck (zb01 x) (some (.inl (some (.int x), M))) | _ => none
theorem zk_retz {mt : Nat → Option ZT} {cc : ByteArray} {own : String} {rk pc : Nat} (hrk : rk = 3) (hd : decode cc pc = .ok (.ireturn, 1)) : ZOK mt cc own rk pc (zo_retz) := by
  intro p l e R s m args below meth c nL D dA ad A cells slots Q d E hC hE k lo st M o ho hk hr H locs ls hP hS hL hlen
  obtain ⟨hx, hb, hml, hown, hts, hnl, hK, hAd, hSt, hR⟩ := hC
  unfold zo_retz at ho
  split at ho
  · obtain ⟨h1, ho⟩ := zck_some ho
    have h2 := Option.some.inj ho
    exact hr _ h2.symm pc H locs ls hP hS (Or.inr (Or.inr (Or.inr ⟨hrk, ⟨_, rfl, h1⟩, hd⟩)))
  · cases ho
end
section
/-! Fields, arrays, switches, calls -/
theorem zfld_set {M : ZM} {ad : Nat → Nat} {a j : Nat} {fs : List (Option Nat)} {x : Int32} (h : fs[j]? = some none) : fs.mapIdx (zfld (zw M a j x) ad a) = (fs.mapIdx (zfld M ad a)).set j (.int x) := by
  apply List.ext_getElem?
  intro i
  rw [List.getElem?_mapIdx, List.getElem?_set, List.getElem?_mapIdx]
  by_cases hi : j = i
  · subst hi
    have hlt : j < (fs.mapIdx (zfld M ad a)).length := by
      rw [List.length_mapIdx]
      exact (List.getElem?_eq_some_iff.mp h).1
    rw [if_pos rfl, if_pos hlt, h]
    simp [zfld, zw, upd]
  · rw [if_neg hi]
    cases hf : fs[i]? with
    | none => rfl
    | some f =>
      cases f with
      | none =>
        have : ¬ i = j := fun e => hi e.symm
        simp [zfld, zw, upd, this]
      | some t => rfl
theorem zset_obj {dA : Nat → ClassId} {ad : Nat → Nat} {M : ZM} {a ci j : Nat} {fs : List (Option Nat)} {x : Int32} (hy : zLay[a]? = some (.inr (.inr (ci, fs)))) (h : fs[j]? = some none) : (zwd dA ad M).set a (ad a, .inr (ci, (fs.mapIdx (zfld M ad a)).set j (.int x))) = zwd dA ad (zw M a j x) :=
  zwd_set hy (by simp only [zcell, zfld_set h]) (fun k hk => ⟨by simp [zw, hk], rfl⟩)
theorem zset_int {dA : Nat → ClassId} {ad : Nat → Nat} {M : ZM} {a t n : Nat} {i : Nat} {x : Int32} (ht : ¬ t = 1) (hy : zLay[a]? = some (.inl (t, n))) : (zwd dA ad M).set a (ad a, .inl (dA t, n, .inl (upd (M.1 a) i x))) = zwd dA ad (zw M a i x) :=
  zwd_set hy (by simp [zcell, ht, zw]) (fun k hk => ⟨by simp [zw, hk], rfl⟩)
theorem zset_long {dA : Nat → ClassId} {ad : Nat → Nat} {M : ZM} {a n : Nat} {i : Nat} {x : Int64} (hy : zLay[a]? = some (.inl (1, n))) : (zwd dA ad M).set a (ad a, .inl (dA 1, n, .inr (.inl (vp_updL (M.2 a) i x)))) = zwd dA ad (zwl M a i x) :=
  zwd_set hy (by simp [zcell, zwl]) (fun k hk => ⟨rfl, by simp [zwl, hk]⟩)
theorem zset_cpy {dA : Nat → ClassId} {ad : Nat → Nat} {M : ZM} {a b n : Nat} {sp dp len : Nat} (hy : zLay[b]? = some (.inl (0, n))) : (zwd dA ad M).set b (ad b, .inl (dA 0, n, .inl (va_cpy (M.1 a) (M.1 b) sp dp len))) = zwd dA ad (zcp M a sp b dp len) :=
  zwd_set hy (by simp [zcell, zcp]) (fun k hk => ⟨by simp [zcp, hk], rfl⟩)
theorem zat_int {dA : Nat → ClassId} {ad : Nat → Nat} {M : ZM} {a t n : Nat} (ht : ¬ t = 1) (hy : zLay[a]? = some (.inl (t, n))) : (zwd dA ad M)[a]? = some (ad a, .inl (dA t, n, .inl (M.1 a))) := by
  rw [zwd_at hy]
  simp [zcell, ht]
theorem zat_long {dA : Nat → ClassId} {ad : Nat → Nat} {M : ZM} {a n : Nat} (hy : zLay[a]? = some (.inl (1, n))) : (zwd dA ad M)[a]? = some (ad a, .inl (dA 1, n, .inr (.inl (M.2 a)))) := by
  rw [zwd_at hy]
  simp [zcell]
def zo_get (ci j n : Nat) : ZP := fun E k lo st M => match st with | .ref a :: r => zck (zfi a ci j) (k n lo (.int (M.1 a j) :: r) M) | _ => none
def zo_getr (ci j n : Nat) : ZP := fun E k lo st M => match st with | .ref a :: r => zck (zfr a ci j) (k n lo (.ref (zrf a j) :: r) M) | _ => none
def zo_put (ci j n : Nat) : ZP := fun E k lo st M => match st with | .int x :: .ref a :: r => zck (zfi a ci j) (k n lo r (zw M a j x)) | _ => none
def zo_putz (ci j n : Nat) : ZP := fun E k lo st M => match st with | .int x :: .ref a :: r => zck (zfi a ci j && zb01 x) (k n lo r (zw M a j x)) | _ => none
set_option maxHeartbeats 1000000 in
theorem zk_get {mt : Nat → Option ZT} {cc : ByteArray} {own : String} {rk pc : Nat} {ci j idx : Nat} {C : String} {T : u_T} {N : Nat} (hc : vwCl[ci]? = some (C, T, N)) (hin : ∀ w ∈ u_ws C T N, w ∈ zTB) (hj : j < N) (hm : Cond.fieldLink own idx (T j).1 (T j).2.1 (T j).2.2.1 ∈ zTB) (hd : decode cc pc = .ok (.getfield idx, 3)) : ZOK mt cc own rk pc (zo_get ci j (pc + 3)) := by
  intro p l e R s m args below meth c nL D dA ad A cells slots Q d E hC hE k lo st M o ho hk hr H locs ls hP hS hL hlen
  obtain ⟨hx, hb, hml, hown, hts, hnl, hK, hAd, hSt, hR⟩ := hC
  unfold zo_get at ho
  split at ho
  · rename_i a r
    obtain ⟨h1, ho⟩ := zck_some ho
    obtain ⟨fs, hy, hf⟩ := zfi_spec h1
    exact va_get hx hb hts hin hown hK hP a (zwd_at hy) hc j hj (hts _ hm) (fun _ h => h) (v := .int (M.1 a j)) (by rw [List.getElem?_mapIdx, hf]; rfl) hd (hk _ _ _ _ ho H locs ls hP hS hL hlen)
  · cases ho
set_option maxHeartbeats 1000000 in
theorem zk_getr {mt : Nat → Option ZT} {cc : ByteArray} {own : String} {rk pc : Nat} {ci j idx : Nat} {C : String} {T : u_T} {N : Nat} (hc : vwCl[ci]? = some (C, T, N)) (hin : ∀ w ∈ u_ws C T N, w ∈ zTB) (hj : j < N) (hm : Cond.fieldLink own idx (T j).1 (T j).2.1 (T j).2.2.1 ∈ zTB) (hd : decode cc pc = .ok (.getfield idx, 3)) : ZOK mt cc own rk pc (zo_getr ci j (pc + 3)) := by
  intro p l e R s m args below meth c nL D dA ad A cells slots Q d E hC hE k lo st M o ho hk hr H locs ls hP hS hL hlen
  obtain ⟨hx, hb, hml, hown, hts, hnl, hK, hAd, hSt, hR⟩ := hC
  unfold zo_getr at ho
  split at ho
  · rename_i a r
    obtain ⟨h1, ho⟩ := zck_some ho
    obtain ⟨fs, hy, hf⟩ := zfr_spec h1
    exact va_get hx hb hts hin hown hK hP a (zwd_at hy) hc j hj (hts _ hm) (fun _ h => h) (v := .ref (ad (zrf a j))) (by rw [List.getElem?_mapIdx, hf]; rfl) hd (hk _ _ _ _ ho H locs ls hP hS hL hlen)
  · cases ho
set_option maxHeartbeats 1000000 in
theorem zk_put {mt : Nat → Option ZT} {cc : ByteArray} {own : String} {rk pc : Nat} {ci j idx : Nat} {C : String} {T : u_T} {N : Nat} (hc : vwCl[ci]? = some (C, T, N)) (hin : ∀ w ∈ u_ws C T N, w ∈ zTB) (hj : j < N) (hm : Cond.fieldLink own idx (T j).1 (T j).2.1 (T j).2.2.1 ∈ zTB) (ty : Nat → FieldType) (hty : ∀ k, k < N → parseFieldDescriptor (T k).2.2.1 = some (ty k)) (hnm : ∀ a, a < N → ∀ b, b < N → a ≠ b → (T a).2.1 ≠ (T b).2.1) (hfin : (T j).2.2.2 = false) (hde : parseFieldDescriptor (T j).2.2.1 = some .int) (hd : decode cc pc = .ok (.putfield idx, 3)) : ZOK mt cc own rk pc (zo_put ci j (pc + 3)) := by
  intro p l e R s m args below meth c nL D dA ad A cells slots Q d E hC hE k lo st M o ho hk hr H locs ls hP hS hL hlen
  obtain ⟨hx, hb, hml, hown, hts, hnl, hK, hAd, hSt, hR⟩ := hC
  unfold zo_put at ho
  split at ho
  · rename_i x a r
    obtain ⟨h1, ho⟩ := zck_some ho
    obtain ⟨fs, hy, hf⟩ := zfi_spec h1
    refine va_put (v := .int x) hx hb hts hin ty hty hnm hown hK hP (zD hAd M) hS a (zwd_at hy) hc j hj (hts _ hm) (fun _ h => h) hfin hde rfl rfl ?_ hd (fun H1 locs1 hP1 hD1 hS1 => ?_)
    · rw [List.length_mapIdx]
      exact (List.getElem?_eq_some_iff.mp hf).1
    · rw [zset_obj hy hf] at hP1
      exact hk _ _ _ _ ho H1 locs1 ls hP1 hS1 hL hlen
  · cases ho
set_option maxHeartbeats 1000000 in
theorem zk_putz {mt : Nat → Option ZT} {cc : ByteArray} {own : String} {rk pc : Nat} {ci j idx : Nat} {C : String} {T : u_T} {N : Nat} (hc : vwCl[ci]? = some (C, T, N)) (hin : ∀ w ∈ u_ws C T N, w ∈ zTB) (hj : j < N) (hm : Cond.fieldLink own idx (T j).1 (T j).2.1 (T j).2.2.1 ∈ zTB) (ty : Nat → FieldType) (hty : ∀ k, k < N → parseFieldDescriptor (T k).2.2.1 = some (ty k)) (hnm : ∀ a, a < N → ∀ b, b < N → a ≠ b → (T a).2.1 ≠ (T b).2.1) (hfin : (T j).2.2.2 = false) (hde : parseFieldDescriptor (T j).2.2.1 = some .boolean) (hd : decode cc pc = .ok (.putfield idx, 3)) : ZOK mt cc own rk pc (zo_putz ci j (pc + 3)) := by
  intro p l e R s m args below meth c nL D dA ad A cells slots Q d E hC hE k lo st M o ho hk hr H locs ls hP hS hL hlen
  obtain ⟨hx, hb, hml, hown, hts, hnl, hK, hAd, hSt, hR⟩ := hC
  unfold zo_putz at ho
  split at ho
  · rename_i x a r
    obtain ⟨h1, ho⟩ := zck_some ho
    simp only [Bool.and_eq_true] at h1
    obtain ⟨h1, h3⟩ := h1
    obtain ⟨fs, hy, hf⟩ := zfi_spec h1
    refine va_put (v := .int x) hx hb hts hin ty hty hnm hown hK hP (zD hAd M) hS a (zwd_at hy) hc j hj (hts _ hm) (fun _ h => h) hfin hde (zb01_nar h3).1 (zb01_nar h3).2.1 ?_ hd (fun H1 locs1 hP1 hD1 hS1 => ?_)
    · rw [List.length_mapIdx]
      exact (List.getElem?_eq_some_iff.mp hf).1
    · rw [zset_obj hy hf] at hP1
      exact hk _ _ _ _ ho H1 locs1 ls hP1 hS1 hL hlen
  · cases ho
set_option maxHeartbeats 1000000 in
theorem zk_getN {mt : Nat → Option ZT} {cc : ByteArray} {own : String} {rk pc : Nat} {ci j idx : Nat} {C : String} {T : u_T} {N : Nat} (hc : vwCl[ci]? = some (C, T, N)) (hin : ∀ w ∈ u_ws C T N, w ∈ zTB) (hj : j < N) {host : String} (hm : Cond.fieldLinkNest own idx (T j).1 (T j).2.1 (T j).2.2.1 host ∈ zNL) (hd : decode cc pc = .ok (.getfield idx, 3)) : ZOK mt cc own rk pc (zo_get ci j (pc + 3)) := by
  intro p l e R s m args below meth c nL D dA ad A cells slots Q d E hC hE k lo st M o ho hk hr H locs ls hP hS hL hlen
  obtain ⟨hx, hb, hml, hown, hts, hnl, hK, hAd, hSt, hR⟩ := hC
  unfold zo_get at ho
  split at ho
  · rename_i a r
    obtain ⟨h1, ho⟩ := zck_some ho
    obtain ⟨fs, hy, hf⟩ := zfi_spec h1
    exact va_getN hx hb hts hin hown hK hP a (zwd_at hy) hc j hj (zNw_use hm (hnl _ hm)) (fun _ h => h) (v := .int (M.1 a j)) (by rw [List.getElem?_mapIdx, hf]; rfl) hd (hk _ _ _ _ ho H locs ls hP hS hL hlen)
  · cases ho
set_option maxHeartbeats 1000000 in
theorem zk_getrN {mt : Nat → Option ZT} {cc : ByteArray} {own : String} {rk pc : Nat} {ci j idx : Nat} {C : String} {T : u_T} {N : Nat} (hc : vwCl[ci]? = some (C, T, N)) (hin : ∀ w ∈ u_ws C T N, w ∈ zTB) (hj : j < N) {host : String} (hm : Cond.fieldLinkNest own idx (T j).1 (T j).2.1 (T j).2.2.1 host ∈ zNL) (hd : decode cc pc = .ok (.getfield idx, 3)) : ZOK mt cc own rk pc (zo_getr ci j (pc + 3)) := by
  intro p l e R s m args below meth c nL D dA ad A cells slots Q d E hC hE k lo st M o ho hk hr H locs ls hP hS hL hlen
  obtain ⟨hx, hb, hml, hown, hts, hnl, hK, hAd, hSt, hR⟩ := hC
  unfold zo_getr at ho
  split at ho
  · rename_i a r
    obtain ⟨h1, ho⟩ := zck_some ho
    obtain ⟨fs, hy, hf⟩ := zfr_spec h1
    exact va_getN hx hb hts hin hown hK hP a (zwd_at hy) hc j hj (zNw_use hm (hnl _ hm)) (fun _ h => h) (v := .ref (ad (zrf a j))) (by rw [List.getElem?_mapIdx, hf]; rfl) hd (hk _ _ _ _ ho H locs ls hP hS hL hlen)
  · cases ho
set_option maxHeartbeats 1000000 in
theorem zk_putN {mt : Nat → Option ZT} {cc : ByteArray} {own : String} {rk pc : Nat} {ci j idx : Nat} {C : String} {T : u_T} {N : Nat} (hc : vwCl[ci]? = some (C, T, N)) (hin : ∀ w ∈ u_ws C T N, w ∈ zTB) (hj : j < N) {host : String} (hm : Cond.fieldLinkNest own idx (T j).1 (T j).2.1 (T j).2.2.1 host ∈ zNL) (ty : Nat → FieldType) (hty : ∀ k, k < N → parseFieldDescriptor (T k).2.2.1 = some (ty k)) (hnm : ∀ a, a < N → ∀ b, b < N → a ≠ b → (T a).2.1 ≠ (T b).2.1) (hfin : (T j).2.2.2 = false) (hde : parseFieldDescriptor (T j).2.2.1 = some .int) (hd : decode cc pc = .ok (.putfield idx, 3)) : ZOK mt cc own rk pc (zo_put ci j (pc + 3)) := by
  intro p l e R s m args below meth c nL D dA ad A cells slots Q d E hC hE k lo st M o ho hk hr H locs ls hP hS hL hlen
  obtain ⟨hx, hb, hml, hown, hts, hnl, hK, hAd, hSt, hR⟩ := hC
  unfold zo_put at ho
  split at ho
  · rename_i x a r
    obtain ⟨h1, ho⟩ := zck_some ho
    obtain ⟨fs, hy, hf⟩ := zfi_spec h1
    refine va_putN (v := .int x) hx hb hts hin ty hty hnm hown hK hP (zD hAd M) hS a (zwd_at hy) hc j hj (zNw_use hm (hnl _ hm)) (fun _ h => h) hfin hde rfl rfl ?_ hd (fun H1 locs1 hP1 hD1 hS1 => ?_)
    · rw [List.length_mapIdx]
      exact (List.getElem?_eq_some_iff.mp hf).1
    · rw [zset_obj hy hf] at hP1
      exact hk _ _ _ _ ho H1 locs1 ls hP1 hS1 hL hlen
  · cases ho
set_option maxHeartbeats 1000000 in
theorem zk_putzN {mt : Nat → Option ZT} {cc : ByteArray} {own : String} {rk pc : Nat} {ci j idx : Nat} {C : String} {T : u_T} {N : Nat} (hc : vwCl[ci]? = some (C, T, N)) (hin : ∀ w ∈ u_ws C T N, w ∈ zTB) (hj : j < N) {host : String} (hm : Cond.fieldLinkNest own idx (T j).1 (T j).2.1 (T j).2.2.1 host ∈ zNL) (ty : Nat → FieldType) (hty : ∀ k, k < N → parseFieldDescriptor (T k).2.2.1 = some (ty k)) (hnm : ∀ a, a < N → ∀ b, b < N → a ≠ b → (T a).2.1 ≠ (T b).2.1) (hfin : (T j).2.2.2 = false) (hde : parseFieldDescriptor (T j).2.2.1 = some .boolean) (hd : decode cc pc = .ok (.putfield idx, 3)) : ZOK mt cc own rk pc (zo_putz ci j (pc + 3)) := by
  intro p l e R s m args below meth c nL D dA ad A cells slots Q d E hC hE k lo st M o ho hk hr H locs ls hP hS hL hlen
  obtain ⟨hx, hb, hml, hown, hts, hnl, hK, hAd, hSt, hR⟩ := hC
  unfold zo_putz at ho
  split at ho
  · rename_i x a r
    obtain ⟨h1, ho⟩ := zck_some ho
    simp only [Bool.and_eq_true] at h1
    obtain ⟨h1, h3⟩ := h1
    obtain ⟨fs, hy, hf⟩ := zfi_spec h1
    refine va_putN (v := .int x) hx hb hts hin ty hty hnm hown hK hP (zD hAd M) hS a (zwd_at hy) hc j hj (zNw_use hm (hnl _ hm)) (fun _ h => h) hfin hde (zb01_nar h3).1 (zb01_nar h3).2.1 ?_ hd (fun H1 locs1 hP1 hD1 hS1 => ?_)
    · rw [List.length_mapIdx]
      exact (List.getElem?_eq_some_iff.mp hf).1
    · rw [zset_obj hy hf] at hP1
      exact hk _ _ _ _ ho H1 locs1 ls hP1 hS1 hL hlen
  · cases ho
def zo_iald (n : Nat) : ZP := fun E k lo st M => match st with | .int i :: .ref a :: r => zck (zty a 0 && zin i (zln a)) (k n lo (.int (M.1 a i.toNatClampNeg) :: r) M) | _ => none
def zo_zald (n : Nat) : ZP := fun E k lo st M => match st with | .int i :: .ref a :: r => zck (zty a 2 && zin i (zln a)) (k n lo (.int (M.1 a i.toNatClampNeg) :: r) M) | _ => none
def zo_lald (n : Nat) : ZP := fun E k lo st M => match st with | .int i :: .ref a :: r => zck (zty a 1 && zin i (zln a)) (k n lo (.long (M.2 a i.toNatClampNeg) :: r) M) | _ => none
def zo_aald (t n : Nat) : ZP := fun E k lo st M => match st with | .int i :: .ref a :: r => zck (ztr3 a t && zin i (zrl a)) (k n lo (.ref (zel a i.toNatClampNeg) :: r) M) | _ => none
def zo_iast (n : Nat) : ZP := fun E k lo st M => match st with | .int x :: .int i :: .ref a :: r => zck (zty a 0 && zin i (zln a)) (k n lo r (zw M a i.toNatClampNeg x)) | _ => none
def zo_zast (n : Nat) : ZP := fun E k lo st M => match st with | .int x :: .int i :: .ref a :: r => zck (zty a 2 && zin i (zln a) && zb01 x) (k n lo r (zw M a i.toNatClampNeg x)) | _ => none
def zo_last (n : Nat) : ZP := fun E k lo st M => match st with | .long x :: .int i :: .ref a :: r => zck (zty a 1 && zin i (zln a)) (k n lo r (zwl M a i.toNatClampNeg x)) | _ => none
def zo_alen (t n : Nat) : ZP := fun E k lo st M => match st with | .ref a :: r => zck (zty a t) (k n lo (.int (Int32.ofNat (zln a)) :: r) M) | _ => none
set_option maxHeartbeats 1000000 in
theorem zk_iaload {mt : Nat → Option ZT} {cc : ByteArray} {own : String} {rk pc : Nat} (hd : decode cc pc = .ok (.iaload, 1)) : ZOK mt cc own rk pc (zo_iald (pc + 1)) := by
  intro p l e R s m args below meth c nL D dA ad A cells slots Q d E hC hE k lo st M o ho hk hr H locs ls hP hS hL hlen
  obtain ⟨hx, hb, hml, hown, hts, hnl, hK, hAd, hSt, hR⟩ := hC
  unfold zo_iald at ho
  split at ho
  · rename_i i a r
    obtain ⟨h1, ho⟩ := zck_some ho
    simp only [Bool.and_eq_true] at h1
    exact va_iald hx hb hK hP a 0 (zat_int (by decide) (zty_spec h1.1)) rfl (zin_in h1.2) hd (hk _ _ _ _ ho H locs ls hP hS hL hlen)
  · cases ho
set_option maxHeartbeats 1000000 in
theorem zk_baloadz {mt : Nat → Option ZT} {cc : ByteArray} {own : String} {rk pc : Nat} (hd : decode cc pc = .ok (.baload, 1)) : ZOK mt cc own rk pc (zo_zald (pc + 1)) := by
  intro p l e R s m args below meth c nL D dA ad A cells slots Q d E hC hE k lo st M o ho hk hr H locs ls hP hS hL hlen
  obtain ⟨hx, hb, hml, hown, hts, hnl, hK, hAd, hSt, hR⟩ := hC
  unfold zo_zald at ho
  split at ho
  · rename_i i a r
    obtain ⟨h1, ho⟩ := zck_some ho
    simp only [Bool.and_eq_true] at h1
    exact va_zald hx hb hK hP a 2 (zat_int (by decide) (zty_spec h1.1)) rfl (zin_in h1.2) hd (hk _ _ _ _ ho H locs ls hP hS hL hlen)
  · cases ho
set_option maxHeartbeats 1000000 in
theorem zk_laload {mt : Nat → Option ZT} {cc : ByteArray} {own : String} {rk pc : Nat} (hd : decode cc pc = .ok (.laload, 1)) : ZOK mt cc own rk pc (zo_lald (pc + 1)) := by
  intro p l e R s m args below meth c nL D dA ad A cells slots Q d E hC hE k lo st M o ho hk hr H locs ls hP hS hL hlen
  obtain ⟨hx, hb, hml, hown, hts, hnl, hK, hAd, hSt, hR⟩ := hC
  unfold zo_lald at ho
  split at ho
  · rename_i i a r
    obtain ⟨h1, ho⟩ := zck_some ho
    simp only [Bool.and_eq_true] at h1
    exact va_lald hx hb hK hP a 1 (zat_long (zty_spec h1.1)) rfl (zin_in h1.2) hd (hk _ _ _ _ ho H locs ls hP hS hL hlen)
  · cases ho
set_option maxHeartbeats 1000000 in
theorem zk_aaload {mt : Nat → Option ZT} {cc : ByteArray} {own : String} {rk pc : Nat} {t : Nat} {C : String} (ht : ∀ dA, (zTys dA)[t]? = some (dA t, .object C)) (hd : decode cc pc = .ok (.aaload, 1)) : ZOK mt cc own rk pc (zo_aald t (pc + 1)) := by
  intro p l e R s m args below meth c nL D dA ad A cells slots Q d E hC hE k lo st M o ho hk hr H locs ls hP hS hL hlen
  obtain ⟨hx, hb, hml, hown, hts, hnl, hK, hAd, hSt, hR⟩ := hC
  unfold zo_aald at ho
  split at ho
  · rename_i i a r
    obtain ⟨h1, ho⟩ := zck_some ho
    simp only [Bool.and_eq_true] at h1
    obtain ⟨ts, hy, hl1, hl2⟩ := ztr3_spec h1.1
    have h3 := zin_in h1.2
    have hlt : i.toNatClampNeg < zrl a := Nat.not_le.mp fun q => h3 (Or.inr q)
    refine va_aldq hx hb hK hP a t (zwd_at hy) (ht dA) (by rw [hl1]; exact h3) hd ?_
    rw [hl2 _ hlt]
    exact hk _ _ _ _ ho H locs ls hP hS hL hlen
  · cases ho
set_option maxHeartbeats 1000000 in
theorem zk_iastore {mt : Nat → Option ZT} {cc : ByteArray} {own : String} {rk pc : Nat} (hd : decode cc pc = .ok (.iastore, 1)) : ZOK mt cc own rk pc (zo_iast (pc + 1)) := by
  intro p l e R s m args below meth c nL D dA ad A cells slots Q d E hC hE k lo st M o ho hk hr H locs ls hP hS hL hlen
  obtain ⟨hx, hb, hml, hown, hts, hnl, hK, hAd, hSt, hR⟩ := hC
  unfold zo_iast at ho
  split at ho
  · rename_i x i a r
    obtain ⟨h1, ho⟩ := zck_some ho
    simp only [Bool.and_eq_true] at h1
    refine va_iast hx hb hK hP (zD hAd M) hS a 0 (zat_int (by decide) (zty_spec h1.1)) rfl (zin_in h1.2) hd (fun H1 locs1 hP1 hD1 hS1 => ?_)
    rw [zset_int (by decide) (zty_spec h1.1)] at hP1
    exact hk _ _ _ _ ho H1 locs1 ls hP1 hS1 hL hlen
  · cases ho
set_option maxHeartbeats 1000000 in
theorem zk_lastore {mt : Nat → Option ZT} {cc : ByteArray} {own : String} {rk pc : Nat} (hd : decode cc pc = .ok (.lastore, 1)) : ZOK mt cc own rk pc (zo_last (pc + 1)) := by
  intro p l e R s m args below meth c nL D dA ad A cells slots Q d E hC hE k lo st M o ho hk hr H locs ls hP hS hL hlen
  obtain ⟨hx, hb, hml, hown, hts, hnl, hK, hAd, hSt, hR⟩ := hC
  unfold zo_last at ho
  split at ho
  · rename_i x i a r
    obtain ⟨h1, ho⟩ := zck_some ho
    simp only [Bool.and_eq_true] at h1
    refine va_last hx hb hK hP (zD hAd M) hS a 1 (zat_long (zty_spec h1.1)) rfl (zin_in h1.2) hd (fun H1 locs1 hP1 hD1 hS1 => ?_)
    rw [zset_long (zty_spec h1.1)] at hP1
    exact hk _ _ _ _ ho H1 locs1 ls hP1 hS1 hL hlen
  · cases ho
set_option maxHeartbeats 1000000 in
theorem zk_bastorez {mt : Nat → Option ZT} {cc : ByteArray} {own : String} {rk pc : Nat} (hd : decode cc pc = .ok (.bastore, 1)) : ZOK mt cc own rk pc (zo_zast (pc + 1)) := by
  intro p l e R s m args below meth c nL D dA ad A cells slots Q d E hC hE k lo st M o ho hk hr H locs ls hP hS hL hlen
  obtain ⟨hx, hb, hml, hown, hts, hnl, hK, hAd, hSt, hR⟩ := hC
  unfold zo_zast at ho
  split at ho
  · rename_i x i a r
    obtain ⟨h1, ho⟩ := zck_some ho
    simp only [Bool.and_eq_true] at h1
    refine va_zast hx hb hK hP (zD hAd M) hS a 2 (zat_int (by decide) (zty_spec h1.1.1)) rfl (zin_in h1.1.2) hd (fun H1 locs1 hP1 hD1 hS1 => ?_)
    rw [(zb01_nar h1.2).2.2, zset_int (by decide) (zty_spec h1.1.1)] at hP1
    exact hk _ _ _ _ ho H1 locs1 ls hP1 hS1 hL hlen
  · cases ho
set_option maxHeartbeats 1000000 in
theorem zk_alen {mt : Nat → Option ZT} {cc : ByteArray} {own : String} {rk pc : Nat} {t : Nat} {ty : FieldType} (ht : ∀ dA, (zTys dA)[t]? = some (dA t, ty)) (hd : decode cc pc = .ok (.arraylength, 1)) : ZOK mt cc own rk pc (zo_alen t (pc + 1)) := by
  intro p l e R s m args below meth c nL D dA ad A cells slots Q d E hC hE k lo st M o ho hk hr H locs ls hP hS hL hlen
  obtain ⟨hx, hb, hml, hown, hts, hnl, hK, hAd, hSt, hR⟩ := hC
  unfold zo_alen at ho
  split at ho
  · rename_i a r
    obtain ⟨h1, ho⟩ := zck_some ho
    exact va_alen hx hb hK hP a t (zwd_at (zty_spec h1)) (ht dA) rfl hd (hk _ _ _ _ ho H locs ls hP hS hL hlen)
  · cases ho
def zo_gst (id n : Nat) : ZP := fun E k lo st M => k n lo (.ref id :: st) M
def zo_sald (id : Nat) (xs : List Int32) (n : Nat) : ZP := fun E k lo st M => match st with | .int i :: .ref a :: r => zck (a == id && zin i xs.length) (k n lo (.int (xs.getD i.toNatClampNeg 0) :: r) M) | _ => none
set_option maxHeartbeats 1000000 in
theorem zk_getstatic {mt : Nat → Option ZT} {cc : ByteArray} {own : String} {rk pc : Nat} {id idx : Nat} {C nm : String} {xs : List Int32} (hz : ∀ {ad : Nat → Nat} {A : Nat → Prop} {U : State} {H : Heap}, zSt ad A U H → zS1 ad A U H id C nm xs) (hm : Cond.fieldLink own idx C nm "[I" ∈ zTB) (hd : decode cc pc = .ok (.getstatic idx, 3)) : ZOK mt cc own rk pc (zo_gst id (pc + 3)) := by
  intro p l e R s m args below meth c nL D dA ad A cells slots Q d E hC hE k lo st M o ho hk hr H locs ls hP hS hL hlen
  obtain ⟨hx, hb, hml, hown, hts, hnl, hK, hAd, hSt, hR⟩ := hC
  exact va_gets hx hb (hz hSt).1 hS hown (hts _ hm) (fun _ h => h) hd (hk _ _ _ _ ho H locs ls hP hS hL hlen)
set_option maxHeartbeats 1000000 in
theorem zk_sald {mt : Nat → Option ZT} {cc : ByteArray} {own : String} {rk pc : Nat} {id : Nat} {C nm : String} {xs : List Int32} (hz : ∀ {ad : Nat → Nat} {A : Nat → Prop} {U : State} {H : Heap}, zSt ad A U H → zS1 ad A U H id C nm xs) (hd : decode cc pc = .ok (.iaload, 1)) : ZOK mt cc own rk pc (zo_sald id xs (pc + 1)) := by
  intro p l e R s m args below meth c nL D dA ad A cells slots Q d E hC hE k lo st M o ho hk hr H locs ls hP hS hL hlen
  obtain ⟨hx, hb, hml, hown, hts, hnl, hK, hAd, hSt, hR⟩ := hC
  unfold zo_sald at ho
  split at ho
  · rename_i i a r
    obtain ⟨h1, ho2⟩ := zck_some ho
    simp only [Bool.and_eq_true, beq_iff_eq] at h1
    obtain ⟨rfl, h2⟩ := h1
    exact va_ti hx hb (hz hSt).2 hS (zin_in h2) rfl hd (hk _ _ _ _ ho2 H locs ls hP hS hL hlen)
  · cases ho
def zsw (k : Nat → Option ZO) (x : Int32) (dflt : Nat) : List (Int32 × Nat) → Option ZO
  | [] => k dflt
  | (v, t) :: r => if x = v then k t else zsw k x dflt r
def zo_sw (ps : List (Int32 × Nat)) (d : Nat) : ZP := fun E k lo st M => match st with | .int x :: r => zsw (fun t => k t lo r M) x d ps | _ => none
theorem zsw_spec {k : Nat → Option ZO} {x : Int32} {d : Nat} {o : ZO} : ∀ {ps : List (Int32 × Nat)}, zsw k x d ps = some o → (∃ q ∈ ps, x = q.1 ∧ k q.2 = some o) ∨ ((∀ q ∈ ps, ¬ x = q.1) ∧ k d = some o)
  | [], h => Or.inr ⟨fun q hq => (List.not_mem_nil hq).elim, h⟩
  | (v, t) :: r, h => by
    unfold zsw at h
    split at h
    · rename_i e
      exact Or.inl ⟨(v, t), List.mem_cons_self, e, h⟩
    · rename_i e
      rcases zsw_spec h with ⟨q, hq, h1, h2⟩ | ⟨h1, h2⟩
      · exact Or.inl ⟨q, List.mem_cons_of_mem _ hq, h1, h2⟩
      · refine Or.inr ⟨fun q hq => ?_, h2⟩
        rcases List.mem_cons.mp hq with rfl | hq
        · exact e
        · exact h1 q hq
/-- the pairs of a table: each number from lo on with its target -/
def ztabOK (pc : Nat) (dflt lo hi : Int) (offs : Array Int) (ps : List (Int32 × Nat)) (d : Nat) : Bool :=
  decide ((pc : Int) + dflt = (d : Int)) && (ps.all fun q => decide (lo ≤ q.1.toInt) && decide (q.1.toInt ≤ hi) && (match offs[(q.1.toInt - lo).toNat]? with | some off => decide ((pc : Int) + off = (q.2 : Int)) | none => false)) && decide (hi = lo + ps.length - 1) && decide (0 < ps.length) && decide (-1000 ≤ lo ∧ hi ≤ 1000) && (ps.zipIdx.all fun q => decide (q.1.1.toInt = lo + q.2))
set_option maxHeartbeats 1000000 in
theorem zk_table {mt : Nat → Option ZT} {cc : ByteArray} {own : String} {rk pc : Nat} {dflt lw hi : Int} {offs : Array Int} {ps : List (Int32 × Nat)} {dt len : Nat} (ht : ztabOK pc dflt lw hi offs ps dt = true) (hd : decode cc pc = .ok (.tableswitch dflt lw hi offs, len)) : ZOK mt cc own rk pc (zo_sw ps dt) := by
  intro p l e R s m args below meth c nL D dA ad A cells slots Q d E hC hE k lo st M o ho hk hr H locs ls hP hS hL hlen
  obtain ⟨hx, hb, hml, hown, hts, hnl, hK, hAd, hSt, hR⟩ := hC
  unfold zo_sw at ho
  split at ho
  · rename_i x r
    simp only [ztabOK, Bool.and_eq_true, decide_eq_true_eq, List.all_eq_true] at ht
    obtain ⟨⟨⟨⟨⟨t1, t2⟩, t3⟩, t4⟩, t5⟩, t6⟩ := ht
    rcases zsw_spec ho with ⟨q, hq, h1, h2⟩ | ⟨h1, h2⟩
    · obtain ⟨⟨u1, u2⟩, u3⟩ := t2 q hq
      subst h1
      split at u3
      · rename_i off hoff
        exact lv_tableIn hx hb hd (by omega) (by omega) hoff (by simpa using u3) (hk _ _ _ _ h2 H locs ls hP hS hL hlen)
      · cases u3
    · refine lv_tableOut hx hb hd ?_ t1 (hk _ _ _ _ h2 H locs ls hP hS hL hlen)
      refine Classical.byContradiction fun hn => ?_
      have hn1 : lw ≤ x.toInt := by omega
      have hn2 : x.toInt ≤ hi := by omega
      have hlt : (x.toInt - lw).toNat < ps.length := by omega
      have hm : (ps[(x.toInt - lw).toNat], (x.toInt - lw).toNat) ∈ ps.zipIdx := by
        rw [List.mem_zipIdx_iff_getElem?]
        exact List.getElem?_eq_getElem hlt
      have h6 := t6 _ hm
      dsimp only at h6
      refine h1 _ (List.getElem_mem hlt) (Int32.toInt_inj.mp ?_)
      rw [h6]
      omega
  · cases ho
/-- the pairs of a lookup -/
def zlkOK (pc : Nat) (dflt : Int) (os : List (Int × Int)) (ps : List (Int32 × Nat)) (d : Nat) : Bool :=
  decide ((pc : Int) + dflt = (d : Int)) && decide (ps.map (fun q => q.1.toInt) = os.map (fun q => q.1)) && decide (ps.map (fun q => (q.2 : Int)) = os.map (fun q => (pc : Int) + q.2))
section ZC
variable {D : va_G} {dA : Nat → ClassId} {ad : Nat → Nat} {A : Nat → Prop}
theorem zPc_blind (as : List Value) (M : ZM) : FrameBlind (zPc D dA ad A as M) := by
  intro a U g mk q
  obtain ⟨q0, qP, qK, qN, qS⟩ := q
  exact ⟨q0, qP, va_K.moved (u := U) (U := U.calling g mk a) (Vm.Alike.refl U.vm) qK, fun w hw => zNw_same (s := U) (U := U.calling g mk a) hw rfl (qN w hw), qS.moved (U := U.calling g mk a) (Vm.Alike.refl U.vm) (fun _ _ _ => rfl)⟩
theorem zPc_here {s U : State} {H : Heap} {locs : List Loc} {as : List Value} {M : ZM} {av : Array Value} (ha : av = (as.map (ztr ad)).toArray) (hK : va_K D vwCl (zTys dA) s) (hnl : ∀ w ∈ zNL, va_Nw w s) (hSt : zSt ad A s s.heap) (hP : va_P D vwCl (zwd dA ad M) H) (hS : va_S A s.heap H locs) (hU : U.heap = H) (hW : s.WarmedH U.vm) : zPc D dA ad A as M av U :=
  ⟨ha, by rw [hU]; exact hP, va_K.moved hW.alike hK, fun w hw => zNw_warm hw hW (hnl w hw), hSt.moved hW.alike (fun a h1 h2 => by rw [hU]; exact hS.2.1 a h1 h2)⟩
theorem zstk {st : List Value} {n : Nat} : st.map (ztr ad) = ((st.take n).reverse.map (ztr ad)).reverse ++ (st.drop n).map (ztr ad) := by
  rw [← List.map_reverse, List.reverse_reverse, ← List.map_append, List.take_append_drop]
end ZC
def zo_csi (y n nx : Nat) : ZP := fun E k lo st M => zck (decide (n ≤ st.length) && decide (((st.drop n).map fun v => v.category).sum ≤ 8)) ((E.1 y (st.take n).reverse M).bind fun q => k nx lo (.int q.1 :: st.drop n) q.2)
def zo_cvi (ci y n nx : Nat) : ZP := fun E k lo st M => match st.drop n with | .ref b :: r => zck (zis b ci && (decide (n ≤ st.length) && decide ((r.map fun v => v.category).sum ≤ 8))) ((E.1 y (.ref b :: (st.take n).reverse) M).bind fun q => k nx lo (.int q.1 :: r) q.2) | _ => none
set_option maxHeartbeats 1000000 in
theorem zk_csi {mt : Nat → Option ZT} {cc : ByteArray} {own : String} {rk pc : Nat} (y : Nat) {Y : MethodName} {by_ : ByteArray} {mL : Nat} {rt : Option FieldType} (hy : mt y = some (Y, by_, mL, rt)) {idx n : Nat} (hm : Cond.methodLink own idx Y ∈ zTB) (hst : Cond.static Y ∈ zTB) (hds : Y.cls ≠ "java/lang/invoke/MethodHandle" ∧ Y.cls ≠ "java/lang/invoke/VarHandle" ∧ (parseMethodDescriptor Y.desc).map (fun d => d.parameters.length) = some n) (hmL : mL ≤ 45) (hcd : Cond.code Y by_ mL rt ∈ zTB) (hini : Cond.initialized Y.cls ∈ zTB) (hd : decode cc pc = .ok (.invokestatic idx, 3)) : ZOK mt cc own rk pc (zo_csi y n (pc + 3)) := by
  intro p l e R s m args below meth c nL D dA ad A cells slots Q d E hC hE k lo st M o ho hk hr H locs ls hP hS hL hlen
  obtain ⟨hx, hb, hml, hown, hts, hnl, hK, hAd, hSt, hR⟩ := hC
  unfold zo_csi at ho
  obtain ⟨h1, ho⟩ := zck_some ho
  simp only [Bool.and_eq_true, decide_eq_true_eq] at h1
  obtain ⟨q, hq, ho⟩ := Option.bind_eq_some_iff.mp ho
  rcases q with ⟨r1, M1⟩
  have hM := (hE y _ hy _ _).1 r1 M1 hq
  refine va_calli (va_runS (rest := (st.drop n).map (ztr ad)) (As := (st.take n).reverse.map (ztr ad)) (n := n) ⟨hx, hb, hml, hown, hts⟩ hM ⟨callB_of n hts (zTB_cons hcd) rfl rfl rfl (hts _ hini) (hts _ hm) hds ⟨by simpa [zrm] using hR.1, by have := hR.2.1; simp only [zrm]; omega⟩, hts _ hst⟩ ⟨zPc_blind _ _, fun U hU hW => zPc_here rfl hK hnl hSt hP hS hU hW⟩ rfl (by simp; omega) hL.1 zstk (lv_room (by rw [ztr_sum]; exact h1.2)) hd ⟨hR.2.2.1, hR.2.2.2⟩) hS (fun q _ h => h) (fun q h => h) (fun r0 u t H1 locs1 ht hvm hp hB hz hk1 hS1 => ?_)
  subst hp
  exact hk _ _ _ _ ho H1 locs1 ls (by rw [← ht]; exact hB) hS1 hL hlen
set_option maxHeartbeats 1000000 in
theorem zk_cvi {mt : Nat → Option ZT} {cc : ByteArray} {own : String} {rk pc : Nat} (y : Nat) {Y : MethodName} {by_ : ByteArray} {mL : Nat} {rt : Option FieldType} (hy : mt y = some (Y, by_, mL, rt)) {idx n : Nat} {ci : Nat} {T : u_T} {N : Nat} (hc : vwCl[ci]? = some (Y.cls, T, N)) (hm : Cond.methodLink own idx Y ∈ zTB) (hin2 : Cond.instanceMethod Y ∈ zTB) (hsel : Cond.selects Y.cls Y Y ∈ zTB) (hds : Y.cls ≠ "java/lang/invoke/MethodHandle" ∧ Y.cls ≠ "java/lang/invoke/VarHandle" ∧ (parseMethodDescriptor Y.desc).map (fun d => d.parameters.length) = some n) (hmL : mL ≤ 45) (hcd : Cond.code Y by_ mL rt ∈ zTB) (hini : Cond.initialized Y.cls ∈ zTB) (hd : decode cc pc = .ok (.invokevirtual idx, 3)) : ZOK mt cc own rk pc (zo_cvi ci y n (pc + 3)) := by
  intro p l e R s m args below meth c nL D dA ad A cells slots Q d E hC hE k lo st M o ho hk hr H locs ls hP hS hL hlen
  obtain ⟨hx, hb, hml, hown, hts, hnl, hK, hAd, hSt, hR⟩ := hC
  unfold zo_cvi at ho
  split at ho
  · rename_i b r hdr
    obtain ⟨h1, ho⟩ := zck_some ho
    simp only [Bool.and_eq_true, decide_eq_true_eq] at h1
    obtain ⟨q, hq, ho⟩ := Option.bind_eq_some_iff.mp ho
    rcases q with ⟨r1, M1⟩
    have hM := (hE y _ hy _ _).1 r1 M1 hq
    obtain ⟨fs, hyb⟩ := zis_spec h1.1
    have hstk : st.map (ztr ad) = ((st.take n).reverse.map (ztr ad)).reverse ++ .ref (ad b) :: r.map (ztr ad) := by
      rw [zstk (n := n), hdr]
      rfl
    refine va_calli (va_runV (C := Y.cls) (b := ad b) (rest := r.map (ztr ad)) (As := (st.take n).reverse.map (ztr ad)) (n := n) ⟨hx, hb, hml, hown, hts⟩ hM ⟨callB_of n hts (zTB_cons hcd) rfl rfl rfl (hts _ hini) (hts _ hm) hds ⟨by simpa [zrm] using hR.1, by have := hR.2.1; simp only [zrm]; omega⟩, hts _ hin2, hts _ hsel⟩ ⟨zPc_blind _ _, va_recv hK hP hc (zwd_at hyb), fun U hU hW => zPc_here rfl hK hnl hSt hP hS hU hW⟩ rfl (by simp; omega) hL.1 hstk (lv_room (by rw [ztr_sum]; exact h1.2.2)) hd ⟨hR.2.2.1, hR.2.2.2⟩) hS (fun q _ h => h) (fun q h => h) (fun r0 u t H1 locs1 ht hvm hp hB hz hk1 hS1 => ?_)
    subst hp
    exact hk _ _ _ _ ho H1 locs1 ls (by rw [← ht]; exact hB) hS1 hL hlen
  · cases ho
set_option maxHeartbeats 1000000 in
theorem zk_csiN {mt : Nat → Option ZT} {cc : ByteArray} {own : String} {rk pc : Nat} (y : Nat) {Y : MethodName} {by_ : ByteArray} {mL : Nat} {rt : Option FieldType} (hy : mt y = some (Y, by_, mL, rt)) {idx n : Nat} {host : String} (hm : Cond.methodLinkNest own idx Y host ∈ zNL) (hst : Cond.static Y ∈ zTB) (hds : Y.cls ≠ "java/lang/invoke/MethodHandle" ∧ Y.cls ≠ "java/lang/invoke/VarHandle" ∧ (parseMethodDescriptor Y.desc).map (fun d => d.parameters.length) = some n) (hmL : mL ≤ 45) (hcd : Cond.code Y by_ mL rt ∈ zTB) (hini : Cond.initialized Y.cls ∈ zTB) (hd : decode cc pc = .ok (.invokestatic idx, 3)) : ZOK mt cc own rk pc (zo_csi y n (pc + 3)) := by
  intro p l e R s m args below meth c nL D dA ad A cells slots Q d E hC hE k lo st M o ho hk hr H locs ls hP hS hL hlen
  obtain ⟨hx, hb, hml, hown, hts, hnl, hK, hAd, hSt, hR⟩ := hC
  unfold zo_csi at ho
  obtain ⟨h1, ho⟩ := zck_some ho
  simp only [Bool.and_eq_true, decide_eq_true_eq] at h1
  obtain ⟨q, hq, ho⟩ := Option.bind_eq_some_iff.mp ho
  rcases q with ⟨r1, M1⟩
  have hM := (hE y _ hy _ _).1 r1 M1 hq
  refine va_calli (va_runSN (rest := (st.drop n).map (ztr ad)) (As := (st.take n).reverse.map (ztr ad)) (n := n) ⟨hx, hb, hml, hown, hts⟩ hM ⟨va_cnB n hts (zTB_cons hcd) rfl rfl rfl (hnl _ hm) (hts _ hini) hds ⟨by simpa [zrm] using hR.1, by have := hR.2.1; simp only [zrm]; omega⟩, hts _ hst, trivial⟩ ⟨zPc_blind _ _, fun U hU hW => zPc_here rfl hK hnl hSt hP hS hU hW⟩ rfl (by simp; omega) hL.1 zstk (lv_room (by rw [ztr_sum]; exact h1.2)) hd ⟨hR.2.2.1, hR.2.2.2⟩) hS (fun q _ h => h) (fun q h => h) (fun r0 u t H1 locs1 ht hvm hp hB hz hk1 hS1 => ?_)
  subst hp
  exact hk _ _ _ _ ho H1 locs1 ls (by rw [← ht]; exact hB) hS1 hL hlen
set_option maxHeartbeats 1000000 in
theorem zk_cviN {mt : Nat → Option ZT} {cc : ByteArray} {own : String} {rk pc : Nat} (y : Nat) {Y : MethodName} {by_ : ByteArray} {mL : Nat} {rt : Option FieldType} (hy : mt y = some (Y, by_, mL, rt)) {idx n : Nat} {ci : Nat} {T : u_T} {N : Nat} (hc : vwCl[ci]? = some (Y.cls, T, N)) {host : String} (hm : Cond.methodLinkNest own idx Y host ∈ zNL) (hin2 : Cond.instanceMethod Y ∈ zTB) (hsel : Cond.selects Y.cls Y Y ∈ zTB) (hds : Y.cls ≠ "java/lang/invoke/MethodHandle" ∧ Y.cls ≠ "java/lang/invoke/VarHandle" ∧ (parseMethodDescriptor Y.desc).map (fun d => d.parameters.length) = some n) (hmL : mL ≤ 45) (hcd : Cond.code Y by_ mL rt ∈ zTB) (hini : Cond.initialized Y.cls ∈ zTB) (hd : decode cc pc = .ok (.invokevirtual idx, 3)) : ZOK mt cc own rk pc (zo_cvi ci y n (pc + 3)) := by
  intro p l e R s m args below meth c nL D dA ad A cells slots Q d E hC hE k lo st M o ho hk hr H locs ls hP hS hL hlen
  obtain ⟨hx, hb, hml, hown, hts, hnl, hK, hAd, hSt, hR⟩ := hC
  unfold zo_cvi at ho
  split at ho
  · rename_i b r hdr
    obtain ⟨h1, ho⟩ := zck_some ho
    simp only [Bool.and_eq_true, decide_eq_true_eq] at h1
    obtain ⟨q, hq, ho⟩ := Option.bind_eq_some_iff.mp ho
    rcases q with ⟨r1, M1⟩
    have hM := (hE y _ hy _ _).1 r1 M1 hq
    obtain ⟨fs, hyb⟩ := zis_spec h1.1
    have hstk : st.map (ztr ad) = ((st.take n).reverse.map (ztr ad)).reverse ++ .ref (ad b) :: r.map (ztr ad) := by
      rw [zstk (n := n), hdr]
      rfl
    refine va_calli (va_runVN (C := Y.cls) (b := ad b) (rest := r.map (ztr ad)) (As := (st.take n).reverse.map (ztr ad)) (n := n) ⟨hx, hb, hml, hown, hts⟩ hM ⟨va_cnB n hts (zTB_cons hcd) rfl rfl rfl (hnl _ hm) (hts _ hini) hds ⟨by simpa [zrm] using hR.1, by have := hR.2.1; simp only [zrm]; omega⟩, hts _ hin2, hts _ hsel⟩ ⟨zPc_blind _ _, va_recv hK hP hc (zwd_at hyb), fun U hU hW => zPc_here rfl hK hnl hSt hP hS hU hW⟩ rfl (by simp; omega) hL.1 hstk (lv_room (by rw [ztr_sum]; exact h1.2.2)) hd ⟨hR.2.2.1, hR.2.2.2⟩) hS (fun q _ h => h) (fun q h => h) (fun r0 u t H1 locs1 ht hvm hp hB hz hk1 hS1 => ?_)
    subst hp
    exact hk _ _ _ _ ho H1 locs1 ls (by rw [← ht]; exact hB) hS1 hL hlen
  · cases ho
def zo_csl (y n nx : Nat) : ZP := fun E k lo st M => zck (decide (n ≤ st.length) && decide (((st.drop n).map fun v => v.category).sum ≤ 8)) ((E.2.1 y (st.take n).reverse M).bind fun q => k nx lo (.long q.1 :: st.drop n) q.2)
def zo_cvl (ci y n nx : Nat) : ZP := fun E k lo st M => match st.drop n with | .ref b :: r => zck (zis b ci && (decide (n ≤ st.length) && decide ((r.map fun v => v.category).sum ≤ 8))) ((E.2.1 y (.ref b :: (st.take n).reverse) M).bind fun q => k nx lo (.long q.1 :: r) q.2) | _ => none
set_option maxHeartbeats 1000000 in
theorem zk_csl {mt : Nat → Option ZT} {cc : ByteArray} {own : String} {rk pc : Nat} (y : Nat) {Y : MethodName} {by_ : ByteArray} {mL : Nat} {rt : Option FieldType} (hy : mt y = some (Y, by_, mL, rt)) {idx n : Nat} (hm : Cond.methodLink own idx Y ∈ zTB) (hst : Cond.static Y ∈ zTB) (hds : Y.cls ≠ "java/lang/invoke/MethodHandle" ∧ Y.cls ≠ "java/lang/invoke/VarHandle" ∧ (parseMethodDescriptor Y.desc).map (fun d => d.parameters.length) = some n) (hmL : mL ≤ 45) (hcd : Cond.code Y by_ mL rt ∈ zTB) (hini : Cond.initialized Y.cls ∈ zTB) (hd : decode cc pc = .ok (.invokestatic idx, 3)) : ZOK mt cc own rk pc (zo_csl y n (pc + 3)) := by
  intro p l e R s m args below meth c nL D dA ad A cells slots Q d E hC hE k lo st M o ho hk hr H locs ls hP hS hL hlen
  obtain ⟨hx, hb, hml, hown, hts, hnl, hK, hAd, hSt, hR⟩ := hC
  unfold zo_csl at ho
  obtain ⟨h1, ho⟩ := zck_some ho
  simp only [Bool.and_eq_true, decide_eq_true_eq] at h1
  obtain ⟨q, hq, ho⟩ := Option.bind_eq_some_iff.mp ho
  rcases q with ⟨r1, M1⟩
  have hM := (hE y _ hy _ _).2.1 r1 M1 hq
  refine va_calll (va_runS (rest := (st.drop n).map (ztr ad)) (As := (st.take n).reverse.map (ztr ad)) (n := n) ⟨hx, hb, hml, hown, hts⟩ hM ⟨callB_of n hts (zTB_cons hcd) rfl rfl rfl (hts _ hini) (hts _ hm) hds ⟨by simpa [zrm] using hR.1, by have := hR.2.1; simp only [zrm]; omega⟩, hts _ hst⟩ ⟨zPc_blind _ _, fun U hU hW => zPc_here rfl hK hnl hSt hP hS hU hW⟩ rfl (by simp; omega) hL.1 zstk (lv_room (by rw [ztr_sum]; exact h1.2)) hd ⟨hR.2.2.1, hR.2.2.2⟩) hS (fun q _ h => h) (fun q h => h) (fun r0 u t H1 locs1 ht hvm hp hB hz hk1 hS1 => ?_)
  subst hp
  exact hk _ _ _ _ ho H1 locs1 ls (by rw [← ht]; exact hB) hS1 hL hlen
set_option maxHeartbeats 1000000 in
theorem zk_cvl {mt : Nat → Option ZT} {cc : ByteArray} {own : String} {rk pc : Nat} (y : Nat) {Y : MethodName} {by_ : ByteArray} {mL : Nat} {rt : Option FieldType} (hy : mt y = some (Y, by_, mL, rt)) {idx n : Nat} {ci : Nat} {T : u_T} {N : Nat} (hc : vwCl[ci]? = some (Y.cls, T, N)) (hm : Cond.methodLink own idx Y ∈ zTB) (hin2 : Cond.instanceMethod Y ∈ zTB) (hsel : Cond.selects Y.cls Y Y ∈ zTB) (hds : Y.cls ≠ "java/lang/invoke/MethodHandle" ∧ Y.cls ≠ "java/lang/invoke/VarHandle" ∧ (parseMethodDescriptor Y.desc).map (fun d => d.parameters.length) = some n) (hmL : mL ≤ 45) (hcd : Cond.code Y by_ mL rt ∈ zTB) (hini : Cond.initialized Y.cls ∈ zTB) (hd : decode cc pc = .ok (.invokevirtual idx, 3)) : ZOK mt cc own rk pc (zo_cvl ci y n (pc + 3)) := by
  intro p l e R s m args below meth c nL D dA ad A cells slots Q d E hC hE k lo st M o ho hk hr H locs ls hP hS hL hlen
  obtain ⟨hx, hb, hml, hown, hts, hnl, hK, hAd, hSt, hR⟩ := hC
  unfold zo_cvl at ho
  split at ho
  · rename_i b r hdr
    obtain ⟨h1, ho⟩ := zck_some ho
    simp only [Bool.and_eq_true, decide_eq_true_eq] at h1
    obtain ⟨q, hq, ho⟩ := Option.bind_eq_some_iff.mp ho
    rcases q with ⟨r1, M1⟩
    have hM := (hE y _ hy _ _).2.1 r1 M1 hq
    obtain ⟨fs, hyb⟩ := zis_spec h1.1
    have hstk : st.map (ztr ad) = ((st.take n).reverse.map (ztr ad)).reverse ++ .ref (ad b) :: r.map (ztr ad) := by
      rw [zstk (n := n), hdr]
      rfl
    refine va_calll (va_runV (C := Y.cls) (b := ad b) (rest := r.map (ztr ad)) (As := (st.take n).reverse.map (ztr ad)) (n := n) ⟨hx, hb, hml, hown, hts⟩ hM ⟨callB_of n hts (zTB_cons hcd) rfl rfl rfl (hts _ hini) (hts _ hm) hds ⟨by simpa [zrm] using hR.1, by have := hR.2.1; simp only [zrm]; omega⟩, hts _ hin2, hts _ hsel⟩ ⟨zPc_blind _ _, va_recv hK hP hc (zwd_at hyb), fun U hU hW => zPc_here rfl hK hnl hSt hP hS hU hW⟩ rfl (by simp; omega) hL.1 hstk (lv_room (by rw [ztr_sum]; exact h1.2.2)) hd ⟨hR.2.2.1, hR.2.2.2⟩) hS (fun q _ h => h) (fun q h => h) (fun r0 u t H1 locs1 ht hvm hp hB hz hk1 hS1 => ?_)
    subst hp
    exact hk _ _ _ _ ho H1 locs1 ls (by rw [← ht]; exact hB) hS1 hL hlen
  · cases ho
set_option maxHeartbeats 1000000 in
theorem zk_cslN {mt : Nat → Option ZT} {cc : ByteArray} {own : String} {rk pc : Nat} (y : Nat) {Y : MethodName} {by_ : ByteArray} {mL : Nat} {rt : Option FieldType} (hy : mt y = some (Y, by_, mL, rt)) {idx n : Nat} {host : String} (hm : Cond.methodLinkNest own idx Y host ∈ zNL) (hst : Cond.static Y ∈ zTB) (hds : Y.cls ≠ "java/lang/invoke/MethodHandle" ∧ Y.cls ≠ "java/lang/invoke/VarHandle" ∧ (parseMethodDescriptor Y.desc).map (fun d => d.parameters.length) = some n) (hmL : mL ≤ 45) (hcd : Cond.code Y by_ mL rt ∈ zTB) (hini : Cond.initialized Y.cls ∈ zTB) (hd : decode cc pc = .ok (.invokestatic idx, 3)) : ZOK mt cc own rk pc (zo_csl y n (pc + 3)) := by
  intro p l e R s m args below meth c nL D dA ad A cells slots Q d E hC hE k lo st M o ho hk hr H locs ls hP hS hL hlen
  obtain ⟨hx, hb, hml, hown, hts, hnl, hK, hAd, hSt, hR⟩ := hC
  unfold zo_csl at ho
  obtain ⟨h1, ho⟩ := zck_some ho
  simp only [Bool.and_eq_true, decide_eq_true_eq] at h1
  obtain ⟨q, hq, ho⟩ := Option.bind_eq_some_iff.mp ho
  rcases q with ⟨r1, M1⟩
  have hM := (hE y _ hy _ _).2.1 r1 M1 hq
  refine va_calll (va_runSN (rest := (st.drop n).map (ztr ad)) (As := (st.take n).reverse.map (ztr ad)) (n := n) ⟨hx, hb, hml, hown, hts⟩ hM ⟨va_cnB n hts (zTB_cons hcd) rfl rfl rfl (hnl _ hm) (hts _ hini) hds ⟨by simpa [zrm] using hR.1, by have := hR.2.1; simp only [zrm]; omega⟩, hts _ hst, trivial⟩ ⟨zPc_blind _ _, fun U hU hW => zPc_here rfl hK hnl hSt hP hS hU hW⟩ rfl (by simp; omega) hL.1 zstk (lv_room (by rw [ztr_sum]; exact h1.2)) hd ⟨hR.2.2.1, hR.2.2.2⟩) hS (fun q _ h => h) (fun q h => h) (fun r0 u t H1 locs1 ht hvm hp hB hz hk1 hS1 => ?_)
  subst hp
  exact hk _ _ _ _ ho H1 locs1 ls (by rw [← ht]; exact hB) hS1 hL hlen
set_option maxHeartbeats 1000000 in
theorem zk_cvlN {mt : Nat → Option ZT} {cc : ByteArray} {own : String} {rk pc : Nat} (y : Nat) {Y : MethodName} {by_ : ByteArray} {mL : Nat} {rt : Option FieldType} (hy : mt y = some (Y, by_, mL, rt)) {idx n : Nat} {ci : Nat} {T : u_T} {N : Nat} (hc : vwCl[ci]? = some (Y.cls, T, N)) {host : String} (hm : Cond.methodLinkNest own idx Y host ∈ zNL) (hin2 : Cond.instanceMethod Y ∈ zTB) (hsel : Cond.selects Y.cls Y Y ∈ zTB) (hds : Y.cls ≠ "java/lang/invoke/MethodHandle" ∧ Y.cls ≠ "java/lang/invoke/VarHandle" ∧ (parseMethodDescriptor Y.desc).map (fun d => d.parameters.length) = some n) (hmL : mL ≤ 45) (hcd : Cond.code Y by_ mL rt ∈ zTB) (hini : Cond.initialized Y.cls ∈ zTB) (hd : decode cc pc = .ok (.invokevirtual idx, 3)) : ZOK mt cc own rk pc (zo_cvl ci y n (pc + 3)) := by
  intro p l e R s m args below meth c nL D dA ad A cells slots Q d E hC hE k lo st M o ho hk hr H locs ls hP hS hL hlen
  obtain ⟨hx, hb, hml, hown, hts, hnl, hK, hAd, hSt, hR⟩ := hC
  unfold zo_cvl at ho
  split at ho
  · rename_i b r hdr
    obtain ⟨h1, ho⟩ := zck_some ho
    simp only [Bool.and_eq_true, decide_eq_true_eq] at h1
    obtain ⟨q, hq, ho⟩ := Option.bind_eq_some_iff.mp ho
    rcases q with ⟨r1, M1⟩
    have hM := (hE y _ hy _ _).2.1 r1 M1 hq
    obtain ⟨fs, hyb⟩ := zis_spec h1.1
    have hstk : st.map (ztr ad) = ((st.take n).reverse.map (ztr ad)).reverse ++ .ref (ad b) :: r.map (ztr ad) := by
      rw [zstk (n := n), hdr]
      rfl
    refine va_calll (va_runVN (C := Y.cls) (b := ad b) (rest := r.map (ztr ad)) (As := (st.take n).reverse.map (ztr ad)) (n := n) ⟨hx, hb, hml, hown, hts⟩ hM ⟨va_cnB n hts (zTB_cons hcd) rfl rfl rfl (hnl _ hm) (hts _ hini) hds ⟨by simpa [zrm] using hR.1, by have := hR.2.1; simp only [zrm]; omega⟩, hts _ hin2, hts _ hsel⟩ ⟨zPc_blind _ _, va_recv hK hP hc (zwd_at hyb), fun U hU hW => zPc_here rfl hK hnl hSt hP hS hU hW⟩ rfl (by simp; omega) hL.1 hstk (lv_room (by rw [ztr_sum]; exact h1.2.2)) hd ⟨hR.2.2.1, hR.2.2.2⟩) hS (fun q _ h => h) (fun q h => h) (fun r0 u t H1 locs1 ht hvm hp hB hz hk1 hS1 => ?_)
    subst hp
    exact hk _ _ _ _ ho H1 locs1 ls (by rw [← ht]; exact hB) hS1 hL hlen
  · cases ho
def zo_csv (y n nx : Nat) : ZP := fun E k lo st M => zck (decide (n ≤ st.length) && decide (((st.drop n).map fun v => v.category).sum ≤ 8)) ((E.2.2 y (st.take n).reverse M).bind fun q => k nx lo (st.drop n) q)
def zo_cvv (ci y n nx : Nat) : ZP := fun E k lo st M => match st.drop n with | .ref b :: r => zck (zis b ci && (decide (n ≤ st.length) && decide ((r.map fun v => v.category).sum ≤ 8))) ((E.2.2 y (.ref b :: (st.take n).reverse) M).bind fun q => k nx lo (r) q) | _ => none
set_option maxHeartbeats 1000000 in
theorem zk_csv {mt : Nat → Option ZT} {cc : ByteArray} {own : String} {rk pc : Nat} (y : Nat) {Y : MethodName} {by_ : ByteArray} {mL : Nat} {rt : Option FieldType} (hy : mt y = some (Y, by_, mL, rt)) {idx n : Nat} (hm : Cond.methodLink own idx Y ∈ zTB) (hst : Cond.static Y ∈ zTB) (hds : Y.cls ≠ "java/lang/invoke/MethodHandle" ∧ Y.cls ≠ "java/lang/invoke/VarHandle" ∧ (parseMethodDescriptor Y.desc).map (fun d => d.parameters.length) = some n) (hmL : mL ≤ 45) (hcd : Cond.code Y by_ mL rt ∈ zTB) (hini : Cond.initialized Y.cls ∈ zTB) (hd : decode cc pc = .ok (.invokestatic idx, 3)) : ZOK mt cc own rk pc (zo_csv y n (pc + 3)) := by
  intro p l e R s m args below meth c nL D dA ad A cells slots Q d E hC hE k lo st M o ho hk hr H locs ls hP hS hL hlen
  obtain ⟨hx, hb, hml, hown, hts, hnl, hK, hAd, hSt, hR⟩ := hC
  unfold zo_csv at ho
  obtain ⟨h1, ho⟩ := zck_some ho
  simp only [Bool.and_eq_true, decide_eq_true_eq] at h1
  obtain ⟨q, hq, ho⟩ := Option.bind_eq_some_iff.mp ho
  obtain ⟨M1, rfl⟩ : ∃ z, z = q := ⟨_, rfl⟩
  have hM := (hE y _ hy _ _).2.2 M1 hq
  refine va_callv (va_runS (rest := (st.drop n).map (ztr ad)) (As := (st.take n).reverse.map (ztr ad)) (n := n) ⟨hx, hb, hml, hown, hts⟩ hM ⟨callB_of n hts (zTB_cons hcd) rfl rfl rfl (hts _ hini) (hts _ hm) hds ⟨by simpa [zrm] using hR.1, by have := hR.2.1; simp only [zrm]; omega⟩, hts _ hst⟩ ⟨zPc_blind _ _, fun U hU hW => zPc_here rfl hK hnl hSt hP hS hU hW⟩ rfl (by simp; omega) hL.1 zstk (lv_room (by rw [ztr_sum]; exact h1.2)) hd ⟨hR.2.2.1, hR.2.2.2⟩) hS (fun q _ h => h) (fun q h => h) (fun u t H1 locs1 ht hvm hp hB hz hk1 hS1 => ?_)
  exact hk _ _ _ _ ho H1 locs1 ls (by rw [← ht]; exact hB) hS1 hL hlen
set_option maxHeartbeats 1000000 in
theorem zk_cvv {mt : Nat → Option ZT} {cc : ByteArray} {own : String} {rk pc : Nat} (y : Nat) {Y : MethodName} {by_ : ByteArray} {mL : Nat} {rt : Option FieldType} (hy : mt y = some (Y, by_, mL, rt)) {idx n : Nat} {ci : Nat} {T : u_T} {N : Nat} (hc : vwCl[ci]? = some (Y.cls, T, N)) (hm : Cond.methodLink own idx Y ∈ zTB) (hin2 : Cond.instanceMethod Y ∈ zTB) (hsel : Cond.selects Y.cls Y Y ∈ zTB) (hds : Y.cls ≠ "java/lang/invoke/MethodHandle" ∧ Y.cls ≠ "java/lang/invoke/VarHandle" ∧ (parseMethodDescriptor Y.desc).map (fun d => d.parameters.length) = some n) (hmL : mL ≤ 45) (hcd : Cond.code Y by_ mL rt ∈ zTB) (hini : Cond.initialized Y.cls ∈ zTB) (hd : decode cc pc = .ok (.invokevirtual idx, 3)) : ZOK mt cc own rk pc (zo_cvv ci y n (pc + 3)) := by
  intro p l e R s m args below meth c nL D dA ad A cells slots Q d E hC hE k lo st M o ho hk hr H locs ls hP hS hL hlen
  obtain ⟨hx, hb, hml, hown, hts, hnl, hK, hAd, hSt, hR⟩ := hC
  unfold zo_cvv at ho
  split at ho
  · rename_i b r hdr
    obtain ⟨h1, ho⟩ := zck_some ho
    simp only [Bool.and_eq_true, decide_eq_true_eq] at h1
    obtain ⟨q, hq, ho⟩ := Option.bind_eq_some_iff.mp ho
    obtain ⟨M1, rfl⟩ : ∃ z, z = q := ⟨_, rfl⟩
    have hM := (hE y _ hy _ _).2.2 M1 hq
    obtain ⟨fs, hyb⟩ := zis_spec h1.1
    have hstk : st.map (ztr ad) = ((st.take n).reverse.map (ztr ad)).reverse ++ .ref (ad b) :: r.map (ztr ad) := by
      rw [zstk (n := n), hdr]
      rfl
    refine va_callv (va_runV (C := Y.cls) (b := ad b) (rest := r.map (ztr ad)) (As := (st.take n).reverse.map (ztr ad)) (n := n) ⟨hx, hb, hml, hown, hts⟩ hM ⟨callB_of n hts (zTB_cons hcd) rfl rfl rfl (hts _ hini) (hts _ hm) hds ⟨by simpa [zrm] using hR.1, by have := hR.2.1; simp only [zrm]; omega⟩, hts _ hin2, hts _ hsel⟩ ⟨zPc_blind _ _, va_recv hK hP hc (zwd_at hyb), fun U hU hW => zPc_here rfl hK hnl hSt hP hS hU hW⟩ rfl (by simp; omega) hL.1 hstk (lv_room (by rw [ztr_sum]; exact h1.2.2)) hd ⟨hR.2.2.1, hR.2.2.2⟩) hS (fun q _ h => h) (fun q h => h) (fun u t H1 locs1 ht hvm hp hB hz hk1 hS1 => ?_)
    exact hk _ _ _ _ ho H1 locs1 ls (by rw [← ht]; exact hB) hS1 hL hlen
  · cases ho
set_option maxHeartbeats 1000000 in
theorem zk_csvN {mt : Nat → Option ZT} {cc : ByteArray} {own : String} {rk pc : Nat} (y : Nat) {Y : MethodName} {by_ : ByteArray} {mL : Nat} {rt : Option FieldType} (hy : mt y = some (Y, by_, mL, rt)) {idx n : Nat} {host : String} (hm : Cond.methodLinkNest own idx Y host ∈ zNL) (hst : Cond.static Y ∈ zTB) (hds : Y.cls ≠ "java/lang/invoke/MethodHandle" ∧ Y.cls ≠ "java/lang/invoke/VarHandle" ∧ (parseMethodDescriptor Y.desc).map (fun d => d.parameters.length) = some n) (hmL : mL ≤ 45) (hcd : Cond.code Y by_ mL rt ∈ zTB) (hini : Cond.initialized Y.cls ∈ zTB) (hd : decode cc pc = .ok (.invokestatic idx, 3)) : ZOK mt cc own rk pc (zo_csv y n (pc + 3)) := by
  intro p l e R s m args below meth c nL D dA ad A cells slots Q d E hC hE k lo st M o ho hk hr H locs ls hP hS hL hlen
  obtain ⟨hx, hb, hml, hown, hts, hnl, hK, hAd, hSt, hR⟩ := hC
  unfold zo_csv at ho
  obtain ⟨h1, ho⟩ := zck_some ho
  simp only [Bool.and_eq_true, decide_eq_true_eq] at h1
  obtain ⟨q, hq, ho⟩ := Option.bind_eq_some_iff.mp ho
  obtain ⟨M1, rfl⟩ : ∃ z, z = q := ⟨_, rfl⟩
  have hM := (hE y _ hy _ _).2.2 M1 hq
  refine va_callv (va_runSN (rest := (st.drop n).map (ztr ad)) (As := (st.take n).reverse.map (ztr ad)) (n := n) ⟨hx, hb, hml, hown, hts⟩ hM ⟨va_cnB n hts (zTB_cons hcd) rfl rfl rfl (hnl _ hm) (hts _ hini) hds ⟨by simpa [zrm] using hR.1, by have := hR.2.1; simp only [zrm]; omega⟩, hts _ hst, trivial⟩ ⟨zPc_blind _ _, fun U hU hW => zPc_here rfl hK hnl hSt hP hS hU hW⟩ rfl (by simp; omega) hL.1 zstk (lv_room (by rw [ztr_sum]; exact h1.2)) hd ⟨hR.2.2.1, hR.2.2.2⟩) hS (fun q _ h => h) (fun q h => h) (fun u t H1 locs1 ht hvm hp hB hz hk1 hS1 => ?_)
  exact hk _ _ _ _ ho H1 locs1 ls (by rw [← ht]; exact hB) hS1 hL hlen
set_option maxHeartbeats 1000000 in
theorem zk_cvvN {mt : Nat → Option ZT} {cc : ByteArray} {own : String} {rk pc : Nat} (y : Nat) {Y : MethodName} {by_ : ByteArray} {mL : Nat} {rt : Option FieldType} (hy : mt y = some (Y, by_, mL, rt)) {idx n : Nat} {ci : Nat} {T : u_T} {N : Nat} (hc : vwCl[ci]? = some (Y.cls, T, N)) {host : String} (hm : Cond.methodLinkNest own idx Y host ∈ zNL) (hin2 : Cond.instanceMethod Y ∈ zTB) (hsel : Cond.selects Y.cls Y Y ∈ zTB) (hds : Y.cls ≠ "java/lang/invoke/MethodHandle" ∧ Y.cls ≠ "java/lang/invoke/VarHandle" ∧ (parseMethodDescriptor Y.desc).map (fun d => d.parameters.length) = some n) (hmL : mL ≤ 45) (hcd : Cond.code Y by_ mL rt ∈ zTB) (hini : Cond.initialized Y.cls ∈ zTB) (hd : decode cc pc = .ok (.invokevirtual idx, 3)) : ZOK mt cc own rk pc (zo_cvv ci y n (pc + 3)) := by
  intro p l e R s m args below meth c nL D dA ad A cells slots Q d E hC hE k lo st M o ho hk hr H locs ls hP hS hL hlen
  obtain ⟨hx, hb, hml, hown, hts, hnl, hK, hAd, hSt, hR⟩ := hC
  unfold zo_cvv at ho
  split at ho
  · rename_i b r hdr
    obtain ⟨h1, ho⟩ := zck_some ho
    simp only [Bool.and_eq_true, decide_eq_true_eq] at h1
    obtain ⟨q, hq, ho⟩ := Option.bind_eq_some_iff.mp ho
    obtain ⟨M1, rfl⟩ : ∃ z, z = q := ⟨_, rfl⟩
    have hM := (hE y _ hy _ _).2.2 M1 hq
    obtain ⟨fs, hyb⟩ := zis_spec h1.1
    have hstk : st.map (ztr ad) = ((st.take n).reverse.map (ztr ad)).reverse ++ .ref (ad b) :: r.map (ztr ad) := by
      rw [zstk (n := n), hdr]
      rfl
    refine va_callv (va_runVN (C := Y.cls) (b := ad b) (rest := r.map (ztr ad)) (As := (st.take n).reverse.map (ztr ad)) (n := n) ⟨hx, hb, hml, hown, hts⟩ hM ⟨va_cnB n hts (zTB_cons hcd) rfl rfl rfl (hnl _ hm) (hts _ hini) hds ⟨by simpa [zrm] using hR.1, by have := hR.2.1; simp only [zrm]; omega⟩, hts _ hin2, hts _ hsel⟩ ⟨zPc_blind _ _, va_recv hK hP hc (zwd_at hyb), fun U hU hW => zPc_here rfl hK hnl hSt hP hS hU hW⟩ rfl (by simp; omega) hL.1 hstk (lv_room (by rw [ztr_sum]; exact h1.2.2)) hd ⟨hR.2.2.1, hR.2.2.2⟩) hS (fun q _ h => h) (fun q h => h) (fun u t H1 locs1 ht hvm hp hB hz hk1 hS1 => ?_)
    exact hk _ _ _ _ ho H1 locs1 ls (by rw [← ht]; exact hB) hS1 hL hlen
  · cases ho
def zo_cpy (n : Nat) : ZP := fun E k lo st M => match st with | [.int len, .int dp, .ref b, .int sp, .ref a] => zck (zty a 0 && zty b 0 && (!(decide (sp < 0)) && !(decide (dp < 0)) && !(decide (len < 0)) && decide (sp.toNatClampNeg + len.toNatClampNeg ≤ zln a) && decide (dp.toNatClampNeg + len.toNatClampNeg ≤ zln b))) (k n lo [] (zcp M a sp.toNatClampNeg b dp.toNatClampNeg len.toNatClampNeg)) | _ => none
set_option maxHeartbeats 1000000 in
theorem zk_cpy {mt : Nat → Option ZT} {cc : ByteArray} {own : String} {rk pc : Nat} {idx : Nat} (hm : Cond.methodLink own idx arraycopyName ∈ zTB) (hnat : Cond.native arraycopyName ∈ zTB) (hst : Cond.static arraycopyName ∈ zTB) (hini : Cond.initialized "java/lang/System" ∈ zTB) (hd : decode cc pc = .ok (.invokestatic idx, 3)) : ZOK mt cc own rk pc (zo_cpy (pc + 3)) := by
  intro p l e R s m args below meth c nL D dA ad A cells slots Q d E hC hE k lo st M o ho hk hr H locs ls hP hS hL hlen
  obtain ⟨hx, hb, hml, hown, hts, hnl, hK, hAd, hSt, hR⟩ := hC
  unfold zo_cpy at ho
  split at ho
  · rename_i len dp b sp a
    obtain ⟨h1, ho⟩ := zck_some ho
    simp only [Bool.and_eq_true, Bool.not_eq_true', decide_eq_false_iff_not, decide_eq_true_eq] at h1
    obtain ⟨⟨ha, hb2⟩, ⟨⟨⟨h2, h3⟩, h4⟩, h5⟩, h6⟩ := h1
    refine va_copyi (rest := []) hx hb (by rw [hml]; exact hL.1.symm) hown (hts _ hm) (hts _ hnat) (hts _ hst) (hts _ hini) hK hP (zD hAd M) hS a b 0 0 (zat_int (by decide) (zty_spec ha)) (zat_int (by decide) (zty_spec hb2)) rfl rfl rfl h2 h3 h4 h5 h6 (fun _ _ => rfl) (by omega) ?_ hd (fun H1 locs1 hP1 hD1 hS1 => ?_)
    · have h7 : nativeFrameWords "java/lang/System" "arraycopy" 5 + 11 ≤ 64 := by decide +kernel
      simp only [List.map_nil, List.sum_nil]
      omega
    · rw [zset_cpy (zty_spec hb2)] at hP1
      exact hk _ _ _ _ ho H1 locs1 ls hP1 hS1 hL hlen
  · cases ho
end
section
/-! Runs of operations, methods, calls of methods: what the small machine answers is what the machine does -/
def zlkB (pc : Nat) : List (Int × Int) → List (Int32 × Nat) → Bool
  | [], [] => true
  | (a, o) :: r, (v, t) :: r' => decide (a = v.toInt) && decide ((pc : Int) + o = (t : Int)) && zlkB pc r r'
  | _, _ => false
theorem zlk_spec {k : Nat → Option ZO} {x : Int32} {d pc : Nat} {o : ZO} {dflt : Int} (hd : (pc : Int) + dflt = (d : Int)) : ∀ {os : List (Int × Int)} {ps : List (Int32 × Nat)}, zlkB pc os ps = true → zsw k x d ps = some o → ∃ t : Nat, (pc : Int) + Op.lookupswitch.offset os dflt x.toInt = (t : Int) ∧ k t = some o
  | [], [], _, h => ⟨d, hd, h⟩
  | (a, f) :: r, (v, t) :: r', hz, h => by
    simp only [zlkB, Bool.and_eq_true, decide_eq_true_eq] at hz
    obtain ⟨⟨h1, h2⟩, h3⟩ := hz
    rw [Op.lookupswitch.offset_cons]
    unfold zsw at h
    by_cases e : x = v
    · rw [if_pos e] at h
      rw [if_pos (by rw [h1, e])]
      exact ⟨t, h2, h⟩
    · rw [if_neg e] at h
      rw [if_neg (by rw [h1]; exact fun q => e (Int32.toInt_inj.mp q).symm)]
      exact zlk_spec hd h3 h
theorem zk_lookup {mt : Nat → Option ZT} {cc : ByteArray} {own : String} {rk pc : Nat} {dflt : Int} {os : Array (Int × Int)} {ps : List (Int32 × Nat)} {dt len : Nat} (ht : (pc : Int) + dflt = (dt : Int)) (hp : (os.toList.zip (os.toList.drop 1)).all (fun (a, next) => a.1 < next.1) = true) (hz : zlkB pc os.toList ps = true) (hd : decode cc pc = .ok (.lookupswitch dflt os, len)) : ZOK mt cc own rk pc (zo_sw ps dt) := by
  intro p l e R s m args below meth c nL D dA ad A cells slots Q d E hC hE k lo st M o ho hk hr H locs ls hP hS hL hlen
  obtain ⟨hx, hb, hml, hown, hts, hnl, hK, hAd, hSt, hR⟩ := hC
  unfold zo_sw at ho
  split at ho
  · rename_i x r
    obtain ⟨t, h1, h2⟩ := zlk_spec ht hz ho
    exact lv_lookup hx hb hd hp rfl h1 (hk _ _ _ _ h2 H locs ls hP hS hL hlen)
  · cases ho
def zfind : List (Nat × ZP) → Nat → Option ZP
  | [], _ => none
  | (a, op) :: r, pc => match Nat.beq a pc with
    | true => some op
    | false => zfind r pc
def zcut : List (Nat × List Bool) → Nat → Option (List Bool)
  | [], _ => none
  | (a, ms) :: r, pc => match Nat.beq a pc with
    | true => some ms
    | false => zcut r pc
def zmask : List Bool → ZL → ZL
  | true :: bs, v :: vs => v :: zmask bs vs
  | false :: bs, _ :: vs => none :: zmask bs vs
  | _, vs => vs
theorem zmask_len : ∀ (bs : List Bool) (lo : ZL), (zmask bs lo).length = lo.length
  | true :: bs, v :: vs => by simp [zmask, zmask_len bs vs]
  | false :: bs, _ :: vs => by simp [zmask, zmask_len bs vs]
  | [], vs => by simp [zmask]
  | true :: _, [] => by simp [zmask]
  | false :: _, [] => by simp [zmask]
theorem zmask_get : ∀ (bs : List Bool) (lo : ZL) (i : Nat) (v : Value), (zmask bs lo)[i]? = some (some v) → lo[i]? = some (some v)
  | true :: bs, w :: vs, i, v, h => by
    cases i with
    | zero => simpa [zmask] using h
    | succ i => simp only [zmask, List.getElem?_cons_succ] at h ⊢; exact zmask_get bs vs i v h
  | false :: bs, w :: vs, i, v, h => by
    cases i with
    | zero => simp [zmask] at h
    | succ i => simp only [zmask, List.getElem?_cons_succ] at h ⊢; exact zmask_get bs vs i v h
  | [], vs, i, v, h => by simpa [zmask] using h
  | true :: _, [], i, v, h => by simp [zmask] at h
  | false :: _, [], i, v, h => by simp [zmask] at h
theorem zmask_LH {ad : Nat → Nat} {ls : Array Slot} {nL : Nat} {lo : ZL} (bs : List Bool) (h : zLH ad ls nL lo) : zLH ad ls nL (zmask bs lo) := ⟨h.1, h.2.1, fun i v hi => h.2.2 i v (zmask_get bs lo i v hi)⟩
def zrun (E : ZE) (tb : List (Nat × ZP)) (cu : List (Nat × List Bool)) : Nat → ZK
  | 0 => fun _ _ _ _ => none
  | f + 1 => fun pc lo st M => match zfind tb pc with
    | none => none
    | some op => op E (fun pc' lo' st' M' => match zcut cu pc' with
      | some ms => some (.inr (pc', zmask ms lo', st', M'))
      | none => zrun E tb cu f pc' lo' st' M') lo st M
def zloop (E : ZE) (tb : List (Nat × ZP)) (cu : List (Nat × List Bool)) : Nat → Nat → ZL → List Value → ZM → Option ZR
  | 0, _, _, _, _ => none
  | n + 1, pc, lo, st, M => match zrun E tb cu 2000 pc lo st M with
    | some (.inl r) => some r
    | some (.inr q) => zloop E tb cu n q.1 q.2.1 q.2.2.1 q.2.2.2
    | none => none
theorem zloop_mono {E : ZE} {tb : List (Nat × ZP)} {cu : List (Nat × List Bool)} {r : ZR} : ∀ {n k : Nat} {pc : Nat} {lo : ZL} {st : List Value} {M : ZM}, n ≤ k → zloop E tb cu n pc lo st M = some r → zloop E tb cu k pc lo st M = some r
  | 0, _, _, _, _, _, _, h => by cases h
  | n + 1, 0, _, _, _, _, hk, _ => by omega
  | n + 1, k + 1, pc, lo, st, M, hk, h => by
    unfold zloop at h ⊢
    split at h
    · exact h
    · exact zloop_mono (by omega) h
    · cases h
theorem zfind_mem {pc : Nat} {op : ZP} : ∀ {tb : List (Nat × ZP)}, zfind tb pc = some op → (pc, op) ∈ tb
  | [], h => by cases h
  | (a, op1) :: r, h => by
    unfold zfind at h
    split at h
    · rename_i e
      have := Nat.eq_of_beq_eq_true e
      subst this
      cases h
      exact List.mem_cons_self
    · exact List.mem_cons_of_mem _ (zfind_mem h)
section ZS
variable {mt : Nat → Option ZT} {cc : ByteArray} {own : String} {rk : Nat} {p : Program} {l : Launch} {e : Env} {R : Room} {s : State} {m : MethodId} {args : Array Value} {below : List Frame} {meth : Method} {c : Code} {nL : Nat} {D : va_G} {dA : Nat → ClassId} {ad : Nat → Nat} {A : Nat → Prop} {cells slots : Nat} {Q : State → Prop} {d : Nat} {E : ZE} {tb : List (Nat × ZP)} {cu : List (Nat × List Bool)}
theorem zrun_ok (hC : zCx p R s m args c cc own nL D dA ad A d cells slots) (hE : zES mt l D dA ad A d E) (hT : ∀ q ∈ tb, ZOK mt cc own rk q.1 q.2) {o : ZO} (hq : ∀ q, o = .inr q → zV p l e R s m args below meth c nL D dA ad A cells slots Q q.1 q.2.1 q.2.2.1 q.2.2.2) (hr : ∀ r, o = .inl r → zRr p l e R s m args below meth c D dA ad A cells slots Q rk cc r) :
    ∀ (f pc : Nat) (lo : ZL) (st : List Value) (M : ZM), zrun E tb cu f pc lo st M = some o → zV p l e R s m args below meth c nL D dA ad A cells slots Q pc lo st M := by
  intro f
  induction f with
  | zero => intro pc lo st M h; cases h
  | succ f ih =>
    intro pc lo st M h
    unfold zrun at h
    split at h
    · cases h
    · rename_i op hop
      refine hT _ (zfind_mem hop) p l e R s m args below meth c nL D dA ad A cells slots Q d E hC hE _ lo st M o h ?_ hr
      intro pc' lo' st' M' h'
      split at h'
      · rename_i ms hms
        have h2 := Option.some.inj h'
        intro H locs ls hP hS hL hlen
        exact hq _ h2.symm H locs ls hP hS (zmask_LH ms hL) (by rw [← hlen]; exact zmask_len ms lo')
      · exact ih pc' lo' st' M' h'
theorem zloop_ok (hC : zCx p R s m args c cc own nL D dA ad A d cells slots) (hE : zES mt l D dA ad A d E) (hT : ∀ q ∈ tb, ZOK mt cc own rk q.1 q.2) {r : ZR} (hr : zRr p l e R s m args below meth c D dA ad A cells slots Q rk cc r) :
    ∀ (n pc : Nat) (lo : ZL) (st : List Value) (M : ZM), zloop E tb cu n pc lo st M = some r → zV p l e R s m args below meth c nL D dA ad A cells slots Q pc lo st M := by
  intro n
  induction n with
  | zero => intro pc lo st M h; cases h
  | succ n ih =>
    intro pc lo st M h
    unfold zloop at h
    split at h
    · rename_i r1 h1
      cases h
      exact zrun_ok hC hE hT (fun q hq => by cases hq) (fun r2 h2 => by cases h2; exact hr) 2000 pc lo st M h1
    · rename_i q h1
      exact zrun_ok hC hE hT (fun q2 hq => by cases hq; exact ih _ _ _ _ h) (fun r2 h2 => by cases h2) 2000 pc lo st M h1
    · cases h
end ZS
def zargs : List Value → ZL
  | [] => []
  | v :: r => if v.category = 2 then some v :: none :: zargs r else some v :: zargs r
def zent (as : List Value) (nL : Nat) : ZL := zargs as ++ List.replicate (nL - (zargs as).length) none
theorem zargs_len (ad : Nat → Nat) : ∀ as : List Value, (lg_sl (as.map (ztr ad))).length = (zargs as).length
  | [] => rfl
  | v :: r => by
    have ih := zargs_len ad r
    unfold lg_sl at ih ⊢
    rw [List.map_cons, List.flatMap_cons, List.length_append, ih, ztr_cat]
    simp only [zargs]
    split
    · simp; omega
    · simp; omega
theorem zargs_at (ad : Nat → Nat) : ∀ (as : List Value) (k i : Nat) (v : Value), (zargs as)[i]? = some (some v) → (k + i, ztr ad v) ∈ lv_args k (as.map (ztr ad))
  | [], k, i, v, h => by simp [zargs] at h
  | w :: r, k, i, v, h => by
    rw [List.map_cons]
    unfold lv_args
    unfold zargs at h
    rw [ztr_cat]
    by_cases hc : w.category = 2
    · rw [if_pos hc] at h ⊢
      match i, h with
      | 0, h =>
        simp only [List.getElem?_cons_zero, Option.some.injEq] at h
        subst h
        exact List.mem_cons_self
      | 1, h => simp at h
      | i + 2, h =>
        simp only [List.getElem?_cons_succ] at h
        have := zargs_at ad r (k + 2) i v h
        rw [show k + (i + 2) = k + 2 + i by omega]
        exact List.mem_cons_of_mem _ this
    · rw [if_neg hc] at h ⊢
      match i, h with
      | 0, h =>
        simp only [List.getElem?_cons_zero, Option.some.injEq] at h
        subst h
        exact List.mem_cons_self
      | i + 1, h =>
        simp only [List.getElem?_cons_succ] at h
        have := zargs_at ad r (k + 1) i v h
        rw [show k + (i + 1) = k + 1 + i by omega]
        exact List.mem_cons_of_mem _ this
theorem zent_LH (ad : Nat → Nat) {as : List Value} {nL : Nat} (h : (zargs as).length ≤ nL) : zLH ad ((lg_sl (as.map (ztr ad)) ++ List.replicate (nL - (lg_sl (as.map (ztr ad))).length) Slot.unset).toArray) nL (zent as nL) := by
  have h1 := lv_entry (as.map (ztr ad)) (n := nL) (by rw [zargs_len]; exact h)
  refine ⟨h1.1, h1.2.1, fun i v hi => ?_⟩
  have h2 : (zargs as)[i]? = some (some v) := by
    unfold zent at hi
    rw [List.getElem?_append] at hi
    split at hi
    · exact hi
    · rw [List.getElem?_replicate] at hi
      split at hi <;> cases hi
  have h3 := zargs_at ad as 0 i v h2
  rw [Nat.zero_add] at h3
  exact h1.2.2 _ h3
theorem zent_len {as : List Value} {nL : Nat} (h : (zargs as).length ≤ nL) : (zent as nL).length = nL := by
  simp only [zent, List.length_append, List.length_replicate]
  omega
abbrev ZB : Type := Nat × Nat × (List (Nat × ZP)) × List (Nat × List Bool)
/-- a call of a body: number of locals, kind of answer, operations, cuts -/
noncomputable def zcall (E : ZE) (b : ZB) (as : List Value) (M : ZM) : Option ZR :=
  @dite (Option ZR) ((zargs as).length ≤ b.1 ∧ ∃ (n : Nat) (r : ZR), zloop E b.2.2.1 b.2.2.2 n 0 (zent as b.1) [] M = some r) (Classical.propDecidable _) (fun h => some (Classical.choose (Classical.choose_spec h.2))) (fun _ => none)
theorem zcall_eq {E : ZE} {b : ZB} {as : List Value} {M : ZM} {r : ZR} (n : Nat) (hl : (zargs as).length ≤ b.1) (h : zloop E b.2.2.1 b.2.2.2 n 0 (zent as b.1) [] M = some r) : zcall E b as M = some r := by
  have hex : (zargs as).length ≤ b.1 ∧ ∃ (n : Nat) (r : ZR), zloop E b.2.2.1 b.2.2.2 n 0 (zent as b.1) [] M = some r := ⟨hl, n, r, h⟩
  unfold zcall
  rw [dif_pos hex]
  have h2 := Classical.choose_spec (Classical.choose_spec hex.2)
  have h3 := zloop_mono (Nat.le_max_left n (Classical.choose hex.2)) h
  have h4 := zloop_mono (Nat.le_max_right n (Classical.choose hex.2)) h2
  rw [h3] at h4
  exact h4.symm
theorem zcall_some {E : ZE} {b : ZB} {as : List Value} {M : ZM} {r : ZR} (h : zcall E b as M = some r) : (zargs as).length ≤ b.1 ∧ ∃ n, zloop E b.2.2.1 b.2.2.2 n 0 (zent as b.1) [] M = some r := by
  unfold zcall at h
  split at h
  · rename_i hex
    cases h
    exact ⟨hex.1, Classical.choose hex.2, Classical.choose_spec (Classical.choose_spec hex.2)⟩
  · cases h
def zci (o : Option ZR) : Option (Int32 × ZM) := match o with
  | some (some (.int r), M) => some (r, M)
  | _ => none
def zcl (o : Option ZR) : Option (Int64 × ZM) := match o with
  | some (some (.long r), M) => some (r, M)
  | _ => none
def zcv (o : Option ZR) : Option ZM := match o with
  | some (none, M) => some M
  | _ => none
theorem zci_some {o : Option ZR} {r : Int32} {M : ZM} (h : zci o = some (r, M)) : o = some (some (.int r), M) := by
  unfold zci at h
  split at h
  · cases h; rfl
  · cases h
theorem zcl_some {o : Option ZR} {r : Int64} {M : ZM} (h : zcl o = some (r, M)) : o = some (some (.long r), M) := by
  unfold zcl at h
  split at h
  · cases h; rfl
  · cases h
theorem zcv_some {o : Option ZR} {M : ZM} (h : zcv o = some M) : o = some (none, M) := by
  unfold zcv at h
  split at h
  · cases h; rfl
  · cases h
noncomputable def zenv (bt : Nat → Option ZB) : Nat → ZE
  | 0 => (fun _ _ _ => none, fun _ _ _ => none, fun _ _ _ => none)
  | d + 1 => (fun y as M => (bt y).bind fun b => zci (zcall (zenv bt d) b as M), fun y as M => (bt y).bind fun b => zcl (zcall (zenv bt d) b as M), fun y as M => (bt y).bind fun b => zcv (zcall (zenv bt d) b as M))
/-- the kind of an answer -/
def zrk (rk : Nat) (ret : Option FieldType) : Prop := (rk = 0 ∧ ret = none) ∨ (rk = 1 ∧ ret = some .int) ∨ (rk = 2 ∧ ret = some .long) ∨ (rk = 3 ∧ ret = some .boolean)
/-- a method's body is right -/
def zBok (mt : Nat → Option ZT) (q : ZT) (b : ZB) : Prop := b.1 = q.2.2.1 ∧ zrk b.2.1 q.2.2.2 ∧ plainName q.1.cls = true ∧ ∀ e ∈ b.2.2.1, ZOK mt q.2.1 q.1.cls b.2.1 e.1 e.2
section ZN
variable {mt : Nat → Option ZT} {bt : Nat → Option ZB} {l : Launch} {D : va_G} {dA : Nat → ClassId} {ad : Nat → Nat} {A : Nat → Prop}
theorem zmet (hAd : zAd ad A) {d : Nat} {E : ZE} (hE : zES mt l D dA ad A d E) {q : ZT} {b : ZB} (hB : zBok mt q b) {as : List Value} {M : ZM} {r : ZR} (hc : zcall E b as M = some r) {Qc : Array Value → State → Outcome → State → Prop}
    (hQ : ∀ (a : Array Value) (s t : State) (H : Heap) (locs : List Loc), t.heap = H → va_P D vwCl (zwd dA ad r.2) H → va_S A s.heap H locs → Qc a s (.returned (r.1.map (ztr ad))) t) : Met l q.1 (zws q) (zrm (d + 1)) (zPc D dA ad A as M) Qc 0 0 A := by
  obtain ⟨hb1, hrk, hpl, hT⟩ := hB
  obtain ⟨hl, n, hn⟩ := zcall_some hc
  refine Met.ofW (cc := q.2.1) (maxL := q.2.2.1) (ret := q.2.2.2) hpl rfl ?_
  intro p e s m args below meth c s₁ B hml hv
  obtain ⟨rfl, hP, hK, hN, hSt⟩ := hv
  have hts0 := atoms_spec (ws := zws q) B.pre
  have hts : ∀ w ∈ zTB, w.before ((as.map (ztr ad)).toArray) s = true := fun w hw => hts0 w (List.mem_cons_of_mem _ hw)
  have hown : s.vm.findClass q.1.cls = some m.cls := findClass_of_methodNamed B.named
  have hC : zCx p (headSpec (zws q) (zrm (d + 1))).room s m ((as.map (ztr ad)).toArray) c q.2.1 q.1.cls q.2.2.1 D dA ad A d 0 0 := ⟨B.exec, B.bytes, hml, hown, hts, hN, hK, hAd, hSt, Nat.le_refl _, Nat.le_refl _, Nat.le_refl _, Nat.le_refl _⟩
  have hR : zRr p l e (headSpec (zws q) (zrm (d + 1))).room s m ((as.map (ztr ad)).toArray) below meth c D dA ad A 0 0 (MQ below Qc ((as.map (ztr ad)).toArray) s 0 0 A) b.2.1 q.2.1 r := by
    intro pc H locs ls hP1 hS1 hRT
    have hq1 : ∀ t : State, t.heap = H → Qc ((as.map (ztr ad)).toArray) s (.returned (r.1.map (ztr ad))) t := fun t ht => hQ _ s t H locs ht hP1 hS1
    have hret := B.returns
    rcases hRT with ⟨h1, h2, h3⟩ | ⟨h1, ⟨x, h2⟩, h3⟩ | ⟨h1, ⟨x, h2⟩, h3⟩ | ⟨h1, ⟨x, h2, h4⟩, h3⟩
    · have hr2 : q.2.2.2 = none := by rcases hrk with ⟨_, a⟩ | ⟨a, _⟩ | ⟨a, _⟩ | ⟨a, _⟩ <;> first | exact a | omega
      rw [h2] at hq1 ⊢
      exact W.vret B.exec B.bytes (hret.trans hr2) (fun t ht _ => hq1 t ht) hS1.2.2 h3 B.notSynchronized
    · have hr2 : q.2.2.2 = some .int := by rcases hrk with ⟨a, _⟩ | ⟨_, a⟩ | ⟨a, _⟩ | ⟨a, _⟩ <;> first | exact a | omega
      rw [h2] at hq1 ⊢
      exact W.iret B.exec B.bytes (hret.trans hr2) (fun t ht _ => hq1 t ht) hS1.2.2 h3 B.notSynchronized
    · have hr2 : q.2.2.2 = some .long := by rcases hrk with ⟨a, _⟩ | ⟨a, _⟩ | ⟨_, a⟩ | ⟨a, _⟩ <;> first | exact a | omega
      rw [h2] at hq1 ⊢
      exact W.lret B.exec B.bytes (hret.trans hr2) (fun t ht _ => hq1 t ht) hS1.2.2 h3 B.notSynchronized
    · have hr2 : q.2.2.2 = some .boolean := by rcases hrk with ⟨a, _⟩ | ⟨a, _⟩ | ⟨a, _⟩ | ⟨_, a⟩ <;> first | exact a | omega
      rw [h2] at hq1 ⊢
      exact W.zret B.exec B.bytes (hret.trans hr2) (zb01_nar h4).1 (fun t ht _ => hq1 t ht) hS1.2.2 h3 B.notSynchronized
  have hZ := zloop_ok (cu := b.2.2.2) hC hE hT hR n 0 (zent as b.1) [] M hn
  rw [lg_entry_eq]
  rw [hb1] at hl hZ
  exact hZ s.heap [] _ hP va_S.rf (zent_LH ad hl) (zent_len hl)
theorem zenv_ok (hAd : zAd ad A) (hB : ∀ (y : Nat) (q : ZT), mt y = some q → ∀ b, bt y = some b → zBok mt q b) : ∀ d, zES mt l D dA ad A d (zenv bt d)
  | 0 => fun y q hq as M => ⟨fun r M' h => (by cases h), fun r M' h => (by cases h), fun M' h => (by cases h)⟩
  | d + 1 => by
    have ih := zenv_ok hAd hB d
    intro y q hq as M
    refine ⟨fun r M' h => ?_, fun r M' h => ?_, fun M' h => ?_⟩
    · obtain ⟨b, hb, h1⟩ := Option.bind_eq_some_iff.mp h
      exact zmet (Qc := zQi D dA ad A r M') hAd ih (hB y q hq b hb) (zci_some h1) (fun a s t H locs ht hP hS => ⟨⟨r, (), rfl, rfl, by subst ht; exact hP⟩, hS.F ht⟩)
    · obtain ⟨b, hb, h1⟩ := Option.bind_eq_some_iff.mp h
      exact zmet (Qc := zQl D dA ad A r M') hAd ih (hB y q hq b hb) (zcl_some h1) (fun a s t H locs ht hP hS => ⟨⟨r, (), rfl, rfl, by subst ht; exact hP⟩, hS.F ht⟩)
    · obtain ⟨b, hb, h1⟩ := Option.bind_eq_some_iff.mp h
      exact zmet (Qc := zQv D dA ad A M') hAd ih (hB y q hq b hb) (zcv_some h1) (fun a s t H locs ht hP hS => ⟨⟨(), rfl, trivial, by subst ht; exact hP⟩, hS.F ht⟩)
end ZN
end
section
/-! The methods by number: names, codes; words of the tables that their operations need -/
def zMTl : List ZT := [(yX0_keep, cX0_keep, 4, none),
  (yX0_takeBackLatest, cX0_takeBackLatest, 3, none),
  (yX1_isAlso, cX1_isAlso, 4, (some .boolean)),
  (yX1_above, cX1_above, 1, (some .int)),
  (yX1_answer, cX1_answer, 4, (some .int)),
  (yX1_bodyFor, cX1_bodyFor, 5, (some .int)),
  (yX1_bodyTold, cX1_bodyTold, 2, (some .int)),
  (yX1_body, cX1_body, 4, (some .int)),
  (yX1_leave, cX1_leave, 2, none),
  (yX2_learn, cX2_learn, 4, none),
  (yX2_hangsByOneLess, cX2_hangsByOneLess, 5, (some .boolean)),
  (yX2_weigh, cX2_weigh, 3, none),
  (yX2_isPiece, cX2_isPiece, 3, (some .boolean)),
  (yX2_couldServe, cX2_couldServe, 4, (some .boolean)),
  (yX2_countAll, cX2_countAll, 4, (some .int)),
  (yX2_countOf, cX2_countOf, 7, (some .int)),
  (yX2_isStraight, cX2_isStraight, 7, (some .boolean)),
  (yX2_markSums, cX2_markSums, 3, none),
  (yX2_countSums, cX2_countSums, 3, (some .int)),
  (yX2_leastSumUnpaid, cX2_leastSumUnpaid, 2, (some .int)),
  (yX2_greatestSum, cX2_greatestSum, 4, (some .int)),
  (yX2_bestFor, cX2_bestFor, 7, (some .int)),
  (yX2_rankOf, cX2_rankOf, 2, (some .int)),
  (yX2_countFor, cX2_countFor, 5, (some .int)),
  (yX2_cheapestFor, cX2_cheapestFor, 7, (some .int)),
  (yX2_mostServed, cX2_mostServed, 4, (some .int)),
  (yX2_findSuited, cX2_findSuited, 3, none),
  (yX2_suitedBy, cX2_suitedBy, 5, (some .int)),
  (yX2_findServable, cX2_findServable, 3, none),
  (yX2_servableBy, cX2_servableBy, 7, (some .int)),
  (yX2_withOneMore, cX2_withOneMore, 4, (some .int)),
  (yX2_canServe, cX2_canServe, 3, (some .boolean)),
  (yX2_pieceAmongServed, cX2_pieceAmongServed, 8, (some .int)),
  (yX2_firstPieceLeaving, cX2_firstPieceLeaving, 6, (some .int)),
  (yX2_countCouplings, cX2_countCouplings, 6, (some .int)),
  (yX2_sideOf, cX2_sideOf, 10, (some .int)),
  (yX2_casesOfFewLost, cX2_casesOfFewLost, 9, (some .long)),
  (yX2_addStamp, cX2_addStamp, 6, none),
  (yX3_append, cX3_append, 2, (some .boolean)),
  (yX3_read, cX3_read, 3, (some .boolean)),
  (yX3_readLaw, cX3_readLaw, 5, (some .boolean)),
  (yX3_readStamps, cX3_readStamps, 5, (some .boolean)),
  (yX3_readCustomers, cX3_readCustomers, 5, (some .boolean)),
  (yX3_kindOfSort, cX3_kindOfSort, 1, (some .int)),
  (yX3_takes, cX3_takes, 2, (some .boolean)),
  (yX3_takeNumber, cX3_takeNumber, 4, (some .int)),
  (yX3_refuse, cX3_refuse, 2, (some .boolean)),
  (yX3_step, cX3_step, 2, none),
  (yX3_stepOverNumber, cX3_stepOverNumber, 1, none),
  (yX3_isFigureSign, cX3_isFigureSign, 1, (some .boolean)),
  (yX4_begin, cX4_begin, 3, none),
  (yX4_reaches, cX4_reaches, 3, (some .boolean)),
  (yX4_put, cX4_put, 3, (some .int)),
  (yX5_begin, cX5_begin, 5, none),
  (yX5_findNext, cX5_findNext, 3, (some .int)),
  (yX5_put, cX5_put, 4, none),
  (yX5_add, cX5_add, 3, none),
  (yX5_become, cX5_become, 2, none),
  (yX5_sell, cX5_sell, 4, none),
  (yX5_takeBack, cX5_takeBack, 2, none),
  (yX5_lose, cX5_lose, 2, none),
  (yX5_isOn, cX5_isOn, 2, (some .boolean)),
  (yX5_holds, cX5_holds, 2, (some .boolean)),
  (yX5_isServed, cX5_isServed, 2, (some .boolean)),
  (yX5_suits, cX5_suits, 3, (some .boolean)),
  (yX5_served, cX5_served, 3, (some .int)),
  (yX5_howIs, cX5_howIs, 2, (some .int)),
  (yX5_ownerOf, cX5_ownerOf, 3, (some .int)),
  (yX5_paysOf, cX5_paysOf, 4, (some .int)),
  (yX5_payOfStamp, cX5_payOfStamp, 3, (some .int)),
  (yX5_tearsOf, cX5_tearsOf, 4, (some .int)),
  (yX5_nextTo, cX5_nextTo, 4, (some .int)),
  (yX5_partAround, cX5_partAround, 5, (some .int)),
  (yX5_countParts, cX5_countParts, 4, (some .int)),
  (yX5_partNumber, cX5_partNumber, 5, (some .int)),
  (yX5_stepsBetween, cX5_stepsBetween, 5, (some .int)),
  (yX5_firstStep, cX5_firstStep, 6, (some .int)),
  (yX6_takeCells, cX6_takeCells, 8, (some .boolean)),
  (yX6_takePays, cX6_takePays, 4, none),
  (yX6_isSo, cX6_isSo, 4, (some .boolean)),
  (yX7_row, cX7_row, 4, (some .int)),
  (yX7_set, cX7_set, 4, (some .int)),
  (yX7_copy, cX7_copy, 8, (some .int)),
  (yX7_drop, cX7_drop, 2, (some .int)),
  (yX7_feed, cX7_feed, 2, (some .int)),
  (yX7_sheet, cX7_sheet, 1, (some .int)),
  (yX7_fault, cX7_fault, 1, (some .int)),
  (yX7_undo, cX7_undo, 1, (some .int)),
  (yX7_serve, cX7_serve, 4, (some .int)),
  (yX7_bringBack, cX7_bringBack, 3, (some .int)),
  (yX7_spoil, cX7_spoil, 2, (some .int)),
  (yX7_value, cX7_value, 4, (some .int)),
  (yX7_over, cX7_over, 3, (some .int)),
  (yX7_cell, cX7_cell, 3, (some .int)),
  (yX7_customer, cX7_customer, 3, (some .int)),
  (yX7_stand, cX7_stand, 2, (some .int)),
  (yX7_piece, cX7_piece, 3, (some .int)),
  (yX7_parts, cX7_parts, 2, (some .int)),
  (yX7_pieces, cX7_pieces, 3, (some .int)),
  (yX7_sums, cX7_sums, 2, (some .int)),
  (yX7_best, cX7_best, 4, (some .int)),
  (yX7_ways, cX7_ways, 2, (some .int)),
  (yX7_thrift, cX7_thrift, 4, (some .int)),
  (yX7_serving, cX7_serving, 3, (some .int)),
  (yX7_couples, cX7_couples, 1, (some .int)),
  (yX7_parting, cX7_parting, 5, (some .int)),
  (yX7_way, cX7_way, 4, (some .int)),
  (yX7_lone, cX7_lone, 4, (some .int)),
  (yX7_who, cX7_who, 9, (some .int)),
  (yX7_fits, cX7_fits, 8, (some .int)),
  (yX7_wrong, cX7_wrong, 11, (some .long)),
  (yX7_drawn, cX7_drawn, 7, (some .int)),
  (yX7_image, cX7_image, 2, (some .int)),
  (yX7_restore, cX7_restore, 2, (some .int)),
  (yX7_kind, cX7_kind, 2, (some .int)),
  (yX7_as, cX7_as, 3, (some .int)),
  (yX7_ask, cX7_ask, 3, (some .int)),
  (yX7_trace, cX7_trace, 2, (some .int)),
  (yX7_count, cX7_count, 2, (some .int)),
  (yX7_status, cX7_status, 1, (some .int)),
  (yX7_found, cX7_found, 2, (some .int)),
  (yX7_fine, cX7_fine, 2, (some .int)),
  (yX7_isThere, cX7_isThere, 1, (some .boolean)),
  (yX7_isCell, cX7_isCell, 2, (some .boolean)),
  (yX7_areTwoCells, cX7_areTwoCells, 3, (some .boolean)),
  (yX7_isCustomer, cX7_isCustomer, 2, (some .boolean)),
  (yX7_isRow, cX7_isRow, 1, (some .boolean)),
  (yX7_isFigure, cX7_isFigure, 1, (some .boolean)),
  (yX7_isEither, cX7_isEither, 1, (some .boolean)),
  (yX7_areRowsOf, cX7_areRowsOf, 3, (some .boolean)),
  (yX7_countRows, cX7_countRows, 3, (some .int)),
  (yX7_putInPlace, cX7_putInPlace, 2, none),
  (yX7_liveDay, cX7_liveDay, 6, none),
  (yX7_restBy, cX7_restBy, 3, (some .int)),
  (yX7_powerOf, cX7_powerOf, 6, (some .long)),
  (yX7_commonDivisor, cX7_commonDivisor, 11, (some .long)),
  (yX7_takeTold, cX7_takeTold, 8, (some .int)),
  (yX7_kindsThatFit, cX7_kindsThatFit, 4, (some .int)),
  (yX7_valuesThatFit, cX7_valuesThatFit, 4, (some .int)),
  (yX7_oversThatFit, cX7_oversThatFit, 3, (some .int)),
  (yX7_countSwaps, cX7_countSwaps, 4, (some .int)),
  (yX7_firstSwap, cX7_firstSwap, 3, (some .int)),
  (yX7_fitsSwapped, cX7_fitsSwapped, 3, (some .boolean)),
  (yX8_in, cX8_in, 3, (some .boolean)),
  (yX8_has, cX8_has, 2, (some .boolean)),
  (yX8_ones, cX8_ones, 3, (some .int)),
  (yX8_isRow, cX8_isRow, 1, (some .boolean)),
  (yX8_finds, cX8_finds, 2, (some .int)),
  (yX8_row, cX8_row, 5, (some .int)),
  (yX8_set, cX8_set, 5, (some .int)),
  (yX8_isPlace, cX8_isPlace, 4, (some .boolean)),
  (yX8_copy, cX8_copy, 7, (some .int)),
  (yX8_drop, cX8_drop, 3, (some .int)),
  (yX8_feed, cX8_feed, 2, (some .int)),
  (yX8_byteAt, cX8_byteAt, 2, (some .int)),
  (yX8_isFigure, cX8_isFigure, 1, (some .boolean)),
  (yX8_wrongs, cX8_wrongs, 2, (some .boolean)),
  (yX8_takes, cX8_takes, 2, (some .boolean)),
  (yX8_number, cX8_number, 5, (some .boolean)),
  (yX8_kindBy, cX8_kindBy, 1, (some .int)),
  (yX8_readsLaw, cX8_readsLaw, 2, (some .boolean)),
  (yX8_readsStamp, cX8_readsStamp, 3, (some .boolean)),
  (yX8_readsCustomer, cX8_readsCustomer, 2, (some .boolean)),
  (yX8_reads, cX8_reads, 2, (some .boolean)),
  (yX8_joins, cX8_joins, 5, none),
  (yX8_sheet, cX8_sheet, 3, (some .int)),
  (yX8_fault, cX8_fault, 1, (some .int)),
  (yX8_keeps, cX8_keeps, 2, none),
  (yX8_undo, cX8_undo, 2, (some .int)),
  (yX8_isCell, cX8_isCell, 2, (some .boolean)),
  (yX8_isCustomer, cX8_isCustomer, 2, (some .boolean)),
  (yX8_gone, cX8_gone, 3, (some .int)),
  (yX8_on, cX8_on, 1, (some .int)),
  (yX8_servedNow, cX8_servedNow, 3, (some .int)),
  (yX8_reach, cX8_reach, 6, (some .int)),
  (yX8_lowest, cX8_lowest, 2, (some .int)),
  (yX8_hangs, cX8_hangs, 2, (some .boolean)),
  (yX8_isPiece, cX8_isPiece, 2, (some .boolean)),
  (yX8_pays, cX8_pays, 8, (some .int)),
  (yX8_tears, cX8_tears, 4, (some .int)),
  (yX8_serves, cX8_serves, 3, none),
  (yX8_serve, cX8_serve, 4, (some .int)),
  (yX8_bringBack, cX8_bringBack, 3, (some .int)),
  (yX8_spoil, cX8_spoil, 2, (some .int)),
  (yX8_value, cX8_value, 4, (some .int)),
  (yX8_over, cX8_over, 3, (some .int)),
  (yX8_ownerOf, cX8_ownerOf, 4, (some .int)),
  (yX8_cell, cX8_cell, 3, (some .int)),
  (yX8_customer, cX8_customer, 3, (some .int)),
  (yX8_stand, cX8_stand, 2, (some .int)),
  (yX8_partOf, cX8_partOf, 5, (some .int)),
  (yX8_manyParts, cX8_manyParts, 3, (some .int)),
  (yX8_piece, cX8_piece, 3, (some .int)),
  (yX8_parts, cX8_parts, 3, (some .int)),
  (yX8_surveys, cX8_surveys, 2, none),
  (yX8_paysBy, cX8_paysBy, 2, (some .int)),
  (yX8_isStraight, cX8_isStraight, 6, (some .boolean)),
  (yX8_pieces, cX8_pieces, 6, (some .int)),
  (yX8_sums, cX8_sums, 11, (some .int)),
  (yX8_fitsFor, cX8_fitsFor, 3, (some .boolean)),
  (yX8_bestFor, cX8_bestFor, 5, (some .int)),
  (yX8_best, cX8_best, 4, (some .int)),
  (yX8_ways, cX8_ways, 4, (some .int)),
  (yX8_thrift, cX8_thrift, 5, (some .int)),
  (yX8_serveAll, cX8_serveAll, 15, none),
  (yX8_can, cX8_can, 3, (some .boolean)),
  (yX8_serving, cX8_serving, 9, (some .int)),
  (yX8_couples, cX8_couples, 7, (some .int)),
  (yX8_parting, cX8_parting, 8, (some .int)),
  (yX8_stepsOf, cX8_stepsOf, 7, (some .int)),
  (yX8_way, cX8_way, 6, (some .int)),
  (yX8_lone, cX8_lone, 4, (some .int)),
  (yX8_findingOf, cX8_findingOf, 9, (some .int)),
  (yX8_isSo, cX8_isSo, 9, (some .boolean)),
  (yX8_who, cX8_who, 13, (some .int)),
  (yX8_swaps, cX8_swaps, 5, none),
  (yX8_fits, cX8_fits, 15, (some .int)),
  (yX8_wrong, cX8_wrong, 15, (some .long)),
  (yX8_day, cX8_day, 6, none),
  (yX8_drawn, cX8_drawn, 8, (some .int)),
  (yX8_image, cX8_image, 3, (some .int)),
  (yX8_restore, cX8_restore, 3, (some .int)),
  (yX8_kind, cX8_kind, 2, (some .int)),
  (yX8_as, cX8_as, 5, (some .int)),
  (yX8_leaves, cX8_leaves, 2, none),
  (yX8_markLow, cX8_markLow, 4, (some .int)),
  (yX8_sizeHigh, cX8_sizeHigh, 4, (some .int)),
  (yX8_ask, cX8_ask, 5, (some .int)),
  (yX8_trace, cX8_trace, 2, (some .int)),
  (yX8_count, cX8_count, 4, (some .int)),
  (yX8_status, cX8_status, 1, (some .int)),
  (yJ6_lowestOneBit_0f7a4, cJ6_lowestOneBit_0f7a4, 1, (some .int)),
  (yJ6_numberOfTrailingZeros_0f7a4, cJ6_numberOfTrailingZeros_0f7a4, 2, (some .int)),
  (yJ6_bitCount_0f7a4, cJ6_bitCount_0f7a4, 1, (some .int)),
  (yJ9_max_7cf53, cJ9_max_7cf53, 2, (some .int)),
  (yJ9_min_7cf53, cJ9_min_7cf53, 2, (some .int)),
  (yJ7_fill_d0a16, cJ7_fill_d0a16, 5, none),
  (yJ7_fill_53178, cJ7_fill_53178, 4, none)]
def zmt (y : Nat) : Option ZT := zMTl[y]?
theorem zinX0 : ∀ w ∈ wsX00, w ∈ zTB := zTB_in inX0 (by decide +kernel)
theorem zinX1 : ∀ w ∈ wsX10, w ∈ zTB := zTB_in inX1 (by decide +kernel)
theorem zinX2 : ∀ w ∈ wsX20, w ∈ zTB := zTB_in inX2 (by decide +kernel)
theorem zinX3 : ∀ w ∈ wsX30, w ∈ zTB := zTB_in inX3 (by decide +kernel)
theorem zinX4 : ∀ w ∈ wsX40, w ∈ zTB := zTB_in inX4 (by decide +kernel)
theorem zinX5 : ∀ w ∈ wsX50, w ∈ zTB := zTB_in inX5 (by decide +kernel)
theorem zinX6 : ∀ w ∈ wsX60, w ∈ zTB := zTB_in inX6 (by decide +kernel)
theorem zinX7 : ∀ w ∈ wsX70, w ∈ zTB := zTB_in inX7 (by decide +kernel)
theorem zinX8 : ∀ w ∈ wsX80, w ∈ zTB := zTB_in inX8 (by decide +kernel)
theorem zcons {mt : Nat → Option ZT} {cc : ByteArray} {own : String} {rk a : Nat} {op : ZP} {tb : List (Nat × ZP)} (h : ZOK mt cc own rk a op) (t : ∀ e ∈ tb, ZOK mt cc own rk e.1 e.2) : ∀ e ∈ (a, op) :: tb, ZOK mt cc own rk e.1 e.2 := fun e he => (List.mem_cons.mp he).elim (fun q => by subst q; exact h) (t e)
theorem znil {mt : Nat → Option ZT} {cc : ByteArray} {own : String} {rk : Nat} : ∀ e ∈ ([] : List (Nat × ZP)), ZOK mt cc own rk e.1 e.2 := fun e he => absurd he List.not_mem_nil
theorem zw_138 : Cond.fieldLink RX0 9 (TX0 0).1 (TX0 0).2.1 (TX0 0).2.2.1 ∈ zTB := zTB_mem 268 (by decide +kernel) rfl
theorem zw_141 : Cond.fieldLink RX0 19 (TX0 3).1 (TX0 3).2.1 (TX0 3).2.2.1 ∈ zTB := zTB_mem 271 (by decide +kernel) rfl
theorem zw_139 : Cond.fieldLink RX0 13 (TX0 1).1 (TX0 1).2.1 (TX0 1).2.2.1 ∈ zTB := zTB_mem 269 (by decide +kernel) rfl
theorem zw_140 : Cond.fieldLink RX0 16 (TX0 2).1 (TX0 2).2.1 (TX0 2).2.2.1 ∈ zTB := zTB_mem 270 (by decide +kernel) rfl
theorem zw_142 : Cond.fieldLink RX0 23 (TX0 4).1 (TX0 4).2.1 (TX0 4).2.2.1 ∈ zTB := zTB_mem 272 (by decide +kernel) rfl
theorem zw_495 : Cond.methodLink RX0 26 yJ9_min_7cf53 ∈ zTB := zTB_mem 625 (by decide +kernel) rfl
theorem zds_J9_min_7cf53 : yJ9_min_7cf53.cls ≠ "java/lang/invoke/MethodHandle" ∧ yJ9_min_7cf53.cls ≠ "java/lang/invoke/VarHandle" ∧ (parseMethodDescriptor yJ9_min_7cf53.desc).map (fun d => d.parameters.length) = some 2 := ⟨by decide +kernel, by decide +kernel, by decide +kernel⟩
theorem zw_378 : Cond.code yJ9_min_7cf53 cJ9_min_7cf53 2 (some .int) ∈ zTB := zTB_mem 508 (by decide +kernel) rfl
theorem zw_12 : Cond.initialized RJ9 ∈ zTB := zTB_mem 142 (by decide +kernel) rfl
theorem zw_377 : Cond.static yJ9_min_7cf53 ∈ zTB := zTB_mem 507 (by decide +kernel) rfl
theorem zw_445 : Cond.methodLinkNest RX0 32 yX5_takeBack "StampSheets" ∈ zNL := zNL_mem 575 (by decide +kernel) rfl
theorem zds_X5_takeBack : yX5_takeBack.cls ≠ "java/lang/invoke/MethodHandle" ∧ yX5_takeBack.cls ≠ "java/lang/invoke/VarHandle" ∧ (parseMethodDescriptor yX5_takeBack.desc).map (fun d => d.parameters.length) = some 1 := ⟨by decide +kernel, by decide +kernel, by decide +kernel⟩
theorem zw_448 : Cond.code yX5_takeBack cX5_takeBack 2 none ∈ zTB := zTB_mem 578 (by decide +kernel) rfl
theorem zw_3 : Cond.initialized RX5 ∈ zTB := zTB_mem 133 (by decide +kernel) rfl
theorem zw_447 : Cond.instanceMethod yX5_takeBack ∈ zTB := zTB_mem 577 (by decide +kernel) rfl
theorem zsel_X5_takeBack : Cond.selects yX5_takeBack.cls yX5_takeBack yX5_takeBack ∈ zTB := zTB_mem 25 (by decide +kernel) rfl
theorem zw_76 : Cond.fieldLinkNest RX0 38 (TX5 4).1 (TX5 4).2.1 (TX5 4).2.2.1 "StampSheets" ∈ zNL := zNL_mem 206 (by decide +kernel) rfl
theorem zw_449 : Cond.methodLinkNest RX0 41 yX5_sell "StampSheets" ∈ zNL := zNL_mem 579 (by decide +kernel) rfl
theorem zds_X5_sell : yX5_sell.cls ≠ "java/lang/invoke/MethodHandle" ∧ yX5_sell.cls ≠ "java/lang/invoke/VarHandle" ∧ (parseMethodDescriptor yX5_sell.desc).map (fun d => d.parameters.length) = some 3 := ⟨by decide +kernel, by decide +kernel, by decide +kernel⟩
theorem zw_452 : Cond.code yX5_sell cX5_sell 4 none ∈ zTB := zTB_mem 582 (by decide +kernel) rfl
theorem zw_451 : Cond.instanceMethod yX5_sell ∈ zTB := zTB_mem 581 (by decide +kernel) rfl
theorem zsel_X5_sell : Cond.selects yX5_sell.cls yX5_sell yX5_sell ∈ zTB := zTB_mem 26 (by decide +kernel) rfl
theorem zw_79 : Cond.fieldLinkNest RX0 45 (TX5 5).1 (TX5 5).2.1 (TX5 5).2.2.1 "StampSheets" ∈ zNL := zNL_mem 209 (by decide +kernel) rfl
theorem zw_83 : Cond.fieldLinkNest RX0 48 (TX5 6).1 (TX5 6).2.1 (TX5 6).2.2.1 "StampSheets" ∈ zNL := zNL_mem 213 (by decide +kernel) rfl
theorem zw_93 : Cond.fieldLinkNest RX0 51 (TX5 10).1 (TX5 10).2.1 (TX5 10).2.2.1 "StampSheets" ∈ zNL := zNL_mem 223 (by decide +kernel) rfl
theorem zw_72 : Cond.fieldLinkNest RX0 54 (TX5 3).1 (TX5 3).2.1 (TX5 3).2.2.1 "StampSheets" ∈ zNL := zNL_mem 202 (by decide +kernel) rfl
theorem zw_866 : Cond.methodLink RX1 31 yX1_above ∈ zTB := zTB_mem 996 (by decide +kernel) rfl
theorem zds_X1_above : yX1_above.cls ≠ "java/lang/invoke/MethodHandle" ∧ yX1_above.cls ≠ "java/lang/invoke/VarHandle" ∧ (parseMethodDescriptor yX1_above.desc).map (fun d => d.parameters.length) = some 1 := ⟨by decide +kernel, by decide +kernel, by decide +kernel⟩
theorem zw_868 : Cond.code yX1_above cX1_above 1 (some .int) ∈ zTB := zTB_mem 998 (by decide +kernel) rfl
theorem zw_6 : Cond.initialized RX1 ∈ zTB := zTB_mem 136 (by decide +kernel) rfl
theorem zw_867 : Cond.static yX1_above ∈ zTB := zTB_mem 997 (by decide +kernel) rfl
theorem zw_869 : Cond.fieldLink RX1 35 "StampSheets$Asks" "ABOVE" "[I" ∈ zTB := zTB_mem 999 (by decide +kernel) rfl
theorem zw_198 : Cond.fieldLink RX1 19 (TX1 2).1 (TX1 2).2.1 (TX1 2).2.2.1 ∈ zTB := zTB_mem 328 (by decide +kernel) rfl
theorem zw_90 : Cond.fieldLinkNest RX1 38 (TX5 9).1 (TX5 9).2.1 (TX5 9).2.2.1 "StampSheets" ∈ zNL := zNL_mem 220 (by decide +kernel) rfl
theorem zw_199 : Cond.fieldLink RX1 22 (TX1 3).1 (TX1 3).2.1 (TX1 3).2.2.1 ∈ zTB := zTB_mem 329 (by decide +kernel) rfl
theorem zw_94 : Cond.fieldLinkNest RX1 43 (TX5 10).1 (TX5 10).2.1 (TX5 10).2.2.1 "StampSheets" ∈ zNL := zNL_mem 224 (by decide +kernel) rfl
theorem zw_200 : Cond.fieldLink RX1 25 (TX1 4).1 (TX1 4).2.1 (TX1 4).2.2.1 ∈ zTB := zTB_mem 330 (by decide +kernel) rfl
theorem zw_73 : Cond.fieldLinkNest RX1 45 (TX5 3).1 (TX5 3).2.1 (TX5 3).2.2.1 "StampSheets" ∈ zNL := zNL_mem 203 (by decide +kernel) rfl
theorem zw_201 : Cond.fieldLink RX1 28 (TX1 5).1 (TX1 5).2.1 (TX1 5).2.2.1 ∈ zTB := zTB_mem 331 (by decide +kernel) rfl
theorem zw_196 : Cond.fieldLink RX1 15 (TX1 1).1 (TX1 1).2.1 (TX1 1).2.2.1 ∈ zTB := zTB_mem 326 (by decide +kernel) rfl
theorem zw_879 : Cond.methodLink RX1 46 yX1_bodyFor ∈ zTB := zTB_mem 1009 (by decide +kernel) rfl
theorem zds_X1_bodyFor : yX1_bodyFor.cls ≠ "java/lang/invoke/MethodHandle" ∧ yX1_bodyFor.cls ≠ "java/lang/invoke/VarHandle" ∧ (parseMethodDescriptor yX1_bodyFor.desc).map (fun d => d.parameters.length) = some 1 := ⟨by decide +kernel, by decide +kernel, by decide +kernel⟩
theorem zw_882 : Cond.code yX1_bodyFor cX1_bodyFor 5 (some .int) ∈ zTB := zTB_mem 1012 (by decide +kernel) rfl
theorem zw_881 : Cond.instanceMethod yX1_bodyFor ∈ zTB := zTB_mem 1011 (by decide +kernel) rfl
theorem zsel_X1_bodyFor : Cond.selects yX1_bodyFor.cls yX1_bodyFor yX1_bodyFor ∈ zTB := zTB_mem 86 (by decide +kernel) rfl
theorem zw_890 : Cond.methodLink RX1 49 yX1_body ∈ zTB := zTB_mem 1020 (by decide +kernel) rfl
theorem zds_X1_body : yX1_body.cls ≠ "java/lang/invoke/MethodHandle" ∧ yX1_body.cls ≠ "java/lang/invoke/VarHandle" ∧ (parseMethodDescriptor yX1_body.desc).map (fun d => d.parameters.length) = some 2 := ⟨by decide +kernel, by decide +kernel, by decide +kernel⟩
theorem zw_893 : Cond.code yX1_body cX1_body 4 (some .int) ∈ zTB := zTB_mem 1023 (by decide +kernel) rfl
theorem zw_892 : Cond.instanceMethod yX1_body ∈ zTB := zTB_mem 1022 (by decide +kernel) rfl
theorem zsel_X1_body : Cond.selects yX1_body.cls yX1_body yX1_body ∈ zTB := zTB_mem 87 (by decide +kernel) rfl
theorem zw_883 : Cond.methodLink RX1 53 yX1_bodyTold ∈ zTB := zTB_mem 1013 (by decide +kernel) rfl
theorem zds_X1_bodyTold : yX1_bodyTold.cls ≠ "java/lang/invoke/MethodHandle" ∧ yX1_bodyTold.cls ≠ "java/lang/invoke/VarHandle" ∧ (parseMethodDescriptor yX1_bodyTold.desc).map (fun d => d.parameters.length) = some 2 := ⟨by decide +kernel, by decide +kernel, by decide +kernel⟩
theorem zw_885 : Cond.code yX1_bodyTold cX1_bodyTold 2 (some .int) ∈ zTB := zTB_mem 1015 (by decide +kernel) rfl
theorem zw_884 : Cond.static yX1_bodyTold ∈ zTB := zTB_mem 1014 (by decide +kernel) rfl
theorem zw_886 : Cond.fieldLink RX1 56 "StampSheets$Asks" "SIZE_BODIES" "[I" ∈ zTB := zTB_mem 1016 (by decide +kernel) rfl
theorem zw_888 : Cond.fieldLink RX1 59 "StampSheets$Asks" "MARK_BODIES" "[I" ∈ zTB := zTB_mem 1018 (by decide +kernel) rfl
theorem zw_894 : Cond.methodLink RX1 62 yX1_leave ∈ zTB := zTB_mem 1024 (by decide +kernel) rfl
theorem zds_X1_leave : yX1_leave.cls ≠ "java/lang/invoke/MethodHandle" ∧ yX1_leave.cls ≠ "java/lang/invoke/VarHandle" ∧ (parseMethodDescriptor yX1_leave.desc).map (fun d => d.parameters.length) = some 1 := ⟨by decide +kernel, by decide +kernel, by decide +kernel⟩
theorem zw_897 : Cond.code yX1_leave cX1_leave 2 none ∈ zTB := zTB_mem 1027 (by decide +kernel) rfl
theorem zw_896 : Cond.instanceMethod yX1_leave ∈ zTB := zTB_mem 1026 (by decide +kernel) rfl
theorem zsel_X1_leave : Cond.selects yX1_leave.cls yX1_leave yX1_leave ∈ zTB := zTB_mem 88 (by decide +kernel) rfl
theorem zw_194 : Cond.fieldLink RX1 11 (TX1 0).1 (TX1 0).2.1 (TX1 0).2.2.1 ∈ zTB := zTB_mem 324 (by decide +kernel) rfl
theorem zw_65 : Cond.fieldLinkNest RX2 39 (TX5 1).1 (TX5 1).2.1 (TX5 1).2.2.1 "StampSheets" ∈ zNL := zNL_mem 195 (by decide +kernel) rfl
theorem zw_164 : Cond.fieldLink RX2 22 (TX2 3).1 (TX2 3).2.1 (TX2 3).2.2.1 ∈ zTB := zTB_mem 294 (by decide +kernel) rfl
theorem zw_161 : Cond.fieldLink RX2 9 (TX2 0).1 (TX2 0).2.1 (TX2 0).2.2.1 ∈ zTB := zTB_mem 291 (by decide +kernel) rfl
theorem zw_422 : Cond.methodLink RX2 44 yJ6_bitCount_0f7a4 ∈ zTB := zTB_mem 552 (by decide +kernel) rfl
theorem zds_J6_bitCount_0f7a4 : yJ6_bitCount_0f7a4.cls ≠ "java/lang/invoke/MethodHandle" ∧ yJ6_bitCount_0f7a4.cls ≠ "java/lang/invoke/VarHandle" ∧ (parseMethodDescriptor yJ6_bitCount_0f7a4.desc).map (fun d => d.parameters.length) = some 1 := ⟨by decide +kernel, by decide +kernel, by decide +kernel⟩
theorem zw_424 : Cond.code yJ6_bitCount_0f7a4 cJ6_bitCount_0f7a4 1 (some .int) ∈ zTB := zTB_mem 554 (by decide +kernel) rfl
theorem zw_13 : Cond.initialized RJ6 ∈ zTB := zTB_mem 143 (by decide +kernel) rfl
theorem zw_423 : Cond.static yJ6_bitCount_0f7a4 ∈ zTB := zTB_mem 553 (by decide +kernel) rfl
theorem zw_428 : Cond.methodLink RX2 50 yX2_hangsByOneLess ∈ zTB := zTB_mem 558 (by decide +kernel) rfl
theorem zds_X2_hangsByOneLess : yX2_hangsByOneLess.cls ≠ "java/lang/invoke/MethodHandle" ∧ yX2_hangsByOneLess.cls ≠ "java/lang/invoke/VarHandle" ∧ (parseMethodDescriptor yX2_hangsByOneLess.desc).map (fun d => d.parameters.length) = some 2 := ⟨by decide +kernel, by decide +kernel, by decide +kernel⟩
theorem zw_431 : Cond.code yX2_hangsByOneLess cX2_hangsByOneLess 5 (some .boolean) ∈ zTB := zTB_mem 561 (by decide +kernel) rfl
theorem zw_5 : Cond.initialized RX2 ∈ zTB := zTB_mem 135 (by decide +kernel) rfl
theorem zw_430 : Cond.instanceMethod yX2_hangsByOneLess ∈ zTB := zTB_mem 560 (by decide +kernel) rfl
theorem zsel_X2_hangsByOneLess : Cond.selects yX2_hangsByOneLess.cls yX2_hangsByOneLess yX2_hangsByOneLess ∈ zTB := zTB_mem 23 (by decide +kernel) rfl
theorem zw_162 : Cond.fieldLink RX2 15 (TX2 1).1 (TX2 1).2.1 (TX2 1).2.2.1 ∈ zTB := zTB_mem 292 (by decide +kernel) rfl
theorem zw_87 : Cond.fieldLinkNest RX2 54 (TX5 8).1 (TX5 8).2.1 (TX5 8).2.2.1 "StampSheets" ∈ zNL := zNL_mem 217 (by decide +kernel) rfl
theorem zw_163 : Cond.fieldLink RX2 19 (TX2 2).1 (TX2 2).2.1 (TX2 2).2.2.1 ∈ zTB := zTB_mem 293 (by decide +kernel) rfl
theorem zw_615 : Cond.methodLinkNest RX2 57 yX5_paysOf "StampSheets" ∈ zNL := zNL_mem 745 (by decide +kernel) rfl
theorem zds_X5_paysOf : yX5_paysOf.cls ≠ "java/lang/invoke/MethodHandle" ∧ yX5_paysOf.cls ≠ "java/lang/invoke/VarHandle" ∧ (parseMethodDescriptor yX5_paysOf.desc).map (fun d => d.parameters.length) = some 1 := ⟨by decide +kernel, by decide +kernel, by decide +kernel⟩
theorem zw_476 : Cond.code yX5_paysOf cX5_paysOf 4 (some .int) ∈ zTB := zTB_mem 606 (by decide +kernel) rfl
theorem zw_475 : Cond.instanceMethod yX5_paysOf ∈ zTB := zTB_mem 605 (by decide +kernel) rfl
theorem zsel_X5_paysOf : Cond.selects yX5_paysOf.cls yX5_paysOf yX5_paysOf ∈ zTB := zTB_mem 31 (by decide +kernel) rfl
theorem zw_465 : Cond.methodLinkNest RX2 60 yX5_holds "StampSheets" ∈ zNL := zNL_mem 595 (by decide +kernel) rfl
theorem zds_X5_holds : yX5_holds.cls ≠ "java/lang/invoke/MethodHandle" ∧ yX5_holds.cls ≠ "java/lang/invoke/VarHandle" ∧ (parseMethodDescriptor yX5_holds.desc).map (fun d => d.parameters.length) = some 1 := ⟨by decide +kernel, by decide +kernel, by decide +kernel⟩
theorem zw_468 : Cond.code yX5_holds cX5_holds 2 (some .boolean) ∈ zTB := zTB_mem 598 (by decide +kernel) rfl
theorem zw_467 : Cond.instanceMethod yX5_holds ∈ zTB := zTB_mem 597 (by decide +kernel) rfl
theorem zsel_X5_holds : Cond.selects yX5_holds.cls yX5_holds yX5_holds ∈ zTB := zTB_mem 29 (by decide +kernel) rfl
theorem zw_652 : Cond.methodLinkNest RX2 64 yX5_suits "StampSheets" ∈ zNL := zNL_mem 782 (by decide +kernel) rfl
theorem zds_X5_suits : yX5_suits.cls ≠ "java/lang/invoke/MethodHandle" ∧ yX5_suits.cls ≠ "java/lang/invoke/VarHandle" ∧ (parseMethodDescriptor yX5_suits.desc).map (fun d => d.parameters.length) = some 2 := ⟨by decide +kernel, by decide +kernel, by decide +kernel⟩
theorem zw_485 : Cond.code yX5_suits cX5_suits 3 (some .boolean) ∈ zTB := zTB_mem 615 (by decide +kernel) rfl
theorem zw_484 : Cond.instanceMethod yX5_suits ∈ zTB := zTB_mem 614 (by decide +kernel) rfl
theorem zsel_X5_suits : Cond.selects yX5_suits.cls yX5_suits yX5_suits ∈ zTB := zTB_mem 33 (by decide +kernel) rfl
theorem zw_599 : Cond.methodLink RX2 68 yX2_isStraight ∈ zTB := zTB_mem 729 (by decide +kernel) rfl
theorem zds_X2_isStraight : yX2_isStraight.cls ≠ "java/lang/invoke/MethodHandle" ∧ yX2_isStraight.cls ≠ "java/lang/invoke/VarHandle" ∧ (parseMethodDescriptor yX2_isStraight.desc).map (fun d => d.parameters.length) = some 2 := ⟨by decide +kernel, by decide +kernel, by decide +kernel⟩
theorem zw_602 : Cond.code yX2_isStraight cX2_isStraight 7 (some .boolean) ∈ zTB := zTB_mem 732 (by decide +kernel) rfl
theorem zw_601 : Cond.instanceMethod yX2_isStraight ∈ zTB := zTB_mem 731 (by decide +kernel) rfl
theorem zsel_X2_isStraight : Cond.selects yX2_isStraight.cls yX2_isStraight yX2_isStraight ∈ zTB := zTB_mem 49 (by decide +kernel) rfl
theorem zw_63 : Cond.fieldLinkNest RX2 71 (TX5 0).1 (TX5 0).2.1 (TX5 0).2.2.1 "StampSheets" ∈ zNL := zNL_mem 193 (by decide +kernel) rfl
theorem zw_603 : Cond.methodLink RX2 74 yJ6_numberOfTrailingZeros_0f7a4 ∈ zTB := zTB_mem 733 (by decide +kernel) rfl
theorem zds_J6_numberOfTrailingZeros_0f7a4 : yJ6_numberOfTrailingZeros_0f7a4.cls ≠ "java/lang/invoke/MethodHandle" ∧ yJ6_numberOfTrailingZeros_0f7a4.cls ≠ "java/lang/invoke/VarHandle" ∧ (parseMethodDescriptor yJ6_numberOfTrailingZeros_0f7a4.desc).map (fun d => d.parameters.length) = some 1 := ⟨by decide +kernel, by decide +kernel, by decide +kernel⟩
theorem zw_605 : Cond.code yJ6_numberOfTrailingZeros_0f7a4 cJ6_numberOfTrailingZeros_0f7a4 2 (some .int) ∈ zTB := zTB_mem 735 (by decide +kernel) rfl
theorem zw_604 : Cond.static yJ6_numberOfTrailingZeros_0f7a4 ∈ zTB := zTB_mem 734 (by decide +kernel) rfl
theorem zw_167 : Cond.fieldLink RX2 32 (TX2 6).1 (TX2 6).2.1 (TX2 6).2.2.1 ∈ zTB := zTB_mem 297 (by decide +kernel) rfl
theorem zw_627 : Cond.methodLink RX2 77 yJ7_fill_53178 ∈ zTB := zTB_mem 757 (by decide +kernel) rfl
theorem zds_J7_fill_53178 : yJ7_fill_53178.cls ≠ "java/lang/invoke/MethodHandle" ∧ yJ7_fill_53178.cls ≠ "java/lang/invoke/VarHandle" ∧ (parseMethodDescriptor yJ7_fill_53178.desc).map (fun d => d.parameters.length) = some 2 := ⟨by decide +kernel, by decide +kernel, by decide +kernel⟩
theorem zw_304 : Cond.code yJ7_fill_53178 cJ7_fill_53178 4 none ∈ zTB := zTB_mem 434 (by decide +kernel) rfl
theorem zw_10 : Cond.initialized RJ7 ∈ zTB := zTB_mem 140 (by decide +kernel) rfl
theorem zw_303 : Cond.static yJ7_fill_53178 ∈ zTB := zTB_mem 433 (by decide +kernel) rfl
theorem zw_636 : Cond.constant RX2 83 (-1000000) ∈ zTB := zTB_mem 766 (by decide +kernel) rfl
theorem zw_620 : Cond.methodLink RX2 84 yJ9_max_7cf53 ∈ zTB := zTB_mem 750 (by decide +kernel) rfl
theorem zds_J9_max_7cf53 : yJ9_max_7cf53.cls ≠ "java/lang/invoke/MethodHandle" ∧ yJ9_max_7cf53.cls ≠ "java/lang/invoke/VarHandle" ∧ (parseMethodDescriptor yJ9_max_7cf53.desc).map (fun d => d.parameters.length) = some 2 := ⟨by decide +kernel, by decide +kernel, by decide +kernel⟩
theorem zw_622 : Cond.code yJ9_max_7cf53 cJ9_max_7cf53 2 (some .int) ∈ zTB := zTB_mem 752 (by decide +kernel) rfl
theorem zw_621 : Cond.static yJ9_max_7cf53 ∈ zTB := zTB_mem 751 (by decide +kernel) rfl
theorem zw_648 : Cond.methodLink RX2 90 yX2_couldServe ∈ zTB := zTB_mem 778 (by decide +kernel) rfl
theorem zds_X2_couldServe : yX2_couldServe.cls ≠ "java/lang/invoke/MethodHandle" ∧ yX2_couldServe.cls ≠ "java/lang/invoke/VarHandle" ∧ (parseMethodDescriptor yX2_couldServe.desc).map (fun d => d.parameters.length) = some 3 := ⟨by decide +kernel, by decide +kernel, by decide +kernel⟩
theorem zw_651 : Cond.code yX2_couldServe cX2_couldServe 4 (some .boolean) ∈ zTB := zTB_mem 781 (by decide +kernel) rfl
theorem zw_650 : Cond.instanceMethod yX2_couldServe ∈ zTB := zTB_mem 780 (by decide +kernel) rfl
theorem zsel_X2_couldServe : Cond.selects yX2_couldServe.cls yX2_couldServe yX2_couldServe ∈ zTB := zTB_mem 56 (by decide +kernel) rfl
theorem zw_653 : Cond.methodLink RX2 94 yX2_rankOf ∈ zTB := zTB_mem 783 (by decide +kernel) rfl
theorem zds_X2_rankOf : yX2_rankOf.cls ≠ "java/lang/invoke/MethodHandle" ∧ yX2_rankOf.cls ≠ "java/lang/invoke/VarHandle" ∧ (parseMethodDescriptor yX2_rankOf.desc).map (fun d => d.parameters.length) = some 2 := ⟨by decide +kernel, by decide +kernel, by decide +kernel⟩
theorem zw_655 : Cond.code yX2_rankOf cX2_rankOf 2 (some .int) ∈ zTB := zTB_mem 785 (by decide +kernel) rfl
theorem zw_654 : Cond.static yX2_rankOf ∈ zTB := zTB_mem 784 (by decide +kernel) rfl
theorem zw_656 : Cond.methodLinkNest RX2 98 yX5_tearsOf "StampSheets" ∈ zNL := zNL_mem 786 (by decide +kernel) rfl
theorem zds_X5_tearsOf : yX5_tearsOf.cls ≠ "java/lang/invoke/MethodHandle" ∧ yX5_tearsOf.cls ≠ "java/lang/invoke/VarHandle" ∧ (parseMethodDescriptor yX5_tearsOf.desc).map (fun d => d.parameters.length) = some 1 := ⟨by decide +kernel, by decide +kernel, by decide +kernel⟩
theorem zw_489 : Cond.code yX5_tearsOf cX5_tearsOf 4 (some .int) ∈ zTB := zTB_mem 619 (by decide +kernel) rfl
theorem zw_488 : Cond.instanceMethod yX5_tearsOf ∈ zTB := zTB_mem 618 (by decide +kernel) rfl
theorem zsel_X5_tearsOf : Cond.selects yX5_tearsOf.cls yX5_tearsOf yX5_tearsOf ∈ zTB := zTB_mem 34 (by decide +kernel) rfl
theorem zw_682 : Cond.methodLink RX2 101 yX2_findSuited ∈ zTB := zTB_mem 812 (by decide +kernel) rfl
theorem zds_X2_findSuited : yX2_findSuited.cls ≠ "java/lang/invoke/MethodHandle" ∧ yX2_findSuited.cls ≠ "java/lang/invoke/VarHandle" ∧ (parseMethodDescriptor yX2_findSuited.desc).map (fun d => d.parameters.length) = some 1 := ⟨by decide +kernel, by decide +kernel, by decide +kernel⟩
theorem zw_685 : Cond.code yX2_findSuited cX2_findSuited 3 none ∈ zTB := zTB_mem 815 (by decide +kernel) rfl
theorem zw_684 : Cond.instanceMethod yX2_findSuited ∈ zTB := zTB_mem 814 (by decide +kernel) rfl
theorem zsel_X2_findSuited : Cond.selects yX2_findSuited.cls yX2_findSuited yX2_findSuited ∈ zTB := zTB_mem 60 (by decide +kernel) rfl
theorem zw_691 : Cond.methodLink RX2 105 yX2_findServable ∈ zTB := zTB_mem 821 (by decide +kernel) rfl
theorem zds_X2_findServable : yX2_findServable.cls ≠ "java/lang/invoke/MethodHandle" ∧ yX2_findServable.cls ≠ "java/lang/invoke/VarHandle" ∧ (parseMethodDescriptor yX2_findServable.desc).map (fun d => d.parameters.length) = some 1 := ⟨by decide +kernel, by decide +kernel, by decide +kernel⟩
theorem zw_694 : Cond.code yX2_findServable cX2_findServable 3 none ∈ zTB := zTB_mem 824 (by decide +kernel) rfl
theorem zw_693 : Cond.instanceMethod yX2_findServable ∈ zTB := zTB_mem 823 (by decide +kernel) rfl
theorem zsel_X2_findServable : Cond.selects yX2_findServable.cls yX2_findServable yX2_findServable ∈ zTB := zTB_mem 62 (by decide +kernel) rfl
theorem zw_81 : Cond.fieldLinkNest RX2 108 (TX5 5).1 (TX5 5).2.1 (TX5 5).2.2.1 "StampSheets" ∈ zNL := zNL_mem 211 (by decide +kernel) rfl
theorem zw_705 : Cond.methodLink RX2 111 yX2_canServe ∈ zTB := zTB_mem 835 (by decide +kernel) rfl
theorem zds_X2_canServe : yX2_canServe.cls ≠ "java/lang/invoke/MethodHandle" ∧ yX2_canServe.cls ≠ "java/lang/invoke/VarHandle" ∧ (parseMethodDescriptor yX2_canServe.desc).map (fun d => d.parameters.length) = some 2 := ⟨by decide +kernel, by decide +kernel, by decide +kernel⟩
theorem zw_708 : Cond.code yX2_canServe cX2_canServe 3 (some .boolean) ∈ zTB := zTB_mem 838 (by decide +kernel) rfl
theorem zw_707 : Cond.instanceMethod yX2_canServe ∈ zTB := zTB_mem 837 (by decide +kernel) rfl
theorem zsel_X2_canServe : Cond.selects yX2_canServe.cls yX2_canServe yX2_canServe ∈ zTB := zTB_mem 64 (by decide +kernel) rfl
theorem zw_165 : Cond.fieldLink RX2 26 (TX2 4).1 (TX2 4).2.1 (TX2 4).2.2.1 ∈ zTB := zTB_mem 295 (by decide +kernel) rfl
theorem zw_686 : Cond.methodLink RX2 114 yX2_suitedBy ∈ zTB := zTB_mem 816 (by decide +kernel) rfl
theorem zds_X2_suitedBy : yX2_suitedBy.cls ≠ "java/lang/invoke/MethodHandle" ∧ yX2_suitedBy.cls ≠ "java/lang/invoke/VarHandle" ∧ (parseMethodDescriptor yX2_suitedBy.desc).map (fun d => d.parameters.length) = some 2 := ⟨by decide +kernel, by decide +kernel, by decide +kernel⟩
theorem zw_689 : Cond.code yX2_suitedBy cX2_suitedBy 5 (some .int) ∈ zTB := zTB_mem 819 (by decide +kernel) rfl
theorem zw_688 : Cond.instanceMethod yX2_suitedBy ∈ zTB := zTB_mem 818 (by decide +kernel) rfl
theorem zsel_X2_suitedBy : Cond.selects yX2_suitedBy.cls yX2_suitedBy yX2_suitedBy ∈ zTB := zTB_mem 61 (by decide +kernel) rfl
theorem zw_69 : Cond.fieldLinkNest RX2 117 (TX5 2).1 (TX5 2).2.1 (TX5 2).2.2.1 "StampSheets" ∈ zNL := zNL_mem 199 (by decide +kernel) rfl
theorem zw_690 : Cond.methodLinkNest RX2 120 yX5_isServed "StampSheets" ∈ zNL := zNL_mem 820 (by decide +kernel) rfl
theorem zds_X5_isServed : yX5_isServed.cls ≠ "java/lang/invoke/MethodHandle" ∧ yX5_isServed.cls ≠ "java/lang/invoke/VarHandle" ∧ (parseMethodDescriptor yX5_isServed.desc).map (fun d => d.parameters.length) = some 1 := ⟨by decide +kernel, by decide +kernel, by decide +kernel⟩
theorem zw_472 : Cond.code yX5_isServed cX5_isServed 2 (some .boolean) ∈ zTB := zTB_mem 602 (by decide +kernel) rfl
theorem zw_471 : Cond.instanceMethod yX5_isServed ∈ zTB := zTB_mem 601 (by decide +kernel) rfl
theorem zsel_X5_isServed : Cond.selects yX5_isServed.cls yX5_isServed yX5_isServed ∈ zTB := zTB_mem 30 (by decide +kernel) rfl
theorem zw_166 : Cond.fieldLink RX2 29 (TX2 5).1 (TX2 5).2.1 (TX2 5).2.2.1 ∈ zTB := zTB_mem 296 (by decide +kernel) rfl
theorem zw_695 : Cond.methodLink RX2 123 yX2_servableBy ∈ zTB := zTB_mem 825 (by decide +kernel) rfl
theorem zds_X2_servableBy : yX2_servableBy.cls ≠ "java/lang/invoke/MethodHandle" ∧ yX2_servableBy.cls ≠ "java/lang/invoke/VarHandle" ∧ (parseMethodDescriptor yX2_servableBy.desc).map (fun d => d.parameters.length) = some 1 := ⟨by decide +kernel, by decide +kernel, by decide +kernel⟩
theorem zw_698 : Cond.code yX2_servableBy cX2_servableBy 7 (some .int) ∈ zTB := zTB_mem 828 (by decide +kernel) rfl
theorem zw_697 : Cond.instanceMethod yX2_servableBy ∈ zTB := zTB_mem 827 (by decide +kernel) rfl
theorem zsel_X2_servableBy : Cond.selects yX2_servableBy.cls yX2_servableBy yX2_servableBy ∈ zTB := zTB_mem 63 (by decide +kernel) rfl
theorem zw_699 : Cond.methodLink RX2 126 yJ6_lowestOneBit_0f7a4 ∈ zTB := zTB_mem 829 (by decide +kernel) rfl
theorem zds_J6_lowestOneBit_0f7a4 : yJ6_lowestOneBit_0f7a4.cls ≠ "java/lang/invoke/MethodHandle" ∧ yJ6_lowestOneBit_0f7a4.cls ≠ "java/lang/invoke/VarHandle" ∧ (parseMethodDescriptor yJ6_lowestOneBit_0f7a4.desc).map (fun d => d.parameters.length) = some 1 := ⟨by decide +kernel, by decide +kernel, by decide +kernel⟩
theorem zw_570 : Cond.code yJ6_lowestOneBit_0f7a4 cJ6_lowestOneBit_0f7a4 1 (some .int) ∈ zTB := zTB_mem 700 (by decide +kernel) rfl
theorem zw_569 : Cond.static yJ6_lowestOneBit_0f7a4 ∈ zTB := zTB_mem 699 (by decide +kernel) rfl
theorem zw_700 : Cond.methodLink RX2 129 yX2_withOneMore ∈ zTB := zTB_mem 830 (by decide +kernel) rfl
theorem zds_X2_withOneMore : yX2_withOneMore.cls ≠ "java/lang/invoke/MethodHandle" ∧ yX2_withOneMore.cls ≠ "java/lang/invoke/VarHandle" ∧ (parseMethodDescriptor yX2_withOneMore.desc).map (fun d => d.parameters.length) = some 2 := ⟨by decide +kernel, by decide +kernel, by decide +kernel⟩
theorem zw_702 : Cond.code yX2_withOneMore cX2_withOneMore 4 (some .int) ∈ zTB := zTB_mem 832 (by decide +kernel) rfl
theorem zw_701 : Cond.static yX2_withOneMore ∈ zTB := zTB_mem 831 (by decide +kernel) rfl
theorem zw_703 : Cond.fieldLink RX2 132 "StampSheets$Finder" "WITHOUT" "[I" ∈ zTB := zTB_mem 833 (by decide +kernel) rfl
theorem zw_713 : Cond.methodLink RX2 135 yX2_firstPieceLeaving ∈ zTB := zTB_mem 843 (by decide +kernel) rfl
theorem zds_X2_firstPieceLeaving : yX2_firstPieceLeaving.cls ≠ "java/lang/invoke/MethodHandle" ∧ yX2_firstPieceLeaving.cls ≠ "java/lang/invoke/VarHandle" ∧ (parseMethodDescriptor yX2_firstPieceLeaving.desc).map (fun d => d.parameters.length) = some 3 := ⟨by decide +kernel, by decide +kernel, by decide +kernel⟩
theorem zw_716 : Cond.code yX2_firstPieceLeaving cX2_firstPieceLeaving 6 (some .int) ∈ zTB := zTB_mem 846 (by decide +kernel) rfl
theorem zw_715 : Cond.instanceMethod yX2_firstPieceLeaving ∈ zTB := zTB_mem 845 (by decide +kernel) rfl
theorem zsel_X2_firstPieceLeaving : Cond.selects yX2_firstPieceLeaving.cls yX2_firstPieceLeaving yX2_firstPieceLeaving ∈ zTB := zTB_mem 66 (by decide +kernel) rfl
theorem zw_168 : Cond.fieldLink RX2 35 (TX2 7).1 (TX2 7).2.1 (TX2 7).2.2.1 ∈ zTB := zTB_mem 298 (by decide +kernel) rfl
theorem zw_820 : Cond.methodLink RX2 139 yJ7_fill_d0a16 ∈ zTB := zTB_mem 950 (by decide +kernel) rfl
theorem zds_J7_fill_d0a16 : yJ7_fill_d0a16.cls ≠ "java/lang/invoke/MethodHandle" ∧ yJ7_fill_d0a16.cls ≠ "java/lang/invoke/VarHandle" ∧ (parseMethodDescriptor yJ7_fill_d0a16.desc).map (fun d => d.parameters.length) = some 2 := ⟨by decide +kernel, by decide +kernel, by decide +kernel⟩
theorem zw_822 : Cond.code yJ7_fill_d0a16 cJ7_fill_d0a16 5 none ∈ zTB := zTB_mem 952 (by decide +kernel) rfl
theorem zw_821 : Cond.static yJ7_fill_d0a16 ∈ zTB := zTB_mem 951 (by decide +kernel) rfl
theorem zw_823 : Cond.methodLinkNest RX2 142 yX7_powerOf "StampSheets" ∈ zNL := zNL_mem 953 (by decide +kernel) rfl
theorem zds_X7_powerOf : yX7_powerOf.cls ≠ "java/lang/invoke/MethodHandle" ∧ yX7_powerOf.cls ≠ "java/lang/invoke/VarHandle" ∧ (parseMethodDescriptor yX7_powerOf.desc).map (fun d => d.parameters.length) = some 2 := ⟨by decide +kernel, by decide +kernel, by decide +kernel⟩
theorem zw_815 : Cond.code yX7_powerOf cX7_powerOf 6 (some .long) ∈ zTB := zTB_mem 945 (by decide +kernel) rfl
theorem zw_1 : Cond.initialized RX7 ∈ zTB := zTB_mem 131 (by decide +kernel) rfl
theorem zw_814 : Cond.static yX7_powerOf ∈ zTB := zTB_mem 944 (by decide +kernel) rfl
theorem zw_824 : Cond.constantLong RX2 146 10 ∈ zTB := zTB_mem 954 (by decide +kernel) rfl
theorem zw_825 : Cond.methodLink RX2 148 yX2_addStamp ∈ zTB := zTB_mem 955 (by decide +kernel) rfl
theorem zds_X2_addStamp : yX2_addStamp.cls ≠ "java/lang/invoke/MethodHandle" ∧ yX2_addStamp.cls ≠ "java/lang/invoke/VarHandle" ∧ (parseMethodDescriptor yX2_addStamp.desc).map (fun d => d.parameters.length) = some 2 := ⟨by decide +kernel, by decide +kernel, by decide +kernel⟩
theorem zw_828 : Cond.code yX2_addStamp cX2_addStamp 6 none ∈ zTB := zTB_mem 958 (by decide +kernel) rfl
theorem zw_827 : Cond.instanceMethod yX2_addStamp ∈ zTB := zTB_mem 957 (by decide +kernel) rfl
theorem zsel_X2_addStamp : Cond.selects yX2_addStamp.cls yX2_addStamp yX2_addStamp ∈ zTB := zTB_mem 83 (by decide +kernel) rfl
theorem zw_31 : Cond.fieldLink RX3 15 (TX3 1).1 (TX3 1).2.1 (TX3 1).2.2.1 ∈ zTB := zTB_mem 161 (by decide +kernel) rfl
theorem zw_30 : Cond.fieldLink RX3 11 (TX3 0).1 (TX3 0).2.1 (TX3 0).2.2.1 ∈ zTB := zTB_mem 160 (by decide +kernel) rfl
theorem zw_33 : Cond.fieldLink RX3 19 (TX3 2).1 (TX3 2).2.1 (TX3 2).2.2.1 ∈ zTB := zTB_mem 163 (by decide +kernel) rfl
theorem zw_349 : Cond.methodLink RX3 34 yX3_step ∈ zTB := zTB_mem 479 (by decide +kernel) rfl
theorem zds_X3_step : yX3_step.cls ≠ "java/lang/invoke/MethodHandle" ∧ yX3_step.cls ≠ "java/lang/invoke/VarHandle" ∧ (parseMethodDescriptor yX3_step.desc).map (fun d => d.parameters.length) = some 0 := ⟨by decide +kernel, by decide +kernel, by decide +kernel⟩
theorem zw_352 : Cond.code yX3_step cX3_step 2 none ∈ zTB := zTB_mem 482 (by decide +kernel) rfl
theorem zw_2 : Cond.initialized RX3 ∈ zTB := zTB_mem 132 (by decide +kernel) rfl
theorem zw_351 : Cond.instanceMethod yX3_step ∈ zTB := zTB_mem 481 (by decide +kernel) rfl
theorem zsel_X3_step : Cond.selects yX3_step.cls yX3_step yX3_step ∈ zTB := zTB_mem 7 (by decide +kernel) rfl
theorem zw_360 : Cond.methodLink RX3 37 yX3_readLaw ∈ zTB := zTB_mem 490 (by decide +kernel) rfl
theorem zds_X3_readLaw : yX3_readLaw.cls ≠ "java/lang/invoke/MethodHandle" ∧ yX3_readLaw.cls ≠ "java/lang/invoke/VarHandle" ∧ (parseMethodDescriptor yX3_readLaw.desc).map (fun d => d.parameters.length) = some 1 := ⟨by decide +kernel, by decide +kernel, by decide +kernel⟩
theorem zw_363 : Cond.code yX3_readLaw cX3_readLaw 5 (some .boolean) ∈ zTB := zTB_mem 493 (by decide +kernel) rfl
theorem zw_362 : Cond.instanceMethod yX3_readLaw ∈ zTB := zTB_mem 492 (by decide +kernel) rfl
theorem zsel_X3_readLaw : Cond.selects yX3_readLaw.cls yX3_readLaw yX3_readLaw ∈ zTB := zTB_mem 9 (by decide +kernel) rfl
theorem zw_388 : Cond.methodLink RX3 41 yX3_readStamps ∈ zTB := zTB_mem 518 (by decide +kernel) rfl
theorem zds_X3_readStamps : yX3_readStamps.cls ≠ "java/lang/invoke/MethodHandle" ∧ yX3_readStamps.cls ≠ "java/lang/invoke/VarHandle" ∧ (parseMethodDescriptor yX3_readStamps.desc).map (fun d => d.parameters.length) = some 1 := ⟨by decide +kernel, by decide +kernel, by decide +kernel⟩
theorem zw_391 : Cond.code yX3_readStamps cX3_readStamps 5 (some .boolean) ∈ zTB := zTB_mem 521 (by decide +kernel) rfl
theorem zw_390 : Cond.instanceMethod yX3_readStamps ∈ zTB := zTB_mem 520 (by decide +kernel) rfl
theorem zsel_X3_readStamps : Cond.selects yX3_readStamps.cls yX3_readStamps yX3_readStamps ∈ zTB := zTB_mem 15 (by decide +kernel) rfl
theorem zw_400 : Cond.methodLink RX3 44 yX3_readCustomers ∈ zTB := zTB_mem 530 (by decide +kernel) rfl
theorem zds_X3_readCustomers : yX3_readCustomers.cls ≠ "java/lang/invoke/MethodHandle" ∧ yX3_readCustomers.cls ≠ "java/lang/invoke/VarHandle" ∧ (parseMethodDescriptor yX3_readCustomers.desc).map (fun d => d.parameters.length) = some 1 := ⟨by decide +kernel, by decide +kernel, by decide +kernel⟩
theorem zw_403 : Cond.code yX3_readCustomers cX3_readCustomers 5 (some .boolean) ∈ zTB := zTB_mem 533 (by decide +kernel) rfl
theorem zw_402 : Cond.instanceMethod yX3_readCustomers ∈ zTB := zTB_mem 532 (by decide +kernel) rfl
theorem zsel_X3_readCustomers : Cond.selects yX3_readCustomers.cls yX3_readCustomers yX3_readCustomers ∈ zTB := zTB_mem 18 (by decide +kernel) rfl
theorem zw_364 : Cond.methodLink RX3 47 yX3_takes ∈ zTB := zTB_mem 494 (by decide +kernel) rfl
theorem zds_X3_takes : yX3_takes.cls ≠ "java/lang/invoke/MethodHandle" ∧ yX3_takes.cls ≠ "java/lang/invoke/VarHandle" ∧ (parseMethodDescriptor yX3_takes.desc).map (fun d => d.parameters.length) = some 1 := ⟨by decide +kernel, by decide +kernel, by decide +kernel⟩
theorem zw_367 : Cond.code yX3_takes cX3_takes 2 (some .boolean) ∈ zTB := zTB_mem 497 (by decide +kernel) rfl
theorem zw_366 : Cond.instanceMethod yX3_takes ∈ zTB := zTB_mem 496 (by decide +kernel) rfl
theorem zsel_X3_takes : Cond.selects yX3_takes.cls yX3_takes yX3_takes ∈ zTB := zTB_mem 10 (by decide +kernel) rfl
theorem zw_372 : Cond.methodLink RX3 51 yX3_takeNumber ∈ zTB := zTB_mem 502 (by decide +kernel) rfl
theorem zds_X3_takeNumber : yX3_takeNumber.cls ≠ "java/lang/invoke/MethodHandle" ∧ yX3_takeNumber.cls ≠ "java/lang/invoke/VarHandle" ∧ (parseMethodDescriptor yX3_takeNumber.desc).map (fun d => d.parameters.length) = some 2 := ⟨by decide +kernel, by decide +kernel, by decide +kernel⟩
theorem zw_375 : Cond.code yX3_takeNumber cX3_takeNumber 4 (some .int) ∈ zTB := zTB_mem 505 (by decide +kernel) rfl
theorem zw_374 : Cond.instanceMethod yX3_takeNumber ∈ zTB := zTB_mem 504 (by decide +kernel) rfl
theorem zsel_X3_takeNumber : Cond.selects yX3_takeNumber.cls yX3_takeNumber yX3_takeNumber ∈ zTB := zTB_mem 12 (by decide +kernel) rfl
theorem zw_376 : Cond.methodLink RX3 55 yJ9_min_7cf53 ∈ zTB := zTB_mem 506 (by decide +kernel) rfl
theorem zw_379 : Cond.methodLinkNest RX3 60 yX5_begin "StampSheets" ∈ zNL := zNL_mem 509 (by decide +kernel) rfl
theorem zds_X5_begin : yX5_begin.cls ≠ "java/lang/invoke/MethodHandle" ∧ yX5_begin.cls ≠ "java/lang/invoke/VarHandle" ∧ (parseMethodDescriptor yX5_begin.desc).map (fun d => d.parameters.length) = some 3 := ⟨by decide +kernel, by decide +kernel, by decide +kernel⟩
theorem zw_382 : Cond.code yX5_begin cX5_begin 5 none ∈ zTB := zTB_mem 512 (by decide +kernel) rfl
theorem zw_381 : Cond.instanceMethod yX5_begin ∈ zTB := zTB_mem 511 (by decide +kernel) rfl
theorem zsel_X5_begin : Cond.selects yX5_begin.cls yX5_begin yX5_begin ∈ zTB := zTB_mem 13 (by decide +kernel) rfl
theorem zw_66 : Cond.fieldLinkNest RX3 66 (TX5 1).1 (TX5 1).2.1 (TX5 1).2.2.1 "StampSheets" ∈ zNL := zNL_mem 196 (by decide +kernel) rfl
theorem zw_392 : Cond.methodLink RX3 69 yX3_kindOfSort ∈ zTB := zTB_mem 522 (by decide +kernel) rfl
theorem zds_X3_kindOfSort : yX3_kindOfSort.cls ≠ "java/lang/invoke/MethodHandle" ∧ yX3_kindOfSort.cls ≠ "java/lang/invoke/VarHandle" ∧ (parseMethodDescriptor yX3_kindOfSort.desc).map (fun d => d.parameters.length) = some 0 := ⟨by decide +kernel, by decide +kernel, by decide +kernel⟩
theorem zw_395 : Cond.code yX3_kindOfSort cX3_kindOfSort 1 (some .int) ∈ zTB := zTB_mem 525 (by decide +kernel) rfl
theorem zw_394 : Cond.instanceMethod yX3_kindOfSort ∈ zTB := zTB_mem 524 (by decide +kernel) rfl
theorem zsel_X3_kindOfSort : Cond.selects yX3_kindOfSort.cls yX3_kindOfSort yX3_kindOfSort ∈ zTB := zTB_mem 16 (by decide +kernel) rfl
theorem zw_368 : Cond.methodLink RX3 73 yX3_refuse ∈ zTB := zTB_mem 498 (by decide +kernel) rfl
theorem zds_X3_refuse : yX3_refuse.cls ≠ "java/lang/invoke/MethodHandle" ∧ yX3_refuse.cls ≠ "java/lang/invoke/VarHandle" ∧ (parseMethodDescriptor yX3_refuse.desc).map (fun d => d.parameters.length) = some 1 := ⟨by decide +kernel, by decide +kernel, by decide +kernel⟩
theorem zw_371 : Cond.code yX3_refuse cX3_refuse 2 (some .boolean) ∈ zTB := zTB_mem 501 (by decide +kernel) rfl
theorem zw_370 : Cond.instanceMethod yX3_refuse ∈ zTB := zTB_mem 500 (by decide +kernel) rfl
theorem zsel_X3_refuse : Cond.selects yX3_refuse.cls yX3_refuse yX3_refuse ∈ zTB := zTB_mem 11 (by decide +kernel) rfl
theorem zw_396 : Cond.methodLinkNest RX3 76 yX5_put "StampSheets" ∈ zNL := zNL_mem 526 (by decide +kernel) rfl
theorem zds_X5_put : yX5_put.cls ≠ "java/lang/invoke/MethodHandle" ∧ yX5_put.cls ≠ "java/lang/invoke/VarHandle" ∧ (parseMethodDescriptor yX5_put.desc).map (fun d => d.parameters.length) = some 3 := ⟨by decide +kernel, by decide +kernel, by decide +kernel⟩
theorem zw_399 : Cond.code yX5_put cX5_put 4 none ∈ zTB := zTB_mem 529 (by decide +kernel) rfl
theorem zw_398 : Cond.instanceMethod yX5_put ∈ zTB := zTB_mem 528 (by decide +kernel) rfl
theorem zsel_X5_put : Cond.selects yX5_put.cls yX5_put yX5_put ∈ zTB := zTB_mem 17 (by decide +kernel) rfl
theorem zw_36 : Cond.fieldLink RX3 25 (TX3 4).1 (TX3 4).2.1 (TX3 4).2.2.1 ∈ zTB := zTB_mem 166 (by decide +kernel) rfl
theorem zw_404 : Cond.methodLinkNest RX3 79 yX5_add "StampSheets" ∈ zNL := zNL_mem 534 (by decide +kernel) rfl
theorem zds_X5_add : yX5_add.cls ≠ "java/lang/invoke/MethodHandle" ∧ yX5_add.cls ≠ "java/lang/invoke/VarHandle" ∧ (parseMethodDescriptor yX5_add.desc).map (fun d => d.parameters.length) = some 2 := ⟨by decide +kernel, by decide +kernel, by decide +kernel⟩
theorem zw_407 : Cond.code yX5_add cX5_add 3 none ∈ zTB := zTB_mem 537 (by decide +kernel) rfl
theorem zw_406 : Cond.instanceMethod yX5_add ∈ zTB := zTB_mem 536 (by decide +kernel) rfl
theorem zsel_X5_add : Cond.selects yX5_add.cls yX5_add yX5_add ∈ zTB := zTB_mem 19 (by decide +kernel) rfl
theorem zw_37 : Cond.fieldLink RX3 28 (TX3 5).1 (TX3 5).2.1 (TX3 5).2.2.1 ∈ zTB := zTB_mem 167 (by decide +kernel) rfl
theorem zw_38 : Cond.fieldLink RX3 31 (TX3 6).1 (TX3 6).2.1 (TX3 6).2.2.1 ∈ zTB := zTB_mem 168 (by decide +kernel) rfl
theorem zw_34 : Cond.fieldLink RX3 22 (TX3 3).1 (TX3 3).2.1 (TX3 3).2.2.1 ∈ zTB := zTB_mem 164 (by decide +kernel) rfl
theorem zw_353 : Cond.methodLink RX3 83 yX3_isFigureSign ∈ zTB := zTB_mem 483 (by decide +kernel) rfl
theorem zds_X3_isFigureSign : yX3_isFigureSign.cls ≠ "java/lang/invoke/MethodHandle" ∧ yX3_isFigureSign.cls ≠ "java/lang/invoke/VarHandle" ∧ (parseMethodDescriptor yX3_isFigureSign.desc).map (fun d => d.parameters.length) = some 1 := ⟨by decide +kernel, by decide +kernel, by decide +kernel⟩
theorem zw_355 : Cond.code yX3_isFigureSign cX3_isFigureSign 1 (some .boolean) ∈ zTB := zTB_mem 485 (by decide +kernel) rfl
theorem zw_354 : Cond.static yX3_isFigureSign ∈ zTB := zTB_mem 484 (by decide +kernel) rfl
theorem zw_356 : Cond.methodLink RX3 86 yX3_stepOverNumber ∈ zTB := zTB_mem 486 (by decide +kernel) rfl
theorem zds_X3_stepOverNumber : yX3_stepOverNumber.cls ≠ "java/lang/invoke/MethodHandle" ∧ yX3_stepOverNumber.cls ≠ "java/lang/invoke/VarHandle" ∧ (parseMethodDescriptor yX3_stepOverNumber.desc).map (fun d => d.parameters.length) = some 0 := ⟨by decide +kernel, by decide +kernel, by decide +kernel⟩
theorem zw_359 : Cond.code yX3_stepOverNumber cX3_stepOverNumber 1 none ∈ zTB := zTB_mem 489 (by decide +kernel) rfl
theorem zw_358 : Cond.instanceMethod yX3_stepOverNumber ∈ zTB := zTB_mem 488 (by decide +kernel) rfl
theorem zsel_X3_stepOverNumber : Cond.selects yX3_stepOverNumber.cls yX3_stepOverNumber yX3_stepOverNumber ∈ zTB := zTB_mem 8 (by decide +kernel) rfl
theorem zw_239 : Cond.fieldLink RX4 15 (TX4 1).1 (TX4 1).2.1 (TX4 1).2.2.1 ∈ zTB := zTB_mem 369 (by decide +kernel) rfl
theorem zw_241 : Cond.fieldLink RX4 19 (TX4 2).1 (TX4 2).2.1 (TX4 2).2.2.1 ∈ zTB := zTB_mem 371 (by decide +kernel) rfl
theorem zw_243 : Cond.fieldLink RX4 23 (TX4 3).1 (TX4 3).2.1 (TX4 3).2.2.1 ∈ zTB := zTB_mem 373 (by decide +kernel) rfl
theorem zw_236 : Cond.fieldLink RX4 9 (TX4 0).1 (TX4 0).2.1 (TX4 0).2.2.1 ∈ zTB := zTB_mem 366 (by decide +kernel) rfl
theorem zw_302 : Cond.methodLink RX4 26 yJ7_fill_53178 ∈ zTB := zTB_mem 432 (by decide +kernel) rfl
theorem zw_62 : Cond.fieldLink RX5 9 (TX5 0).1 (TX5 0).2.1 (TX5 0).2.2.1 ∈ zTB := zTB_mem 192 (by decide +kernel) rfl
theorem zw_383 : Cond.methodLink RX5 55 yJ9_min_7cf53 ∈ zTB := zTB_mem 513 (by decide +kernel) rfl
theorem zw_64 : Cond.fieldLink RX5 15 (TX5 1).1 (TX5 1).2.1 (TX5 1).2.2.1 ∈ zTB := zTB_mem 194 (by decide +kernel) rfl
theorem zw_68 : Cond.fieldLink RX5 18 (TX5 2).1 (TX5 2).2.1 (TX5 2).2.2.1 ∈ zTB := zTB_mem 198 (by decide +kernel) rfl
theorem zw_71 : Cond.fieldLink RX5 21 (TX5 3).1 (TX5 3).2.1 (TX5 3).2.2.1 ∈ zTB := zTB_mem 201 (by decide +kernel) rfl
theorem zw_75 : Cond.fieldLink RX5 24 (TX5 4).1 (TX5 4).2.1 (TX5 4).2.2.1 ∈ zTB := zTB_mem 205 (by decide +kernel) rfl
theorem zw_78 : Cond.fieldLink RX5 27 (TX5 5).1 (TX5 5).2.1 (TX5 5).2.2.1 ∈ zTB := zTB_mem 208 (by decide +kernel) rfl
theorem zw_82 : Cond.fieldLink RX5 30 (TX5 6).1 (TX5 6).2.1 (TX5 6).2.2.1 ∈ zTB := zTB_mem 212 (by decide +kernel) rfl
theorem zw_85 : Cond.fieldLink RX5 33 (TX5 7).1 (TX5 7).2.1 (TX5 7).2.2.1 ∈ zTB := zTB_mem 215 (by decide +kernel) rfl
theorem zw_86 : Cond.fieldLink RX5 36 (TX5 8).1 (TX5 8).2.1 (TX5 8).2.2.1 ∈ zTB := zTB_mem 216 (by decide +kernel) rfl
theorem zw_384 : Cond.methodLink RX5 61 yX5_findNext ∈ zTB := zTB_mem 514 (by decide +kernel) rfl
theorem zds_X5_findNext : yX5_findNext.cls ≠ "java/lang/invoke/MethodHandle" ∧ yX5_findNext.cls ≠ "java/lang/invoke/VarHandle" ∧ (parseMethodDescriptor yX5_findNext.desc).map (fun d => d.parameters.length) = some 1 := ⟨by decide +kernel, by decide +kernel, by decide +kernel⟩
theorem zw_387 : Cond.code yX5_findNext cX5_findNext 3 (some .int) ∈ zTB := zTB_mem 517 (by decide +kernel) rfl
theorem zw_386 : Cond.instanceMethod yX5_findNext ∈ zTB := zTB_mem 516 (by decide +kernel) rfl
theorem zsel_X5_findNext : Cond.selects yX5_findNext.cls yX5_findNext yX5_findNext ∈ zTB := zTB_mem 14 (by decide +kernel) rfl
theorem zw_89 : Cond.fieldLink RX5 40 (TX5 9).1 (TX5 9).2.1 (TX5 9).2.2.1 ∈ zTB := zTB_mem 219 (by decide +kernel) rfl
theorem zw_92 : Cond.fieldLink RX5 43 (TX5 10).1 (TX5 10).2.1 (TX5 10).2.2.1 ∈ zTB := zTB_mem 222 (by decide +kernel) rfl
theorem zw_96 : Cond.fieldLink RX5 46 (TX5 11).1 (TX5 11).2.1 (TX5 11).2.2.1 ∈ zTB := zTB_mem 226 (by decide +kernel) rfl
theorem zw_98 : Cond.fieldLink RX5 49 (TX5 12).1 (TX5 12).2.1 (TX5 12).2.2.1 ∈ zTB := zTB_mem 228 (by decide +kernel) rfl
theorem zw_100 : Cond.fieldLink RX5 52 (TX5 13).1 (TX5 13).2.1 (TX5 13).2.2.1 ∈ zTB := zTB_mem 230 (by decide +kernel) rfl
theorem zw_417 : Cond.methodLink RX5 65 arraycopyName ∈ zTB := zTB_mem 547 (by decide +kernel) rfl
theorem zw_327 : Cond.native arraycopyName ∈ zTB := zTB_mem 457 (by decide +kernel) rfl
theorem zw_326 : Cond.static arraycopyName ∈ zTB := zTB_mem 456 (by decide +kernel) rfl
theorem zw_11 : Cond.initialized "java/lang/System" ∈ zTB := zTB_mem 141 (by decide +kernel) rfl
theorem zw_559 : Cond.methodLink RX5 71 yX5_isServed ∈ zTB := zTB_mem 689 (by decide +kernel) rfl
theorem zw_541 : Cond.methodLink RX5 75 yX5_isOn ∈ zTB := zTB_mem 671 (by decide +kernel) rfl
theorem zds_X5_isOn : yX5_isOn.cls ≠ "java/lang/invoke/MethodHandle" ∧ yX5_isOn.cls ≠ "java/lang/invoke/VarHandle" ∧ (parseMethodDescriptor yX5_isOn.desc).map (fun d => d.parameters.length) = some 1 := ⟨by decide +kernel, by decide +kernel, by decide +kernel⟩
theorem zw_512 : Cond.code yX5_isOn cX5_isOn 2 (some .boolean) ∈ zTB := zTB_mem 642 (by decide +kernel) rfl
theorem zw_511 : Cond.instanceMethod yX5_isOn ∈ zTB := zTB_mem 641 (by decide +kernel) rfl
theorem zsel_X5_isOn : Cond.selects yX5_isOn.cls yX5_isOn yX5_isOn ∈ zTB := zTB_mem 37 (by decide +kernel) rfl
theorem zw_546 : Cond.constant RX5 78 (-1000000) ∈ zTB := zTB_mem 676 (by decide +kernel) rfl
theorem zw_477 : Cond.methodLink RX5 79 yX5_payOfStamp ∈ zTB := zTB_mem 607 (by decide +kernel) rfl
theorem zds_X5_payOfStamp : yX5_payOfStamp.cls ≠ "java/lang/invoke/MethodHandle" ∧ yX5_payOfStamp.cls ≠ "java/lang/invoke/VarHandle" ∧ (parseMethodDescriptor yX5_payOfStamp.desc).map (fun d => d.parameters.length) = some 2 := ⟨by decide +kernel, by decide +kernel, by decide +kernel⟩
theorem zw_480 : Cond.code yX5_payOfStamp cX5_payOfStamp 3 (some .int) ∈ zTB := zTB_mem 610 (by decide +kernel) rfl
theorem zw_479 : Cond.instanceMethod yX5_payOfStamp ∈ zTB := zTB_mem 609 (by decide +kernel) rfl
theorem zsel_X5_payOfStamp : Cond.selects yX5_payOfStamp.cls yX5_payOfStamp yX5_payOfStamp ∈ zTB := zTB_mem 32 (by decide +kernel) rfl
theorem zw_481 : Cond.methodLink RX5 82 yJ6_bitCount_0f7a4 ∈ zTB := zTB_mem 611 (by decide +kernel) rfl
theorem zw_575 : Cond.methodLink RX5 87 yX5_nextTo ∈ zTB := zTB_mem 705 (by decide +kernel) rfl
theorem zds_X5_nextTo : yX5_nextTo.cls ≠ "java/lang/invoke/MethodHandle" ∧ yX5_nextTo.cls ≠ "java/lang/invoke/VarHandle" ∧ (parseMethodDescriptor yX5_nextTo.desc).map (fun d => d.parameters.length) = some 1 := ⟨by decide +kernel, by decide +kernel, by decide +kernel⟩
theorem zw_578 : Cond.code yX5_nextTo cX5_nextTo 4 (some .int) ∈ zTB := zTB_mem 708 (by decide +kernel) rfl
theorem zw_577 : Cond.instanceMethod yX5_nextTo ∈ zTB := zTB_mem 707 (by decide +kernel) rfl
theorem zsel_X5_nextTo : Cond.selects yX5_nextTo.cls yX5_nextTo yX5_nextTo ∈ zTB := zTB_mem 45 (by decide +kernel) rfl
theorem zw_568 : Cond.methodLink RX5 90 yJ6_lowestOneBit_0f7a4 ∈ zTB := zTB_mem 698 (by decide +kernel) rfl
theorem zw_571 : Cond.methodLink RX5 93 yX5_partAround ∈ zTB := zTB_mem 701 (by decide +kernel) rfl
theorem zds_X5_partAround : yX5_partAround.cls ≠ "java/lang/invoke/MethodHandle" ∧ yX5_partAround.cls ≠ "java/lang/invoke/VarHandle" ∧ (parseMethodDescriptor yX5_partAround.desc).map (fun d => d.parameters.length) = some 2 := ⟨by decide +kernel, by decide +kernel, by decide +kernel⟩
theorem zw_574 : Cond.code yX5_partAround cX5_partAround 5 (some .int) ∈ zTB := zTB_mem 704 (by decide +kernel) rfl
theorem zw_573 : Cond.instanceMethod yX5_partAround ∈ zTB := zTB_mem 703 (by decide +kernel) rfl
theorem zsel_X5_partAround : Cond.selects yX5_partAround.cls yX5_partAround yX5_partAround ∈ zTB := zTB_mem 44 (by decide +kernel) rfl
theorem zw_749 : Cond.methodLink RX5 96 yX5_stepsBetween ∈ zTB := zTB_mem 879 (by decide +kernel) rfl
theorem zds_X5_stepsBetween : yX5_stepsBetween.cls ≠ "java/lang/invoke/MethodHandle" ∧ yX5_stepsBetween.cls ≠ "java/lang/invoke/VarHandle" ∧ (parseMethodDescriptor yX5_stepsBetween.desc).map (fun d => d.parameters.length) = some 2 := ⟨by decide +kernel, by decide +kernel, by decide +kernel⟩
theorem zw_744 : Cond.code yX5_stepsBetween cX5_stepsBetween 5 (some .int) ∈ zTB := zTB_mem 874 (by decide +kernel) rfl
theorem zw_743 : Cond.instanceMethod yX5_stepsBetween ∈ zTB := zTB_mem 873 (by decide +kernel) rfl
theorem zsel_X5_stepsBetween : Cond.selects yX5_stepsBetween.cls yX5_stepsBetween yX5_stepsBetween ∈ zTB := zTB_mem 70 (by decide +kernel) rfl
theorem zw_223 : Cond.fieldLink RX6 18 (TX6 2).1 (TX6 2).2.1 (TX6 2).2.2.1 ∈ zTB := zTB_mem 353 (by decide +kernel) rfl
theorem zw_237 : Cond.fieldLinkNest RX6 22 (TX4 0).1 (TX4 0).2.1 (TX4 0).2.2.1 "StampSheets" ∈ zNL := zNL_mem 367 (by decide +kernel) rfl
theorem zw_221 : Cond.fieldLink RX6 9 (TX6 0).1 (TX6 0).2.1 (TX6 0).2.2.1 ∈ zTB := zTB_mem 351 (by decide +kernel) rfl
theorem zw_222 : Cond.fieldLink RX6 15 (TX6 1).1 (TX6 1).2.1 (TX6 1).2.2.1 ∈ zTB := zTB_mem 352 (by decide +kernel) rfl
theorem zw_782 : Cond.methodLinkNest RX6 27 yX5_paysOf "StampSheets" ∈ zNL := zNL_mem 912 (by decide +kernel) rfl
theorem zw_289 : Cond.methodLink RX7 69 yX7_isRow ∈ zTB := zTB_mem 419 (by decide +kernel) rfl
theorem zds_X7_isRow : yX7_isRow.cls ≠ "java/lang/invoke/MethodHandle" ∧ yX7_isRow.cls ≠ "java/lang/invoke/VarHandle" ∧ (parseMethodDescriptor yX7_isRow.desc).map (fun d => d.parameters.length) = some 1 := ⟨by decide +kernel, by decide +kernel, by decide +kernel⟩
theorem zw_291 : Cond.code yX7_isRow cX7_isRow 1 (some .boolean) ∈ zTB := zTB_mem 421 (by decide +kernel) rfl
theorem zw_290 : Cond.static yX7_isRow ∈ zTB := zTB_mem 420 (by decide +kernel) rfl
theorem zw_292 : Cond.constant RX7 73 (-1000001) ∈ zTB := zTB_mem 422 (by decide +kernel) rfl
theorem zw_293 : Cond.methodLink RX7 74 yX7_found ∈ zTB := zTB_mem 423 (by decide +kernel) rfl
theorem zds_X7_found : yX7_found.cls ≠ "java/lang/invoke/MethodHandle" ∧ yX7_found.cls ≠ "java/lang/invoke/VarHandle" ∧ (parseMethodDescriptor yX7_found.desc).map (fun d => d.parameters.length) = some 1 := ⟨by decide +kernel, by decide +kernel, by decide +kernel⟩
theorem zw_296 : Cond.code yX7_found cX7_found 2 (some .int) ∈ zTB := zTB_mem 426 (by decide +kernel) rfl
theorem zw_295 : Cond.instanceMethod yX7_found ∈ zTB := zTB_mem 425 (by decide +kernel) rfl
theorem zsel_X7_found : Cond.selects yX7_found.cls yX7_found yX7_found ∈ zTB := zTB_mem 0 (by decide +kernel) rfl
theorem zw_254 : Cond.fieldLink RX7 11 (TX7 0).1 (TX7 0).2.1 (TX7 0).2.2.1 ∈ zTB := zTB_mem 384 (by decide +kernel) rfl
theorem zw_298 : Cond.methodLinkNest RX7 78 yX4_begin "StampSheets" ∈ zNL := zNL_mem 428 (by decide +kernel) rfl
theorem zds_X4_begin : yX4_begin.cls ≠ "java/lang/invoke/MethodHandle" ∧ yX4_begin.cls ≠ "java/lang/invoke/VarHandle" ∧ (parseMethodDescriptor yX4_begin.desc).map (fun d => d.parameters.length) = some 2 := ⟨by decide +kernel, by decide +kernel, by decide +kernel⟩
theorem zw_301 : Cond.code yX4_begin cX4_begin 3 none ∈ zTB := zTB_mem 431 (by decide +kernel) rfl
theorem zw_8 : Cond.initialized RX4 ∈ zTB := zTB_mem 138 (by decide +kernel) rfl
theorem zw_300 : Cond.instanceMethod yX4_begin ∈ zTB := zTB_mem 430 (by decide +kernel) rfl
theorem zsel_X4_begin : Cond.selects yX4_begin.cls yX4_begin yX4_begin ∈ zTB := zTB_mem 1 (by decide +kernel) rfl
theorem zw_305 : Cond.methodLink RX7 82 yX7_fine ∈ zTB := zTB_mem 435 (by decide +kernel) rfl
theorem zds_X7_fine : yX7_fine.cls ≠ "java/lang/invoke/MethodHandle" ∧ yX7_fine.cls ≠ "java/lang/invoke/VarHandle" ∧ (parseMethodDescriptor yX7_fine.desc).map (fun d => d.parameters.length) = some 1 := ⟨by decide +kernel, by decide +kernel, by decide +kernel⟩
theorem zw_308 : Cond.code yX7_fine cX7_fine 2 (some .int) ∈ zTB := zTB_mem 438 (by decide +kernel) rfl
theorem zw_307 : Cond.instanceMethod yX7_fine ∈ zTB := zTB_mem 437 (by decide +kernel) rfl
theorem zsel_X7_fine : Cond.selects yX7_fine.cls yX7_fine yX7_fine ∈ zTB := zTB_mem 2 (by decide +kernel) rfl
theorem zw_240 : Cond.fieldLinkNest RX7 85 (TX4 1).1 (TX4 1).2.1 (TX4 1).2.2.1 "StampSheets" ∈ zNL := zNL_mem 370 (by decide +kernel) rfl
theorem zw_313 : Cond.methodLinkNest RX7 89 yX4_reaches "StampSheets" ∈ zNL := zNL_mem 443 (by decide +kernel) rfl
theorem zds_X4_reaches : yX4_reaches.cls ≠ "java/lang/invoke/MethodHandle" ∧ yX4_reaches.cls ≠ "java/lang/invoke/VarHandle" ∧ (parseMethodDescriptor yX4_reaches.desc).map (fun d => d.parameters.length) = some 2 := ⟨by decide +kernel, by decide +kernel, by decide +kernel⟩
theorem zw_316 : Cond.code yX4_reaches cX4_reaches 3 (some .boolean) ∈ zTB := zTB_mem 446 (by decide +kernel) rfl
theorem zw_315 : Cond.instanceMethod yX4_reaches ∈ zTB := zTB_mem 445 (by decide +kernel) rfl
theorem zsel_X4_reaches : Cond.selects yX4_reaches.cls yX4_reaches yX4_reaches ∈ zTB := zTB_mem 3 (by decide +kernel) rfl
theorem zw_317 : Cond.methodLinkNest RX7 93 yX4_put "StampSheets" ∈ zNL := zNL_mem 447 (by decide +kernel) rfl
theorem zds_X4_put : yX4_put.cls ≠ "java/lang/invoke/MethodHandle" ∧ yX4_put.cls ≠ "java/lang/invoke/VarHandle" ∧ (parseMethodDescriptor yX4_put.desc).map (fun d => d.parameters.length) = some 2 := ⟨by decide +kernel, by decide +kernel, by decide +kernel⟩
theorem zw_320 : Cond.code yX4_put cX4_put 3 (some .int) ∈ zTB := zTB_mem 450 (by decide +kernel) rfl
theorem zw_319 : Cond.instanceMethod yX4_put ∈ zTB := zTB_mem 449 (by decide +kernel) rfl
theorem zsel_X4_put : Cond.selects yX4_put.cls yX4_put yX4_put ∈ zTB := zTB_mem 4 (by decide +kernel) rfl
theorem zw_242 : Cond.fieldLinkNest RX7 97 (TX4 2).1 (TX4 2).2.1 (TX4 2).2.2.1 "StampSheets" ∈ zNL := zNL_mem 372 (by decide +kernel) rfl
theorem zw_238 : Cond.fieldLinkNest RX7 100 (TX4 0).1 (TX4 0).2.1 (TX4 0).2.2.1 "StampSheets" ∈ zNL := zNL_mem 368 (by decide +kernel) rfl
theorem zw_325 : Cond.methodLink RX7 104 arraycopyName ∈ zTB := zTB_mem 455 (by decide +kernel) rfl
theorem zw_244 : Cond.fieldLinkNest RX7 110 (TX4 3).1 (TX4 3).2.1 (TX4 3).2.2.1 "StampSheets" ∈ zNL := zNL_mem 374 (by decide +kernel) rfl
theorem zw_255 : Cond.fieldLink RX7 18 (TX7 1).1 (TX7 1).2.1 (TX7 1).2.2.1 ∈ zTB := zTB_mem 385 (by decide +kernel) rfl
theorem zw_336 : Cond.methodLinkNest RX7 113 yX3_append "StampSheets" ∈ zNL := zNL_mem 466 (by decide +kernel) rfl
theorem zds_X3_append : yX3_append.cls ≠ "java/lang/invoke/MethodHandle" ∧ yX3_append.cls ≠ "java/lang/invoke/VarHandle" ∧ (parseMethodDescriptor yX3_append.desc).map (fun d => d.parameters.length) = some 1 := ⟨by decide +kernel, by decide +kernel, by decide +kernel⟩
theorem zw_339 : Cond.code yX3_append cX3_append 2 (some .boolean) ∈ zTB := zTB_mem 469 (by decide +kernel) rfl
theorem zw_338 : Cond.instanceMethod yX3_append ∈ zTB := zTB_mem 468 (by decide +kernel) rfl
theorem zsel_X3_append : Cond.selects yX3_append.cls yX3_append yX3_append ∈ zTB := zTB_mem 5 (by decide +kernel) rfl
theorem zw_32 : Cond.fieldLinkNest RX7 116 (TX3 1).1 (TX3 1).2.1 (TX3 1).2.2.1 "StampSheets" ∈ zNL := zNL_mem 162 (by decide +kernel) rfl
theorem zw_340 : Cond.constant RX7 119 (-1000003) ∈ zTB := zTB_mem 470 (by decide +kernel) rfl
theorem zw_257 : Cond.fieldLink RX7 29 (TX7 3).1 (TX7 3).2.1 (TX7 3).2.2.1 ∈ zTB := zTB_mem 387 (by decide +kernel) rfl
theorem zw_345 : Cond.methodLinkNest RX7 120 yX3_read "StampSheets" ∈ zNL := zNL_mem 475 (by decide +kernel) rfl
theorem zds_X3_read : yX3_read.cls ≠ "java/lang/invoke/MethodHandle" ∧ yX3_read.cls ≠ "java/lang/invoke/VarHandle" ∧ (parseMethodDescriptor yX3_read.desc).map (fun d => d.parameters.length) = some 1 := ⟨by decide +kernel, by decide +kernel, by decide +kernel⟩
theorem zw_348 : Cond.code yX3_read cX3_read 3 (some .boolean) ∈ zTB := zTB_mem 478 (by decide +kernel) rfl
theorem zw_347 : Cond.instanceMethod yX3_read ∈ zTB := zTB_mem 477 (by decide +kernel) rfl
theorem zsel_X3_read : Cond.selects yX3_read.cls yX3_read yX3_read ∈ zTB := zTB_mem 6 (by decide +kernel) rfl
theorem zw_408 : Cond.constant RX7 124 (-1000100) ∈ zTB := zTB_mem 538 (by decide +kernel) rfl
theorem zw_35 : Cond.fieldLinkNest RX7 125 (TX3 3).1 (TX3 3).2.1 (TX3 3).2.2.1 "StampSheets" ∈ zNL := zNL_mem 165 (by decide +kernel) rfl
theorem zw_409 : Cond.methodLink RX7 128 yX7_putInPlace ∈ zTB := zTB_mem 539 (by decide +kernel) rfl
theorem zds_X7_putInPlace : yX7_putInPlace.cls ≠ "java/lang/invoke/MethodHandle" ∧ yX7_putInPlace.cls ≠ "java/lang/invoke/VarHandle" ∧ (parseMethodDescriptor yX7_putInPlace.desc).map (fun d => d.parameters.length) = some 1 := ⟨by decide +kernel, by decide +kernel, by decide +kernel⟩
theorem zw_412 : Cond.code yX7_putInPlace cX7_putInPlace 2 none ∈ zTB := zTB_mem 542 (by decide +kernel) rfl
theorem zw_411 : Cond.instanceMethod yX7_putInPlace ∈ zTB := zTB_mem 541 (by decide +kernel) rfl
theorem zsel_X7_putInPlace : Cond.selects yX7_putInPlace.cls yX7_putInPlace yX7_putInPlace ∈ zTB := zTB_mem 20 (by decide +kernel) rfl
theorem zw_256 : Cond.fieldLink RX7 25 (TX7 2).1 (TX7 2).2.1 (TX7 2).2.2.1 ∈ zTB := zTB_mem 386 (by decide +kernel) rfl
theorem zw_67 : Cond.fieldLinkNest RX7 132 (TX5 1).1 (TX5 1).2.1 (TX5 1).2.2.1 "StampSheets" ∈ zNL := zNL_mem 197 (by decide +kernel) rfl
theorem zw_39 : Cond.fieldLinkNest RX7 135 (TX3 6).1 (TX3 6).2.1 (TX3 6).2.2.1 "StampSheets" ∈ zNL := zNL_mem 169 (by decide +kernel) rfl
theorem zw_259 : Cond.fieldLink RX7 39 (TX7 5).1 (TX7 5).2.1 (TX7 5).2.2.1 ∈ zTB := zTB_mem 389 (by decide +kernel) rfl
theorem zw_143 : Cond.fieldLinkNest RX7 138 (TX0 4).1 (TX0 4).2.1 (TX0 4).2.2.1 "StampSheets" ∈ zNL := zNL_mem 273 (by decide +kernel) rfl
theorem zw_440 : Cond.constant RX7 139 (-1000002) ∈ zTB := zTB_mem 570 (by decide +kernel) rfl
theorem zw_441 : Cond.methodLinkNest RX7 140 yX0_takeBackLatest "StampSheets" ∈ zNL := zNL_mem 571 (by decide +kernel) rfl
theorem zds_X0_takeBackLatest : yX0_takeBackLatest.cls ≠ "java/lang/invoke/MethodHandle" ∧ yX0_takeBackLatest.cls ≠ "java/lang/invoke/VarHandle" ∧ (parseMethodDescriptor yX0_takeBackLatest.desc).map (fun d => d.parameters.length) = some 1 := ⟨by decide +kernel, by decide +kernel, by decide +kernel⟩
theorem zw_444 : Cond.code yX0_takeBackLatest cX0_takeBackLatest 3 none ∈ zTB := zTB_mem 574 (by decide +kernel) rfl
theorem zw_4 : Cond.initialized RX0 ∈ zTB := zTB_mem 134 (by decide +kernel) rfl
theorem zw_443 : Cond.instanceMethod yX0_takeBackLatest ∈ zTB := zTB_mem 573 (by decide +kernel) rfl
theorem zsel_X0_takeBackLatest : Cond.selects yX0_takeBackLatest.cls yX0_takeBackLatest yX0_takeBackLatest ∈ zTB := zTB_mem 24 (by decide +kernel) rfl
theorem zw_457 : Cond.methodLink RX7 143 yX7_isCustomer ∈ zTB := zTB_mem 587 (by decide +kernel) rfl
theorem zds_X7_isCustomer : yX7_isCustomer.cls ≠ "java/lang/invoke/MethodHandle" ∧ yX7_isCustomer.cls ≠ "java/lang/invoke/VarHandle" ∧ (parseMethodDescriptor yX7_isCustomer.desc).map (fun d => d.parameters.length) = some 1 := ⟨by decide +kernel, by decide +kernel, by decide +kernel⟩
theorem zw_460 : Cond.code yX7_isCustomer cX7_isCustomer 2 (some .boolean) ∈ zTB := zTB_mem 590 (by decide +kernel) rfl
theorem zw_459 : Cond.instanceMethod yX7_isCustomer ∈ zTB := zTB_mem 589 (by decide +kernel) rfl
theorem zsel_X7_isCustomer : Cond.selects yX7_isCustomer.cls yX7_isCustomer yX7_isCustomer ∈ zTB := zTB_mem 27 (by decide +kernel) rfl
theorem zw_260 : Cond.fieldLink RX7 46 (TX7 6).1 (TX7 6).2.1 (TX7 6).2.2.1 ∈ zTB := zTB_mem 390 (by decide +kernel) rfl
theorem zw_461 : Cond.methodLinkNest RX7 146 yX2_isPiece "StampSheets" ∈ zNL := zNL_mem 591 (by decide +kernel) rfl
theorem zds_X2_isPiece : yX2_isPiece.cls ≠ "java/lang/invoke/MethodHandle" ∧ yX2_isPiece.cls ≠ "java/lang/invoke/VarHandle" ∧ (parseMethodDescriptor yX2_isPiece.desc).map (fun d => d.parameters.length) = some 2 := ⟨by decide +kernel, by decide +kernel, by decide +kernel⟩
theorem zw_464 : Cond.code yX2_isPiece cX2_isPiece 3 (some .boolean) ∈ zTB := zTB_mem 594 (by decide +kernel) rfl
theorem zw_463 : Cond.instanceMethod yX2_isPiece ∈ zTB := zTB_mem 593 (by decide +kernel) rfl
theorem zsel_X2_isPiece : Cond.selects yX2_isPiece.cls yX2_isPiece yX2_isPiece ∈ zTB := zTB_mem 28 (by decide +kernel) rfl
theorem zw_469 : Cond.methodLinkNest RX7 150 yX5_isServed "StampSheets" ∈ zNL := zNL_mem 599 (by decide +kernel) rfl
theorem zw_473 : Cond.methodLinkNest RX7 153 yX5_paysOf "StampSheets" ∈ zNL := zNL_mem 603 (by decide +kernel) rfl
theorem zw_482 : Cond.methodLinkNest RX7 156 yX5_suits "StampSheets" ∈ zNL := zNL_mem 612 (by decide +kernel) rfl
theorem zw_486 : Cond.methodLinkNest RX7 159 yX5_tearsOf "StampSheets" ∈ zNL := zNL_mem 616 (by decide +kernel) rfl
theorem zw_490 : Cond.methodLinkNest RX7 162 yX5_sell "StampSheets" ∈ zNL := zNL_mem 620 (by decide +kernel) rfl
theorem zw_491 : Cond.methodLinkNest RX7 166 yX0_keep "StampSheets" ∈ zNL := zNL_mem 621 (by decide +kernel) rfl
theorem zds_X0_keep : yX0_keep.cls ≠ "java/lang/invoke/MethodHandle" ∧ yX0_keep.cls ≠ "java/lang/invoke/VarHandle" ∧ (parseMethodDescriptor yX0_keep.desc).map (fun d => d.parameters.length) = some 3 := ⟨by decide +kernel, by decide +kernel, by decide +kernel⟩
theorem zw_494 : Cond.code yX0_keep cX0_keep 4 none ∈ zTB := zTB_mem 624 (by decide +kernel) rfl
theorem zw_493 : Cond.instanceMethod yX0_keep ∈ zTB := zTB_mem 623 (by decide +kernel) rfl
theorem zsel_X0_keep : Cond.selects yX0_keep.cls yX0_keep yX0_keep ∈ zTB := zTB_mem 35 (by decide +kernel) rfl
theorem zw_101 : Cond.fieldLinkNest RX7 169 (TX5 13).1 (TX5 13).2.1 (TX5 13).2.2.1 "StampSheets" ∈ zNL := zNL_mem 231 (by decide +kernel) rfl
theorem zw_500 : Cond.methodLinkNest RX7 172 yX5_takeBack "StampSheets" ∈ zNL := zNL_mem 630 (by decide +kernel) rfl
theorem zw_505 : Cond.methodLink RX7 176 yX7_isCell ∈ zTB := zTB_mem 635 (by decide +kernel) rfl
theorem zds_X7_isCell : yX7_isCell.cls ≠ "java/lang/invoke/MethodHandle" ∧ yX7_isCell.cls ≠ "java/lang/invoke/VarHandle" ∧ (parseMethodDescriptor yX7_isCell.desc).map (fun d => d.parameters.length) = some 1 := ⟨by decide +kernel, by decide +kernel, by decide +kernel⟩
theorem zw_508 : Cond.code yX7_isCell cX7_isCell 2 (some .boolean) ∈ zTB := zTB_mem 638 (by decide +kernel) rfl
theorem zw_507 : Cond.instanceMethod yX7_isCell ∈ zTB := zTB_mem 637 (by decide +kernel) rfl
theorem zsel_X7_isCell : Cond.selects yX7_isCell.cls yX7_isCell yX7_isCell ∈ zTB := zTB_mem 36 (by decide +kernel) rfl
theorem zw_509 : Cond.methodLinkNest RX7 179 yX5_isOn "StampSheets" ∈ zNL := zNL_mem 639 (by decide +kernel) rfl
theorem zw_513 : Cond.methodLinkNest RX7 182 yX5_lose "StampSheets" ∈ zNL := zNL_mem 643 (by decide +kernel) rfl
theorem zds_X5_lose : yX5_lose.cls ≠ "java/lang/invoke/MethodHandle" ∧ yX5_lose.cls ≠ "java/lang/invoke/VarHandle" ∧ (parseMethodDescriptor yX5_lose.desc).map (fun d => d.parameters.length) = some 1 := ⟨by decide +kernel, by decide +kernel, by decide +kernel⟩
theorem zw_516 : Cond.code yX5_lose cX5_lose 2 none ∈ zTB := zTB_mem 646 (by decide +kernel) rfl
theorem zw_515 : Cond.instanceMethod yX5_lose ∈ zTB := zTB_mem 645 (by decide +kernel) rfl
theorem zsel_X5_lose : Cond.selects yX5_lose.cls yX5_lose yX5_lose ∈ zTB := zTB_mem 38 (by decide +kernel) rfl
theorem zw_80 : Cond.fieldLinkNest RX7 185 (TX5 5).1 (TX5 5).2.1 (TX5 5).2.2.1 "StampSheets" ∈ zNL := zNL_mem 210 (by decide +kernel) rfl
theorem zw_517 : Cond.methodLink RX7 188 yJ6_bitCount_0f7a4 ∈ zTB := zTB_mem 647 (by decide +kernel) rfl
theorem zw_522 : Cond.methodLink RX7 193 yX7_isFigure ∈ zTB := zTB_mem 652 (by decide +kernel) rfl
theorem zds_X7_isFigure : yX7_isFigure.cls ≠ "java/lang/invoke/MethodHandle" ∧ yX7_isFigure.cls ≠ "java/lang/invoke/VarHandle" ∧ (parseMethodDescriptor yX7_isFigure.desc).map (fun d => d.parameters.length) = some 1 := ⟨by decide +kernel, by decide +kernel, by decide +kernel⟩
theorem zw_524 : Cond.code yX7_isFigure cX7_isFigure 1 (some .boolean) ∈ zTB := zTB_mem 654 (by decide +kernel) rfl
theorem zw_523 : Cond.static yX7_isFigure ∈ zTB := zTB_mem 653 (by decide +kernel) rfl
theorem zw_95 : Cond.fieldLinkNest RX7 196 (TX5 10).1 (TX5 10).2.1 (TX5 10).2.2.1 "StampSheets" ∈ zNL := zNL_mem 225 (by decide +kernel) rfl
theorem zw_529 : Cond.methodLink RX7 199 yX7_isThere ∈ zTB := zTB_mem 659 (by decide +kernel) rfl
theorem zds_X7_isThere : yX7_isThere.cls ≠ "java/lang/invoke/MethodHandle" ∧ yX7_isThere.cls ≠ "java/lang/invoke/VarHandle" ∧ (parseMethodDescriptor yX7_isThere.desc).map (fun d => d.parameters.length) = some 0 := ⟨by decide +kernel, by decide +kernel, by decide +kernel⟩
theorem zw_532 : Cond.code yX7_isThere cX7_isThere 1 (some .boolean) ∈ zTB := zTB_mem 662 (by decide +kernel) rfl
theorem zw_531 : Cond.instanceMethod yX7_isThere ∈ zTB := zTB_mem 661 (by decide +kernel) rfl
theorem zsel_X7_isThere : Cond.selects yX7_isThere.cls yX7_isThere yX7_isThere ∈ zTB := zTB_mem 39 (by decide +kernel) rfl
theorem zw_74 : Cond.fieldLinkNest RX7 203 (TX5 3).1 (TX5 3).2.1 (TX5 3).2.2.1 "StampSheets" ∈ zNL := zNL_mem 204 (by decide +kernel) rfl
theorem zw_537 : Cond.methodLinkNest RX7 206 yX5_howIs "StampSheets" ∈ zNL := zNL_mem 667 (by decide +kernel) rfl
theorem zds_X5_howIs : yX5_howIs.cls ≠ "java/lang/invoke/MethodHandle" ∧ yX5_howIs.cls ≠ "java/lang/invoke/VarHandle" ∧ (parseMethodDescriptor yX5_howIs.desc).map (fun d => d.parameters.length) = some 1 := ⟨by decide +kernel, by decide +kernel, by decide +kernel⟩
theorem zw_540 : Cond.code yX5_howIs cX5_howIs 2 (some .int) ∈ zTB := zTB_mem 670 (by decide +kernel) rfl
theorem zw_539 : Cond.instanceMethod yX5_howIs ∈ zTB := zTB_mem 669 (by decide +kernel) rfl
theorem zsel_X5_howIs : Cond.selects yX5_howIs.cls yX5_howIs yX5_howIs ∈ zTB := zTB_mem 40 (by decide +kernel) rfl
theorem zw_88 : Cond.fieldLinkNest RX7 209 (TX5 8).1 (TX5 8).2.1 (TX5 8).2.2.1 "StampSheets" ∈ zNL := zNL_mem 218 (by decide +kernel) rfl
theorem zw_542 : Cond.methodLinkNest RX7 212 yX5_ownerOf "StampSheets" ∈ zNL := zNL_mem 672 (by decide +kernel) rfl
theorem zds_X5_ownerOf : yX5_ownerOf.cls ≠ "java/lang/invoke/MethodHandle" ∧ yX5_ownerOf.cls ≠ "java/lang/invoke/VarHandle" ∧ (parseMethodDescriptor yX5_ownerOf.desc).map (fun d => d.parameters.length) = some 1 := ⟨by decide +kernel, by decide +kernel, by decide +kernel⟩
theorem zw_545 : Cond.code yX5_ownerOf cX5_ownerOf 3 (some .int) ∈ zTB := zTB_mem 675 (by decide +kernel) rfl
theorem zw_544 : Cond.instanceMethod yX5_ownerOf ∈ zTB := zTB_mem 674 (by decide +kernel) rfl
theorem zsel_X5_ownerOf : Cond.selects yX5_ownerOf.cls yX5_ownerOf yX5_ownerOf ∈ zTB := zTB_mem 41 (by decide +kernel) rfl
theorem zw_97 : Cond.fieldLinkNest RX7 215 (TX5 11).1 (TX5 11).2.1 (TX5 11).2.2.1 "StampSheets" ∈ zNL := zNL_mem 227 (by decide +kernel) rfl
theorem zw_99 : Cond.fieldLinkNest RX7 218 (TX5 12).1 (TX5 12).2.1 (TX5 12).2.2.1 "StampSheets" ∈ zNL := zNL_mem 229 (by decide +kernel) rfl
theorem zw_555 : Cond.methodLinkNest RX7 221 yX5_served "StampSheets" ∈ zNL := zNL_mem 685 (by decide +kernel) rfl
theorem zds_X5_served : yX5_served.cls ≠ "java/lang/invoke/MethodHandle" ∧ yX5_served.cls ≠ "java/lang/invoke/VarHandle" ∧ (parseMethodDescriptor yX5_served.desc).map (fun d => d.parameters.length) = some 0 := ⟨by decide +kernel, by decide +kernel, by decide +kernel⟩
theorem zw_558 : Cond.code yX5_served cX5_served 3 (some .int) ∈ zTB := zTB_mem 688 (by decide +kernel) rfl
theorem zw_557 : Cond.instanceMethod yX5_served ∈ zTB := zTB_mem 687 (by decide +kernel) rfl
theorem zsel_X5_served : Cond.selects yX5_served.cls yX5_served yX5_served ∈ zTB := zTB_mem 42 (by decide +kernel) rfl
theorem zw_77 : Cond.fieldLinkNest RX7 225 (TX5 4).1 (TX5 4).2.1 (TX5 4).2.2.1 "StampSheets" ∈ zNL := zNL_mem 207 (by decide +kernel) rfl
theorem zw_84 : Cond.fieldLinkNest RX7 228 (TX5 6).1 (TX5 6).2.1 (TX5 6).2.2.1 "StampSheets" ∈ zNL := zNL_mem 214 (by decide +kernel) rfl
theorem zw_564 : Cond.methodLinkNest RX7 231 yX5_countParts "StampSheets" ∈ zNL := zNL_mem 694 (by decide +kernel) rfl
theorem zds_X5_countParts : yX5_countParts.cls ≠ "java/lang/invoke/MethodHandle" ∧ yX5_countParts.cls ≠ "java/lang/invoke/VarHandle" ∧ (parseMethodDescriptor yX5_countParts.desc).map (fun d => d.parameters.length) = some 1 := ⟨by decide +kernel, by decide +kernel, by decide +kernel⟩
theorem zw_567 : Cond.code yX5_countParts cX5_countParts 4 (some .int) ∈ zTB := zTB_mem 697 (by decide +kernel) rfl
theorem zw_566 : Cond.instanceMethod yX5_countParts ∈ zTB := zTB_mem 696 (by decide +kernel) rfl
theorem zsel_X5_countParts : Cond.selects yX5_countParts.cls yX5_countParts yX5_countParts ∈ zTB := zTB_mem 43 (by decide +kernel) rfl
theorem zw_583 : Cond.methodLinkNest RX7 234 yX5_partNumber "StampSheets" ∈ zNL := zNL_mem 713 (by decide +kernel) rfl
theorem zds_X5_partNumber : yX5_partNumber.cls ≠ "java/lang/invoke/MethodHandle" ∧ yX5_partNumber.cls ≠ "java/lang/invoke/VarHandle" ∧ (parseMethodDescriptor yX5_partNumber.desc).map (fun d => d.parameters.length) = some 1 := ⟨by decide +kernel, by decide +kernel, by decide +kernel⟩
theorem zw_586 : Cond.code yX5_partNumber cX5_partNumber 5 (some .int) ∈ zTB := zTB_mem 716 (by decide +kernel) rfl
theorem zw_585 : Cond.instanceMethod yX5_partNumber ∈ zTB := zTB_mem 715 (by decide +kernel) rfl
theorem zsel_X5_partNumber : Cond.selects yX5_partNumber.cls yX5_partNumber yX5_partNumber ∈ zTB := zTB_mem 46 (by decide +kernel) rfl
theorem zw_591 : Cond.methodLinkNest RX7 237 yX2_countAll "StampSheets" ∈ zNL := zNL_mem 721 (by decide +kernel) rfl
theorem zds_X2_countAll : yX2_countAll.cls ≠ "java/lang/invoke/MethodHandle" ∧ yX2_countAll.cls ≠ "java/lang/invoke/VarHandle" ∧ (parseMethodDescriptor yX2_countAll.desc).map (fun d => d.parameters.length) = some 1 := ⟨by decide +kernel, by decide +kernel, by decide +kernel⟩
theorem zw_594 : Cond.code yX2_countAll cX2_countAll 4 (some .int) ∈ zTB := zTB_mem 724 (by decide +kernel) rfl
theorem zw_593 : Cond.instanceMethod yX2_countAll ∈ zTB := zTB_mem 723 (by decide +kernel) rfl
theorem zsel_X2_countAll : Cond.selects yX2_countAll.cls yX2_countAll yX2_countAll ∈ zTB := zTB_mem 47 (by decide +kernel) rfl
theorem zw_595 : Cond.methodLinkNest RX7 241 yX2_countOf "StampSheets" ∈ zNL := zNL_mem 725 (by decide +kernel) rfl
theorem zds_X2_countOf : yX2_countOf.cls ≠ "java/lang/invoke/MethodHandle" ∧ yX2_countOf.cls ≠ "java/lang/invoke/VarHandle" ∧ (parseMethodDescriptor yX2_countOf.desc).map (fun d => d.parameters.length) = some 3 := ⟨by decide +kernel, by decide +kernel, by decide +kernel⟩
theorem zw_598 : Cond.code yX2_countOf cX2_countOf 7 (some .int) ∈ zTB := zTB_mem 728 (by decide +kernel) rfl
theorem zw_597 : Cond.instanceMethod yX2_countOf ∈ zTB := zTB_mem 727 (by decide +kernel) rfl
theorem zsel_X2_countOf : Cond.selects yX2_countOf.cls yX2_countOf yX2_countOf ∈ zTB := zTB_mem 48 (by decide +kernel) rfl
theorem zw_611 : Cond.methodLinkNest RX7 245 yX2_weigh "StampSheets" ∈ zNL := zNL_mem 741 (by decide +kernel) rfl
theorem zds_X2_weigh : yX2_weigh.cls ≠ "java/lang/invoke/MethodHandle" ∧ yX2_weigh.cls ≠ "java/lang/invoke/VarHandle" ∧ (parseMethodDescriptor yX2_weigh.desc).map (fun d => d.parameters.length) = some 1 := ⟨by decide +kernel, by decide +kernel, by decide +kernel⟩
theorem zw_614 : Cond.code yX2_weigh cX2_weigh 3 none ∈ zTB := zTB_mem 744 (by decide +kernel) rfl
theorem zw_613 : Cond.instanceMethod yX2_weigh ∈ zTB := zTB_mem 743 (by decide +kernel) rfl
theorem zsel_X2_weigh : Cond.selects yX2_weigh.cls yX2_weigh yX2_weigh ∈ zTB := zTB_mem 50 (by decide +kernel) rfl
theorem zw_616 : Cond.methodLinkNest RX7 248 yX2_greatestSum "StampSheets" ∈ zNL := zNL_mem 746 (by decide +kernel) rfl
theorem zds_X2_greatestSum : yX2_greatestSum.cls ≠ "java/lang/invoke/MethodHandle" ∧ yX2_greatestSum.cls ≠ "java/lang/invoke/VarHandle" ∧ (parseMethodDescriptor yX2_greatestSum.desc).map (fun d => d.parameters.length) = some 1 := ⟨by decide +kernel, by decide +kernel, by decide +kernel⟩
theorem zw_619 : Cond.code yX2_greatestSum cX2_greatestSum 4 (some .int) ∈ zTB := zTB_mem 749 (by decide +kernel) rfl
theorem zw_618 : Cond.instanceMethod yX2_greatestSum ∈ zTB := zTB_mem 748 (by decide +kernel) rfl
theorem zsel_X2_greatestSum : Cond.selects yX2_greatestSum.cls yX2_greatestSum yX2_greatestSum ∈ zTB := zTB_mem 51 (by decide +kernel) rfl
theorem zw_623 : Cond.methodLinkNest RX7 251 yX2_markSums "StampSheets" ∈ zNL := zNL_mem 753 (by decide +kernel) rfl
theorem zds_X2_markSums : yX2_markSums.cls ≠ "java/lang/invoke/MethodHandle" ∧ yX2_markSums.cls ≠ "java/lang/invoke/VarHandle" ∧ (parseMethodDescriptor yX2_markSums.desc).map (fun d => d.parameters.length) = some 1 := ⟨by decide +kernel, by decide +kernel, by decide +kernel⟩
theorem zw_626 : Cond.code yX2_markSums cX2_markSums 3 none ∈ zTB := zTB_mem 756 (by decide +kernel) rfl
theorem zw_625 : Cond.instanceMethod yX2_markSums ∈ zTB := zTB_mem 755 (by decide +kernel) rfl
theorem zsel_X2_markSums : Cond.selects yX2_markSums.cls yX2_markSums yX2_markSums ∈ zTB := zTB_mem 52 (by decide +kernel) rfl
theorem zw_628 : Cond.methodLinkNest RX7 254 yX2_countSums "StampSheets" ∈ zNL := zNL_mem 758 (by decide +kernel) rfl
theorem zds_X2_countSums : yX2_countSums.cls ≠ "java/lang/invoke/MethodHandle" ∧ yX2_countSums.cls ≠ "java/lang/invoke/VarHandle" ∧ (parseMethodDescriptor yX2_countSums.desc).map (fun d => d.parameters.length) = some 0 := ⟨by decide +kernel, by decide +kernel, by decide +kernel⟩
theorem zw_631 : Cond.code yX2_countSums cX2_countSums 3 (some .int) ∈ zTB := zTB_mem 761 (by decide +kernel) rfl
theorem zw_630 : Cond.instanceMethod yX2_countSums ∈ zTB := zTB_mem 760 (by decide +kernel) rfl
theorem zsel_X2_countSums : Cond.selects yX2_countSums.cls yX2_countSums yX2_countSums ∈ zTB := zTB_mem 53 (by decide +kernel) rfl
theorem zw_632 : Cond.methodLinkNest RX7 257 yX2_leastSumUnpaid "StampSheets" ∈ zNL := zNL_mem 762 (by decide +kernel) rfl
theorem zds_X2_leastSumUnpaid : yX2_leastSumUnpaid.cls ≠ "java/lang/invoke/MethodHandle" ∧ yX2_leastSumUnpaid.cls ≠ "java/lang/invoke/VarHandle" ∧ (parseMethodDescriptor yX2_leastSumUnpaid.desc).map (fun d => d.parameters.length) = some 0 := ⟨by decide +kernel, by decide +kernel, by decide +kernel⟩
theorem zw_635 : Cond.code yX2_leastSumUnpaid cX2_leastSumUnpaid 2 (some .int) ∈ zTB := zTB_mem 765 (by decide +kernel) rfl
theorem zw_634 : Cond.instanceMethod yX2_leastSumUnpaid ∈ zTB := zTB_mem 764 (by decide +kernel) rfl
theorem zsel_X2_leastSumUnpaid : Cond.selects yX2_leastSumUnpaid.cls yX2_leastSumUnpaid yX2_leastSumUnpaid ∈ zTB := zTB_mem 54 (by decide +kernel) rfl
theorem zw_641 : Cond.methodLink RX7 260 yX7_isEither ∈ zTB := zTB_mem 771 (by decide +kernel) rfl
theorem zds_X7_isEither : yX7_isEither.cls ≠ "java/lang/invoke/MethodHandle" ∧ yX7_isEither.cls ≠ "java/lang/invoke/VarHandle" ∧ (parseMethodDescriptor yX7_isEither.desc).map (fun d => d.parameters.length) = some 1 := ⟨by decide +kernel, by decide +kernel, by decide +kernel⟩
theorem zw_643 : Cond.code yX7_isEither cX7_isEither 1 (some .boolean) ∈ zTB := zTB_mem 773 (by decide +kernel) rfl
theorem zw_642 : Cond.static yX7_isEither ∈ zTB := zTB_mem 772 (by decide +kernel) rfl
theorem zw_644 : Cond.methodLinkNest RX7 263 yX2_bestFor "StampSheets" ∈ zNL := zNL_mem 774 (by decide +kernel) rfl
theorem zds_X2_bestFor : yX2_bestFor.cls ≠ "java/lang/invoke/MethodHandle" ∧ yX2_bestFor.cls ≠ "java/lang/invoke/VarHandle" ∧ (parseMethodDescriptor yX2_bestFor.desc).map (fun d => d.parameters.length) = some 2 := ⟨by decide +kernel, by decide +kernel, by decide +kernel⟩
theorem zw_647 : Cond.code yX2_bestFor cX2_bestFor 7 (some .int) ∈ zTB := zTB_mem 777 (by decide +kernel) rfl
theorem zw_646 : Cond.instanceMethod yX2_bestFor ∈ zTB := zTB_mem 776 (by decide +kernel) rfl
theorem zsel_X2_bestFor : Cond.selects yX2_bestFor.cls yX2_bestFor yX2_bestFor ∈ zTB := zTB_mem 55 (by decide +kernel) rfl
theorem zw_657 : Cond.constant RX7 267 (-1000000) ∈ zTB := zTB_mem 787 (by decide +kernel) rfl
theorem zw_662 : Cond.methodLinkNest RX7 268 yX2_countFor "StampSheets" ∈ zNL := zNL_mem 792 (by decide +kernel) rfl
theorem zds_X2_countFor : yX2_countFor.cls ≠ "java/lang/invoke/MethodHandle" ∧ yX2_countFor.cls ≠ "java/lang/invoke/VarHandle" ∧ (parseMethodDescriptor yX2_countFor.desc).map (fun d => d.parameters.length) = some 2 := ⟨by decide +kernel, by decide +kernel, by decide +kernel⟩
theorem zw_665 : Cond.code yX2_countFor cX2_countFor 5 (some .int) ∈ zTB := zTB_mem 795 (by decide +kernel) rfl
theorem zw_664 : Cond.instanceMethod yX2_countFor ∈ zTB := zTB_mem 794 (by decide +kernel) rfl
theorem zsel_X2_countFor : Cond.selects yX2_countFor.cls yX2_countFor yX2_countFor ∈ zTB := zTB_mem 57 (by decide +kernel) rfl
theorem zw_670 : Cond.methodLinkNest RX7 271 yX2_cheapestFor "StampSheets" ∈ zNL := zNL_mem 800 (by decide +kernel) rfl
theorem zds_X2_cheapestFor : yX2_cheapestFor.cls ≠ "java/lang/invoke/MethodHandle" ∧ yX2_cheapestFor.cls ≠ "java/lang/invoke/VarHandle" ∧ (parseMethodDescriptor yX2_cheapestFor.desc).map (fun d => d.parameters.length) = some 2 := ⟨by decide +kernel, by decide +kernel, by decide +kernel⟩
theorem zw_673 : Cond.code yX2_cheapestFor cX2_cheapestFor 7 (some .int) ∈ zTB := zTB_mem 803 (by decide +kernel) rfl
theorem zw_672 : Cond.instanceMethod yX2_cheapestFor ∈ zTB := zTB_mem 802 (by decide +kernel) rfl
theorem zsel_X2_cheapestFor : Cond.selects yX2_cheapestFor.cls yX2_cheapestFor yX2_cheapestFor ∈ zTB := zTB_mem 58 (by decide +kernel) rfl
theorem zw_70 : Cond.fieldLinkNest RX7 274 (TX5 2).1 (TX5 2).2.1 (TX5 2).2.2.1 "StampSheets" ∈ zNL := zNL_mem 200 (by decide +kernel) rfl
theorem zw_678 : Cond.methodLinkNest RX7 277 yX2_mostServed "StampSheets" ∈ zNL := zNL_mem 808 (by decide +kernel) rfl
theorem zds_X2_mostServed : yX2_mostServed.cls ≠ "java/lang/invoke/MethodHandle" ∧ yX2_mostServed.cls ≠ "java/lang/invoke/VarHandle" ∧ (parseMethodDescriptor yX2_mostServed.desc).map (fun d => d.parameters.length) = some 1 := ⟨by decide +kernel, by decide +kernel, by decide +kernel⟩
theorem zw_681 : Cond.code yX2_mostServed cX2_mostServed 4 (some .int) ∈ zTB := zTB_mem 811 (by decide +kernel) rfl
theorem zw_680 : Cond.instanceMethod yX2_mostServed ∈ zTB := zTB_mem 810 (by decide +kernel) rfl
theorem zsel_X2_mostServed : Cond.selects yX2_mostServed.cls yX2_mostServed yX2_mostServed ∈ zTB := zTB_mem 59 (by decide +kernel) rfl
theorem zw_709 : Cond.methodLinkNest RX7 280 yX2_pieceAmongServed "StampSheets" ∈ zNL := zNL_mem 839 (by decide +kernel) rfl
theorem zds_X2_pieceAmongServed : yX2_pieceAmongServed.cls ≠ "java/lang/invoke/MethodHandle" ∧ yX2_pieceAmongServed.cls ≠ "java/lang/invoke/VarHandle" ∧ (parseMethodDescriptor yX2_pieceAmongServed.desc).map (fun d => d.parameters.length) = some 3 := ⟨by decide +kernel, by decide +kernel, by decide +kernel⟩
theorem zw_712 : Cond.code yX2_pieceAmongServed cX2_pieceAmongServed 8 (some .int) ∈ zTB := zTB_mem 842 (by decide +kernel) rfl
theorem zw_711 : Cond.instanceMethod yX2_pieceAmongServed ∈ zTB := zTB_mem 841 (by decide +kernel) rfl
theorem zsel_X2_pieceAmongServed : Cond.selects yX2_pieceAmongServed.cls yX2_pieceAmongServed yX2_pieceAmongServed ∈ zTB := zTB_mem 65 (by decide +kernel) rfl
theorem zw_721 : Cond.methodLinkNest RX7 284 yX2_countCouplings "StampSheets" ∈ zNL := zNL_mem 851 (by decide +kernel) rfl
theorem zds_X2_countCouplings : yX2_countCouplings.cls ≠ "java/lang/invoke/MethodHandle" ∧ yX2_countCouplings.cls ≠ "java/lang/invoke/VarHandle" ∧ (parseMethodDescriptor yX2_countCouplings.desc).map (fun d => d.parameters.length) = some 1 := ⟨by decide +kernel, by decide +kernel, by decide +kernel⟩
theorem zw_724 : Cond.code yX2_countCouplings cX2_countCouplings 6 (some .int) ∈ zTB := zTB_mem 854 (by decide +kernel) rfl
theorem zw_723 : Cond.instanceMethod yX2_countCouplings ∈ zTB := zTB_mem 853 (by decide +kernel) rfl
theorem zsel_X2_countCouplings : Cond.selects yX2_countCouplings.cls yX2_countCouplings yX2_countCouplings ∈ zTB := zTB_mem 67 (by decide +kernel) rfl
theorem zw_729 : Cond.methodLink RX7 287 yX7_areTwoCells ∈ zTB := zTB_mem 859 (by decide +kernel) rfl
theorem zds_X7_areTwoCells : yX7_areTwoCells.cls ≠ "java/lang/invoke/MethodHandle" ∧ yX7_areTwoCells.cls ≠ "java/lang/invoke/VarHandle" ∧ (parseMethodDescriptor yX7_areTwoCells.desc).map (fun d => d.parameters.length) = some 2 := ⟨by decide +kernel, by decide +kernel, by decide +kernel⟩
theorem zw_732 : Cond.code yX7_areTwoCells cX7_areTwoCells 3 (some .boolean) ∈ zTB := zTB_mem 862 (by decide +kernel) rfl
theorem zw_731 : Cond.instanceMethod yX7_areTwoCells ∈ zTB := zTB_mem 861 (by decide +kernel) rfl
theorem zsel_X7_areTwoCells : Cond.selects yX7_areTwoCells.cls yX7_areTwoCells yX7_areTwoCells ∈ zTB := zTB_mem 68 (by decide +kernel) rfl
theorem zw_733 : Cond.methodLinkNest RX7 290 yX2_sideOf "StampSheets" ∈ zNL := zNL_mem 863 (by decide +kernel) rfl
theorem zds_X2_sideOf : yX2_sideOf.cls ≠ "java/lang/invoke/MethodHandle" ∧ yX2_sideOf.cls ≠ "java/lang/invoke/VarHandle" ∧ (parseMethodDescriptor yX2_sideOf.desc).map (fun d => d.parameters.length) = some 3 := ⟨by decide +kernel, by decide +kernel, by decide +kernel⟩
theorem zw_736 : Cond.code yX2_sideOf cX2_sideOf 10 (some .int) ∈ zTB := zTB_mem 866 (by decide +kernel) rfl
theorem zw_735 : Cond.instanceMethod yX2_sideOf ∈ zTB := zTB_mem 865 (by decide +kernel) rfl
theorem zsel_X2_sideOf : Cond.selects yX2_sideOf.cls yX2_sideOf yX2_sideOf ∈ zTB := zTB_mem 69 (by decide +kernel) rfl
theorem zw_741 : Cond.methodLinkNest RX7 293 yX5_stepsBetween "StampSheets" ∈ zNL := zNL_mem 871 (by decide +kernel) rfl
theorem zw_745 : Cond.methodLinkNest RX7 296 yX5_firstStep "StampSheets" ∈ zNL := zNL_mem 875 (by decide +kernel) rfl
theorem zds_X5_firstStep : yX5_firstStep.cls ≠ "java/lang/invoke/MethodHandle" ∧ yX5_firstStep.cls ≠ "java/lang/invoke/VarHandle" ∧ (parseMethodDescriptor yX5_firstStep.desc).map (fun d => d.parameters.length) = some 2 := ⟨by decide +kernel, by decide +kernel, by decide +kernel⟩
theorem zw_748 : Cond.code yX5_firstStep cX5_firstStep 6 (some .int) ∈ zTB := zTB_mem 878 (by decide +kernel) rfl
theorem zw_747 : Cond.instanceMethod yX5_firstStep ∈ zTB := zTB_mem 877 (by decide +kernel) rfl
theorem zsel_X5_firstStep : Cond.selects yX5_firstStep.cls yX5_firstStep yX5_firstStep ∈ zTB := zTB_mem 71 (by decide +kernel) rfl
theorem zw_758 : Cond.methodLink RX7 299 yX7_areRowsOf ∈ zTB := zTB_mem 888 (by decide +kernel) rfl
theorem zds_X7_areRowsOf : yX7_areRowsOf.cls ≠ "java/lang/invoke/MethodHandle" ∧ yX7_areRowsOf.cls ≠ "java/lang/invoke/VarHandle" ∧ (parseMethodDescriptor yX7_areRowsOf.desc).map (fun d => d.parameters.length) = some 3 := ⟨by decide +kernel, by decide +kernel, by decide +kernel⟩
theorem zw_760 : Cond.code yX7_areRowsOf cX7_areRowsOf 3 (some .boolean) ∈ zTB := zTB_mem 890 (by decide +kernel) rfl
theorem zw_759 : Cond.static yX7_areRowsOf ∈ zTB := zTB_mem 889 (by decide +kernel) rfl
theorem zw_761 : Cond.methodLink RX7 303 yX7_takeTold ∈ zTB := zTB_mem 891 (by decide +kernel) rfl
theorem zds_X7_takeTold : yX7_takeTold.cls ≠ "java/lang/invoke/MethodHandle" ∧ yX7_takeTold.cls ≠ "java/lang/invoke/VarHandle" ∧ (parseMethodDescriptor yX7_takeTold.desc).map (fun d => d.parameters.length) = some 5 := ⟨by decide +kernel, by decide +kernel, by decide +kernel⟩
theorem zw_764 : Cond.code yX7_takeTold cX7_takeTold 8 (some .int) ∈ zTB := zTB_mem 894 (by decide +kernel) rfl
theorem zw_763 : Cond.instanceMethod yX7_takeTold ∈ zTB := zTB_mem 893 (by decide +kernel) rfl
theorem zsel_X7_takeTold : Cond.selects yX7_takeTold.cls yX7_takeTold yX7_takeTold ∈ zTB := zTB_mem 72 (by decide +kernel) rfl
theorem zw_773 : Cond.methodLink RX7 307 yX7_kindsThatFit ∈ zTB := zTB_mem 903 (by decide +kernel) rfl
theorem zds_X7_kindsThatFit : yX7_kindsThatFit.cls ≠ "java/lang/invoke/MethodHandle" ∧ yX7_kindsThatFit.cls ≠ "java/lang/invoke/VarHandle" ∧ (parseMethodDescriptor yX7_kindsThatFit.desc).map (fun d => d.parameters.length) = some 1 := ⟨by decide +kernel, by decide +kernel, by decide +kernel⟩
theorem zw_776 : Cond.code yX7_kindsThatFit cX7_kindsThatFit 4 (some .int) ∈ zTB := zTB_mem 906 (by decide +kernel) rfl
theorem zw_775 : Cond.instanceMethod yX7_kindsThatFit ∈ zTB := zTB_mem 905 (by decide +kernel) rfl
theorem zsel_X7_kindsThatFit : Cond.selects yX7_kindsThatFit.cls yX7_kindsThatFit yX7_kindsThatFit ∈ zTB := zTB_mem 75 (by decide +kernel) rfl
theorem zw_783 : Cond.methodLink RX7 310 yX7_valuesThatFit ∈ zTB := zTB_mem 913 (by decide +kernel) rfl
theorem zds_X7_valuesThatFit : yX7_valuesThatFit.cls ≠ "java/lang/invoke/MethodHandle" ∧ yX7_valuesThatFit.cls ≠ "java/lang/invoke/VarHandle" ∧ (parseMethodDescriptor yX7_valuesThatFit.desc).map (fun d => d.parameters.length) = some 1 := ⟨by decide +kernel, by decide +kernel, by decide +kernel⟩
theorem zw_786 : Cond.code yX7_valuesThatFit cX7_valuesThatFit 4 (some .int) ∈ zTB := zTB_mem 916 (by decide +kernel) rfl
theorem zw_785 : Cond.instanceMethod yX7_valuesThatFit ∈ zTB := zTB_mem 915 (by decide +kernel) rfl
theorem zsel_X7_valuesThatFit : Cond.selects yX7_valuesThatFit.cls yX7_valuesThatFit yX7_valuesThatFit ∈ zTB := zTB_mem 77 (by decide +kernel) rfl
theorem zw_791 : Cond.methodLink RX7 313 yX7_oversThatFit ∈ zTB := zTB_mem 921 (by decide +kernel) rfl
theorem zds_X7_oversThatFit : yX7_oversThatFit.cls ≠ "java/lang/invoke/MethodHandle" ∧ yX7_oversThatFit.cls ≠ "java/lang/invoke/VarHandle" ∧ (parseMethodDescriptor yX7_oversThatFit.desc).map (fun d => d.parameters.length) = some 0 := ⟨by decide +kernel, by decide +kernel, by decide +kernel⟩
theorem zw_794 : Cond.code yX7_oversThatFit cX7_oversThatFit 3 (some .int) ∈ zTB := zTB_mem 924 (by decide +kernel) rfl
theorem zw_793 : Cond.instanceMethod yX7_oversThatFit ∈ zTB := zTB_mem 923 (by decide +kernel) rfl
theorem zsel_X7_oversThatFit : Cond.selects yX7_oversThatFit.cls yX7_oversThatFit yX7_oversThatFit ∈ zTB := zTB_mem 78 (by decide +kernel) rfl
theorem zw_795 : Cond.methodLink RX7 316 yX7_countSwaps ∈ zTB := zTB_mem 925 (by decide +kernel) rfl
theorem zds_X7_countSwaps : yX7_countSwaps.cls ≠ "java/lang/invoke/MethodHandle" ∧ yX7_countSwaps.cls ≠ "java/lang/invoke/VarHandle" ∧ (parseMethodDescriptor yX7_countSwaps.desc).map (fun d => d.parameters.length) = some 0 := ⟨by decide +kernel, by decide +kernel, by decide +kernel⟩
theorem zw_798 : Cond.code yX7_countSwaps cX7_countSwaps 4 (some .int) ∈ zTB := zTB_mem 928 (by decide +kernel) rfl
theorem zw_797 : Cond.instanceMethod yX7_countSwaps ∈ zTB := zTB_mem 927 (by decide +kernel) rfl
theorem zsel_X7_countSwaps : Cond.selects yX7_countSwaps.cls yX7_countSwaps yX7_countSwaps ∈ zTB := zTB_mem 79 (by decide +kernel) rfl
theorem zw_803 : Cond.methodLink RX7 319 yX7_firstSwap ∈ zTB := zTB_mem 933 (by decide +kernel) rfl
theorem zds_X7_firstSwap : yX7_firstSwap.cls ≠ "java/lang/invoke/MethodHandle" ∧ yX7_firstSwap.cls ≠ "java/lang/invoke/VarHandle" ∧ (parseMethodDescriptor yX7_firstSwap.desc).map (fun d => d.parameters.length) = some 0 := ⟨by decide +kernel, by decide +kernel, by decide +kernel⟩
theorem zw_806 : Cond.code yX7_firstSwap cX7_firstSwap 3 (some .int) ∈ zTB := zTB_mem 936 (by decide +kernel) rfl
theorem zw_805 : Cond.instanceMethod yX7_firstSwap ∈ zTB := zTB_mem 935 (by decide +kernel) rfl
theorem zsel_X7_firstSwap : Cond.selects yX7_firstSwap.cls yX7_firstSwap yX7_firstSwap ∈ zTB := zTB_mem 81 (by decide +kernel) rfl
theorem zw_811 : Cond.constantLong RX7 322 (-1000001) ∈ zTB := zTB_mem 941 (by decide +kernel) rfl
theorem zw_812 : Cond.constantLong RX7 324 10 ∈ zTB := zTB_mem 942 (by decide +kernel) rfl
theorem zw_813 : Cond.methodLink RX7 326 yX7_powerOf ∈ zTB := zTB_mem 943 (by decide +kernel) rfl
theorem zw_816 : Cond.methodLinkNest RX7 330 yX2_casesOfFewLost "StampSheets" ∈ zNL := zNL_mem 946 (by decide +kernel) rfl
theorem zds_X2_casesOfFewLost : yX2_casesOfFewLost.cls ≠ "java/lang/invoke/MethodHandle" ∧ yX2_casesOfFewLost.cls ≠ "java/lang/invoke/VarHandle" ∧ (parseMethodDescriptor yX2_casesOfFewLost.desc).map (fun d => d.parameters.length) = some 4 := ⟨by decide +kernel, by decide +kernel, by decide +kernel⟩
theorem zw_819 : Cond.code yX2_casesOfFewLost cX2_casesOfFewLost 9 (some .long) ∈ zTB := zTB_mem 949 (by decide +kernel) rfl
theorem zw_818 : Cond.instanceMethod yX2_casesOfFewLost ∈ zTB := zTB_mem 948 (by decide +kernel) rfl
theorem zsel_X2_casesOfFewLost : Cond.selects yX2_casesOfFewLost.cls yX2_casesOfFewLost yX2_casesOfFewLost ∈ zTB := zTB_mem 82 (by decide +kernel) rfl
theorem zw_829 : Cond.methodLink RX7 334 yX7_commonDivisor ∈ zTB := zTB_mem 959 (by decide +kernel) rfl
theorem zds_X7_commonDivisor : yX7_commonDivisor.cls ≠ "java/lang/invoke/MethodHandle" ∧ yX7_commonDivisor.cls ≠ "java/lang/invoke/VarHandle" ∧ (parseMethodDescriptor yX7_commonDivisor.desc).map (fun d => d.parameters.length) = some 2 := ⟨by decide +kernel, by decide +kernel, by decide +kernel⟩
theorem zw_831 : Cond.code yX7_commonDivisor cX7_commonDivisor 11 (some .long) ∈ zTB := zTB_mem 961 (by decide +kernel) rfl
theorem zw_830 : Cond.static yX7_commonDivisor ∈ zTB := zTB_mem 960 (by decide +kernel) rfl
theorem zw_836 : Cond.constant RX7 338 999999 ∈ zTB := zTB_mem 966 (by decide +kernel) rfl
theorem zw_413 : Cond.methodLinkNest RX7 339 yX5_become "StampSheets" ∈ zNL := zNL_mem 543 (by decide +kernel) rfl
theorem zds_X5_become : yX5_become.cls ≠ "java/lang/invoke/MethodHandle" ∧ yX5_become.cls ≠ "java/lang/invoke/VarHandle" ∧ (parseMethodDescriptor yX5_become.desc).map (fun d => d.parameters.length) = some 1 := ⟨by decide +kernel, by decide +kernel, by decide +kernel⟩
theorem zw_416 : Cond.code yX5_become cX5_become 2 none ∈ zTB := zTB_mem 546 (by decide +kernel) rfl
theorem zw_415 : Cond.instanceMethod yX5_become ∈ zTB := zTB_mem 545 (by decide +kernel) rfl
theorem zsel_X5_become : Cond.selects yX5_become.cls yX5_become yX5_become ∈ zTB := zTB_mem 21 (by decide +kernel) rfl
theorem zw_837 : Cond.constantLong RX7 342 16807 ∈ zTB := zTB_mem 967 (by decide +kernel) rfl
theorem zw_838 : Cond.constantLong RX7 344 2147483647 ∈ zTB := zTB_mem 968 (by decide +kernel) rfl
theorem zw_839 : Cond.methodLink RX7 346 yX7_liveDay ∈ zTB := zTB_mem 969 (by decide +kernel) rfl
theorem zds_X7_liveDay : yX7_liveDay.cls ≠ "java/lang/invoke/MethodHandle" ∧ yX7_liveDay.cls ≠ "java/lang/invoke/VarHandle" ∧ (parseMethodDescriptor yX7_liveDay.desc).map (fun d => d.parameters.length) = some 2 := ⟨by decide +kernel, by decide +kernel, by decide +kernel⟩
theorem zw_842 : Cond.code yX7_liveDay cX7_liveDay 6 none ∈ zTB := zTB_mem 972 (by decide +kernel) rfl
theorem zw_841 : Cond.instanceMethod yX7_liveDay ∈ zTB := zTB_mem 971 (by decide +kernel) rfl
theorem zsel_X7_liveDay : Cond.selects yX7_liveDay.cls yX7_liveDay yX7_liveDay ∈ zTB := zTB_mem 84 (by decide +kernel) rfl
theorem zw_258 : Cond.fieldLink RX7 32 (TX7 4).1 (TX7 4).2.1 (TX7 4).2.2.1 ∈ zTB := zTB_mem 388 (by decide +kernel) rfl
theorem zw_91 : Cond.fieldLinkNest RX7 350 (TX5 9).1 (TX5 9).2.1 (TX5 9).2.2.1 "StampSheets" ∈ zNL := zNL_mem 221 (by decide +kernel) rfl
theorem zw_863 : Cond.methodLinkNest RX7 353 yX1_isAlso "StampSheets" ∈ zNL := zNL_mem 993 (by decide +kernel) rfl
theorem zds_X1_isAlso : yX1_isAlso.cls ≠ "java/lang/invoke/MethodHandle" ∧ yX1_isAlso.cls ≠ "java/lang/invoke/VarHandle" ∧ (parseMethodDescriptor yX1_isAlso.desc).map (fun d => d.parameters.length) = some 2 := ⟨by decide +kernel, by decide +kernel, by decide +kernel⟩
theorem zw_865 : Cond.code yX1_isAlso cX1_isAlso 4 (some .boolean) ∈ zTB := zTB_mem 995 (by decide +kernel) rfl
theorem zw_864 : Cond.static yX1_isAlso ∈ zTB := zTB_mem 994 (by decide +kernel) rfl
theorem zw_261 : Cond.fieldLink RX7 53 (TX7 7).1 (TX7 7).2.1 (TX7 7).2.2.1 ∈ zTB := zTB_mem 391 (by decide +kernel) rfl
theorem zw_875 : Cond.methodLinkNest RX7 356 yX1_answer "StampSheets" ∈ zNL := zNL_mem 1005 (by decide +kernel) rfl
theorem zds_X1_answer : yX1_answer.cls ≠ "java/lang/invoke/MethodHandle" ∧ yX1_answer.cls ≠ "java/lang/invoke/VarHandle" ∧ (parseMethodDescriptor yX1_answer.desc).map (fun d => d.parameters.length) = some 3 := ⟨by decide +kernel, by decide +kernel, by decide +kernel⟩
theorem zw_878 : Cond.code yX1_answer cX1_answer 4 (some .int) ∈ zTB := zTB_mem 1008 (by decide +kernel) rfl
theorem zw_877 : Cond.instanceMethod yX1_answer ∈ zTB := zTB_mem 1007 (by decide +kernel) rfl
theorem zsel_X1_answer : Cond.selects yX1_answer.cls yX1_answer yX1_answer ∈ zTB := zTB_mem 85 (by decide +kernel) rfl
theorem zw_197 : Cond.fieldLinkNest RX7 359 (TX1 1).1 (TX1 1).2.1 (TX1 1).2.2.1 "StampSheets" ∈ zNL := zNL_mem 327 (by decide +kernel) rfl
theorem zw_195 : Cond.fieldLinkNest RX7 362 (TX1 0).1 (TX1 0).2.1 (TX1 0).2.2.1 "StampSheets" ∈ zNL := zNL_mem 325 (by decide +kernel) rfl
theorem zw_906 : Cond.methodLink RX7 365 yX7_countRows ∈ zTB := zTB_mem 1036 (by decide +kernel) rfl
theorem zds_X7_countRows : yX7_countRows.cls ≠ "java/lang/invoke/MethodHandle" ∧ yX7_countRows.cls ≠ "java/lang/invoke/VarHandle" ∧ (parseMethodDescriptor yX7_countRows.desc).map (fun d => d.parameters.length) = some 0 := ⟨by decide +kernel, by decide +kernel, by decide +kernel⟩
theorem zw_909 : Cond.code yX7_countRows cX7_countRows 3 (some .int) ∈ zTB := zTB_mem 1039 (by decide +kernel) rfl
theorem zw_908 : Cond.instanceMethod yX7_countRows ∈ zTB := zTB_mem 1038 (by decide +kernel) rfl
theorem zsel_X7_countRows : Cond.selects yX7_countRows.cls yX7_countRows yX7_countRows ∈ zTB := zTB_mem 89 (by decide +kernel) rfl
theorem zw_263 : Cond.fieldLink RX7 64 (TX7 9).1 (TX7 9).2.1 (TX7 9).2.2.1 ∈ zTB := zTB_mem 393 (by decide +kernel) rfl
theorem zw_297 : Cond.constant RX7 368 (-1000010) ∈ zTB := zTB_mem 427 (by decide +kernel) rfl
theorem zw_418 : Cond.methodLinkNest RX7 369 yX2_learn "StampSheets" ∈ zNL := zNL_mem 548 (by decide +kernel) rfl
theorem zds_X2_learn : yX2_learn.cls ≠ "java/lang/invoke/MethodHandle" ∧ yX2_learn.cls ≠ "java/lang/invoke/VarHandle" ∧ (parseMethodDescriptor yX2_learn.desc).map (fun d => d.parameters.length) = some 1 := ⟨by decide +kernel, by decide +kernel, by decide +kernel⟩
theorem zw_421 : Cond.code yX2_learn cX2_learn 4 none ∈ zTB := zTB_mem 551 (by decide +kernel) rfl
theorem zw_420 : Cond.instanceMethod yX2_learn ∈ zTB := zTB_mem 550 (by decide +kernel) rfl
theorem zsel_X2_learn : Cond.selects yX2_learn.cls yX2_learn yX2_learn ∈ zTB := zTB_mem 22 (by decide +kernel) rfl
theorem zw_843 : Cond.constantLong RX7 372 3 ∈ zTB := zTB_mem 973 (by decide +kernel) rfl
theorem zw_844 : Cond.methodLink RX7 374 yX7_restBy ∈ zTB := zTB_mem 974 (by decide +kernel) rfl
theorem zds_X7_restBy : yX7_restBy.cls ≠ "java/lang/invoke/MethodHandle" ∧ yX7_restBy.cls ≠ "java/lang/invoke/VarHandle" ∧ (parseMethodDescriptor yX7_restBy.desc).map (fun d => d.parameters.length) = some 2 := ⟨by decide +kernel, by decide +kernel, by decide +kernel⟩
theorem zw_846 : Cond.code yX7_restBy cX7_restBy 3 (some .int) ∈ zTB := zTB_mem 976 (by decide +kernel) rfl
theorem zw_845 : Cond.static yX7_restBy ∈ zTB := zTB_mem 975 (by decide +kernel) rfl
theorem zw_262 : Cond.fieldLink RX7 60 (TX7 8).1 (TX7 8).2.1 (TX7 8).2.2.1 ∈ zTB := zTB_mem 392 (by decide +kernel) rfl
theorem zw_765 : Cond.methodLinkNest RX7 378 yX6_takeCells "StampSheets" ∈ zNL := zNL_mem 895 (by decide +kernel) rfl
theorem zds_X6_takeCells : yX6_takeCells.cls ≠ "java/lang/invoke/MethodHandle" ∧ yX6_takeCells.cls ≠ "java/lang/invoke/VarHandle" ∧ (parseMethodDescriptor yX6_takeCells.desc).map (fun d => d.parameters.length) = some 4 := ⟨by decide +kernel, by decide +kernel, by decide +kernel⟩
theorem zw_768 : Cond.code yX6_takeCells cX6_takeCells 8 (some .boolean) ∈ zTB := zTB_mem 898 (by decide +kernel) rfl
theorem zw_7 : Cond.initialized RX6 ∈ zTB := zTB_mem 137 (by decide +kernel) rfl
theorem zw_767 : Cond.instanceMethod yX6_takeCells ∈ zTB := zTB_mem 897 (by decide +kernel) rfl
theorem zsel_X6_takeCells : Cond.selects yX6_takeCells.cls yX6_takeCells yX6_takeCells ∈ zTB := zTB_mem 73 (by decide +kernel) rfl
theorem zw_769 : Cond.methodLinkNest RX7 382 yX6_takePays "StampSheets" ∈ zNL := zNL_mem 899 (by decide +kernel) rfl
theorem zds_X6_takePays : yX6_takePays.cls ≠ "java/lang/invoke/MethodHandle" ∧ yX6_takePays.cls ≠ "java/lang/invoke/VarHandle" ∧ (parseMethodDescriptor yX6_takePays.desc).map (fun d => d.parameters.length) = some 2 := ⟨by decide +kernel, by decide +kernel, by decide +kernel⟩
theorem zw_772 : Cond.code yX6_takePays cX6_takePays 4 none ∈ zTB := zTB_mem 902 (by decide +kernel) rfl
theorem zw_771 : Cond.instanceMethod yX6_takePays ∈ zTB := zTB_mem 901 (by decide +kernel) rfl
theorem zsel_X6_takePays : Cond.selects yX6_takePays.cls yX6_takePays yX6_takePays ∈ zTB := zTB_mem 74 (by decide +kernel) rfl
theorem zw_777 : Cond.methodLinkNest RX7 386 yX5_put "StampSheets" ∈ zNL := zNL_mem 907 (by decide +kernel) rfl
theorem zw_778 : Cond.methodLinkNest RX7 388 yX6_isSo "StampSheets" ∈ zNL := zNL_mem 908 (by decide +kernel) rfl
theorem zds_X6_isSo : yX6_isSo.cls ≠ "java/lang/invoke/MethodHandle" ∧ yX6_isSo.cls ≠ "java/lang/invoke/VarHandle" ∧ (parseMethodDescriptor yX6_isSo.desc).map (fun d => d.parameters.length) = some 1 := ⟨by decide +kernel, by decide +kernel, by decide +kernel⟩
theorem zw_781 : Cond.code yX6_isSo cX6_isSo 4 (some .boolean) ∈ zTB := zTB_mem 911 (by decide +kernel) rfl
theorem zw_780 : Cond.instanceMethod yX6_isSo ∈ zTB := zTB_mem 910 (by decide +kernel) rfl
theorem zsel_X6_isSo : Cond.selects yX6_isSo.cls yX6_isSo yX6_isSo ∈ zTB := zTB_mem 76 (by decide +kernel) rfl
theorem zw_799 : Cond.methodLink RX7 391 yX7_fitsSwapped ∈ zTB := zTB_mem 929 (by decide +kernel) rfl
theorem zds_X7_fitsSwapped : yX7_fitsSwapped.cls ≠ "java/lang/invoke/MethodHandle" ∧ yX7_fitsSwapped.cls ≠ "java/lang/invoke/VarHandle" ∧ (parseMethodDescriptor yX7_fitsSwapped.desc).map (fun d => d.parameters.length) = some 2 := ⟨by decide +kernel, by decide +kernel, by decide +kernel⟩
theorem zw_802 : Cond.code yX7_fitsSwapped cX7_fitsSwapped 3 (some .boolean) ∈ zTB := zTB_mem 932 (by decide +kernel) rfl
theorem zw_801 : Cond.instanceMethod yX7_fitsSwapped ∈ zTB := zTB_mem 931 (by decide +kernel) rfl
theorem zsel_X7_fitsSwapped : Cond.selects yX7_fitsSwapped.cls yX7_fitsSwapped yX7_fitsSwapped ∈ zTB := zTB_mem 80 (by decide +kernel) rfl
theorem zw_1002 : Cond.methodLink RX8 70 yX8_in ∈ zTB := zTB_mem 1132 (by decide +kernel) rfl
theorem zds_X8_in : yX8_in.cls ≠ "java/lang/invoke/MethodHandle" ∧ yX8_in.cls ≠ "java/lang/invoke/VarHandle" ∧ (parseMethodDescriptor yX8_in.desc).map (fun d => d.parameters.length) = some 3 := ⟨by decide +kernel, by decide +kernel, by decide +kernel⟩
theorem zw_1004 : Cond.code yX8_in cX8_in 3 (some .boolean) ∈ zTB := zTB_mem 1134 (by decide +kernel) rfl
theorem zw_9 : Cond.initialized RX8 ∈ zTB := zTB_mem 139 (by decide +kernel) rfl
theorem zw_1003 : Cond.static yX8_in ∈ zTB := zTB_mem 1133 (by decide +kernel) rfl
theorem zw_929 : Cond.fieldLink RX8 74 (TX8 4).1 (TX8 4).2.1 (TX8 4).2.2.1 ∈ zTB := zTB_mem 1059 (by decide +kernel) rfl
theorem zw_1010 : Cond.constant RX8 78 (-1000010) ∈ zTB := zTB_mem 1140 (by decide +kernel) rfl
theorem zw_999 : Cond.methodLink RX8 79 yX8_isRow ∈ zTB := zTB_mem 1129 (by decide +kernel) rfl
theorem zds_X8_isRow : yX8_isRow.cls ≠ "java/lang/invoke/MethodHandle" ∧ yX8_isRow.cls ≠ "java/lang/invoke/VarHandle" ∧ (parseMethodDescriptor yX8_isRow.desc).map (fun d => d.parameters.length) = some 1 := ⟨by decide +kernel, by decide +kernel, by decide +kernel⟩
theorem zw_1001 : Cond.code yX8_isRow cX8_isRow 1 (some .boolean) ∈ zTB := zTB_mem 1131 (by decide +kernel) rfl
theorem zw_1000 : Cond.static yX8_isRow ∈ zTB := zTB_mem 1130 (by decide +kernel) rfl
theorem zw_1005 : Cond.constant RX8 83 (-1000001) ∈ zTB := zTB_mem 1135 (by decide +kernel) rfl
theorem zw_1006 : Cond.methodLink RX8 84 yX8_finds ∈ zTB := zTB_mem 1136 (by decide +kernel) rfl
theorem zds_X8_finds : yX8_finds.cls ≠ "java/lang/invoke/MethodHandle" ∧ yX8_finds.cls ≠ "java/lang/invoke/VarHandle" ∧ (parseMethodDescriptor yX8_finds.desc).map (fun d => d.parameters.length) = some 1 := ⟨by decide +kernel, by decide +kernel, by decide +kernel⟩
theorem zw_1009 : Cond.code yX8_finds cX8_finds 2 (some .int) ∈ zTB := zTB_mem 1139 (by decide +kernel) rfl
theorem zw_1008 : Cond.instanceMethod yX8_finds ∈ zTB := zTB_mem 1138 (by decide +kernel) rfl
theorem zsel_X8_finds : Cond.selects yX8_finds.cls yX8_finds yX8_finds ∈ zTB := zTB_mem 90 (by decide +kernel) rfl
theorem zw_925 : Cond.fieldLink RX8 7 (TX8 0).1 (TX8 0).2.1 (TX8 0).2.2.1 ∈ zTB := zTB_mem 1055 (by decide +kernel) rfl
theorem zw_926 : Cond.fieldLink RX8 13 (TX8 1).1 (TX8 1).2.1 (TX8 1).2.2.1 ∈ zTB := zTB_mem 1056 (by decide +kernel) rfl
theorem zw_927 : Cond.fieldLink RX8 16 (TX8 2).1 (TX8 2).2.1 (TX8 2).2.2.1 ∈ zTB := zTB_mem 1057 (by decide +kernel) rfl
theorem zw_1019 : Cond.methodLink RX8 88 yX8_isPlace ∈ zTB := zTB_mem 1149 (by decide +kernel) rfl
theorem zds_X8_isPlace : yX8_isPlace.cls ≠ "java/lang/invoke/MethodHandle" ∧ yX8_isPlace.cls ≠ "java/lang/invoke/VarHandle" ∧ (parseMethodDescriptor yX8_isPlace.desc).map (fun d => d.parameters.length) = some 3 := ⟨by decide +kernel, by decide +kernel, by decide +kernel⟩
theorem zw_1022 : Cond.code yX8_isPlace cX8_isPlace 4 (some .boolean) ∈ zTB := zTB_mem 1152 (by decide +kernel) rfl
theorem zw_1021 : Cond.instanceMethod yX8_isPlace ∈ zTB := zTB_mem 1151 (by decide +kernel) rfl
theorem zsel_X8_isPlace : Cond.selects yX8_isPlace.cls yX8_isPlace yX8_isPlace ∈ zTB := zTB_mem 91 (by decide +kernel) rfl
theorem zw_928 : Cond.fieldLink RX8 19 (TX8 3).1 (TX8 3).2.1 (TX8 3).2.2.1 ∈ zTB := zTB_mem 1058 (by decide +kernel) rfl
theorem zw_931 : Cond.fieldLink RX8 91 (TX8 6).1 (TX8 6).2.1 (TX8 6).2.2.1 ∈ zTB := zTB_mem 1061 (by decide +kernel) rfl
theorem zw_1031 : Cond.constant RX8 94 (-1000003) ∈ zTB := zTB_mem 1161 (by decide +kernel) rfl
theorem zw_930 : Cond.fieldLink RX8 22 (TX8 5).1 (TX8 5).2.1 (TX8 5).2.2.1 ∈ zTB := zTB_mem 1060 (by decide +kernel) rfl
theorem zw_934 : Cond.fieldLink RX8 95 (TX8 9).1 (TX8 9).2.1 (TX8 9).2.2.1 ∈ zTB := zTB_mem 1064 (by decide +kernel) rfl
theorem zw_932 : Cond.fieldLink RX8 98 (TX8 7).1 (TX8 7).2.1 (TX8 7).2.2.1 ∈ zTB := zTB_mem 1062 (by decide +kernel) rfl
theorem zw_933 : Cond.fieldLink RX8 101 (TX8 8).1 (TX8 8).2.1 (TX8 8).2.2.1 ∈ zTB := zTB_mem 1063 (by decide +kernel) rfl
theorem zw_1048 : Cond.methodLink RX8 104 yX8_byteAt ∈ zTB := zTB_mem 1178 (by decide +kernel) rfl
theorem zds_X8_byteAt : yX8_byteAt.cls ≠ "java/lang/invoke/MethodHandle" ∧ yX8_byteAt.cls ≠ "java/lang/invoke/VarHandle" ∧ (parseMethodDescriptor yX8_byteAt.desc).map (fun d => d.parameters.length) = some 1 := ⟨by decide +kernel, by decide +kernel, by decide +kernel⟩
theorem zw_1051 : Cond.code yX8_byteAt cX8_byteAt 2 (some .int) ∈ zTB := zTB_mem 1181 (by decide +kernel) rfl
theorem zw_1050 : Cond.instanceMethod yX8_byteAt ∈ zTB := zTB_mem 1180 (by decide +kernel) rfl
theorem zsel_X8_byteAt : Cond.selects yX8_byteAt.cls yX8_byteAt yX8_byteAt ∈ zTB := zTB_mem 95 (by decide +kernel) rfl
theorem zw_1052 : Cond.methodLink RX8 107 yX8_wrongs ∈ zTB := zTB_mem 1182 (by decide +kernel) rfl
theorem zds_X8_wrongs : yX8_wrongs.cls ≠ "java/lang/invoke/MethodHandle" ∧ yX8_wrongs.cls ≠ "java/lang/invoke/VarHandle" ∧ (parseMethodDescriptor yX8_wrongs.desc).map (fun d => d.parameters.length) = some 1 := ⟨by decide +kernel, by decide +kernel, by decide +kernel⟩
theorem zw_1055 : Cond.code yX8_wrongs cX8_wrongs 2 (some .boolean) ∈ zTB := zTB_mem 1185 (by decide +kernel) rfl
theorem zw_1054 : Cond.instanceMethod yX8_wrongs ∈ zTB := zTB_mem 1184 (by decide +kernel) rfl
theorem zsel_X8_wrongs : Cond.selects yX8_wrongs.cls yX8_wrongs yX8_wrongs ∈ zTB := zTB_mem 96 (by decide +kernel) rfl
theorem zw_1060 : Cond.methodLink RX8 110 yX8_isFigure ∈ zTB := zTB_mem 1190 (by decide +kernel) rfl
theorem zds_X8_isFigure : yX8_isFigure.cls ≠ "java/lang/invoke/MethodHandle" ∧ yX8_isFigure.cls ≠ "java/lang/invoke/VarHandle" ∧ (parseMethodDescriptor yX8_isFigure.desc).map (fun d => d.parameters.length) = some 1 := ⟨by decide +kernel, by decide +kernel, by decide +kernel⟩
theorem zw_1062 : Cond.code yX8_isFigure cX8_isFigure 1 (some .boolean) ∈ zTB := zTB_mem 1192 (by decide +kernel) rfl
theorem zw_1061 : Cond.static yX8_isFigure ∈ zTB := zTB_mem 1191 (by decide +kernel) rfl
theorem zw_936 : Cond.fieldLink RX8 28 (TX8 11).1 (TX8 11).2.1 (TX8 11).2.2.1 ∈ zTB := zTB_mem 1066 (by decide +kernel) rfl
theorem zw_1044 : Cond.methodLink RX8 113 yX8_takes ∈ zTB := zTB_mem 1174 (by decide +kernel) rfl
theorem zds_X8_takes : yX8_takes.cls ≠ "java/lang/invoke/MethodHandle" ∧ yX8_takes.cls ≠ "java/lang/invoke/VarHandle" ∧ (parseMethodDescriptor yX8_takes.desc).map (fun d => d.parameters.length) = some 1 := ⟨by decide +kernel, by decide +kernel, by decide +kernel⟩
theorem zw_1047 : Cond.code yX8_takes cX8_takes 2 (some .boolean) ∈ zTB := zTB_mem 1177 (by decide +kernel) rfl
theorem zw_1046 : Cond.instanceMethod yX8_takes ∈ zTB := zTB_mem 1176 (by decide +kernel) rfl
theorem zsel_X8_takes : Cond.selects yX8_takes.cls yX8_takes yX8_takes ∈ zTB := zTB_mem 94 (by decide +kernel) rfl
theorem zw_1056 : Cond.methodLink RX8 116 yX8_number ∈ zTB := zTB_mem 1186 (by decide +kernel) rfl
theorem zds_X8_number : yX8_number.cls ≠ "java/lang/invoke/MethodHandle" ∧ yX8_number.cls ≠ "java/lang/invoke/VarHandle" ∧ (parseMethodDescriptor yX8_number.desc).map (fun d => d.parameters.length) = some 3 := ⟨by decide +kernel, by decide +kernel, by decide +kernel⟩
theorem zw_1059 : Cond.code yX8_number cX8_number 5 (some .boolean) ∈ zTB := zTB_mem 1189 (by decide +kernel) rfl
theorem zw_1058 : Cond.instanceMethod yX8_number ∈ zTB := zTB_mem 1188 (by decide +kernel) rfl
theorem zsel_X8_number : Cond.selects yX8_number.cls yX8_number yX8_number ∈ zTB := zTB_mem 97 (by decide +kernel) rfl
theorem zw_1067 : Cond.methodLink RX8 119 yX8_kindBy ∈ zTB := zTB_mem 1197 (by decide +kernel) rfl
theorem zds_X8_kindBy : yX8_kindBy.cls ≠ "java/lang/invoke/MethodHandle" ∧ yX8_kindBy.cls ≠ "java/lang/invoke/VarHandle" ∧ (parseMethodDescriptor yX8_kindBy.desc).map (fun d => d.parameters.length) = some 1 := ⟨by decide +kernel, by decide +kernel, by decide +kernel⟩
theorem zw_1069 : Cond.code yX8_kindBy cX8_kindBy 1 (some .int) ∈ zTB := zTB_mem 1199 (by decide +kernel) rfl
theorem zw_1068 : Cond.static yX8_kindBy ∈ zTB := zTB_mem 1198 (by decide +kernel) rfl
theorem zw_1040 : Cond.methodLink RX8 122 yX8_readsLaw ∈ zTB := zTB_mem 1170 (by decide +kernel) rfl
theorem zds_X8_readsLaw : yX8_readsLaw.cls ≠ "java/lang/invoke/MethodHandle" ∧ yX8_readsLaw.cls ≠ "java/lang/invoke/VarHandle" ∧ (parseMethodDescriptor yX8_readsLaw.desc).map (fun d => d.parameters.length) = some 0 := ⟨by decide +kernel, by decide +kernel, by decide +kernel⟩
theorem zw_1043 : Cond.code yX8_readsLaw cX8_readsLaw 2 (some .boolean) ∈ zTB := zTB_mem 1173 (by decide +kernel) rfl
theorem zw_1042 : Cond.instanceMethod yX8_readsLaw ∈ zTB := zTB_mem 1172 (by decide +kernel) rfl
theorem zsel_X8_readsLaw : Cond.selects yX8_readsLaw.cls yX8_readsLaw yX8_readsLaw ∈ zTB := zTB_mem 93 (by decide +kernel) rfl
theorem zw_1063 : Cond.methodLink RX8 126 yX8_readsStamp ∈ zTB := zTB_mem 1193 (by decide +kernel) rfl
theorem zds_X8_readsStamp : yX8_readsStamp.cls ≠ "java/lang/invoke/MethodHandle" ∧ yX8_readsStamp.cls ≠ "java/lang/invoke/VarHandle" ∧ (parseMethodDescriptor yX8_readsStamp.desc).map (fun d => d.parameters.length) = some 1 := ⟨by decide +kernel, by decide +kernel, by decide +kernel⟩
theorem zw_1066 : Cond.code yX8_readsStamp cX8_readsStamp 3 (some .boolean) ∈ zTB := zTB_mem 1196 (by decide +kernel) rfl
theorem zw_1065 : Cond.instanceMethod yX8_readsStamp ∈ zTB := zTB_mem 1195 (by decide +kernel) rfl
theorem zsel_X8_readsStamp : Cond.selects yX8_readsStamp.cls yX8_readsStamp yX8_readsStamp ∈ zTB := zTB_mem 98 (by decide +kernel) rfl
theorem zw_1070 : Cond.methodLink RX8 129 yX8_readsCustomer ∈ zTB := zTB_mem 1200 (by decide +kernel) rfl
theorem zds_X8_readsCustomer : yX8_readsCustomer.cls ≠ "java/lang/invoke/MethodHandle" ∧ yX8_readsCustomer.cls ≠ "java/lang/invoke/VarHandle" ∧ (parseMethodDescriptor yX8_readsCustomer.desc).map (fun d => d.parameters.length) = some 0 := ⟨by decide +kernel, by decide +kernel, by decide +kernel⟩
theorem zw_1073 : Cond.code yX8_readsCustomer cX8_readsCustomer 2 (some .boolean) ∈ zTB := zTB_mem 1203 (by decide +kernel) rfl
theorem zw_1072 : Cond.instanceMethod yX8_readsCustomer ∈ zTB := zTB_mem 1202 (by decide +kernel) rfl
theorem zsel_X8_readsCustomer : Cond.selects yX8_readsCustomer.cls yX8_readsCustomer yX8_readsCustomer ∈ zTB := zTB_mem 99 (by decide +kernel) rfl
theorem zw_935 : Cond.fieldLink RX8 25 (TX8 10).1 (TX8 10).2.1 (TX8 10).2.2.1 ∈ zTB := zTB_mem 1065 (by decide +kernel) rfl
theorem zw_937 : Cond.fieldLink RX8 31 (TX8 12).1 (TX8 12).2.1 (TX8 12).2.2.1 ∈ zTB := zTB_mem 1067 (by decide +kernel) rfl
theorem zw_1036 : Cond.methodLink RX8 132 yX8_reads ∈ zTB := zTB_mem 1166 (by decide +kernel) rfl
theorem zds_X8_reads : yX8_reads.cls ≠ "java/lang/invoke/MethodHandle" ∧ yX8_reads.cls ≠ "java/lang/invoke/VarHandle" ∧ (parseMethodDescriptor yX8_reads.desc).map (fun d => d.parameters.length) = some 0 := ⟨by decide +kernel, by decide +kernel, by decide +kernel⟩
theorem zw_1039 : Cond.code yX8_reads cX8_reads 2 (some .boolean) ∈ zTB := zTB_mem 1169 (by decide +kernel) rfl
theorem zw_1038 : Cond.instanceMethod yX8_reads ∈ zTB := zTB_mem 1168 (by decide +kernel) rfl
theorem zsel_X8_reads : Cond.selects yX8_reads.cls yX8_reads yX8_reads ∈ zTB := zTB_mem 92 (by decide +kernel) rfl
theorem zw_1074 : Cond.constant RX8 135 (-1000100) ∈ zTB := zTB_mem 1204 (by decide +kernel) rfl
theorem zw_1075 : Cond.methodLink RX8 136 yX8_joins ∈ zTB := zTB_mem 1205 (by decide +kernel) rfl
theorem zds_X8_joins : yX8_joins.cls ≠ "java/lang/invoke/MethodHandle" ∧ yX8_joins.cls ≠ "java/lang/invoke/VarHandle" ∧ (parseMethodDescriptor yX8_joins.desc).map (fun d => d.parameters.length) = some 0 := ⟨by decide +kernel, by decide +kernel, by decide +kernel⟩
theorem zw_1078 : Cond.code yX8_joins cX8_joins 5 none ∈ zTB := zTB_mem 1208 (by decide +kernel) rfl
theorem zw_1077 : Cond.instanceMethod yX8_joins ∈ zTB := zTB_mem 1207 (by decide +kernel) rfl
theorem zsel_X8_joins : Cond.selects yX8_joins.cls yX8_joins yX8_joins ∈ zTB := zTB_mem 100 (by decide +kernel) rfl
theorem zw_939 : Cond.fieldLink RX8 139 (TX8 14).1 (TX8 14).2.1 (TX8 14).2.2.1 ∈ zTB := zTB_mem 1069 (by decide +kernel) rfl
theorem zw_938 : Cond.fieldLink RX8 34 (TX8 13).1 (TX8 13).2.1 (TX8 13).2.2.1 ∈ zTB := zTB_mem 1068 (by decide +kernel) rfl
theorem zw_1087 : Cond.constant RX8 142 (-1000002) ∈ zTB := zTB_mem 1217 (by decide +kernel) rfl
theorem zw_1104 : Cond.methodLink RX8 143 yX8_gone ∈ zTB := zTB_mem 1234 (by decide +kernel) rfl
theorem zds_X8_gone : yX8_gone.cls ≠ "java/lang/invoke/MethodHandle" ∧ yX8_gone.cls ≠ "java/lang/invoke/VarHandle" ∧ (parseMethodDescriptor yX8_gone.desc).map (fun d => d.parameters.length) = some 0 := ⟨by decide +kernel, by decide +kernel, by decide +kernel⟩
theorem zw_1107 : Cond.code yX8_gone cX8_gone 3 (some .int) ∈ zTB := zTB_mem 1237 (by decide +kernel) rfl
theorem zw_1106 : Cond.instanceMethod yX8_gone ∈ zTB := zTB_mem 1236 (by decide +kernel) rfl
theorem zsel_X8_gone : Cond.selects yX8_gone.cls yX8_gone yX8_gone ∈ zTB := zTB_mem 104 (by decide +kernel) rfl
theorem zw_1115 : Cond.methodLink RX8 147 yX8_has ∈ zTB := zTB_mem 1245 (by decide +kernel) rfl
theorem zds_X8_has : yX8_has.cls ≠ "java/lang/invoke/MethodHandle" ∧ yX8_has.cls ≠ "java/lang/invoke/VarHandle" ∧ (parseMethodDescriptor yX8_has.desc).map (fun d => d.parameters.length) = some 2 := ⟨by decide +kernel, by decide +kernel, by decide +kernel⟩
theorem zw_1117 : Cond.code yX8_has cX8_has 2 (some .boolean) ∈ zTB := zTB_mem 1247 (by decide +kernel) rfl
theorem zw_1116 : Cond.static yX8_has ∈ zTB := zTB_mem 1246 (by decide +kernel) rfl
theorem zw_1112 : Cond.methodLink RX8 151 yX8_lowest ∈ zTB := zTB_mem 1242 (by decide +kernel) rfl
theorem zds_X8_lowest : yX8_lowest.cls ≠ "java/lang/invoke/MethodHandle" ∧ yX8_lowest.cls ≠ "java/lang/invoke/VarHandle" ∧ (parseMethodDescriptor yX8_lowest.desc).map (fun d => d.parameters.length) = some 1 := ⟨by decide +kernel, by decide +kernel, by decide +kernel⟩
theorem zw_1114 : Cond.code yX8_lowest cX8_lowest 2 (some .int) ∈ zTB := zTB_mem 1244 (by decide +kernel) rfl
theorem zw_1113 : Cond.static yX8_lowest ∈ zTB := zTB_mem 1243 (by decide +kernel) rfl
theorem zw_1118 : Cond.methodLink RX8 154 yX8_reach ∈ zTB := zTB_mem 1248 (by decide +kernel) rfl
theorem zds_X8_reach : yX8_reach.cls ≠ "java/lang/invoke/MethodHandle" ∧ yX8_reach.cls ≠ "java/lang/invoke/VarHandle" ∧ (parseMethodDescriptor yX8_reach.desc).map (fun d => d.parameters.length) = some 2 := ⟨by decide +kernel, by decide +kernel, by decide +kernel⟩
theorem zw_1121 : Cond.code yX8_reach cX8_reach 6 (some .int) ∈ zTB := zTB_mem 1251 (by decide +kernel) rfl
theorem zw_1120 : Cond.instanceMethod yX8_reach ∈ zTB := zTB_mem 1250 (by decide +kernel) rfl
theorem zsel_X8_reach : Cond.selects yX8_reach.cls yX8_reach yX8_reach ∈ zTB := zTB_mem 106 (by decide +kernel) rfl
theorem zw_1100 : Cond.methodLink RX8 158 yX8_on ∈ zTB := zTB_mem 1230 (by decide +kernel) rfl
theorem zds_X8_on : yX8_on.cls ≠ "java/lang/invoke/MethodHandle" ∧ yX8_on.cls ≠ "java/lang/invoke/VarHandle" ∧ (parseMethodDescriptor yX8_on.desc).map (fun d => d.parameters.length) = some 0 := ⟨by decide +kernel, by decide +kernel, by decide +kernel⟩
theorem zw_1103 : Cond.code yX8_on cX8_on 1 (some .int) ∈ zTB := zTB_mem 1233 (by decide +kernel) rfl
theorem zw_1102 : Cond.instanceMethod yX8_on ∈ zTB := zTB_mem 1232 (by decide +kernel) rfl
theorem zsel_X8_on : Cond.selects yX8_on.cls yX8_on yX8_on ∈ zTB := zTB_mem 103 (by decide +kernel) rfl
theorem zw_1108 : Cond.methodLink RX8 161 yX8_hangs ∈ zTB := zTB_mem 1238 (by decide +kernel) rfl
theorem zds_X8_hangs : yX8_hangs.cls ≠ "java/lang/invoke/MethodHandle" ∧ yX8_hangs.cls ≠ "java/lang/invoke/VarHandle" ∧ (parseMethodDescriptor yX8_hangs.desc).map (fun d => d.parameters.length) = some 1 := ⟨by decide +kernel, by decide +kernel, by decide +kernel⟩
theorem zw_1111 : Cond.code yX8_hangs cX8_hangs 2 (some .boolean) ∈ zTB := zTB_mem 1241 (by decide +kernel) rfl
theorem zw_1110 : Cond.instanceMethod yX8_hangs ∈ zTB := zTB_mem 1240 (by decide +kernel) rfl
theorem zsel_X8_hangs : Cond.selects yX8_hangs.cls yX8_hangs yX8_hangs ∈ zTB := zTB_mem 105 (by decide +kernel) rfl
theorem zw_1126 : Cond.methodLink RX8 164 yX8_ones ∈ zTB := zTB_mem 1256 (by decide +kernel) rfl
theorem zds_X8_ones : yX8_ones.cls ≠ "java/lang/invoke/MethodHandle" ∧ yX8_ones.cls ≠ "java/lang/invoke/VarHandle" ∧ (parseMethodDescriptor yX8_ones.desc).map (fun d => d.parameters.length) = some 1 := ⟨by decide +kernel, by decide +kernel, by decide +kernel⟩
theorem zw_1128 : Cond.code yX8_ones cX8_ones 3 (some .int) ∈ zTB := zTB_mem 1258 (by decide +kernel) rfl
theorem zw_1127 : Cond.static yX8_ones ∈ zTB := zTB_mem 1257 (by decide +kernel) rfl
theorem zw_1133 : Cond.methodLink RX8 167 yX8_tears ∈ zTB := zTB_mem 1263 (by decide +kernel) rfl
theorem zds_X8_tears : yX8_tears.cls ≠ "java/lang/invoke/MethodHandle" ∧ yX8_tears.cls ≠ "java/lang/invoke/VarHandle" ∧ (parseMethodDescriptor yX8_tears.desc).map (fun d => d.parameters.length) = some 1 := ⟨by decide +kernel, by decide +kernel, by decide +kernel⟩
theorem zw_1136 : Cond.code yX8_tears cX8_tears 4 (some .int) ∈ zTB := zTB_mem 1266 (by decide +kernel) rfl
theorem zw_1135 : Cond.instanceMethod yX8_tears ∈ zTB := zTB_mem 1265 (by decide +kernel) rfl
theorem zsel_X8_tears : Cond.selects yX8_tears.cls yX8_tears yX8_tears ∈ zTB := zTB_mem 109 (by decide +kernel) rfl
theorem zw_1092 : Cond.methodLink RX8 170 yX8_isCustomer ∈ zTB := zTB_mem 1222 (by decide +kernel) rfl
theorem zds_X8_isCustomer : yX8_isCustomer.cls ≠ "java/lang/invoke/MethodHandle" ∧ yX8_isCustomer.cls ≠ "java/lang/invoke/VarHandle" ∧ (parseMethodDescriptor yX8_isCustomer.desc).map (fun d => d.parameters.length) = some 1 := ⟨by decide +kernel, by decide +kernel, by decide +kernel⟩
theorem zw_1095 : Cond.code yX8_isCustomer cX8_isCustomer 2 (some .boolean) ∈ zTB := zTB_mem 1225 (by decide +kernel) rfl
theorem zw_1094 : Cond.instanceMethod yX8_isCustomer ∈ zTB := zTB_mem 1224 (by decide +kernel) rfl
theorem zsel_X8_isCustomer : Cond.selects yX8_isCustomer.cls yX8_isCustomer yX8_isCustomer ∈ zTB := zTB_mem 101 (by decide +kernel) rfl
theorem zw_1096 : Cond.methodLink RX8 173 yX8_isPiece ∈ zTB := zTB_mem 1226 (by decide +kernel) rfl
theorem zds_X8_isPiece : yX8_isPiece.cls ≠ "java/lang/invoke/MethodHandle" ∧ yX8_isPiece.cls ≠ "java/lang/invoke/VarHandle" ∧ (parseMethodDescriptor yX8_isPiece.desc).map (fun d => d.parameters.length) = some 1 := ⟨by decide +kernel, by decide +kernel, by decide +kernel⟩
theorem zw_1099 : Cond.code yX8_isPiece cX8_isPiece 2 (some .boolean) ∈ zTB := zTB_mem 1229 (by decide +kernel) rfl
theorem zw_1098 : Cond.instanceMethod yX8_isPiece ∈ zTB := zTB_mem 1228 (by decide +kernel) rfl
theorem zsel_X8_isPiece : Cond.selects yX8_isPiece.cls yX8_isPiece yX8_isPiece ∈ zTB := zTB_mem 102 (by decide +kernel) rfl
theorem zw_1122 : Cond.methodLink RX8 176 yX8_pays ∈ zTB := zTB_mem 1252 (by decide +kernel) rfl
theorem zds_X8_pays : yX8_pays.cls ≠ "java/lang/invoke/MethodHandle" ∧ yX8_pays.cls ≠ "java/lang/invoke/VarHandle" ∧ (parseMethodDescriptor yX8_pays.desc).map (fun d => d.parameters.length) = some 1 := ⟨by decide +kernel, by decide +kernel, by decide +kernel⟩
theorem zw_1125 : Cond.code yX8_pays cX8_pays 8 (some .int) ∈ zTB := zTB_mem 1255 (by decide +kernel) rfl
theorem zw_1124 : Cond.instanceMethod yX8_pays ∈ zTB := zTB_mem 1254 (by decide +kernel) rfl
theorem zsel_X8_pays : Cond.selects yX8_pays.cls yX8_pays yX8_pays ∈ zTB := zTB_mem 107 (by decide +kernel) rfl
theorem zw_1129 : Cond.methodLink RX8 179 yX8_keeps ∈ zTB := zTB_mem 1259 (by decide +kernel) rfl
theorem zds_X8_keeps : yX8_keeps.cls ≠ "java/lang/invoke/MethodHandle" ∧ yX8_keeps.cls ≠ "java/lang/invoke/VarHandle" ∧ (parseMethodDescriptor yX8_keeps.desc).map (fun d => d.parameters.length) = some 0 := ⟨by decide +kernel, by decide +kernel, by decide +kernel⟩
theorem zw_1132 : Cond.code yX8_keeps cX8_keeps 2 none ∈ zTB := zTB_mem 1262 (by decide +kernel) rfl
theorem zw_1131 : Cond.instanceMethod yX8_keeps ∈ zTB := zTB_mem 1261 (by decide +kernel) rfl
theorem zsel_X8_keeps : Cond.selects yX8_keeps.cls yX8_keeps yX8_keeps ∈ zTB := zTB_mem 108 (by decide +kernel) rfl
theorem zw_1137 : Cond.methodLink RX8 182 yX8_serves ∈ zTB := zTB_mem 1267 (by decide +kernel) rfl
theorem zds_X8_serves : yX8_serves.cls ≠ "java/lang/invoke/MethodHandle" ∧ yX8_serves.cls ≠ "java/lang/invoke/VarHandle" ∧ (parseMethodDescriptor yX8_serves.desc).map (fun d => d.parameters.length) = some 2 := ⟨by decide +kernel, by decide +kernel, by decide +kernel⟩
theorem zw_1140 : Cond.code yX8_serves cX8_serves 3 none ∈ zTB := zTB_mem 1270 (by decide +kernel) rfl
theorem zw_1139 : Cond.instanceMethod yX8_serves ∈ zTB := zTB_mem 1269 (by decide +kernel) rfl
theorem zsel_X8_serves : Cond.selects yX8_serves.cls yX8_serves yX8_serves ∈ zTB := zTB_mem 110 (by decide +kernel) rfl
theorem zw_1149 : Cond.methodLink RX8 186 yX8_isCell ∈ zTB := zTB_mem 1279 (by decide +kernel) rfl
theorem zds_X8_isCell : yX8_isCell.cls ≠ "java/lang/invoke/MethodHandle" ∧ yX8_isCell.cls ≠ "java/lang/invoke/VarHandle" ∧ (parseMethodDescriptor yX8_isCell.desc).map (fun d => d.parameters.length) = some 1 := ⟨by decide +kernel, by decide +kernel, by decide +kernel⟩
theorem zw_1152 : Cond.code yX8_isCell cX8_isCell 2 (some .boolean) ∈ zTB := zTB_mem 1282 (by decide +kernel) rfl
theorem zw_1151 : Cond.instanceMethod yX8_isCell ∈ zTB := zTB_mem 1281 (by decide +kernel) rfl
theorem zsel_X8_isCell : Cond.selects yX8_isCell.cls yX8_isCell yX8_isCell ∈ zTB := zTB_mem 111 (by decide +kernel) rfl
theorem zw_1169 : Cond.constant RX8 189 (-1000000) ∈ zTB := zTB_mem 1299 (by decide +kernel) rfl
theorem zw_1165 : Cond.methodLink RX8 190 yX8_ownerOf ∈ zTB := zTB_mem 1295 (by decide +kernel) rfl
theorem zds_X8_ownerOf : yX8_ownerOf.cls ≠ "java/lang/invoke/MethodHandle" ∧ yX8_ownerOf.cls ≠ "java/lang/invoke/VarHandle" ∧ (parseMethodDescriptor yX8_ownerOf.desc).map (fun d => d.parameters.length) = some 1 := ⟨by decide +kernel, by decide +kernel, by decide +kernel⟩
theorem zw_1168 : Cond.code yX8_ownerOf cX8_ownerOf 4 (some .int) ∈ zTB := zTB_mem 1298 (by decide +kernel) rfl
theorem zw_1167 : Cond.instanceMethod yX8_ownerOf ∈ zTB := zTB_mem 1297 (by decide +kernel) rfl
theorem zsel_X8_ownerOf : Cond.selects yX8_ownerOf.cls yX8_ownerOf yX8_ownerOf ∈ zTB := zTB_mem 112 (by decide +kernel) rfl
theorem zw_1178 : Cond.methodLink RX8 193 yX8_servedNow ∈ zTB := zTB_mem 1308 (by decide +kernel) rfl
theorem zds_X8_servedNow : yX8_servedNow.cls ≠ "java/lang/invoke/MethodHandle" ∧ yX8_servedNow.cls ≠ "java/lang/invoke/VarHandle" ∧ (parseMethodDescriptor yX8_servedNow.desc).map (fun d => d.parameters.length) = some 0 := ⟨by decide +kernel, by decide +kernel, by decide +kernel⟩
theorem zw_1181 : Cond.code yX8_servedNow cX8_servedNow 3 (some .int) ∈ zTB := zTB_mem 1311 (by decide +kernel) rfl
theorem zw_1180 : Cond.instanceMethod yX8_servedNow ∈ zTB := zTB_mem 1310 (by decide +kernel) rfl
theorem zsel_X8_servedNow : Cond.selects yX8_servedNow.cls yX8_servedNow yX8_servedNow ∈ zTB := zTB_mem 113 (by decide +kernel) rfl
theorem zw_1190 : Cond.methodLink RX8 196 yX8_partOf ∈ zTB := zTB_mem 1320 (by decide +kernel) rfl
theorem zds_X8_partOf : yX8_partOf.cls ≠ "java/lang/invoke/MethodHandle" ∧ yX8_partOf.cls ≠ "java/lang/invoke/VarHandle" ∧ (parseMethodDescriptor yX8_partOf.desc).map (fun d => d.parameters.length) = some 2 := ⟨by decide +kernel, by decide +kernel, by decide +kernel⟩
theorem zw_1193 : Cond.code yX8_partOf cX8_partOf 5 (some .int) ∈ zTB := zTB_mem 1323 (by decide +kernel) rfl
theorem zw_1192 : Cond.instanceMethod yX8_partOf ∈ zTB := zTB_mem 1322 (by decide +kernel) rfl
theorem zsel_X8_partOf : Cond.selects yX8_partOf.cls yX8_partOf yX8_partOf ∈ zTB := zTB_mem 115 (by decide +kernel) rfl
theorem zw_1186 : Cond.methodLink RX8 199 yX8_manyParts ∈ zTB := zTB_mem 1316 (by decide +kernel) rfl
theorem zds_X8_manyParts : yX8_manyParts.cls ≠ "java/lang/invoke/MethodHandle" ∧ yX8_manyParts.cls ≠ "java/lang/invoke/VarHandle" ∧ (parseMethodDescriptor yX8_manyParts.desc).map (fun d => d.parameters.length) = some 1 := ⟨by decide +kernel, by decide +kernel, by decide +kernel⟩
theorem zw_1189 : Cond.code yX8_manyParts cX8_manyParts 3 (some .int) ∈ zTB := zTB_mem 1319 (by decide +kernel) rfl
theorem zw_1188 : Cond.instanceMethod yX8_manyParts ∈ zTB := zTB_mem 1318 (by decide +kernel) rfl
theorem zsel_X8_manyParts : Cond.selects yX8_manyParts.cls yX8_manyParts yX8_manyParts ∈ zTB := zTB_mem 114 (by decide +kernel) rfl
theorem zw_942 : Cond.fieldLink RX8 44 (TX8 17).1 (TX8 17).2.1 (TX8 17).2.2.1 ∈ zTB := zTB_mem 1072 (by decide +kernel) rfl
theorem zw_1202 : Cond.methodLink RX8 202 yX8_isStraight ∈ zTB := zTB_mem 1332 (by decide +kernel) rfl
theorem zds_X8_isStraight : yX8_isStraight.cls ≠ "java/lang/invoke/MethodHandle" ∧ yX8_isStraight.cls ≠ "java/lang/invoke/VarHandle" ∧ (parseMethodDescriptor yX8_isStraight.desc).map (fun d => d.parameters.length) = some 1 := ⟨by decide +kernel, by decide +kernel, by decide +kernel⟩
theorem zw_1205 : Cond.code yX8_isStraight cX8_isStraight 6 (some .boolean) ∈ zTB := zTB_mem 1335 (by decide +kernel) rfl
theorem zw_1204 : Cond.instanceMethod yX8_isStraight ∈ zTB := zTB_mem 1334 (by decide +kernel) rfl
theorem zsel_X8_isStraight : Cond.selects yX8_isStraight.cls yX8_isStraight yX8_isStraight ∈ zTB := zTB_mem 116 (by decide +kernel) rfl
theorem zw_1210 : Cond.methodLink RX8 205 yX8_surveys ∈ zTB := zTB_mem 1340 (by decide +kernel) rfl
theorem zds_X8_surveys : yX8_surveys.cls ≠ "java/lang/invoke/MethodHandle" ∧ yX8_surveys.cls ≠ "java/lang/invoke/VarHandle" ∧ (parseMethodDescriptor yX8_surveys.desc).map (fun d => d.parameters.length) = some 0 := ⟨by decide +kernel, by decide +kernel, by decide +kernel⟩
theorem zw_1213 : Cond.code yX8_surveys cX8_surveys 2 none ∈ zTB := zTB_mem 1343 (by decide +kernel) rfl
theorem zw_1212 : Cond.instanceMethod yX8_surveys ∈ zTB := zTB_mem 1342 (by decide +kernel) rfl
theorem zsel_X8_surveys : Cond.selects yX8_surveys.cls yX8_surveys yX8_surveys ∈ zTB := zTB_mem 117 (by decide +kernel) rfl
theorem zw_1214 : Cond.methodLink RX8 208 yX8_paysBy ∈ zTB := zTB_mem 1344 (by decide +kernel) rfl
theorem zds_X8_paysBy : yX8_paysBy.cls ≠ "java/lang/invoke/MethodHandle" ∧ yX8_paysBy.cls ≠ "java/lang/invoke/VarHandle" ∧ (parseMethodDescriptor yX8_paysBy.desc).map (fun d => d.parameters.length) = some 1 := ⟨by decide +kernel, by decide +kernel, by decide +kernel⟩
theorem zw_1217 : Cond.code yX8_paysBy cX8_paysBy 2 (some .int) ∈ zTB := zTB_mem 1347 (by decide +kernel) rfl
theorem zw_1216 : Cond.instanceMethod yX8_paysBy ∈ zTB := zTB_mem 1346 (by decide +kernel) rfl
theorem zsel_X8_paysBy : Cond.selects yX8_paysBy.cls yX8_paysBy yX8_paysBy ∈ zTB := zTB_mem 118 (by decide +kernel) rfl
theorem zw_1226 : Cond.methodLink RX8 211 yX8_fitsFor ∈ zTB := zTB_mem 1356 (by decide +kernel) rfl
theorem zds_X8_fitsFor : yX8_fitsFor.cls ≠ "java/lang/invoke/MethodHandle" ∧ yX8_fitsFor.cls ≠ "java/lang/invoke/VarHandle" ∧ (parseMethodDescriptor yX8_fitsFor.desc).map (fun d => d.parameters.length) = some 2 := ⟨by decide +kernel, by decide +kernel, by decide +kernel⟩
theorem zw_1229 : Cond.code yX8_fitsFor cX8_fitsFor 3 (some .boolean) ∈ zTB := zTB_mem 1359 (by decide +kernel) rfl
theorem zw_1228 : Cond.instanceMethod yX8_fitsFor ∈ zTB := zTB_mem 1358 (by decide +kernel) rfl
theorem zsel_X8_fitsFor : Cond.selects yX8_fitsFor.cls yX8_fitsFor yX8_fitsFor ∈ zTB := zTB_mem 120 (by decide +kernel) rfl
theorem zw_1222 : Cond.methodLink RX8 214 yX8_bestFor ∈ zTB := zTB_mem 1352 (by decide +kernel) rfl
theorem zds_X8_bestFor : yX8_bestFor.cls ≠ "java/lang/invoke/MethodHandle" ∧ yX8_bestFor.cls ≠ "java/lang/invoke/VarHandle" ∧ (parseMethodDescriptor yX8_bestFor.desc).map (fun d => d.parameters.length) = some 1 := ⟨by decide +kernel, by decide +kernel, by decide +kernel⟩
theorem zw_1225 : Cond.code yX8_bestFor cX8_bestFor 5 (some .int) ∈ zTB := zTB_mem 1355 (by decide +kernel) rfl
theorem zw_1224 : Cond.instanceMethod yX8_bestFor ∈ zTB := zTB_mem 1354 (by decide +kernel) rfl
theorem zsel_X8_bestFor : Cond.selects yX8_bestFor.cls yX8_bestFor yX8_bestFor ∈ zTB := zTB_mem 119 (by decide +kernel) rfl
theorem zw_1246 : Cond.constantLong RX8 217 4294967295 ∈ zTB := zTB_mem 1376 (by decide +kernel) rfl
theorem zw_945 : Cond.fieldLink RX8 61 (TX8 20).1 (TX8 20).2.1 (TX8 20).2.2.1 ∈ zTB := zTB_mem 1075 (by decide +kernel) rfl
theorem zw_1247 : Cond.constantLong RX8 219 (-4294967296) ∈ zTB := zTB_mem 1377 (by decide +kernel) rfl
theorem zw_1242 : Cond.methodLink RX8 221 yX8_serveAll ∈ zTB := zTB_mem 1372 (by decide +kernel) rfl
theorem zds_X8_serveAll : yX8_serveAll.cls ≠ "java/lang/invoke/MethodHandle" ∧ yX8_serveAll.cls ≠ "java/lang/invoke/VarHandle" ∧ (parseMethodDescriptor yX8_serveAll.desc).map (fun d => d.parameters.length) = some 0 := ⟨by decide +kernel, by decide +kernel, by decide +kernel⟩
theorem zw_1245 : Cond.code yX8_serveAll cX8_serveAll 15 none ∈ zTB := zTB_mem 1375 (by decide +kernel) rfl
theorem zw_1244 : Cond.instanceMethod yX8_serveAll ∈ zTB := zTB_mem 1374 (by decide +kernel) rfl
theorem zsel_X8_serveAll : Cond.selects yX8_serveAll.cls yX8_serveAll yX8_serveAll ∈ zTB := zTB_mem 121 (by decide +kernel) rfl
theorem zw_1248 : Cond.methodLink RX8 224 yX8_can ∈ zTB := zTB_mem 1378 (by decide +kernel) rfl
theorem zds_X8_can : yX8_can.cls ≠ "java/lang/invoke/MethodHandle" ∧ yX8_can.cls ≠ "java/lang/invoke/VarHandle" ∧ (parseMethodDescriptor yX8_can.desc).map (fun d => d.parameters.length) = some 2 := ⟨by decide +kernel, by decide +kernel, by decide +kernel⟩
theorem zw_1250 : Cond.code yX8_can cX8_can 3 (some .boolean) ∈ zTB := zTB_mem 1380 (by decide +kernel) rfl
theorem zw_1249 : Cond.static yX8_can ∈ zTB := zTB_mem 1379 (by decide +kernel) rfl
theorem zw_1263 : Cond.methodLink RX8 228 yX8_stepsOf ∈ zTB := zTB_mem 1393 (by decide +kernel) rfl
theorem zds_X8_stepsOf : yX8_stepsOf.cls ≠ "java/lang/invoke/MethodHandle" ∧ yX8_stepsOf.cls ≠ "java/lang/invoke/VarHandle" ∧ (parseMethodDescriptor yX8_stepsOf.desc).map (fun d => d.parameters.length) = some 2 := ⟨by decide +kernel, by decide +kernel, by decide +kernel⟩
theorem zw_1266 : Cond.code yX8_stepsOf cX8_stepsOf 7 (some .int) ∈ zTB := zTB_mem 1396 (by decide +kernel) rfl
theorem zw_1265 : Cond.instanceMethod yX8_stepsOf ∈ zTB := zTB_mem 1395 (by decide +kernel) rfl
theorem zsel_X8_stepsOf : Cond.selects yX8_stepsOf.cls yX8_stepsOf yX8_stepsOf ∈ zTB := zTB_mem 122 (by decide +kernel) rfl
theorem zw_1275 : Cond.methodLink RX8 231 yX8_findingOf ∈ zTB := zTB_mem 1405 (by decide +kernel) rfl
theorem zds_X8_findingOf : yX8_findingOf.cls ≠ "java/lang/invoke/MethodHandle" ∧ yX8_findingOf.cls ≠ "java/lang/invoke/VarHandle" ∧ (parseMethodDescriptor yX8_findingOf.desc).map (fun d => d.parameters.length) = some 5 := ⟨by decide +kernel, by decide +kernel, by decide +kernel⟩
theorem zw_1278 : Cond.code yX8_findingOf cX8_findingOf 9 (some .int) ∈ zTB := zTB_mem 1408 (by decide +kernel) rfl
theorem zw_1277 : Cond.instanceMethod yX8_findingOf ∈ zTB := zTB_mem 1407 (by decide +kernel) rfl
theorem zsel_X8_findingOf : Cond.selects yX8_findingOf.cls yX8_findingOf yX8_findingOf ∈ zTB := zTB_mem 123 (by decide +kernel) rfl
theorem zw_1279 : Cond.methodLink RX8 235 yX8_isSo ∈ zTB := zTB_mem 1409 (by decide +kernel) rfl
theorem zds_X8_isSo : yX8_isSo.cls ≠ "java/lang/invoke/MethodHandle" ∧ yX8_isSo.cls ≠ "java/lang/invoke/VarHandle" ∧ (parseMethodDescriptor yX8_isSo.desc).map (fun d => d.parameters.length) = some 5 := ⟨by decide +kernel, by decide +kernel, by decide +kernel⟩
theorem zw_1282 : Cond.code yX8_isSo cX8_isSo 9 (some .boolean) ∈ zTB := zTB_mem 1412 (by decide +kernel) rfl
theorem zw_1281 : Cond.instanceMethod yX8_isSo ∈ zTB := zTB_mem 1411 (by decide +kernel) rfl
theorem zsel_X8_isSo : Cond.selects yX8_isSo.cls yX8_isSo yX8_isSo ∈ zTB := zTB_mem 124 (by decide +kernel) rfl
theorem zw_1287 : Cond.methodLink RX8 239 yX8_swaps ∈ zTB := zTB_mem 1417 (by decide +kernel) rfl
theorem zds_X8_swaps : yX8_swaps.cls ≠ "java/lang/invoke/MethodHandle" ∧ yX8_swaps.cls ≠ "java/lang/invoke/VarHandle" ∧ (parseMethodDescriptor yX8_swaps.desc).map (fun d => d.parameters.length) = some 2 := ⟨by decide +kernel, by decide +kernel, by decide +kernel⟩
theorem zw_1290 : Cond.code yX8_swaps cX8_swaps 5 none ∈ zTB := zTB_mem 1420 (by decide +kernel) rfl
theorem zw_1289 : Cond.instanceMethod yX8_swaps ∈ zTB := zTB_mem 1419 (by decide +kernel) rfl
theorem zsel_X8_swaps : Cond.selects yX8_swaps.cls yX8_swaps yX8_swaps ∈ zTB := zTB_mem 125 (by decide +kernel) rfl
theorem zw_1295 : Cond.constantLong RX8 242 (-1000001) ∈ zTB := zTB_mem 1425 (by decide +kernel) rfl
theorem zw_946 : Cond.fieldLink RX8 64 (TX8 21).1 (TX8 21).2.1 (TX8 21).2.2.1 ∈ zTB := zTB_mem 1076 (by decide +kernel) rfl
theorem zw_1296 : Cond.constantLong RX8 244 10 ∈ zTB := zTB_mem 1426 (by decide +kernel) rfl
theorem zw_1308 : Cond.constantLong RX8 246 3 ∈ zTB := zTB_mem 1438 (by decide +kernel) rfl
theorem zw_1301 : Cond.constant RX8 248 999999 ∈ zTB := zTB_mem 1431 (by decide +kernel) rfl
theorem zw_947 : Cond.fieldLink RX8 67 (TX8 22).1 (TX8 22).2.1 (TX8 22).2.2.1 ∈ zTB := zTB_mem 1077 (by decide +kernel) rfl
theorem zw_1302 : Cond.constantLong RX8 249 16807 ∈ zTB := zTB_mem 1432 (by decide +kernel) rfl
theorem zw_1303 : Cond.constantLong RX8 251 2147483647 ∈ zTB := zTB_mem 1433 (by decide +kernel) rfl
theorem zw_1304 : Cond.methodLink RX8 253 yX8_day ∈ zTB := zTB_mem 1434 (by decide +kernel) rfl
theorem zds_X8_day : yX8_day.cls ≠ "java/lang/invoke/MethodHandle" ∧ yX8_day.cls ≠ "java/lang/invoke/VarHandle" ∧ (parseMethodDescriptor yX8_day.desc).map (fun d => d.parameters.length) = some 1 := ⟨by decide +kernel, by decide +kernel, by decide +kernel⟩
theorem zw_1307 : Cond.code yX8_day cX8_day 6 none ∈ zTB := zTB_mem 1437 (by decide +kernel) rfl
theorem zw_1306 : Cond.instanceMethod yX8_day ∈ zTB := zTB_mem 1436 (by decide +kernel) rfl
theorem zsel_X8_day : Cond.selects yX8_day.cls yX8_day yX8_day ∈ zTB := zTB_mem 126 (by decide +kernel) rfl
theorem zw_940 : Cond.fieldLink RX8 37 (TX8 15).1 (TX8 15).2.1 (TX8 15).2.2.1 ∈ zTB := zTB_mem 1070 (by decide +kernel) rfl
theorem zw_941 : Cond.fieldLink RX8 40 (TX8 16).1 (TX8 16).2.1 (TX8 16).2.2.1 ∈ zTB := zTB_mem 1071 (by decide +kernel) rfl
theorem zw_944 : Cond.fieldLink RX8 257 (TX8 19).1 (TX8 19).2.1 (TX8 19).2.2.1 ∈ zTB := zTB_mem 1074 (by decide +kernel) rfl
theorem zw_943 : Cond.fieldLink RX8 48 (TX8 18).1 (TX8 18).2.1 (TX8 18).2.2.1 ∈ zTB := zTB_mem 1073 (by decide +kernel) rfl
theorem zw_1333 : Cond.methodLink RX8 260 yX8_leaves ∈ zTB := zTB_mem 1463 (by decide +kernel) rfl
theorem zds_X8_leaves : yX8_leaves.cls ≠ "java/lang/invoke/MethodHandle" ∧ yX8_leaves.cls ≠ "java/lang/invoke/VarHandle" ∧ (parseMethodDescriptor yX8_leaves.desc).map (fun d => d.parameters.length) = some 1 := ⟨by decide +kernel, by decide +kernel, by decide +kernel⟩
theorem zw_1336 : Cond.code yX8_leaves cX8_leaves 2 none ∈ zTB := zTB_mem 1466 (by decide +kernel) rfl
theorem zw_1335 : Cond.instanceMethod yX8_leaves ∈ zTB := zTB_mem 1465 (by decide +kernel) rfl
theorem zsel_X8_leaves : Cond.selects yX8_leaves.cls yX8_leaves yX8_leaves ∈ zTB := zTB_mem 128 (by decide +kernel) rfl
theorem zw_1329 : Cond.methodLink RX8 264 yX8_sizeHigh ∈ zTB := zTB_mem 1459 (by decide +kernel) rfl
theorem zds_X8_sizeHigh : yX8_sizeHigh.cls ≠ "java/lang/invoke/MethodHandle" ∧ yX8_sizeHigh.cls ≠ "java/lang/invoke/VarHandle" ∧ (parseMethodDescriptor yX8_sizeHigh.desc).map (fun d => d.parameters.length) = some 1 := ⟨by decide +kernel, by decide +kernel, by decide +kernel⟩
theorem zw_1332 : Cond.code yX8_sizeHigh cX8_sizeHigh 4 (some .int) ∈ zTB := zTB_mem 1462 (by decide +kernel) rfl
theorem zw_1331 : Cond.instanceMethod yX8_sizeHigh ∈ zTB := zTB_mem 1461 (by decide +kernel) rfl
theorem zsel_X8_sizeHigh : Cond.selects yX8_sizeHigh.cls yX8_sizeHigh yX8_sizeHigh ∈ zTB := zTB_mem 127 (by decide +kernel) rfl
theorem zw_1337 : Cond.methodLink RX8 267 yX8_markLow ∈ zTB := zTB_mem 1467 (by decide +kernel) rfl
theorem zds_X8_markLow : yX8_markLow.cls ≠ "java/lang/invoke/MethodHandle" ∧ yX8_markLow.cls ≠ "java/lang/invoke/VarHandle" ∧ (parseMethodDescriptor yX8_markLow.desc).map (fun d => d.parameters.length) = some 1 := ⟨by decide +kernel, by decide +kernel, by decide +kernel⟩
theorem zw_1340 : Cond.code yX8_markLow cX8_markLow 4 (some .int) ∈ zTB := zTB_mem 1470 (by decide +kernel) rfl
theorem zw_1339 : Cond.instanceMethod yX8_markLow ∈ zTB := zTB_mem 1469 (by decide +kernel) rfl
theorem zsel_X8_markLow : Cond.selects yX8_markLow.cls yX8_markLow yX8_markLow ∈ zTB := zTB_mem 129 (by decide +kernel) rfl
theorem zw_606 : Cond.constant RJ6 264 65536 ∈ zTB := zTB_mem 736 (by decide +kernel) rfl
theorem zw_425 : Cond.constant RJ6 265 1431655765 ∈ zTB := zTB_mem 555 (by decide +kernel) rfl
theorem zw_426 : Cond.constant RJ6 266 858993459 ∈ zTB := zTB_mem 556 (by decide +kernel) rfl
theorem zw_427 : Cond.constant RJ6 267 252645135 ∈ zTB := zTB_mem 557 (by decide +kernel) rfl
end
section
def tb_J6_lowestOneBit_0f7a4 : List (Nat × ZP) := [(0, zo_il 0 1), (1, zo_il 0 2), (2, zo_un (fun x => -x) 3), (3, zo_bin (· &&& ·) 4), (4, zo_reti)]
def cu_J6_lowestOneBit_0f7a4 : List (Nat × List Bool) := []
set_option maxRecDepth 100000 in
set_option maxHeartbeats 4000000 in
theorem ok_J6_lowestOneBit_0f7a4 : ∀ e ∈ tb_J6_lowestOneBit_0f7a4, ZOK zmt cJ6_lowestOneBit_0f7a4 RJ6 1 e.1 e.2 :=
  zcons (zk_iload_n (pc := 0) (j := 0) rfl (by decide +kernel)) (
  zcons (zk_iload_n (pc := 1) (j := 0) rfl (by decide +kernel)) (
  zcons (zk_ineg (pc := 2) (by decide +kernel)) (
  zcons (zk_iand (pc := 3) (by decide +kernel)) (
  zcons (zk_reti (pc := 4) rfl (by decide +kernel)) (znil)))))
def tb_J6_numberOfTrailingZeros_0f7a4 : List (Nat × ZP) := [(0, zo_il 0 1), (1, zo_i (-1) 2), (2, zo_bin (· ^^^ ·) 3), (3, zo_il 0 4), (4, zo_i 1 5), (5, zo_bin (· - ·) 6), (6, zo_bin (· &&& ·) 7), (7, zo_is 0 8), (8, zo_il 0 9), (9, zo_ifgt 17 12), (12, zo_il 0 13), (13, zo_i 32 15), (15, zo_bin (· &&& ·) 16), (16, zo_reti), (17, zo_i 1 18), (18, zo_is 1 19), (19, zo_il 0 20), (20, zo_i 65536 23), (23, zo_icle 34 26), (26, zo_inc 1 16 29), (29, zo_il 0 30), (30, zo_i 16 32), (32, zo_bin zushr 33), (33, zo_is 0 34), (34, zo_il 0 35), (35, zo_i 256 38), (38, zo_icle 49 41), (41, zo_inc 1 8 44), (44, zo_il 0 45), (45, zo_i 8 47), (47, zo_bin zushr 48), (48, zo_is 0 49), (49, zo_il 0 50), (50, zo_i 16 52), (52, zo_icle 62 55), (55, zo_inc 1 4 58), (58, zo_il 0 59), (59, zo_i 4 60), (60, zo_bin zushr 61), (61, zo_is 0 62), (62, zo_il 0 63), (63, zo_i 4 64), (64, zo_icle 74 67), (67, zo_inc 1 2 70), (70, zo_il 0 71), (71, zo_i 2 72), (72, zo_bin zushr 73), (73, zo_is 0 74), (74, zo_il 1 75), (75, zo_il 0 76), (76, zo_i 1 77), (77, zo_bin zushr 78), (78, zo_bin (· + ·) 79), (79, zo_reti)]
def cu_J6_numberOfTrailingZeros_0f7a4 : List (Nat × List Bool) := []
set_option maxRecDepth 100000 in
set_option maxHeartbeats 4000000 in
theorem ok_J6_numberOfTrailingZeros_0f7a4 : ∀ e ∈ tb_J6_numberOfTrailingZeros_0f7a4, ZOK zmt cJ6_numberOfTrailingZeros_0f7a4 RJ6 1 e.1 e.2 :=
  zcons (zk_iload_n (pc := 0) (j := 0) rfl (by decide +kernel)) (
  zcons (zk_iconst (pc := 1) (z := (-1)) (by decide) (by decide +kernel)) (
  zcons (zk_ixor (pc := 2) (by decide +kernel)) (
  zcons (zk_iload_n (pc := 3) (j := 0) rfl (by decide +kernel)) (
  zcons (zk_iconst (pc := 4) (z := 1) (by decide) (by decide +kernel)) (
  zcons (zk_isub (pc := 5) (by decide +kernel)) (
  zcons (zk_iand (pc := 6) (by decide +kernel)) (
  zcons (zk_istore_n (pc := 7) (j := 0) rfl (by decide +kernel)) (
  zcons (zk_iload_n (pc := 8) (j := 0) rfl (by decide +kernel)) (
  zcons (zk_ifgt (pc := 9) (off := 8) (by decide) (by decide +kernel)) (
  zcons (zk_iload_n (pc := 12) (j := 0) rfl (by decide +kernel)) (
  zcons (zk_bipush (pc := 13) (z := 32) (by decide) (by decide +kernel)) (
  zcons (zk_iand (pc := 15) (by decide +kernel)) (
  zcons (zk_reti (pc := 16) rfl (by decide +kernel)) (
  zcons (zk_iconst (pc := 17) (z := 1) (by decide) (by decide +kernel)) (
  zcons (zk_istore_n (pc := 18) (j := 1) rfl (by decide +kernel)) (
  zcons (zk_iload_n (pc := 19) (j := 0) rfl (by decide +kernel)) (
  zcons (zk_ldcw (pc := 20) zw_606 (by decide +kernel)) (
  zcons (zk_icle (pc := 23) (off := 11) (by decide) (by decide +kernel)) (
  zcons (zk_iinc (pc := 26) (z := 16) (by decide) (by decide +kernel)) (
  zcons (zk_iload_n (pc := 29) (j := 0) rfl (by decide +kernel)) (
  zcons (zk_bipush (pc := 30) (z := 16) (by decide) (by decide +kernel)) (
  zcons (zk_iushr (pc := 32) (by decide +kernel)) (
  zcons (zk_istore_n (pc := 33) (j := 0) rfl (by decide +kernel)) (
  zcons (zk_iload_n (pc := 34) (j := 0) rfl (by decide +kernel)) (
  zcons (zk_sipush (pc := 35) (z := 256) (by decide) (by decide +kernel)) (
  zcons (zk_icle (pc := 38) (off := 11) (by decide) (by decide +kernel)) (
  zcons (zk_iinc (pc := 41) (z := 8) (by decide) (by decide +kernel)) (
  zcons (zk_iload_n (pc := 44) (j := 0) rfl (by decide +kernel)) (
  zcons (zk_bipush (pc := 45) (z := 8) (by decide) (by decide +kernel)) (
  zcons (zk_iushr (pc := 47) (by decide +kernel)) (
  zcons (zk_istore_n (pc := 48) (j := 0) rfl (by decide +kernel)) (
  zcons (zk_iload_n (pc := 49) (j := 0) rfl (by decide +kernel)) (
  zcons (zk_bipush (pc := 50) (z := 16) (by decide) (by decide +kernel)) (
  zcons (zk_icle (pc := 52) (off := 10) (by decide) (by decide +kernel)) (
  zcons (zk_iinc (pc := 55) (z := 4) (by decide) (by decide +kernel)) (
  zcons (zk_iload_n (pc := 58) (j := 0) rfl (by decide +kernel)) (
  zcons (zk_iconst (pc := 59) (z := 4) (by decide) (by decide +kernel)) (
  zcons (zk_iushr (pc := 60) (by decide +kernel)) (
  zcons (zk_istore_n (pc := 61) (j := 0) rfl (by decide +kernel)) (
  zcons (zk_iload_n (pc := 62) (j := 0) rfl (by decide +kernel)) (
  zcons (zk_iconst (pc := 63) (z := 4) (by decide) (by decide +kernel)) (
  zcons (zk_icle (pc := 64) (off := 10) (by decide) (by decide +kernel)) (
  zcons (zk_iinc (pc := 67) (z := 2) (by decide) (by decide +kernel)) (
  zcons (zk_iload_n (pc := 70) (j := 0) rfl (by decide +kernel)) (
  zcons (zk_iconst (pc := 71) (z := 2) (by decide) (by decide +kernel)) (
  zcons (zk_iushr (pc := 72) (by decide +kernel)) (
  zcons (zk_istore_n (pc := 73) (j := 0) rfl (by decide +kernel)) (
  zcons (zk_iload_n (pc := 74) (j := 1) rfl (by decide +kernel)) (
  zcons (zk_iload_n (pc := 75) (j := 0) rfl (by decide +kernel)) (
  zcons (zk_iconst (pc := 76) (z := 1) (by decide) (by decide +kernel)) (
  zcons (zk_iushr (pc := 77) (by decide +kernel)) (
  zcons (zk_iadd (pc := 78) (by decide +kernel)) (
  zcons (zk_reti (pc := 79) rfl (by decide +kernel)) (znil))))))))))))))))))))))))))))))))))))))))))))))))))))))
def tb_J6_bitCount_0f7a4 : List (Nat × ZP) := [(0, zo_il 0 1), (1, zo_il 0 2), (2, zo_i 1 3), (3, zo_bin zushr 4), (4, zo_i 1431655765 7), (7, zo_bin (· &&& ·) 8), (8, zo_bin (· - ·) 9), (9, zo_is 0 10), (10, zo_il 0 11), (11, zo_i 858993459 14), (14, zo_bin (· &&& ·) 15), (15, zo_il 0 16), (16, zo_i 2 17), (17, zo_bin zushr 18), (18, zo_i 858993459 21), (21, zo_bin (· &&& ·) 22), (22, zo_bin (· + ·) 23), (23, zo_is 0 24), (24, zo_il 0 25), (25, zo_il 0 26), (26, zo_i 4 27), (27, zo_bin zushr 28), (28, zo_bin (· + ·) 29), (29, zo_i 252645135 32), (32, zo_bin (· &&& ·) 33), (33, zo_is 0 34), (34, zo_il 0 35), (35, zo_il 0 36), (36, zo_i 8 38), (38, zo_bin zushr 39), (39, zo_bin (· + ·) 40), (40, zo_is 0 41), (41, zo_il 0 42), (42, zo_il 0 43), (43, zo_i 16 45), (45, zo_bin zushr 46), (46, zo_bin (· + ·) 47), (47, zo_is 0 48), (48, zo_il 0 49), (49, zo_i 63 51), (51, zo_bin (· &&& ·) 52), (52, zo_reti)]
def cu_J6_bitCount_0f7a4 : List (Nat × List Bool) := []
set_option maxRecDepth 100000 in
set_option maxHeartbeats 4000000 in
theorem ok_J6_bitCount_0f7a4 : ∀ e ∈ tb_J6_bitCount_0f7a4, ZOK zmt cJ6_bitCount_0f7a4 RJ6 1 e.1 e.2 :=
  zcons (zk_iload_n (pc := 0) (j := 0) rfl (by decide +kernel)) (
  zcons (zk_iload_n (pc := 1) (j := 0) rfl (by decide +kernel)) (
  zcons (zk_iconst (pc := 2) (z := 1) (by decide) (by decide +kernel)) (
  zcons (zk_iushr (pc := 3) (by decide +kernel)) (
  zcons (zk_ldcw (pc := 4) zw_425 (by decide +kernel)) (
  zcons (zk_iand (pc := 7) (by decide +kernel)) (
  zcons (zk_isub (pc := 8) (by decide +kernel)) (
  zcons (zk_istore_n (pc := 9) (j := 0) rfl (by decide +kernel)) (
  zcons (zk_iload_n (pc := 10) (j := 0) rfl (by decide +kernel)) (
  zcons (zk_ldcw (pc := 11) zw_426 (by decide +kernel)) (
  zcons (zk_iand (pc := 14) (by decide +kernel)) (
  zcons (zk_iload_n (pc := 15) (j := 0) rfl (by decide +kernel)) (
  zcons (zk_iconst (pc := 16) (z := 2) (by decide) (by decide +kernel)) (
  zcons (zk_iushr (pc := 17) (by decide +kernel)) (
  zcons (zk_ldcw (pc := 18) zw_426 (by decide +kernel)) (
  zcons (zk_iand (pc := 21) (by decide +kernel)) (
  zcons (zk_iadd (pc := 22) (by decide +kernel)) (
  zcons (zk_istore_n (pc := 23) (j := 0) rfl (by decide +kernel)) (
  zcons (zk_iload_n (pc := 24) (j := 0) rfl (by decide +kernel)) (
  zcons (zk_iload_n (pc := 25) (j := 0) rfl (by decide +kernel)) (
  zcons (zk_iconst (pc := 26) (z := 4) (by decide) (by decide +kernel)) (
  zcons (zk_iushr (pc := 27) (by decide +kernel)) (
  zcons (zk_iadd (pc := 28) (by decide +kernel)) (
  zcons (zk_ldcw (pc := 29) zw_427 (by decide +kernel)) (
  zcons (zk_iand (pc := 32) (by decide +kernel)) (
  zcons (zk_istore_n (pc := 33) (j := 0) rfl (by decide +kernel)) (
  zcons (zk_iload_n (pc := 34) (j := 0) rfl (by decide +kernel)) (
  zcons (zk_iload_n (pc := 35) (j := 0) rfl (by decide +kernel)) (
  zcons (zk_bipush (pc := 36) (z := 8) (by decide) (by decide +kernel)) (
  zcons (zk_iushr (pc := 38) (by decide +kernel)) (
  zcons (zk_iadd (pc := 39) (by decide +kernel)) (
  zcons (zk_istore_n (pc := 40) (j := 0) rfl (by decide +kernel)) (
  zcons (zk_iload_n (pc := 41) (j := 0) rfl (by decide +kernel)) (
  zcons (zk_iload_n (pc := 42) (j := 0) rfl (by decide +kernel)) (
  zcons (zk_bipush (pc := 43) (z := 16) (by decide) (by decide +kernel)) (
  zcons (zk_iushr (pc := 45) (by decide +kernel)) (
  zcons (zk_iadd (pc := 46) (by decide +kernel)) (
  zcons (zk_istore_n (pc := 47) (j := 0) rfl (by decide +kernel)) (
  zcons (zk_iload_n (pc := 48) (j := 0) rfl (by decide +kernel)) (
  zcons (zk_bipush (pc := 49) (z := 63) (by decide) (by decide +kernel)) (
  zcons (zk_iand (pc := 51) (by decide +kernel)) (
  zcons (zk_reti (pc := 52) rfl (by decide +kernel)) (znil))))))))))))))))))))))))))))))))))))))))))
def tb_J7_fill_d0a16 : List (Nat × ZP) := [(0, zo_i 0 1), (1, zo_is 3 2), (2, zo_al 0 3), (3, zo_alen 1 4), (4, zo_is 4 6), (6, zo_il 3 7), (7, zo_il 4 9), (9, zo_icge 22 12), (12, zo_al 0 13), (13, zo_il 3 14), (14, zo_ll 1 15), (15, zo_last 16), (16, zo_inc 3 1 19), (19, zo_goto 6), (22, zo_retv)]
def cu_J7_fill_d0a16 : List (Nat × List Bool) := [(6, [true, true, false, true, true])]
set_option maxRecDepth 100000 in
set_option maxHeartbeats 4000000 in
theorem ok_J7_fill_d0a16 : ∀ e ∈ tb_J7_fill_d0a16, ZOK zmt cJ7_fill_d0a16 RJ7 0 e.1 e.2 :=
  zcons (zk_iconst (pc := 0) (z := 0) (by decide) (by decide +kernel)) (
  zcons (zk_istore_n (pc := 1) (j := 3) rfl (by decide +kernel)) (
  zcons (zk_aload_n (pc := 2) (j := 0) rfl (by decide +kernel)) (
  zcons (zk_alen (pc := 3) (t := 1) (fun _ => rfl) (by decide +kernel)) (
  zcons (zk_istore (pc := 4) (by decide +kernel)) (
  zcons (zk_iload_n (pc := 6) (j := 3) rfl (by decide +kernel)) (
  zcons (zk_iload (pc := 7) (by decide +kernel)) (
  zcons (zk_icge (pc := 9) (off := 13) (by decide) (by decide +kernel)) (
  zcons (zk_aload_n (pc := 12) (j := 0) rfl (by decide +kernel)) (
  zcons (zk_iload_n (pc := 13) (j := 3) rfl (by decide +kernel)) (
  zcons (zk_lload_n (pc := 14) (j := 1) rfl (by decide +kernel)) (
  zcons (zk_lastore (pc := 15) (by decide +kernel)) (
  zcons (zk_iinc (pc := 16) (z := 1) (by decide) (by decide +kernel)) (
  zcons (zk_goto (pc := 19) (off := (-13)) (by decide) (by decide +kernel)) (
  zcons (zk_retv (pc := 22) rfl (by decide +kernel)) (znil)))))))))))))))
def tb_J7_fill_53178 : List (Nat × ZP) := [(0, zo_i 0 1), (1, zo_is 2 2), (2, zo_al 0 3), (3, zo_alen 0 4), (4, zo_is 3 5), (5, zo_il 2 6), (6, zo_il 3 7), (7, zo_icge 20 10), (10, zo_al 0 11), (11, zo_il 2 12), (12, zo_il 1 13), (13, zo_iast 14), (14, zo_inc 2 1 17), (17, zo_goto 5), (20, zo_retv)]
def cu_J7_fill_53178 : List (Nat × List Bool) := [(5, [true, true, true, true])]
set_option maxRecDepth 100000 in
set_option maxHeartbeats 4000000 in
theorem ok_J7_fill_53178 : ∀ e ∈ tb_J7_fill_53178, ZOK zmt cJ7_fill_53178 RJ7 0 e.1 e.2 :=
  zcons (zk_iconst (pc := 0) (z := 0) (by decide) (by decide +kernel)) (
  zcons (zk_istore_n (pc := 1) (j := 2) rfl (by decide +kernel)) (
  zcons (zk_aload_n (pc := 2) (j := 0) rfl (by decide +kernel)) (
  zcons (zk_alen (pc := 3) (t := 0) (fun _ => rfl) (by decide +kernel)) (
  zcons (zk_istore_n (pc := 4) (j := 3) rfl (by decide +kernel)) (
  zcons (zk_iload_n (pc := 5) (j := 2) rfl (by decide +kernel)) (
  zcons (zk_iload_n (pc := 6) (j := 3) rfl (by decide +kernel)) (
  zcons (zk_icge (pc := 7) (off := 13) (by decide) (by decide +kernel)) (
  zcons (zk_aload_n (pc := 10) (j := 0) rfl (by decide +kernel)) (
  zcons (zk_iload_n (pc := 11) (j := 2) rfl (by decide +kernel)) (
  zcons (zk_iload_n (pc := 12) (j := 1) rfl (by decide +kernel)) (
  zcons (zk_iastore (pc := 13) (by decide +kernel)) (
  zcons (zk_iinc (pc := 14) (z := 1) (by decide) (by decide +kernel)) (
  zcons (zk_goto (pc := 17) (off := (-12)) (by decide) (by decide +kernel)) (
  zcons (zk_retv (pc := 20) rfl (by decide +kernel)) (znil)))))))))))))))
def tb_J9_max_7cf53 : List (Nat × ZP) := [(0, zo_il 0 1), (1, zo_il 1 2), (2, zo_iclt 9 5), (5, zo_il 0 6), (6, zo_goto 10), (9, zo_il 1 10), (10, zo_reti)]
def cu_J9_max_7cf53 : List (Nat × List Bool) := []
set_option maxRecDepth 100000 in
set_option maxHeartbeats 4000000 in
theorem ok_J9_max_7cf53 : ∀ e ∈ tb_J9_max_7cf53, ZOK zmt cJ9_max_7cf53 RJ9 1 e.1 e.2 :=
  zcons (zk_iload_n (pc := 0) (j := 0) rfl (by decide +kernel)) (
  zcons (zk_iload_n (pc := 1) (j := 1) rfl (by decide +kernel)) (
  zcons (zk_iclt (pc := 2) (off := 7) (by decide) (by decide +kernel)) (
  zcons (zk_iload_n (pc := 5) (j := 0) rfl (by decide +kernel)) (
  zcons (zk_goto (pc := 6) (off := 4) (by decide) (by decide +kernel)) (
  zcons (zk_iload_n (pc := 9) (j := 1) rfl (by decide +kernel)) (
  zcons (zk_reti (pc := 10) rfl (by decide +kernel)) (znil)))))))
def tb_J9_min_7cf53 : List (Nat × ZP) := [(0, zo_il 0 1), (1, zo_il 1 2), (2, zo_icgt 9 5), (5, zo_il 0 6), (6, zo_goto 10), (9, zo_il 1 10), (10, zo_reti)]
def cu_J9_min_7cf53 : List (Nat × List Bool) := []
set_option maxRecDepth 100000 in
set_option maxHeartbeats 4000000 in
theorem ok_J9_min_7cf53 : ∀ e ∈ tb_J9_min_7cf53, ZOK zmt cJ9_min_7cf53 RJ9 1 e.1 e.2 :=
  zcons (zk_iload_n (pc := 0) (j := 0) rfl (by decide +kernel)) (
  zcons (zk_iload_n (pc := 1) (j := 1) rfl (by decide +kernel)) (
  zcons (zk_icgt (pc := 2) (off := 7) (by decide) (by decide +kernel)) (
  zcons (zk_iload_n (pc := 5) (j := 0) rfl (by decide +kernel)) (
  zcons (zk_goto (pc := 6) (off := 4) (by decide) (by decide +kernel)) (
  zcons (zk_iload_n (pc := 9) (j := 1) rfl (by decide +kernel)) (
  zcons (zk_reti (pc := 10) rfl (by decide +kernel)) (znil)))))))
def tb_X0_keep : List (Nat × ZP) := [(0, zo_al 0 1), (1, zo_getr 0 0 4), (4, zo_al 0 5), (5, zo_get 0 3 8), (8, zo_il 1 9), (9, zo_iast 10), (10, zo_al 0 11), (11, zo_getr 0 1 14), (14, zo_al 0 15), (15, zo_get 0 3 18), (18, zo_il 2 19), (19, zo_iast 20), (20, zo_al 0 21), (21, zo_getr 0 2 24), (24, zo_al 0 25), (25, zo_get 0 3 28), (28, zo_il 3 29), (29, zo_iast 30), (30, zo_al 0 31), (31, zo_al 0 32), (32, zo_get 0 3 35), (35, zo_i 1 36), (36, zo_bin (· + ·) 37), (37, zo_i 24 39), (39, zo_dv zrem 40), (40, zo_put 0 3 43), (43, zo_al 0 44), (44, zo_al 0 45), (45, zo_get 0 4 48), (48, zo_i 1 49), (49, zo_bin (· + ·) 50), (50, zo_i 24 52), (52, zo_csi 235 2 55), (55, zo_put 0 4 58), (58, zo_retv)]
def cu_X0_keep : List (Nat × List Bool) := []
set_option maxRecDepth 100000 in
set_option maxHeartbeats 4000000 in
theorem ok_X0_keep : ∀ e ∈ tb_X0_keep, ZOK zmt cX0_keep RX0 0 e.1 e.2 :=
  zcons (zk_aload_n (pc := 0) (j := 0) rfl (by decide +kernel)) (
  zcons (zk_getr (pc := 1) (ci := 0) (j := 0) rfl zinX0 (by decide) zw_138 (by decide +kernel)) (
  zcons (zk_aload_n (pc := 4) (j := 0) rfl (by decide +kernel)) (
  zcons (zk_get (pc := 5) (ci := 0) (j := 3) rfl zinX0 (by decide) zw_141 (by decide +kernel)) (
  zcons (zk_iload_n (pc := 8) (j := 1) rfl (by decide +kernel)) (
  zcons (zk_iastore (pc := 9) (by decide +kernel)) (
  zcons (zk_aload_n (pc := 10) (j := 0) rfl (by decide +kernel)) (
  zcons (zk_getr (pc := 11) (ci := 0) (j := 1) rfl zinX0 (by decide) zw_139 (by decide +kernel)) (
  zcons (zk_aload_n (pc := 14) (j := 0) rfl (by decide +kernel)) (
  zcons (zk_get (pc := 15) (ci := 0) (j := 3) rfl zinX0 (by decide) zw_141 (by decide +kernel)) (
  zcons (zk_iload_n (pc := 18) (j := 2) rfl (by decide +kernel)) (
  zcons (zk_iastore (pc := 19) (by decide +kernel)) (
  zcons (zk_aload_n (pc := 20) (j := 0) rfl (by decide +kernel)) (
  zcons (zk_getr (pc := 21) (ci := 0) (j := 2) rfl zinX0 (by decide) zw_140 (by decide +kernel)) (
  zcons (zk_aload_n (pc := 24) (j := 0) rfl (by decide +kernel)) (
  zcons (zk_get (pc := 25) (ci := 0) (j := 3) rfl zinX0 (by decide) zw_141 (by decide +kernel)) (
  zcons (zk_iload_n (pc := 28) (j := 3) rfl (by decide +kernel)) (
  zcons (zk_iastore (pc := 29) (by decide +kernel)) (
  zcons (zk_aload_n (pc := 30) (j := 0) rfl (by decide +kernel)) (
  zcons (zk_aload_n (pc := 31) (j := 0) rfl (by decide +kernel)) (
  zcons (zk_get (pc := 32) (ci := 0) (j := 3) rfl zinX0 (by decide) zw_141 (by decide +kernel)) (
  zcons (zk_iconst (pc := 35) (z := 1) (by decide) (by decide +kernel)) (
  zcons (zk_iadd (pc := 36) (by decide +kernel)) (
  zcons (zk_bipush (pc := 37) (z := 24) (by decide) (by decide +kernel)) (
  zcons (zk_irem (pc := 39) (by decide +kernel)) (
  zcons (zk_put (pc := 40) (ci := 0) (j := 3) rfl zinX0 (by decide) zw_141 tyX0 tyX0_ok nmX0 rfl (by decide +kernel) (by decide +kernel)) (
  zcons (zk_aload_n (pc := 43) (j := 0) rfl (by decide +kernel)) (
  zcons (zk_aload_n (pc := 44) (j := 0) rfl (by decide +kernel)) (
  zcons (zk_get (pc := 45) (ci := 0) (j := 4) rfl zinX0 (by decide) zw_142 (by decide +kernel)) (
  zcons (zk_iconst (pc := 48) (z := 1) (by decide) (by decide +kernel)) (
  zcons (zk_iadd (pc := 49) (by decide +kernel)) (
  zcons (zk_bipush (pc := 50) (z := 24) (by decide) (by decide +kernel)) (
  zcons (zk_csi (pc := 52) 235 rfl zw_495 zw_377 zds_J9_min_7cf53 (by decide) zw_378 zw_12 (by decide +kernel)) (
  zcons (zk_put (pc := 55) (ci := 0) (j := 4) rfl zinX0 (by decide) zw_142 tyX0 tyX0_ok nmX0 rfl (by decide +kernel) (by decide +kernel)) (
  zcons (zk_retv (pc := 58) rfl (by decide +kernel)) (znil)))))))))))))))))))))))))))))))))))
def tb_X0_takeBackLatest : List (Nat × ZP) := [(0, zo_al 0 1), (1, zo_al 0 2), (2, zo_get 0 3 5), (5, zo_i 24 7), (7, zo_bin (· + ·) 8), (8, zo_i 1 9), (9, zo_bin (· - ·) 10), (10, zo_i 24 12), (12, zo_dv zrem 13), (13, zo_put 0 3 16), (16, zo_al 0 17), (17, zo_dup 18), (18, zo_get 0 4 21), (21, zo_i 1 22), (22, zo_bin (· - ·) 23), (23, zo_put 0 4 26), (26, zo_al 0 27), (27, zo_getr 0 1 30), (30, zo_al 0 31), (31, zo_get 0 3 34), (34, zo_iald 35), (35, zo_is 2 36), (36, zo_al 0 37), (37, zo_getr 0 0 40), (40, zo_al 0 41), (41, zo_get 0 3 44), (44, zo_iald 45), (45, zo_sw [(0, 76), (1, 102), (2, 120), (3, 149)] 167), (76, zo_al 1 77), (77, zo_il 2 78), (78, zo_cvv 5 59 1 81), (81, zo_al 1 82), (82, zo_dup 83), (83, zo_get 5 4 86), (86, zo_al 0 87), (87, zo_getr 0 2 90), (90, zo_al 0 91), (91, zo_get 0 3 94), (94, zo_iald 95), (95, zo_bin (· - ·) 96), (96, zo_put 5 4 99), (99, zo_goto 180), (102, zo_al 1 103), (103, zo_il 2 104), (104, zo_al 0 105), (105, zo_getr 0 2 108), (108, zo_al 0 109), (109, zo_get 0 3 112), (112, zo_iald 113), (113, zo_i 0 114), (114, zo_cvv 5 58 3 117), (117, zo_goto 180), (120, zo_al 1 121), (121, zo_dup 122), (122, zo_get 5 5 125), (125, zo_i 1 126), (126, zo_il 2 127), (127, zo_bin zshl 128), (128, zo_bin (· ||| ·) 129), (129, zo_put 5 5 132), (132, zo_al 1 133), (133, zo_dup 134), (134, zo_get 5 6 137), (137, zo_i 1 138), (138, zo_il 2 139), (139, zo_bin zshl 140), (140, zo_i (-1) 141), (141, zo_bin (· ^^^ ·) 142), (142, zo_bin (· &&& ·) 143), (143, zo_put 5 6 146), (146, zo_goto 180), (149, zo_al 1 150), (150, zo_getr 5 10 153), (153, zo_il 2 154), (154, zo_al 0 155), (155, zo_getr 0 2 158), (158, zo_al 0 159), (159, zo_get 0 3 162), (162, zo_iald 163), (163, zo_iast 164), (164, zo_goto 180), (167, zo_al 1 168), (168, zo_al 0 169), (169, zo_getr 0 2 172), (172, zo_al 0 173), (173, zo_get 0 3 176), (176, zo_iald 177), (177, zo_put 5 3 180), (180, zo_retv)]
def cu_X0_takeBackLatest : List (Nat × List Bool) := []
set_option maxRecDepth 100000 in
set_option maxHeartbeats 4000000 in
theorem ok_X0_takeBackLatest : ∀ e ∈ tb_X0_takeBackLatest, ZOK zmt cX0_takeBackLatest RX0 0 e.1 e.2 :=
  zcons (zk_aload_n (pc := 0) (j := 0) rfl (by decide +kernel)) (
  zcons (zk_aload_n (pc := 1) (j := 0) rfl (by decide +kernel)) (
  zcons (zk_get (pc := 2) (ci := 0) (j := 3) rfl zinX0 (by decide) zw_141 (by decide +kernel)) (
  zcons (zk_bipush (pc := 5) (z := 24) (by decide) (by decide +kernel)) (
  zcons (zk_iadd (pc := 7) (by decide +kernel)) (
  zcons (zk_iconst (pc := 8) (z := 1) (by decide) (by decide +kernel)) (
  zcons (zk_isub (pc := 9) (by decide +kernel)) (
  zcons (zk_bipush (pc := 10) (z := 24) (by decide) (by decide +kernel)) (
  zcons (zk_irem (pc := 12) (by decide +kernel)) (
  zcons (zk_put (pc := 13) (ci := 0) (j := 3) rfl zinX0 (by decide) zw_141 tyX0 tyX0_ok nmX0 rfl (by decide +kernel) (by decide +kernel)) (
  zcons (zk_aload_n (pc := 16) (j := 0) rfl (by decide +kernel)) (
  zcons (zk_dup (pc := 17) (by decide +kernel)) (
  zcons (zk_get (pc := 18) (ci := 0) (j := 4) rfl zinX0 (by decide) zw_142 (by decide +kernel)) (
  zcons (zk_iconst (pc := 21) (z := 1) (by decide) (by decide +kernel)) (
  zcons (zk_isub (pc := 22) (by decide +kernel)) (
  zcons (zk_put (pc := 23) (ci := 0) (j := 4) rfl zinX0 (by decide) zw_142 tyX0 tyX0_ok nmX0 rfl (by decide +kernel) (by decide +kernel)) (
  zcons (zk_aload_n (pc := 26) (j := 0) rfl (by decide +kernel)) (
  zcons (zk_getr (pc := 27) (ci := 0) (j := 1) rfl zinX0 (by decide) zw_139 (by decide +kernel)) (
  zcons (zk_aload_n (pc := 30) (j := 0) rfl (by decide +kernel)) (
  zcons (zk_get (pc := 31) (ci := 0) (j := 3) rfl zinX0 (by decide) zw_141 (by decide +kernel)) (
  zcons (zk_iaload (pc := 34) (by decide +kernel)) (
  zcons (zk_istore_n (pc := 35) (j := 2) rfl (by decide +kernel)) (
  zcons (zk_aload_n (pc := 36) (j := 0) rfl (by decide +kernel)) (
  zcons (zk_getr (pc := 37) (ci := 0) (j := 0) rfl zinX0 (by decide) zw_138 (by decide +kernel)) (
  zcons (zk_aload_n (pc := 40) (j := 0) rfl (by decide +kernel)) (
  zcons (zk_get (pc := 41) (ci := 0) (j := 3) rfl zinX0 (by decide) zw_141 (by decide +kernel)) (
  zcons (zk_iaload (pc := 44) (by decide +kernel)) (
  zcons (zk_table (pc := 45) (dflt := 122) (lw := 0) (hi := 3) (offs := #[31, 57, 75, 104]) (len := 31) (by decide +kernel) (by decide +kernel)) (
  zcons (zk_aload_n (pc := 76) (j := 1) rfl (by decide +kernel)) (
  zcons (zk_iload_n (pc := 77) (j := 2) rfl (by decide +kernel)) (
  zcons (zk_cvvN (pc := 78) 59 rfl (ci := 5) rfl zw_445 zw_447 zsel_X5_takeBack zds_X5_takeBack (by decide) zw_448 zw_3 (by decide +kernel)) (
  zcons (zk_aload_n (pc := 81) (j := 1) rfl (by decide +kernel)) (
  zcons (zk_dup (pc := 82) (by decide +kernel)) (
  zcons (zk_getN (pc := 83) (ci := 5) (j := 4) rfl zinX5 (by decide) zw_76 (by decide +kernel)) (
  zcons (zk_aload_n (pc := 86) (j := 0) rfl (by decide +kernel)) (
  zcons (zk_getr (pc := 87) (ci := 0) (j := 2) rfl zinX0 (by decide) zw_140 (by decide +kernel)) (
  zcons (zk_aload_n (pc := 90) (j := 0) rfl (by decide +kernel)) (
  zcons (zk_get (pc := 91) (ci := 0) (j := 3) rfl zinX0 (by decide) zw_141 (by decide +kernel)) (
  zcons (zk_iaload (pc := 94) (by decide +kernel)) (
  zcons (zk_isub (pc := 95) (by decide +kernel)) (
  zcons (zk_putN (pc := 96) (ci := 5) (j := 4) rfl zinX5 (by decide) zw_76 tyX5 tyX5_ok nmX5 rfl (by decide +kernel) (by decide +kernel)) (
  zcons (zk_goto (pc := 99) (off := 81) (by decide) (by decide +kernel)) (
  zcons (zk_aload_n (pc := 102) (j := 1) rfl (by decide +kernel)) (
  zcons (zk_iload_n (pc := 103) (j := 2) rfl (by decide +kernel)) (
  zcons (zk_aload_n (pc := 104) (j := 0) rfl (by decide +kernel)) (
  zcons (zk_getr (pc := 105) (ci := 0) (j := 2) rfl zinX0 (by decide) zw_140 (by decide +kernel)) (
  zcons (zk_aload_n (pc := 108) (j := 0) rfl (by decide +kernel)) (
  zcons (zk_get (pc := 109) (ci := 0) (j := 3) rfl zinX0 (by decide) zw_141 (by decide +kernel)) (
  zcons (zk_iaload (pc := 112) (by decide +kernel)) (
  zcons (zk_iconst (pc := 113) (z := 0) (by decide) (by decide +kernel)) (
  zcons (zk_cvvN (pc := 114) 58 rfl (ci := 5) rfl zw_449 zw_451 zsel_X5_sell zds_X5_sell (by decide) zw_452 zw_3 (by decide +kernel)) (
  zcons (zk_goto (pc := 117) (off := 63) (by decide) (by decide +kernel)) (
  zcons (zk_aload_n (pc := 120) (j := 1) rfl (by decide +kernel)) (
  zcons (zk_dup (pc := 121) (by decide +kernel)) (
  zcons (zk_getN (pc := 122) (ci := 5) (j := 5) rfl zinX5 (by decide) zw_79 (by decide +kernel)) (
  zcons (zk_iconst (pc := 125) (z := 1) (by decide) (by decide +kernel)) (
  zcons (zk_iload_n (pc := 126) (j := 2) rfl (by decide +kernel)) (
  zcons (zk_ishl (pc := 127) (by decide +kernel)) (
  zcons (zk_ior (pc := 128) (by decide +kernel)) (
  zcons (zk_putN (pc := 129) (ci := 5) (j := 5) rfl zinX5 (by decide) zw_79 tyX5 tyX5_ok nmX5 rfl (by decide +kernel) (by decide +kernel)) (
  zcons (zk_aload_n (pc := 132) (j := 1) rfl (by decide +kernel)) (
  zcons (zk_dup (pc := 133) (by decide +kernel)) (
  zcons (zk_getN (pc := 134) (ci := 5) (j := 6) rfl zinX5 (by decide) zw_83 (by decide +kernel)) (
  zcons (zk_iconst (pc := 137) (z := 1) (by decide) (by decide +kernel)) (
  zcons (zk_iload_n (pc := 138) (j := 2) rfl (by decide +kernel)) (
  zcons (zk_ishl (pc := 139) (by decide +kernel)) (
  zcons (zk_iconst (pc := 140) (z := (-1)) (by decide) (by decide +kernel)) (
  zcons (zk_ixor (pc := 141) (by decide +kernel)) (
  zcons (zk_iand (pc := 142) (by decide +kernel)) (
  zcons (zk_putN (pc := 143) (ci := 5) (j := 6) rfl zinX5 (by decide) zw_83 tyX5 tyX5_ok nmX5 rfl (by decide +kernel) (by decide +kernel)) (
  zcons (zk_goto (pc := 146) (off := 34) (by decide) (by decide +kernel)) (
  zcons (zk_aload_n (pc := 149) (j := 1) rfl (by decide +kernel)) (
  zcons (zk_getrN (pc := 150) (ci := 5) (j := 10) rfl zinX5 (by decide) zw_93 (by decide +kernel)) (
  zcons (zk_iload_n (pc := 153) (j := 2) rfl (by decide +kernel)) (
  zcons (zk_aload_n (pc := 154) (j := 0) rfl (by decide +kernel)) (
  zcons (zk_getr (pc := 155) (ci := 0) (j := 2) rfl zinX0 (by decide) zw_140 (by decide +kernel)) (
  zcons (zk_aload_n (pc := 158) (j := 0) rfl (by decide +kernel)) (
  zcons (zk_get (pc := 159) (ci := 0) (j := 3) rfl zinX0 (by decide) zw_141 (by decide +kernel)) (
  zcons (zk_iaload (pc := 162) (by decide +kernel)) (
  zcons (zk_iastore (pc := 163) (by decide +kernel)) (
  zcons (zk_goto (pc := 164) (off := 16) (by decide) (by decide +kernel)) (
  zcons (zk_aload_n (pc := 167) (j := 1) rfl (by decide +kernel)) (
  zcons (zk_aload_n (pc := 168) (j := 0) rfl (by decide +kernel)) (
  zcons (zk_getr (pc := 169) (ci := 0) (j := 2) rfl zinX0 (by decide) zw_140 (by decide +kernel)) (
  zcons (zk_aload_n (pc := 172) (j := 0) rfl (by decide +kernel)) (
  zcons (zk_get (pc := 173) (ci := 0) (j := 3) rfl zinX0 (by decide) zw_141 (by decide +kernel)) (
  zcons (zk_iaload (pc := 176) (by decide +kernel)) (
  zcons (zk_putN (pc := 177) (ci := 5) (j := 3) rfl zinX5 (by decide) zw_72 tyX5 tyX5_ok nmX5 rfl (by decide +kernel) (by decide +kernel)) (
  zcons (zk_retv (pc := 180) rfl (by decide +kernel)) (znil)))))))))))))))))))))))))))))))))))))))))))))))))))))))))))))))))))))))))))))))))))))))))
def tb_X1_isAlso : List (Nat × ZP) := [(0, zo_il 0 1), (1, zo_is 2 2), (2, zo_i 0 3), (3, zo_is 3 4), (4, zo_il 3 5), (5, zo_i 3 6), (6, zo_icge 27 9), (9, zo_il 2 10), (10, zo_il 1 11), (11, zo_icne 16 14), (14, zo_i 1 15), (15, zo_retz), (16, zo_il 2 17), (17, zo_csi 3 1 20), (20, zo_is 2 21), (21, zo_inc 3 1 24), (24, zo_goto 4), (27, zo_i 0 28), (28, zo_retz)]
def cu_X1_isAlso : List (Nat × List Bool) := [(4, [false, true, true, true])]
set_option maxRecDepth 100000 in
set_option maxHeartbeats 4000000 in
theorem ok_X1_isAlso : ∀ e ∈ tb_X1_isAlso, ZOK zmt cX1_isAlso RX1 3 e.1 e.2 :=
  zcons (zk_iload_n (pc := 0) (j := 0) rfl (by decide +kernel)) (
  zcons (zk_istore_n (pc := 1) (j := 2) rfl (by decide +kernel)) (
  zcons (zk_iconst (pc := 2) (z := 0) (by decide) (by decide +kernel)) (
  zcons (zk_istore_n (pc := 3) (j := 3) rfl (by decide +kernel)) (
  zcons (zk_iload_n (pc := 4) (j := 3) rfl (by decide +kernel)) (
  zcons (zk_iconst (pc := 5) (z := 3) (by decide) (by decide +kernel)) (
  zcons (zk_icge (pc := 6) (off := 21) (by decide) (by decide +kernel)) (
  zcons (zk_iload_n (pc := 9) (j := 2) rfl (by decide +kernel)) (
  zcons (zk_iload_n (pc := 10) (j := 1) rfl (by decide +kernel)) (
  zcons (zk_icne (pc := 11) (off := 5) (by decide) (by decide +kernel)) (
  zcons (zk_iconst (pc := 14) (z := 1) (by decide) (by decide +kernel)) (
  zcons (zk_retz (pc := 15) rfl (by decide +kernel)) (
  zcons (zk_iload_n (pc := 16) (j := 2) rfl (by decide +kernel)) (
  zcons (zk_csi (pc := 17) 3 rfl zw_866 zw_867 zds_X1_above (by decide) zw_868 zw_6 (by decide +kernel)) (
  zcons (zk_istore_n (pc := 20) (j := 2) rfl (by decide +kernel)) (
  zcons (zk_iinc (pc := 21) (z := 1) (by decide) (by decide +kernel)) (
  zcons (zk_goto (pc := 24) (off := (-20)) (by decide) (by decide +kernel)) (
  zcons (zk_iconst (pc := 27) (z := 0) (by decide) (by decide +kernel)) (
  zcons (zk_retz (pc := 28) rfl (by decide +kernel)) (znil)))))))))))))))))))
def tb_X1_above : List (Nat × ZP) := [(0, zo_il 0 1), (1, zo_iflt 18 4), (4, zo_il 0 5), (5, zo_i 6 7), (7, zo_icge 18 10), (10, zo_gst 1002 13), (13, zo_il 0 14), (14, zo_sald 1002 zABOVE 15), (15, zo_goto 19), (18, zo_i 0 19), (19, zo_reti)]
def cu_X1_above : List (Nat × List Bool) := []
set_option maxRecDepth 100000 in
set_option maxHeartbeats 4000000 in
theorem ok_X1_above : ∀ e ∈ tb_X1_above, ZOK zmt cX1_above RX1 1 e.1 e.2 :=
  zcons (zk_iload_n (pc := 0) (j := 0) rfl (by decide +kernel)) (
  zcons (zk_iflt (pc := 1) (off := 17) (by decide) (by decide +kernel)) (
  zcons (zk_iload_n (pc := 4) (j := 0) rfl (by decide +kernel)) (
  zcons (zk_bipush (pc := 5) (z := 6) (by decide) (by decide +kernel)) (
  zcons (zk_icge (pc := 7) (off := 11) (by decide) (by decide +kernel)) (
  zcons (zk_getstatic (pc := 10) (id := 1002) (C := "StampSheets$Asks") (nm := "ABOVE") (xs := zABOVE) (fun h => h.2.1) zw_869 (by decide +kernel)) (
  zcons (zk_iload_n (pc := 13) (j := 0) rfl (by decide +kernel)) (
  zcons (zk_sald (pc := 14) (id := 1002) (C := "StampSheets$Asks") (nm := "ABOVE") (xs := zABOVE) (fun h => h.2.1) (by decide +kernel)) (
  zcons (zk_goto (pc := 15) (off := 4) (by decide) (by decide +kernel)) (
  zcons (zk_iconst (pc := 18) (z := 0) (by decide) (by decide +kernel)) (
  zcons (zk_reti (pc := 19) rfl (by decide +kernel)) (znil)))))))))))
def tb_X1_answer : List (Nat × ZP) := [(0, zo_al 0 1), (1, zo_il 2 2), (2, zo_put 1 2 5), (5, zo_al 0 6), (6, zo_al 1 7), (7, zo_getr 5 9 10), (10, zo_il 2 11), (11, zo_iald 12), (12, zo_put 1 3 15), (15, zo_al 0 16), (16, zo_al 1 17), (17, zo_getr 5 10 20), (20, zo_il 2 21), (21, zo_iald 22), (22, zo_put 1 4 25), (25, zo_al 0 26), (26, zo_al 1 27), (27, zo_get 5 3 30), (30, zo_put 1 5 33), (33, zo_al 0 34), (34, zo_i 0 35), (35, zo_put 1 1 38), (38, zo_al 0 39), (39, zo_al 0 40), (40, zo_il 3 41), (41, zo_cvi 1 5 1 44), (44, zo_i 0 45), (45, zo_cvi 1 7 2 48), (48, zo_reti)]
def cu_X1_answer : List (Nat × List Bool) := []
set_option maxRecDepth 100000 in
set_option maxHeartbeats 4000000 in
theorem ok_X1_answer : ∀ e ∈ tb_X1_answer, ZOK zmt cX1_answer RX1 1 e.1 e.2 :=
  zcons (zk_aload_n (pc := 0) (j := 0) rfl (by decide +kernel)) (
  zcons (zk_iload_n (pc := 1) (j := 2) rfl (by decide +kernel)) (
  zcons (zk_put (pc := 2) (ci := 1) (j := 2) rfl zinX1 (by decide) zw_198 tyX1 tyX1_ok nmX1 rfl (by decide +kernel) (by decide +kernel)) (
  zcons (zk_aload_n (pc := 5) (j := 0) rfl (by decide +kernel)) (
  zcons (zk_aload_n (pc := 6) (j := 1) rfl (by decide +kernel)) (
  zcons (zk_getrN (pc := 7) (ci := 5) (j := 9) rfl zinX5 (by decide) zw_90 (by decide +kernel)) (
  zcons (zk_iload_n (pc := 10) (j := 2) rfl (by decide +kernel)) (
  zcons (zk_iaload (pc := 11) (by decide +kernel)) (
  zcons (zk_put (pc := 12) (ci := 1) (j := 3) rfl zinX1 (by decide) zw_199 tyX1 tyX1_ok nmX1 rfl (by decide +kernel) (by decide +kernel)) (
  zcons (zk_aload_n (pc := 15) (j := 0) rfl (by decide +kernel)) (
  zcons (zk_aload_n (pc := 16) (j := 1) rfl (by decide +kernel)) (
  zcons (zk_getrN (pc := 17) (ci := 5) (j := 10) rfl zinX5 (by decide) zw_94 (by decide +kernel)) (
  zcons (zk_iload_n (pc := 20) (j := 2) rfl (by decide +kernel)) (
  zcons (zk_iaload (pc := 21) (by decide +kernel)) (
  zcons (zk_put (pc := 22) (ci := 1) (j := 4) rfl zinX1 (by decide) zw_200 tyX1 tyX1_ok nmX1 rfl (by decide +kernel) (by decide +kernel)) (
  zcons (zk_aload_n (pc := 25) (j := 0) rfl (by decide +kernel)) (
  zcons (zk_aload_n (pc := 26) (j := 1) rfl (by decide +kernel)) (
  zcons (zk_getN (pc := 27) (ci := 5) (j := 3) rfl zinX5 (by decide) zw_73 (by decide +kernel)) (
  zcons (zk_put (pc := 30) (ci := 1) (j := 5) rfl zinX1 (by decide) zw_201 tyX1 tyX1_ok nmX1 rfl (by decide +kernel) (by decide +kernel)) (
  zcons (zk_aload_n (pc := 33) (j := 0) rfl (by decide +kernel)) (
  zcons (zk_iconst (pc := 34) (z := 0) (by decide) (by decide +kernel)) (
  zcons (zk_put (pc := 35) (ci := 1) (j := 1) rfl zinX1 (by decide) zw_196 tyX1 tyX1_ok nmX1 rfl (by decide +kernel) (by decide +kernel)) (
  zcons (zk_aload_n (pc := 38) (j := 0) rfl (by decide +kernel)) (
  zcons (zk_aload_n (pc := 39) (j := 0) rfl (by decide +kernel)) (
  zcons (zk_iload_n (pc := 40) (j := 3) rfl (by decide +kernel)) (
  zcons (zk_cvi (pc := 41) 5 rfl (ci := 1) rfl zw_879 zw_881 zsel_X1_bodyFor zds_X1_bodyFor (by decide) zw_882 zw_6 (by decide +kernel)) (
  zcons (zk_iconst (pc := 44) (z := 0) (by decide) (by decide +kernel)) (
  zcons (zk_cvi (pc := 45) 7 rfl (ci := 1) rfl zw_890 zw_892 zsel_X1_body zds_X1_body (by decide) zw_893 zw_6 (by decide +kernel)) (
  zcons (zk_reti (pc := 48) rfl (by decide +kernel)) (znil)))))))))))))))))))))))))))))
def tb_X1_bodyFor : List (Nat × ZP) := [(0, zo_al 0 1), (1, zo_get 1 3 4), (4, zo_is 2 5), (5, zo_il 1 6), (6, zo_il 2 7), (7, zo_csi 6 2 10), (10, zo_is 3 11), (11, zo_i 1 12), (12, zo_is 4 14), (14, zo_il 4 16), (16, zo_i 3 17), (17, zo_icge 41 20), (20, zo_il 3 21), (21, zo_ifne 41 24), (24, zo_il 2 25), (25, zo_csi 3 1 28), (28, zo_is 2 29), (29, zo_il 1 30), (30, zo_il 2 31), (31, zo_csi 6 2 34), (34, zo_is 3 35), (35, zo_inc 4 1 38), (38, zo_goto 14), (41, zo_il 3 42), (42, zo_reti)]
def cu_X1_bodyFor : List (Nat × List Bool) := [(14, [false, true, true, true, true])]
set_option maxRecDepth 100000 in
set_option maxHeartbeats 4000000 in
theorem ok_X1_bodyFor : ∀ e ∈ tb_X1_bodyFor, ZOK zmt cX1_bodyFor RX1 1 e.1 e.2 :=
  zcons (zk_aload_n (pc := 0) (j := 0) rfl (by decide +kernel)) (
  zcons (zk_get (pc := 1) (ci := 1) (j := 3) rfl zinX1 (by decide) zw_199 (by decide +kernel)) (
  zcons (zk_istore_n (pc := 4) (j := 2) rfl (by decide +kernel)) (
  zcons (zk_iload_n (pc := 5) (j := 1) rfl (by decide +kernel)) (
  zcons (zk_iload_n (pc := 6) (j := 2) rfl (by decide +kernel)) (
  zcons (zk_csi (pc := 7) 6 rfl zw_883 zw_884 zds_X1_bodyTold (by decide) zw_885 zw_6 (by decide +kernel)) (
  zcons (zk_istore_n (pc := 10) (j := 3) rfl (by decide +kernel)) (
  zcons (zk_iconst (pc := 11) (z := 1) (by decide) (by decide +kernel)) (
  zcons (zk_istore (pc := 12) (by decide +kernel)) (
  zcons (zk_iload (pc := 14) (by decide +kernel)) (
  zcons (zk_iconst (pc := 16) (z := 3) (by decide) (by decide +kernel)) (
  zcons (zk_icge (pc := 17) (off := 24) (by decide) (by decide +kernel)) (
  zcons (zk_iload_n (pc := 20) (j := 3) rfl (by decide +kernel)) (
  zcons (zk_ifne (pc := 21) (off := 20) (by decide) (by decide +kernel)) (
  zcons (zk_iload_n (pc := 24) (j := 2) rfl (by decide +kernel)) (
  zcons (zk_csi (pc := 25) 3 rfl zw_866 zw_867 zds_X1_above (by decide) zw_868 zw_6 (by decide +kernel)) (
  zcons (zk_istore_n (pc := 28) (j := 2) rfl (by decide +kernel)) (
  zcons (zk_iload_n (pc := 29) (j := 1) rfl (by decide +kernel)) (
  zcons (zk_iload_n (pc := 30) (j := 2) rfl (by decide +kernel)) (
  zcons (zk_csi (pc := 31) 6 rfl zw_883 zw_884 zds_X1_bodyTold (by decide) zw_885 zw_6 (by decide +kernel)) (
  zcons (zk_istore_n (pc := 34) (j := 3) rfl (by decide +kernel)) (
  zcons (zk_iinc (pc := 35) (z := 1) (by decide) (by decide +kernel)) (
  zcons (zk_goto (pc := 38) (off := (-24)) (by decide) (by decide +kernel)) (
  zcons (zk_iload_n (pc := 41) (j := 3) rfl (by decide +kernel)) (
  zcons (zk_reti (pc := 42) rfl (by decide +kernel)) (znil)))))))))))))))))))))))))
def tb_X1_bodyTold : List (Nat × ZP) := [(0, zo_il 1 1), (1, zo_iflt 10 4), (4, zo_il 1 5), (5, zo_i 6 7), (7, zo_iclt 12 10), (10, zo_i 0 11), (11, zo_reti), (12, zo_il 0 13), (13, zo_ifne 24 16), (16, zo_gst 1003 19), (19, zo_il 1 20), (20, zo_sald 1003 zSIZEB 21), (21, zo_goto 29), (24, zo_gst 1004 27), (27, zo_il 1 28), (28, zo_sald 1004 zMARKB 29), (29, zo_reti)]
def cu_X1_bodyTold : List (Nat × List Bool) := []
set_option maxRecDepth 100000 in
set_option maxHeartbeats 4000000 in
theorem ok_X1_bodyTold : ∀ e ∈ tb_X1_bodyTold, ZOK zmt cX1_bodyTold RX1 1 e.1 e.2 :=
  zcons (zk_iload_n (pc := 0) (j := 1) rfl (by decide +kernel)) (
  zcons (zk_iflt (pc := 1) (off := 9) (by decide) (by decide +kernel)) (
  zcons (zk_iload_n (pc := 4) (j := 1) rfl (by decide +kernel)) (
  zcons (zk_bipush (pc := 5) (z := 6) (by decide) (by decide +kernel)) (
  zcons (zk_iclt (pc := 7) (off := 5) (by decide) (by decide +kernel)) (
  zcons (zk_iconst (pc := 10) (z := 0) (by decide) (by decide +kernel)) (
  zcons (zk_reti (pc := 11) rfl (by decide +kernel)) (
  zcons (zk_iload_n (pc := 12) (j := 0) rfl (by decide +kernel)) (
  zcons (zk_ifne (pc := 13) (off := 11) (by decide) (by decide +kernel)) (
  zcons (zk_getstatic (pc := 16) (id := 1003) (C := "StampSheets$Asks") (nm := "SIZE_BODIES") (xs := zSIZEB) (fun h => h.2.2.1) zw_886 (by decide +kernel)) (
  zcons (zk_iload_n (pc := 19) (j := 1) rfl (by decide +kernel)) (
  zcons (zk_sald (pc := 20) (id := 1003) (C := "StampSheets$Asks") (nm := "SIZE_BODIES") (xs := zSIZEB) (fun h => h.2.2.1) (by decide +kernel)) (
  zcons (zk_goto (pc := 21) (off := 8) (by decide) (by decide +kernel)) (
  zcons (zk_getstatic (pc := 24) (id := 1004) (C := "StampSheets$Asks") (nm := "MARK_BODIES") (xs := zMARKB) (fun h => h.2.2.2) zw_888 (by decide +kernel)) (
  zcons (zk_iload_n (pc := 27) (j := 1) rfl (by decide +kernel)) (
  zcons (zk_sald (pc := 28) (id := 1004) (C := "StampSheets$Asks") (nm := "MARK_BODIES") (xs := zMARKB) (fun h => h.2.2.2) (by decide +kernel)) (
  zcons (zk_reti (pc := 29) rfl (by decide +kernel)) (znil)))))))))))))))))
def tb_X1_body : List (Nat × ZP) := [(0, zo_il 2 1), (1, zo_i 16 3), (3, zo_icle 8 6), (6, zo_i 0 7), (7, zo_reti), (8, zo_al 0 9), (9, zo_il 1 10), (10, zo_cvv 1 8 1 13), (13, zo_il 2 14), (14, zo_i 1 15), (15, zo_bin (· + ·) 16), (16, zo_is 3 17), (17, zo_il 1 18), (18, zo_sw [(10, 92), (11, 97), (12, 116), (13, 125), (14, 136), (15, 205), (16, 205), (17, 205), (18, 205), (19, 205), (20, 146), (21, 151), (22, 164), (23, 176), (24, 195)] 205), (92, zo_al 0 93), (93, zo_get 1 4 96), (96, zo_reti), (97, zo_al 0 98), (98, zo_i 10 100), (100, zo_il 3 101), (101, zo_cvi 1 7 2 104), (104, zo_al 0 105), (105, zo_al 0 106), (106, zo_i 1 107), (107, zo_cvi 1 5 1 110), (110, zo_il 3 111), (111, zo_cvi 1 7 2 114), (114, zo_bin (· + ·) 115), (115, zo_reti), (116, zo_al 0 117), (117, zo_i 11 119), (119, zo_il 3 120), (120, zo_cvi 1 7 2 123), (123, zo_un (fun x => -x) 124), (124, zo_reti), (125, zo_al 0 126), (126, zo_i 10 128), (128, zo_il 3 129), (129, zo_cvi 1 7 2 132), (132, zo_i 100 134), (134, zo_bin (· - ·) 135), (135, zo_reti), (136, zo_i 2 137), (137, zo_al 0 138), (138, zo_i 13 140), (140, zo_il 3 141), (141, zo_cvi 1 7 2 144), (144, zo_bin (· * ·) 145), (145, zo_reti), (146, zo_al 0 147), (147, zo_get 1 2 150), (150, zo_reti), (151, zo_al 0 152), (152, zo_i 20 154), (154, zo_il 3 155), (155, zo_cvi 1 7 2 158), (158, zo_al 0 159), (159, zo_get 1 5 162), (162, zo_bin (· + ·) 163), (163, zo_reti), (164, zo_al 0 165), (165, zo_i 21 167), (167, zo_il 3 168), (168, zo_cvi 1 7 2 171), (171, zo_i 1000 174), (174, zo_bin (· - ·) 175), (175, zo_reti), (176, zo_al 0 177), (177, zo_i 20 179), (179, zo_il 3 180), (180, zo_cvi 1 7 2 183), (183, zo_al 0 184), (184, zo_al 0 185), (185, zo_i 0 186), (186, zo_cvi 1 5 1 189), (189, zo_il 3 190), (190, zo_cvi 1 7 2 193), (193, zo_bin (· - ·) 194), (194, zo_reti), (195, zo_i 2 196), (196, zo_al 0 197), (197, zo_i 21 199), (199, zo_il 3 200), (200, zo_cvi 1 7 2 203), (203, zo_bin (· * ·) 204), (204, zo_reti), (205, zo_i 0 206), (206, zo_reti)]
def cu_X1_body : List (Nat × List Bool) := []
set_option maxRecDepth 100000 in
set_option maxHeartbeats 4000000 in
theorem ok_X1_body : ∀ e ∈ tb_X1_body, ZOK zmt cX1_body RX1 1 e.1 e.2 :=
  zcons (zk_iload_n (pc := 0) (j := 2) rfl (by decide +kernel)) (
  zcons (zk_bipush (pc := 1) (z := 16) (by decide) (by decide +kernel)) (
  zcons (zk_icle (pc := 3) (off := 5) (by decide) (by decide +kernel)) (
  zcons (zk_iconst (pc := 6) (z := 0) (by decide) (by decide +kernel)) (
  zcons (zk_reti (pc := 7) rfl (by decide +kernel)) (
  zcons (zk_aload_n (pc := 8) (j := 0) rfl (by decide +kernel)) (
  zcons (zk_iload_n (pc := 9) (j := 1) rfl (by decide +kernel)) (
  zcons (zk_cvv (pc := 10) 8 rfl (ci := 1) rfl zw_894 zw_896 zsel_X1_leave zds_X1_leave (by decide) zw_897 zw_6 (by decide +kernel)) (
  zcons (zk_iload_n (pc := 13) (j := 2) rfl (by decide +kernel)) (
  zcons (zk_iconst (pc := 14) (z := 1) (by decide) (by decide +kernel)) (
  zcons (zk_iadd (pc := 15) (by decide +kernel)) (
  zcons (zk_istore_n (pc := 16) (j := 3) rfl (by decide +kernel)) (
  zcons (zk_iload_n (pc := 17) (j := 1) rfl (by decide +kernel)) (
  zcons (zk_table (pc := 18) (dflt := 187) (lw := 10) (hi := 24) (offs := #[74, 79, 98, 107, 118, 187, 187, 187, 187, 187, 128, 133, 146, 158, 177]) (len := 74) (by decide +kernel) (by decide +kernel)) (
  zcons (zk_aload_n (pc := 92) (j := 0) rfl (by decide +kernel)) (
  zcons (zk_get (pc := 93) (ci := 1) (j := 4) rfl zinX1 (by decide) zw_200 (by decide +kernel)) (
  zcons (zk_reti (pc := 96) rfl (by decide +kernel)) (
  zcons (zk_aload_n (pc := 97) (j := 0) rfl (by decide +kernel)) (
  zcons (zk_bipush (pc := 98) (z := 10) (by decide) (by decide +kernel)) (
  zcons (zk_iload_n (pc := 100) (j := 3) rfl (by decide +kernel)) (
  zcons (zk_cvi (pc := 101) 7 rfl (ci := 1) rfl zw_890 zw_892 zsel_X1_body zds_X1_body (by decide) zw_893 zw_6 (by decide +kernel)) (
  zcons (zk_aload_n (pc := 104) (j := 0) rfl (by decide +kernel)) (
  zcons (zk_aload_n (pc := 105) (j := 0) rfl (by decide +kernel)) (
  zcons (zk_iconst (pc := 106) (z := 1) (by decide) (by decide +kernel)) (
  zcons (zk_cvi (pc := 107) 5 rfl (ci := 1) rfl zw_879 zw_881 zsel_X1_bodyFor zds_X1_bodyFor (by decide) zw_882 zw_6 (by decide +kernel)) (
  zcons (zk_iload_n (pc := 110) (j := 3) rfl (by decide +kernel)) (
  zcons (zk_cvi (pc := 111) 7 rfl (ci := 1) rfl zw_890 zw_892 zsel_X1_body zds_X1_body (by decide) zw_893 zw_6 (by decide +kernel)) (
  zcons (zk_iadd (pc := 114) (by decide +kernel)) (
  zcons (zk_reti (pc := 115) rfl (by decide +kernel)) (
  zcons (zk_aload_n (pc := 116) (j := 0) rfl (by decide +kernel)) (
  zcons (zk_bipush (pc := 117) (z := 11) (by decide) (by decide +kernel)) (
  zcons (zk_iload_n (pc := 119) (j := 3) rfl (by decide +kernel)) (
  zcons (zk_cvi (pc := 120) 7 rfl (ci := 1) rfl zw_890 zw_892 zsel_X1_body zds_X1_body (by decide) zw_893 zw_6 (by decide +kernel)) (
  zcons (zk_ineg (pc := 123) (by decide +kernel)) (
  zcons (zk_reti (pc := 124) rfl (by decide +kernel)) (
  zcons (zk_aload_n (pc := 125) (j := 0) rfl (by decide +kernel)) (
  zcons (zk_bipush (pc := 126) (z := 10) (by decide) (by decide +kernel)) (
  zcons (zk_iload_n (pc := 128) (j := 3) rfl (by decide +kernel)) (
  zcons (zk_cvi (pc := 129) 7 rfl (ci := 1) rfl zw_890 zw_892 zsel_X1_body zds_X1_body (by decide) zw_893 zw_6 (by decide +kernel)) (
  zcons (zk_bipush (pc := 132) (z := 100) (by decide) (by decide +kernel)) (
  zcons (zk_isub (pc := 134) (by decide +kernel)) (
  zcons (zk_reti (pc := 135) rfl (by decide +kernel)) (
  zcons (zk_iconst (pc := 136) (z := 2) (by decide) (by decide +kernel)) (
  zcons (zk_aload_n (pc := 137) (j := 0) rfl (by decide +kernel)) (
  zcons (zk_bipush (pc := 138) (z := 13) (by decide) (by decide +kernel)) (
  zcons (zk_iload_n (pc := 140) (j := 3) rfl (by decide +kernel)) (
  zcons (zk_cvi (pc := 141) 7 rfl (ci := 1) rfl zw_890 zw_892 zsel_X1_body zds_X1_body (by decide) zw_893 zw_6 (by decide +kernel)) (
  zcons (zk_imul (pc := 144) (by decide +kernel)) (
  zcons (zk_reti (pc := 145) rfl (by decide +kernel)) (
  zcons (zk_aload_n (pc := 146) (j := 0) rfl (by decide +kernel)) (
  zcons (zk_get (pc := 147) (ci := 1) (j := 2) rfl zinX1 (by decide) zw_198 (by decide +kernel)) (
  zcons (zk_reti (pc := 150) rfl (by decide +kernel)) (
  zcons (zk_aload_n (pc := 151) (j := 0) rfl (by decide +kernel)) (
  zcons (zk_bipush (pc := 152) (z := 20) (by decide) (by decide +kernel)) (
  zcons (zk_iload_n (pc := 154) (j := 3) rfl (by decide +kernel)) (
  zcons (zk_cvi (pc := 155) 7 rfl (ci := 1) rfl zw_890 zw_892 zsel_X1_body zds_X1_body (by decide) zw_893 zw_6 (by decide +kernel)) (
  zcons (zk_aload_n (pc := 158) (j := 0) rfl (by decide +kernel)) (
  zcons (zk_get (pc := 159) (ci := 1) (j := 5) rfl zinX1 (by decide) zw_201 (by decide +kernel)) (
  zcons (zk_iadd (pc := 162) (by decide +kernel)) (
  zcons (zk_reti (pc := 163) rfl (by decide +kernel)) (
  zcons (zk_aload_n (pc := 164) (j := 0) rfl (by decide +kernel)) (
  zcons (zk_bipush (pc := 165) (z := 21) (by decide) (by decide +kernel)) (
  zcons (zk_iload_n (pc := 167) (j := 3) rfl (by decide +kernel)) (
  zcons (zk_cvi (pc := 168) 7 rfl (ci := 1) rfl zw_890 zw_892 zsel_X1_body zds_X1_body (by decide) zw_893 zw_6 (by decide +kernel)) (
  zcons (zk_sipush (pc := 171) (z := 1000) (by decide) (by decide +kernel)) (
  zcons (zk_isub (pc := 174) (by decide +kernel)) (
  zcons (zk_reti (pc := 175) rfl (by decide +kernel)) (
  zcons (zk_aload_n (pc := 176) (j := 0) rfl (by decide +kernel)) (
  zcons (zk_bipush (pc := 177) (z := 20) (by decide) (by decide +kernel)) (
  zcons (zk_iload_n (pc := 179) (j := 3) rfl (by decide +kernel)) (
  zcons (zk_cvi (pc := 180) 7 rfl (ci := 1) rfl zw_890 zw_892 zsel_X1_body zds_X1_body (by decide) zw_893 zw_6 (by decide +kernel)) (
  zcons (zk_aload_n (pc := 183) (j := 0) rfl (by decide +kernel)) (
  zcons (zk_aload_n (pc := 184) (j := 0) rfl (by decide +kernel)) (
  zcons (zk_iconst (pc := 185) (z := 0) (by decide) (by decide +kernel)) (
  zcons (zk_cvi (pc := 186) 5 rfl (ci := 1) rfl zw_879 zw_881 zsel_X1_bodyFor zds_X1_bodyFor (by decide) zw_882 zw_6 (by decide +kernel)) (
  zcons (zk_iload_n (pc := 189) (j := 3) rfl (by decide +kernel)) (
  zcons (zk_cvi (pc := 190) 7 rfl (ci := 1) rfl zw_890 zw_892 zsel_X1_body zds_X1_body (by decide) zw_893 zw_6 (by decide +kernel)) (
  zcons (zk_isub (pc := 193) (by decide +kernel)) (
  zcons (zk_reti (pc := 194) rfl (by decide +kernel)) (
  zcons (zk_iconst (pc := 195) (z := 2) (by decide) (by decide +kernel)) (
  zcons (zk_aload_n (pc := 196) (j := 0) rfl (by decide +kernel)) (
  zcons (zk_bipush (pc := 197) (z := 21) (by decide) (by decide +kernel)) (
  zcons (zk_iload_n (pc := 199) (j := 3) rfl (by decide +kernel)) (
  zcons (zk_cvi (pc := 200) 7 rfl (ci := 1) rfl zw_890 zw_892 zsel_X1_body zds_X1_body (by decide) zw_893 zw_6 (by decide +kernel)) (
  zcons (zk_imul (pc := 203) (by decide +kernel)) (
  zcons (zk_reti (pc := 204) rfl (by decide +kernel)) (
  zcons (zk_iconst (pc := 205) (z := 0) (by decide) (by decide +kernel)) (
  zcons (zk_reti (pc := 206) rfl (by decide +kernel)) (znil))))))))))))))))))))))))))))))))))))))))))))))))))))))))))))))))))))))))))))))))))))))))
def tb_X1_leave : List (Nat × ZP) := [(0, zo_al 0 1), (1, zo_get 1 1 4), (4, zo_i 16 6), (6, zo_icge 29 9), (9, zo_al 0 10), (10, zo_getr 1 0 13), (13, zo_al 0 14), (14, zo_get 1 1 17), (17, zo_il 1 18), (18, zo_iast 19), (19, zo_al 0 20), (20, zo_dup 21), (21, zo_get 1 1 24), (24, zo_i 1 25), (25, zo_bin (· + ·) 26), (26, zo_put 1 1 29), (29, zo_retv)]
def cu_X1_leave : List (Nat × List Bool) := []
set_option maxRecDepth 100000 in
set_option maxHeartbeats 4000000 in
theorem ok_X1_leave : ∀ e ∈ tb_X1_leave, ZOK zmt cX1_leave RX1 0 e.1 e.2 :=
  zcons (zk_aload_n (pc := 0) (j := 0) rfl (by decide +kernel)) (
  zcons (zk_get (pc := 1) (ci := 1) (j := 1) rfl zinX1 (by decide) zw_196 (by decide +kernel)) (
  zcons (zk_bipush (pc := 4) (z := 16) (by decide) (by decide +kernel)) (
  zcons (zk_icge (pc := 6) (off := 23) (by decide) (by decide +kernel)) (
  zcons (zk_aload_n (pc := 9) (j := 0) rfl (by decide +kernel)) (
  zcons (zk_getr (pc := 10) (ci := 1) (j := 0) rfl zinX1 (by decide) zw_194 (by decide +kernel)) (
  zcons (zk_aload_n (pc := 13) (j := 0) rfl (by decide +kernel)) (
  zcons (zk_get (pc := 14) (ci := 1) (j := 1) rfl zinX1 (by decide) zw_196 (by decide +kernel)) (
  zcons (zk_iload_n (pc := 17) (j := 1) rfl (by decide +kernel)) (
  zcons (zk_iastore (pc := 18) (by decide +kernel)) (
  zcons (zk_aload_n (pc := 19) (j := 0) rfl (by decide +kernel)) (
  zcons (zk_dup (pc := 20) (by decide +kernel)) (
  zcons (zk_get (pc := 21) (ci := 1) (j := 1) rfl zinX1 (by decide) zw_196 (by decide +kernel)) (
  zcons (zk_iconst (pc := 24) (z := 1) (by decide) (by decide +kernel)) (
  zcons (zk_iadd (pc := 25) (by decide +kernel)) (
  zcons (zk_put (pc := 26) (ci := 1) (j := 1) rfl zinX1 (by decide) zw_196 tyX1 tyX1_ok nmX1 rfl (by decide +kernel) (by decide +kernel)) (
  zcons (zk_retv (pc := 29) rfl (by decide +kernel)) (znil)))))))))))))))))
def tb_X3_append : List (Nat × ZP) := [(0, zo_al 0 1), (1, zo_get 3 1 4), (4, zo_i 120 6), (6, zo_iclt 11 9), (9, zo_i 0 10), (10, zo_retz), (11, zo_al 0 12), (12, zo_getr 3 0 15), (15, zo_al 0 16), (16, zo_get 3 1 19), (19, zo_il 1 20), (20, zo_iast 21), (21, zo_al 0 22), (22, zo_dup 23), (23, zo_get 3 1 26), (26, zo_i 1 27), (27, zo_bin (· + ·) 28), (28, zo_put 3 1 31), (31, zo_i 1 32), (32, zo_retz)]
def cu_X3_append : List (Nat × List Bool) := []
set_option maxRecDepth 100000 in
set_option maxHeartbeats 4000000 in
theorem ok_X3_append : ∀ e ∈ tb_X3_append, ZOK zmt cX3_append RX3 3 e.1 e.2 :=
  zcons (zk_aload_n (pc := 0) (j := 0) rfl (by decide +kernel)) (
  zcons (zk_get (pc := 1) (ci := 3) (j := 1) rfl zinX3 (by decide) zw_31 (by decide +kernel)) (
  zcons (zk_bipush (pc := 4) (z := 120) (by decide) (by decide +kernel)) (
  zcons (zk_iclt (pc := 6) (off := 5) (by decide) (by decide +kernel)) (
  zcons (zk_iconst (pc := 9) (z := 0) (by decide) (by decide +kernel)) (
  zcons (zk_retz (pc := 10) rfl (by decide +kernel)) (
  zcons (zk_aload_n (pc := 11) (j := 0) rfl (by decide +kernel)) (
  zcons (zk_getr (pc := 12) (ci := 3) (j := 0) rfl zinX3 (by decide) zw_30 (by decide +kernel)) (
  zcons (zk_aload_n (pc := 15) (j := 0) rfl (by decide +kernel)) (
  zcons (zk_get (pc := 16) (ci := 3) (j := 1) rfl zinX3 (by decide) zw_31 (by decide +kernel)) (
  zcons (zk_iload_n (pc := 19) (j := 1) rfl (by decide +kernel)) (
  zcons (zk_iastore (pc := 20) (by decide +kernel)) (
  zcons (zk_aload_n (pc := 21) (j := 0) rfl (by decide +kernel)) (
  zcons (zk_dup (pc := 22) (by decide +kernel)) (
  zcons (zk_get (pc := 23) (ci := 3) (j := 1) rfl zinX3 (by decide) zw_31 (by decide +kernel)) (
  zcons (zk_iconst (pc := 26) (z := 1) (by decide) (by decide +kernel)) (
  zcons (zk_iadd (pc := 27) (by decide +kernel)) (
  zcons (zk_put (pc := 28) (ci := 3) (j := 1) rfl zinX3 (by decide) zw_31 tyX3 tyX3_ok nmX3 rfl (by decide +kernel) (by decide +kernel)) (
  zcons (zk_iconst (pc := 31) (z := 1) (by decide) (by decide +kernel)) (
  zcons (zk_retz (pc := 32) rfl (by decide +kernel)) (znil))))))))))))))))))))
def tb_X3_read : List (Nat × ZP) := [(0, zo_al 0 1), (1, zo_i 0 2), (2, zo_put 3 2 5), (5, zo_al 0 6), (6, zo_cvv 3 47 0 9), (9, zo_al 0 10), (10, zo_al 1 11), (11, zo_cvi 3 40 1 14), (14, zo_ifeq 37 17), (17, zo_al 0 18), (18, zo_al 1 19), (19, zo_cvi 3 41 1 22), (22, zo_ifeq 37 25), (25, zo_al 0 26), (26, zo_al 1 27), (27, zo_cvi 3 42 1 30), (30, zo_ifeq 37 33), (33, zo_i 1 34), (34, zo_goto 38), (37, zo_i 0 38), (38, zo_is 2 39), (39, zo_al 0 40), (40, zo_i 0 41), (41, zo_put 3 1 44), (44, zo_il 2 45), (45, zo_retz)]
def cu_X3_read : List (Nat × List Bool) := []
set_option maxRecDepth 100000 in
set_option maxHeartbeats 4000000 in
theorem ok_X3_read : ∀ e ∈ tb_X3_read, ZOK zmt cX3_read RX3 3 e.1 e.2 :=
  zcons (zk_aload_n (pc := 0) (j := 0) rfl (by decide +kernel)) (
  zcons (zk_iconst (pc := 1) (z := 0) (by decide) (by decide +kernel)) (
  zcons (zk_put (pc := 2) (ci := 3) (j := 2) rfl zinX3 (by decide) zw_33 tyX3 tyX3_ok nmX3 rfl (by decide +kernel) (by decide +kernel)) (
  zcons (zk_aload_n (pc := 5) (j := 0) rfl (by decide +kernel)) (
  zcons (zk_cvv (pc := 6) 47 rfl (ci := 3) rfl zw_349 zw_351 zsel_X3_step zds_X3_step (by decide) zw_352 zw_2 (by decide +kernel)) (
  zcons (zk_aload_n (pc := 9) (j := 0) rfl (by decide +kernel)) (
  zcons (zk_aload_n (pc := 10) (j := 1) rfl (by decide +kernel)) (
  zcons (zk_cvi (pc := 11) 40 rfl (ci := 3) rfl zw_360 zw_362 zsel_X3_readLaw zds_X3_readLaw (by decide) zw_363 zw_2 (by decide +kernel)) (
  zcons (zk_ifeq (pc := 14) (off := 23) (by decide) (by decide +kernel)) (
  zcons (zk_aload_n (pc := 17) (j := 0) rfl (by decide +kernel)) (
  zcons (zk_aload_n (pc := 18) (j := 1) rfl (by decide +kernel)) (
  zcons (zk_cvi (pc := 19) 41 rfl (ci := 3) rfl zw_388 zw_390 zsel_X3_readStamps zds_X3_readStamps (by decide) zw_391 zw_2 (by decide +kernel)) (
  zcons (zk_ifeq (pc := 22) (off := 15) (by decide) (by decide +kernel)) (
  zcons (zk_aload_n (pc := 25) (j := 0) rfl (by decide +kernel)) (
  zcons (zk_aload_n (pc := 26) (j := 1) rfl (by decide +kernel)) (
  zcons (zk_cvi (pc := 27) 42 rfl (ci := 3) rfl zw_400 zw_402 zsel_X3_readCustomers zds_X3_readCustomers (by decide) zw_403 zw_2 (by decide +kernel)) (
  zcons (zk_ifeq (pc := 30) (off := 7) (by decide) (by decide +kernel)) (
  zcons (zk_iconst (pc := 33) (z := 1) (by decide) (by decide +kernel)) (
  zcons (zk_goto (pc := 34) (off := 4) (by decide) (by decide +kernel)) (
  zcons (zk_iconst (pc := 37) (z := 0) (by decide) (by decide +kernel)) (
  zcons (zk_istore_n (pc := 38) (j := 2) rfl (by decide +kernel)) (
  zcons (zk_aload_n (pc := 39) (j := 0) rfl (by decide +kernel)) (
  zcons (zk_iconst (pc := 40) (z := 0) (by decide) (by decide +kernel)) (
  zcons (zk_put (pc := 41) (ci := 3) (j := 1) rfl zinX3 (by decide) zw_31 tyX3 tyX3_ok nmX3 rfl (by decide +kernel) (by decide +kernel)) (
  zcons (zk_iload_n (pc := 44) (j := 2) rfl (by decide +kernel)) (
  zcons (zk_retz (pc := 45) rfl (by decide +kernel)) (znil))))))))))))))))))))))))))
def tb_X3_readLaw : List (Nat × ZP) := [(0, zo_al 0 1), (1, zo_i 119 3), (3, zo_cvi 3 44 1 6), (6, zo_ifne 11 9), (9, zo_i 0 10), (10, zo_retz), (11, zo_al 0 12), (12, zo_i 1 13), (13, zo_i 6 15), (15, zo_cvi 3 45 2 18), (18, zo_is 2 19), (19, zo_il 2 20), (20, zo_i 1 21), (21, zo_iclt 33 24), (24, zo_al 0 25), (25, zo_i 44 27), (27, zo_cvi 3 44 1 30), (30, zo_ifne 35 33), (33, zo_i 0 34), (34, zo_retz), (35, zo_al 0 36), (36, zo_i 1 37), (37, zo_i 6 39), (39, zo_i 10 41), (41, zo_il 2 42), (42, zo_dv (· / ·) 43), (43, zo_csi 235 2 46), (46, zo_cvi 3 45 2 49), (49, zo_is 3 50), (50, zo_il 3 51), (51, zo_i 1 52), (52, zo_iclt 64 55), (55, zo_al 0 56), (56, zo_i 44 58), (58, zo_cvi 3 44 1 61), (61, zo_ifne 66 64), (64, zo_i 0 65), (65, zo_retz), (66, zo_al 0 67), (67, zo_i 0 68), (68, zo_i 9 70), (70, zo_cvi 3 45 2 73), (73, zo_is 4 75), (75, zo_il 4 77), (77, zo_iflt 89 80), (80, zo_al 0 81), (81, zo_i 59 83), (83, zo_cvi 3 44 1 86), (86, zo_ifne 91 89), (89, zo_i 0 90), (90, zo_retz), (91, zo_al 1 92), (92, zo_il 2 93), (93, zo_il 3 94), (94, zo_il 4 96), (96, zo_cvv 5 53 3 99), (99, zo_i 1 100), (100, zo_retz)]
def cu_X3_readLaw : List (Nat × List Bool) := []
set_option maxRecDepth 100000 in
set_option maxHeartbeats 4000000 in
theorem ok_X3_readLaw : ∀ e ∈ tb_X3_readLaw, ZOK zmt cX3_readLaw RX3 3 e.1 e.2 :=
  zcons (zk_aload_n (pc := 0) (j := 0) rfl (by decide +kernel)) (
  zcons (zk_bipush (pc := 1) (z := 119) (by decide) (by decide +kernel)) (
  zcons (zk_cvi (pc := 3) 44 rfl (ci := 3) rfl zw_364 zw_366 zsel_X3_takes zds_X3_takes (by decide) zw_367 zw_2 (by decide +kernel)) (
  zcons (zk_ifne (pc := 6) (off := 5) (by decide) (by decide +kernel)) (
  zcons (zk_iconst (pc := 9) (z := 0) (by decide) (by decide +kernel)) (
  zcons (zk_retz (pc := 10) rfl (by decide +kernel)) (
  zcons (zk_aload_n (pc := 11) (j := 0) rfl (by decide +kernel)) (
  zcons (zk_iconst (pc := 12) (z := 1) (by decide) (by decide +kernel)) (
  zcons (zk_bipush (pc := 13) (z := 6) (by decide) (by decide +kernel)) (
  zcons (zk_cvi (pc := 15) 45 rfl (ci := 3) rfl zw_372 zw_374 zsel_X3_takeNumber zds_X3_takeNumber (by decide) zw_375 zw_2 (by decide +kernel)) (
  zcons (zk_istore_n (pc := 18) (j := 2) rfl (by decide +kernel)) (
  zcons (zk_iload_n (pc := 19) (j := 2) rfl (by decide +kernel)) (
  zcons (zk_iconst (pc := 20) (z := 1) (by decide) (by decide +kernel)) (
  zcons (zk_iclt (pc := 21) (off := 12) (by decide) (by decide +kernel)) (
  zcons (zk_aload_n (pc := 24) (j := 0) rfl (by decide +kernel)) (
  zcons (zk_bipush (pc := 25) (z := 44) (by decide) (by decide +kernel)) (
  zcons (zk_cvi (pc := 27) 44 rfl (ci := 3) rfl zw_364 zw_366 zsel_X3_takes zds_X3_takes (by decide) zw_367 zw_2 (by decide +kernel)) (
  zcons (zk_ifne (pc := 30) (off := 5) (by decide) (by decide +kernel)) (
  zcons (zk_iconst (pc := 33) (z := 0) (by decide) (by decide +kernel)) (
  zcons (zk_retz (pc := 34) rfl (by decide +kernel)) (
  zcons (zk_aload_n (pc := 35) (j := 0) rfl (by decide +kernel)) (
  zcons (zk_iconst (pc := 36) (z := 1) (by decide) (by decide +kernel)) (
  zcons (zk_bipush (pc := 37) (z := 6) (by decide) (by decide +kernel)) (
  zcons (zk_bipush (pc := 39) (z := 10) (by decide) (by decide +kernel)) (
  zcons (zk_iload_n (pc := 41) (j := 2) rfl (by decide +kernel)) (
  zcons (zk_idiv (pc := 42) (by decide +kernel)) (
  zcons (zk_csi (pc := 43) 235 rfl zw_376 zw_377 zds_J9_min_7cf53 (by decide) zw_378 zw_12 (by decide +kernel)) (
  zcons (zk_cvi (pc := 46) 45 rfl (ci := 3) rfl zw_372 zw_374 zsel_X3_takeNumber zds_X3_takeNumber (by decide) zw_375 zw_2 (by decide +kernel)) (
  zcons (zk_istore_n (pc := 49) (j := 3) rfl (by decide +kernel)) (
  zcons (zk_iload_n (pc := 50) (j := 3) rfl (by decide +kernel)) (
  zcons (zk_iconst (pc := 51) (z := 1) (by decide) (by decide +kernel)) (
  zcons (zk_iclt (pc := 52) (off := 12) (by decide) (by decide +kernel)) (
  zcons (zk_aload_n (pc := 55) (j := 0) rfl (by decide +kernel)) (
  zcons (zk_bipush (pc := 56) (z := 44) (by decide) (by decide +kernel)) (
  zcons (zk_cvi (pc := 58) 44 rfl (ci := 3) rfl zw_364 zw_366 zsel_X3_takes zds_X3_takes (by decide) zw_367 zw_2 (by decide +kernel)) (
  zcons (zk_ifne (pc := 61) (off := 5) (by decide) (by decide +kernel)) (
  zcons (zk_iconst (pc := 64) (z := 0) (by decide) (by decide +kernel)) (
  zcons (zk_retz (pc := 65) rfl (by decide +kernel)) (
  zcons (zk_aload_n (pc := 66) (j := 0) rfl (by decide +kernel)) (
  zcons (zk_iconst (pc := 67) (z := 0) (by decide) (by decide +kernel)) (
  zcons (zk_bipush (pc := 68) (z := 9) (by decide) (by decide +kernel)) (
  zcons (zk_cvi (pc := 70) 45 rfl (ci := 3) rfl zw_372 zw_374 zsel_X3_takeNumber zds_X3_takeNumber (by decide) zw_375 zw_2 (by decide +kernel)) (
  zcons (zk_istore (pc := 73) (by decide +kernel)) (
  zcons (zk_iload (pc := 75) (by decide +kernel)) (
  zcons (zk_iflt (pc := 77) (off := 12) (by decide) (by decide +kernel)) (
  zcons (zk_aload_n (pc := 80) (j := 0) rfl (by decide +kernel)) (
  zcons (zk_bipush (pc := 81) (z := 59) (by decide) (by decide +kernel)) (
  zcons (zk_cvi (pc := 83) 44 rfl (ci := 3) rfl zw_364 zw_366 zsel_X3_takes zds_X3_takes (by decide) zw_367 zw_2 (by decide +kernel)) (
  zcons (zk_ifne (pc := 86) (off := 5) (by decide) (by decide +kernel)) (
  zcons (zk_iconst (pc := 89) (z := 0) (by decide) (by decide +kernel)) (
  zcons (zk_retz (pc := 90) rfl (by decide +kernel)) (
  zcons (zk_aload_n (pc := 91) (j := 1) rfl (by decide +kernel)) (
  zcons (zk_iload_n (pc := 92) (j := 2) rfl (by decide +kernel)) (
  zcons (zk_iload_n (pc := 93) (j := 3) rfl (by decide +kernel)) (
  zcons (zk_iload (pc := 94) (by decide +kernel)) (
  zcons (zk_cvvN (pc := 96) 53 rfl (ci := 5) rfl zw_379 zw_381 zsel_X5_begin zds_X5_begin (by decide) zw_382 zw_3 (by decide +kernel)) (
  zcons (zk_iconst (pc := 99) (z := 1) (by decide) (by decide +kernel)) (
  zcons (zk_retz (pc := 100) rfl (by decide +kernel)) (znil))))))))))))))))))))))))))))))))))))))))))))))))))))))))))
def tb_X3_readStamps : List (Nat × ZP) := [(0, zo_i 0 1), (1, zo_is 2 2), (2, zo_il 2 3), (3, zo_al 1 4), (4, zo_get 5 1 7), (7, zo_icge 68 10), (10, zo_al 0 11), (11, zo_cvi 3 43 0 14), (14, zo_is 3 15), (15, zo_il 3 16), (16, zo_ifne 25 19), (19, zo_al 0 20), (20, zo_i 1 21), (21, zo_cvi 3 46 1 24), (24, zo_retz), (25, zo_al 0 26), (26, zo_cvv 3 47 0 29), (29, zo_al 0 30), (30, zo_i 0 31), (31, zo_i 9 33), (33, zo_cvi 3 45 2 36), (36, zo_is 4 38), (38, zo_il 4 40), (40, zo_iflt 52 43), (43, zo_al 0 44), (44, zo_i 59 46), (46, zo_cvi 3 44 1 49), (49, zo_ifne 54 52), (52, zo_i 0 53), (53, zo_retz), (54, zo_al 1 55), (55, zo_il 2 56), (56, zo_il 3 57), (57, zo_il 4 59), (59, zo_cvv 5 55 3 62), (62, zo_inc 2 1 65), (65, zo_goto 2), (68, zo_al 0 69), (69, zo_cvi 3 43 0 72), (72, zo_ifeq 83 75), (75, zo_al 0 76), (76, zo_i 3 77), (77, zo_cvi 3 46 1 80), (80, zo_ifeq 87 83), (83, zo_i 1 84), (84, zo_goto 88), (87, zo_i 0 88), (88, zo_retz)]
def cu_X3_readStamps : List (Nat × List Bool) := [(2, [true, true, true, false, false])]
set_option maxRecDepth 100000 in
set_option maxHeartbeats 4000000 in
theorem ok_X3_readStamps : ∀ e ∈ tb_X3_readStamps, ZOK zmt cX3_readStamps RX3 3 e.1 e.2 :=
  zcons (zk_iconst (pc := 0) (z := 0) (by decide) (by decide +kernel)) (
  zcons (zk_istore_n (pc := 1) (j := 2) rfl (by decide +kernel)) (
  zcons (zk_iload_n (pc := 2) (j := 2) rfl (by decide +kernel)) (
  zcons (zk_aload_n (pc := 3) (j := 1) rfl (by decide +kernel)) (
  zcons (zk_getN (pc := 4) (ci := 5) (j := 1) rfl zinX5 (by decide) zw_66 (by decide +kernel)) (
  zcons (zk_icge (pc := 7) (off := 61) (by decide) (by decide +kernel)) (
  zcons (zk_aload_n (pc := 10) (j := 0) rfl (by decide +kernel)) (
  zcons (zk_cvi (pc := 11) 43 rfl (ci := 3) rfl zw_392 zw_394 zsel_X3_kindOfSort zds_X3_kindOfSort (by decide) zw_395 zw_2 (by decide +kernel)) (
  zcons (zk_istore_n (pc := 14) (j := 3) rfl (by decide +kernel)) (
  zcons (zk_iload_n (pc := 15) (j := 3) rfl (by decide +kernel)) (
  zcons (zk_ifne (pc := 16) (off := 9) (by decide) (by decide +kernel)) (
  zcons (zk_aload_n (pc := 19) (j := 0) rfl (by decide +kernel)) (
  zcons (zk_iconst (pc := 20) (z := 1) (by decide) (by decide +kernel)) (
  zcons (zk_cvi (pc := 21) 46 rfl (ci := 3) rfl zw_368 zw_370 zsel_X3_refuse zds_X3_refuse (by decide) zw_371 zw_2 (by decide +kernel)) (
  zcons (zk_retz (pc := 24) rfl (by decide +kernel)) (
  zcons (zk_aload_n (pc := 25) (j := 0) rfl (by decide +kernel)) (
  zcons (zk_cvv (pc := 26) 47 rfl (ci := 3) rfl zw_349 zw_351 zsel_X3_step zds_X3_step (by decide) zw_352 zw_2 (by decide +kernel)) (
  zcons (zk_aload_n (pc := 29) (j := 0) rfl (by decide +kernel)) (
  zcons (zk_iconst (pc := 30) (z := 0) (by decide) (by decide +kernel)) (
  zcons (zk_bipush (pc := 31) (z := 9) (by decide) (by decide +kernel)) (
  zcons (zk_cvi (pc := 33) 45 rfl (ci := 3) rfl zw_372 zw_374 zsel_X3_takeNumber zds_X3_takeNumber (by decide) zw_375 zw_2 (by decide +kernel)) (
  zcons (zk_istore (pc := 36) (by decide +kernel)) (
  zcons (zk_iload (pc := 38) (by decide +kernel)) (
  zcons (zk_iflt (pc := 40) (off := 12) (by decide) (by decide +kernel)) (
  zcons (zk_aload_n (pc := 43) (j := 0) rfl (by decide +kernel)) (
  zcons (zk_bipush (pc := 44) (z := 59) (by decide) (by decide +kernel)) (
  zcons (zk_cvi (pc := 46) 44 rfl (ci := 3) rfl zw_364 zw_366 zsel_X3_takes zds_X3_takes (by decide) zw_367 zw_2 (by decide +kernel)) (
  zcons (zk_ifne (pc := 49) (off := 5) (by decide) (by decide +kernel)) (
  zcons (zk_iconst (pc := 52) (z := 0) (by decide) (by decide +kernel)) (
  zcons (zk_retz (pc := 53) rfl (by decide +kernel)) (
  zcons (zk_aload_n (pc := 54) (j := 1) rfl (by decide +kernel)) (
  zcons (zk_iload_n (pc := 55) (j := 2) rfl (by decide +kernel)) (
  zcons (zk_iload_n (pc := 56) (j := 3) rfl (by decide +kernel)) (
  zcons (zk_iload (pc := 57) (by decide +kernel)) (
  zcons (zk_cvvN (pc := 59) 55 rfl (ci := 5) rfl zw_396 zw_398 zsel_X5_put zds_X5_put (by decide) zw_399 zw_3 (by decide +kernel)) (
  zcons (zk_iinc (pc := 62) (z := 1) (by decide) (by decide +kernel)) (
  zcons (zk_goto (pc := 65) (off := (-63)) (by decide) (by decide +kernel)) (
  zcons (zk_aload_n (pc := 68) (j := 0) rfl (by decide +kernel)) (
  zcons (zk_cvi (pc := 69) 43 rfl (ci := 3) rfl zw_392 zw_394 zsel_X3_kindOfSort zds_X3_kindOfSort (by decide) zw_395 zw_2 (by decide +kernel)) (
  zcons (zk_ifeq (pc := 72) (off := 11) (by decide) (by decide +kernel)) (
  zcons (zk_aload_n (pc := 75) (j := 0) rfl (by decide +kernel)) (
  zcons (zk_iconst (pc := 76) (z := 3) (by decide) (by decide +kernel)) (
  zcons (zk_cvi (pc := 77) 46 rfl (ci := 3) rfl zw_368 zw_370 zsel_X3_refuse zds_X3_refuse (by decide) zw_371 zw_2 (by decide +kernel)) (
  zcons (zk_ifeq (pc := 80) (off := 7) (by decide) (by decide +kernel)) (
  zcons (zk_iconst (pc := 83) (z := 1) (by decide) (by decide +kernel)) (
  zcons (zk_goto (pc := 84) (off := 4) (by decide) (by decide +kernel)) (
  zcons (zk_iconst (pc := 87) (z := 0) (by decide) (by decide +kernel)) (
  zcons (zk_retz (pc := 88) rfl (by decide +kernel)) (znil))))))))))))))))))))))))))))))))))))))))))))))))
def tb_X3_readCustomers : List (Nat × ZP) := [(0, zo_i 0 1), (1, zo_is 2 2), (2, zo_il 2 3), (3, zo_i 5 4), (4, zo_icge 81 7), (7, zo_al 0 8), (8, zo_get 3 4 11), (11, zo_i 110 13), (13, zo_icne 81 16), (16, zo_al 0 17), (17, zo_cvv 3 47 0 20), (20, zo_al 0 21), (21, zo_i 0 22), (22, zo_i 99 24), (24, zo_cvi 3 45 2 27), (27, zo_is 3 28), (28, zo_il 3 29), (29, zo_iflt 41 32), (32, zo_al 0 33), (33, zo_i 44 35), (35, zo_cvi 3 44 1 38), (38, zo_ifne 43 41), (41, zo_i 0 42), (42, zo_retz), (43, zo_al 0 44), (44, zo_il 3 45), (45, zo_i 99 47), (47, zo_cvi 3 45 2 50), (50, zo_is 4 52), (52, zo_il 4 54), (54, zo_iflt 66 57), (57, zo_al 0 58), (58, zo_i 59 60), (60, zo_cvi 3 44 1 63), (63, zo_ifne 68 66), (66, zo_i 0 67), (67, zo_retz), (68, zo_al 1 69), (69, zo_il 3 70), (70, zo_il 4 72), (72, zo_cvv 5 56 2 75), (75, zo_inc 2 1 78), (78, zo_goto 2), (81, zo_al 0 82), (82, zo_get 3 4 85), (85, zo_i 110 87), (87, zo_icne 96 90), (90, zo_al 0 91), (91, zo_i 3 92), (92, zo_cvi 3 46 1 95), (95, zo_retz), (96, zo_al 0 97), (97, zo_get 3 4 100), (100, zo_i (-1) 101), (101, zo_iceq 112 104), (104, zo_al 0 105), (105, zo_i 1 106), (106, zo_cvi 3 46 1 109), (109, zo_ifeq 116 112), (112, zo_i 1 113), (113, zo_goto 117), (116, zo_i 0 117), (117, zo_retz)]
def cu_X3_readCustomers : List (Nat × List Bool) := [(2, [true, true, true, false, false])]
set_option maxRecDepth 100000 in
set_option maxHeartbeats 4000000 in
theorem ok_X3_readCustomers : ∀ e ∈ tb_X3_readCustomers, ZOK zmt cX3_readCustomers RX3 3 e.1 e.2 :=
  zcons (zk_iconst (pc := 0) (z := 0) (by decide) (by decide +kernel)) (
  zcons (zk_istore_n (pc := 1) (j := 2) rfl (by decide +kernel)) (
  zcons (zk_iload_n (pc := 2) (j := 2) rfl (by decide +kernel)) (
  zcons (zk_iconst (pc := 3) (z := 5) (by decide) (by decide +kernel)) (
  zcons (zk_icge (pc := 4) (off := 77) (by decide) (by decide +kernel)) (
  zcons (zk_aload_n (pc := 7) (j := 0) rfl (by decide +kernel)) (
  zcons (zk_get (pc := 8) (ci := 3) (j := 4) rfl zinX3 (by decide) zw_36 (by decide +kernel)) (
  zcons (zk_bipush (pc := 11) (z := 110) (by decide) (by decide +kernel)) (
  zcons (zk_icne (pc := 13) (off := 68) (by decide) (by decide +kernel)) (
  zcons (zk_aload_n (pc := 16) (j := 0) rfl (by decide +kernel)) (
  zcons (zk_cvv (pc := 17) 47 rfl (ci := 3) rfl zw_349 zw_351 zsel_X3_step zds_X3_step (by decide) zw_352 zw_2 (by decide +kernel)) (
  zcons (zk_aload_n (pc := 20) (j := 0) rfl (by decide +kernel)) (
  zcons (zk_iconst (pc := 21) (z := 0) (by decide) (by decide +kernel)) (
  zcons (zk_bipush (pc := 22) (z := 99) (by decide) (by decide +kernel)) (
  zcons (zk_cvi (pc := 24) 45 rfl (ci := 3) rfl zw_372 zw_374 zsel_X3_takeNumber zds_X3_takeNumber (by decide) zw_375 zw_2 (by decide +kernel)) (
  zcons (zk_istore_n (pc := 27) (j := 3) rfl (by decide +kernel)) (
  zcons (zk_iload_n (pc := 28) (j := 3) rfl (by decide +kernel)) (
  zcons (zk_iflt (pc := 29) (off := 12) (by decide) (by decide +kernel)) (
  zcons (zk_aload_n (pc := 32) (j := 0) rfl (by decide +kernel)) (
  zcons (zk_bipush (pc := 33) (z := 44) (by decide) (by decide +kernel)) (
  zcons (zk_cvi (pc := 35) 44 rfl (ci := 3) rfl zw_364 zw_366 zsel_X3_takes zds_X3_takes (by decide) zw_367 zw_2 (by decide +kernel)) (
  zcons (zk_ifne (pc := 38) (off := 5) (by decide) (by decide +kernel)) (
  zcons (zk_iconst (pc := 41) (z := 0) (by decide) (by decide +kernel)) (
  zcons (zk_retz (pc := 42) rfl (by decide +kernel)) (
  zcons (zk_aload_n (pc := 43) (j := 0) rfl (by decide +kernel)) (
  zcons (zk_iload_n (pc := 44) (j := 3) rfl (by decide +kernel)) (
  zcons (zk_bipush (pc := 45) (z := 99) (by decide) (by decide +kernel)) (
  zcons (zk_cvi (pc := 47) 45 rfl (ci := 3) rfl zw_372 zw_374 zsel_X3_takeNumber zds_X3_takeNumber (by decide) zw_375 zw_2 (by decide +kernel)) (
  zcons (zk_istore (pc := 50) (by decide +kernel)) (
  zcons (zk_iload (pc := 52) (by decide +kernel)) (
  zcons (zk_iflt (pc := 54) (off := 12) (by decide) (by decide +kernel)) (
  zcons (zk_aload_n (pc := 57) (j := 0) rfl (by decide +kernel)) (
  zcons (zk_bipush (pc := 58) (z := 59) (by decide) (by decide +kernel)) (
  zcons (zk_cvi (pc := 60) 44 rfl (ci := 3) rfl zw_364 zw_366 zsel_X3_takes zds_X3_takes (by decide) zw_367 zw_2 (by decide +kernel)) (
  zcons (zk_ifne (pc := 63) (off := 5) (by decide) (by decide +kernel)) (
  zcons (zk_iconst (pc := 66) (z := 0) (by decide) (by decide +kernel)) (
  zcons (zk_retz (pc := 67) rfl (by decide +kernel)) (
  zcons (zk_aload_n (pc := 68) (j := 1) rfl (by decide +kernel)) (
  zcons (zk_iload_n (pc := 69) (j := 3) rfl (by decide +kernel)) (
  zcons (zk_iload (pc := 70) (by decide +kernel)) (
  zcons (zk_cvvN (pc := 72) 56 rfl (ci := 5) rfl zw_404 zw_406 zsel_X5_add zds_X5_add (by decide) zw_407 zw_3 (by decide +kernel)) (
  zcons (zk_iinc (pc := 75) (z := 1) (by decide) (by decide +kernel)) (
  zcons (zk_goto (pc := 78) (off := (-76)) (by decide) (by decide +kernel)) (
  zcons (zk_aload_n (pc := 81) (j := 0) rfl (by decide +kernel)) (
  zcons (zk_get (pc := 82) (ci := 3) (j := 4) rfl zinX3 (by decide) zw_36 (by decide +kernel)) (
  zcons (zk_bipush (pc := 85) (z := 110) (by decide) (by decide +kernel)) (
  zcons (zk_icne (pc := 87) (off := 9) (by decide) (by decide +kernel)) (
  zcons (zk_aload_n (pc := 90) (j := 0) rfl (by decide +kernel)) (
  zcons (zk_iconst (pc := 91) (z := 3) (by decide) (by decide +kernel)) (
  zcons (zk_cvi (pc := 92) 46 rfl (ci := 3) rfl zw_368 zw_370 zsel_X3_refuse zds_X3_refuse (by decide) zw_371 zw_2 (by decide +kernel)) (
  zcons (zk_retz (pc := 95) rfl (by decide +kernel)) (
  zcons (zk_aload_n (pc := 96) (j := 0) rfl (by decide +kernel)) (
  zcons (zk_get (pc := 97) (ci := 3) (j := 4) rfl zinX3 (by decide) zw_36 (by decide +kernel)) (
  zcons (zk_iconst (pc := 100) (z := (-1)) (by decide) (by decide +kernel)) (
  zcons (zk_iceq (pc := 101) (off := 11) (by decide) (by decide +kernel)) (
  zcons (zk_aload_n (pc := 104) (j := 0) rfl (by decide +kernel)) (
  zcons (zk_iconst (pc := 105) (z := 1) (by decide) (by decide +kernel)) (
  zcons (zk_cvi (pc := 106) 46 rfl (ci := 3) rfl zw_368 zw_370 zsel_X3_refuse zds_X3_refuse (by decide) zw_371 zw_2 (by decide +kernel)) (
  zcons (zk_ifeq (pc := 109) (off := 7) (by decide) (by decide +kernel)) (
  zcons (zk_iconst (pc := 112) (z := 1) (by decide) (by decide +kernel)) (
  zcons (zk_goto (pc := 113) (off := 4) (by decide) (by decide +kernel)) (
  zcons (zk_iconst (pc := 116) (z := 0) (by decide) (by decide +kernel)) (
  zcons (zk_retz (pc := 117) rfl (by decide +kernel)) (znil)))))))))))))))))))))))))))))))))))))))))))))))))))))))))))))))
def tb_X3_kindOfSort : List (Nat × ZP) := [(0, zo_al 0 1), (1, zo_get 3 4 4), (4, zo_sw [(97, 62), (100, 60), (101, 64), (111, 56), (117, 58)] 66), (56, zo_i 1 57), (57, zo_reti), (58, zo_i 2 59), (59, zo_reti), (60, zo_i 3 61), (61, zo_reti), (62, zo_i 4 63), (63, zo_reti), (64, zo_i 5 65), (65, zo_reti), (66, zo_i 0 67), (67, zo_reti)]
def cu_X3_kindOfSort : List (Nat × List Bool) := []
set_option maxRecDepth 100000 in
set_option maxHeartbeats 4000000 in
theorem ok_X3_kindOfSort : ∀ e ∈ tb_X3_kindOfSort, ZOK zmt cX3_kindOfSort RX3 1 e.1 e.2 :=
  zcons (zk_aload_n (pc := 0) (j := 0) rfl (by decide +kernel)) (
  zcons (zk_get (pc := 1) (ci := 3) (j := 4) rfl zinX3 (by decide) zw_36 (by decide +kernel)) (
  zcons (zk_lookup (pc := 4) (dflt := 62) (os := #[(97, 58), (100, 56), (101, 60), (111, 52), (117, 54)]) (len := 52) (by decide) (by decide +kernel) (by decide +kernel) (by decide +kernel)) (
  zcons (zk_iconst (pc := 56) (z := 1) (by decide) (by decide +kernel)) (
  zcons (zk_reti (pc := 57) rfl (by decide +kernel)) (
  zcons (zk_iconst (pc := 58) (z := 2) (by decide) (by decide +kernel)) (
  zcons (zk_reti (pc := 59) rfl (by decide +kernel)) (
  zcons (zk_iconst (pc := 60) (z := 3) (by decide) (by decide +kernel)) (
  zcons (zk_reti (pc := 61) rfl (by decide +kernel)) (
  zcons (zk_iconst (pc := 62) (z := 4) (by decide) (by decide +kernel)) (
  zcons (zk_reti (pc := 63) rfl (by decide +kernel)) (
  zcons (zk_iconst (pc := 64) (z := 5) (by decide) (by decide +kernel)) (
  zcons (zk_reti (pc := 65) rfl (by decide +kernel)) (
  zcons (zk_iconst (pc := 66) (z := 0) (by decide) (by decide +kernel)) (
  zcons (zk_reti (pc := 67) rfl (by decide +kernel)) (znil)))))))))))))))
def tb_X3_takes : List (Nat × ZP) := [(0, zo_al 0 1), (1, zo_get 3 4 4), (4, zo_il 1 5), (5, zo_iceq 14 8), (8, zo_al 0 9), (9, zo_i 1 10), (10, zo_cvi 3 46 1 13), (13, zo_retz), (14, zo_al 0 15), (15, zo_cvv 3 47 0 18), (18, zo_i 1 19), (19, zo_retz)]
def cu_X3_takes : List (Nat × List Bool) := []
set_option maxRecDepth 100000 in
set_option maxHeartbeats 4000000 in
theorem ok_X3_takes : ∀ e ∈ tb_X3_takes, ZOK zmt cX3_takes RX3 3 e.1 e.2 :=
  zcons (zk_aload_n (pc := 0) (j := 0) rfl (by decide +kernel)) (
  zcons (zk_get (pc := 1) (ci := 3) (j := 4) rfl zinX3 (by decide) zw_36 (by decide +kernel)) (
  zcons (zk_iload_n (pc := 4) (j := 1) rfl (by decide +kernel)) (
  zcons (zk_iceq (pc := 5) (off := 9) (by decide) (by decide +kernel)) (
  zcons (zk_aload_n (pc := 8) (j := 0) rfl (by decide +kernel)) (
  zcons (zk_iconst (pc := 9) (z := 1) (by decide) (by decide +kernel)) (
  zcons (zk_cvi (pc := 10) 46 rfl (ci := 3) rfl zw_368 zw_370 zsel_X3_refuse zds_X3_refuse (by decide) zw_371 zw_2 (by decide +kernel)) (
  zcons (zk_retz (pc := 13) rfl (by decide +kernel)) (
  zcons (zk_aload_n (pc := 14) (j := 0) rfl (by decide +kernel)) (
  zcons (zk_cvv (pc := 15) 47 rfl (ci := 3) rfl zw_349 zw_351 zsel_X3_step zds_X3_step (by decide) zw_352 zw_2 (by decide +kernel)) (
  zcons (zk_iconst (pc := 18) (z := 1) (by decide) (by decide +kernel)) (
  zcons (zk_retz (pc := 19) rfl (by decide +kernel)) (znil))))))))))))
def tb_X3_takeNumber : List (Nat × ZP) := [(0, zo_al 0 1), (1, zo_get 3 4 4), (4, zo_ifeq 15 7), (7, zo_al 0 8), (8, zo_i 1 9), (9, zo_cvi 3 46 1 12), (12, zo_pop 13), (13, zo_i (-1) 14), (14, zo_reti), (15, zo_al 0 16), (16, zo_get 3 5 19), (19, zo_is 3 20), (20, zo_il 3 21), (21, zo_il 1 22), (22, zo_iclt 30 25), (25, zo_il 3 26), (26, zo_il 2 27), (27, zo_icle 38 30), (30, zo_al 0 31), (31, zo_i 2 32), (32, zo_cvi 3 46 1 35), (35, zo_pop 36), (36, zo_i (-1) 37), (37, zo_reti), (38, zo_al 0 39), (39, zo_cvv 3 47 0 42), (42, zo_il 3 43), (43, zo_reti)]
def cu_X3_takeNumber : List (Nat × List Bool) := []
set_option maxRecDepth 100000 in
set_option maxHeartbeats 4000000 in
theorem ok_X3_takeNumber : ∀ e ∈ tb_X3_takeNumber, ZOK zmt cX3_takeNumber RX3 1 e.1 e.2 :=
  zcons (zk_aload_n (pc := 0) (j := 0) rfl (by decide +kernel)) (
  zcons (zk_get (pc := 1) (ci := 3) (j := 4) rfl zinX3 (by decide) zw_36 (by decide +kernel)) (
  zcons (zk_ifeq (pc := 4) (off := 11) (by decide) (by decide +kernel)) (
  zcons (zk_aload_n (pc := 7) (j := 0) rfl (by decide +kernel)) (
  zcons (zk_iconst (pc := 8) (z := 1) (by decide) (by decide +kernel)) (
  zcons (zk_cvi (pc := 9) 46 rfl (ci := 3) rfl zw_368 zw_370 zsel_X3_refuse zds_X3_refuse (by decide) zw_371 zw_2 (by decide +kernel)) (
  zcons (zk_pop (pc := 12) (by decide +kernel)) (
  zcons (zk_iconst (pc := 13) (z := (-1)) (by decide) (by decide +kernel)) (
  zcons (zk_reti (pc := 14) rfl (by decide +kernel)) (
  zcons (zk_aload_n (pc := 15) (j := 0) rfl (by decide +kernel)) (
  zcons (zk_get (pc := 16) (ci := 3) (j := 5) rfl zinX3 (by decide) zw_37 (by decide +kernel)) (
  zcons (zk_istore_n (pc := 19) (j := 3) rfl (by decide +kernel)) (
  zcons (zk_iload_n (pc := 20) (j := 3) rfl (by decide +kernel)) (
  zcons (zk_iload_n (pc := 21) (j := 1) rfl (by decide +kernel)) (
  zcons (zk_iclt (pc := 22) (off := 8) (by decide) (by decide +kernel)) (
  zcons (zk_iload_n (pc := 25) (j := 3) rfl (by decide +kernel)) (
  zcons (zk_iload_n (pc := 26) (j := 2) rfl (by decide +kernel)) (
  zcons (zk_icle (pc := 27) (off := 11) (by decide) (by decide +kernel)) (
  zcons (zk_aload_n (pc := 30) (j := 0) rfl (by decide +kernel)) (
  zcons (zk_iconst (pc := 31) (z := 2) (by decide) (by decide +kernel)) (
  zcons (zk_cvi (pc := 32) 46 rfl (ci := 3) rfl zw_368 zw_370 zsel_X3_refuse zds_X3_refuse (by decide) zw_371 zw_2 (by decide +kernel)) (
  zcons (zk_pop (pc := 35) (by decide +kernel)) (
  zcons (zk_iconst (pc := 36) (z := (-1)) (by decide) (by decide +kernel)) (
  zcons (zk_reti (pc := 37) rfl (by decide +kernel)) (
  zcons (zk_aload_n (pc := 38) (j := 0) rfl (by decide +kernel)) (
  zcons (zk_cvv (pc := 39) 47 rfl (ci := 3) rfl zw_349 zw_351 zsel_X3_step zds_X3_step (by decide) zw_352 zw_2 (by decide +kernel)) (
  zcons (zk_iload_n (pc := 42) (j := 3) rfl (by decide +kernel)) (
  zcons (zk_reti (pc := 43) rfl (by decide +kernel)) (znil))))))))))))))))))))))))))))
def tb_X3_refuse : List (Nat × ZP) := [(0, zo_al 0 1), (1, zo_il 1 2), (2, zo_put 3 6 5), (5, zo_i 0 6), (6, zo_retz)]
def cu_X3_refuse : List (Nat × List Bool) := []
set_option maxRecDepth 100000 in
set_option maxHeartbeats 4000000 in
theorem ok_X3_refuse : ∀ e ∈ tb_X3_refuse, ZOK zmt cX3_refuse RX3 3 e.1 e.2 :=
  zcons (zk_aload_n (pc := 0) (j := 0) rfl (by decide +kernel)) (
  zcons (zk_iload_n (pc := 1) (j := 1) rfl (by decide +kernel)) (
  zcons (zk_put (pc := 2) (ci := 3) (j := 6) rfl zinX3 (by decide) zw_38 tyX3 tyX3_ok nmX3 rfl (by decide +kernel) (by decide +kernel)) (
  zcons (zk_iconst (pc := 5) (z := 0) (by decide) (by decide +kernel)) (
  zcons (zk_retz (pc := 6) rfl (by decide +kernel)) (znil)))))
def tb_X3_step : List (Nat × ZP) := [(0, zo_al 0 1), (1, zo_al 0 2), (2, zo_get 3 2 5), (5, zo_put 3 3 8), (8, zo_al 0 9), (9, zo_get 3 2 12), (12, zo_al 0 13), (13, zo_get 3 1 16), (16, zo_iclt 25 19), (19, zo_al 0 20), (20, zo_i (-1) 21), (21, zo_put 3 4 24), (24, zo_retv), (25, zo_al 0 26), (26, zo_getr 3 0 29), (29, zo_al 0 30), (30, zo_get 3 2 33), (33, zo_iald 34), (34, zo_is 1 35), (35, zo_il 1 36), (36, zo_csi 49 1 39), (39, zo_ifeq 47 42), (42, zo_al 0 43), (43, zo_cvv 3 48 0 46), (46, zo_retv), (47, zo_al 0 48), (48, zo_dup 49), (49, zo_get 3 2 52), (52, zo_i 1 53), (53, zo_bin (· + ·) 54), (54, zo_put 3 2 57), (57, zo_al 0 58), (58, zo_il 1 59), (59, zo_i 97 61), (61, zo_iclt 70 64), (64, zo_il 1 65), (65, zo_i 122 67), (67, zo_icle 82 70), (70, zo_il 1 71), (71, zo_i 44 73), (73, zo_iceq 82 76), (76, zo_il 1 77), (77, zo_i 59 79), (79, zo_icne 86 82), (82, zo_il 1 83), (83, zo_goto 88), (86, zo_i (-2) 88), (88, zo_put 3 4 91), (91, zo_retv)]
def cu_X3_step : List (Nat × List Bool) := []
set_option maxRecDepth 100000 in
set_option maxHeartbeats 4000000 in
theorem ok_X3_step : ∀ e ∈ tb_X3_step, ZOK zmt cX3_step RX3 0 e.1 e.2 :=
  zcons (zk_aload_n (pc := 0) (j := 0) rfl (by decide +kernel)) (
  zcons (zk_aload_n (pc := 1) (j := 0) rfl (by decide +kernel)) (
  zcons (zk_get (pc := 2) (ci := 3) (j := 2) rfl zinX3 (by decide) zw_33 (by decide +kernel)) (
  zcons (zk_put (pc := 5) (ci := 3) (j := 3) rfl zinX3 (by decide) zw_34 tyX3 tyX3_ok nmX3 rfl (by decide +kernel) (by decide +kernel)) (
  zcons (zk_aload_n (pc := 8) (j := 0) rfl (by decide +kernel)) (
  zcons (zk_get (pc := 9) (ci := 3) (j := 2) rfl zinX3 (by decide) zw_33 (by decide +kernel)) (
  zcons (zk_aload_n (pc := 12) (j := 0) rfl (by decide +kernel)) (
  zcons (zk_get (pc := 13) (ci := 3) (j := 1) rfl zinX3 (by decide) zw_31 (by decide +kernel)) (
  zcons (zk_iclt (pc := 16) (off := 9) (by decide) (by decide +kernel)) (
  zcons (zk_aload_n (pc := 19) (j := 0) rfl (by decide +kernel)) (
  zcons (zk_iconst (pc := 20) (z := (-1)) (by decide) (by decide +kernel)) (
  zcons (zk_put (pc := 21) (ci := 3) (j := 4) rfl zinX3 (by decide) zw_36 tyX3 tyX3_ok nmX3 rfl (by decide +kernel) (by decide +kernel)) (
  zcons (zk_retv (pc := 24) rfl (by decide +kernel)) (
  zcons (zk_aload_n (pc := 25) (j := 0) rfl (by decide +kernel)) (
  zcons (zk_getr (pc := 26) (ci := 3) (j := 0) rfl zinX3 (by decide) zw_30 (by decide +kernel)) (
  zcons (zk_aload_n (pc := 29) (j := 0) rfl (by decide +kernel)) (
  zcons (zk_get (pc := 30) (ci := 3) (j := 2) rfl zinX3 (by decide) zw_33 (by decide +kernel)) (
  zcons (zk_iaload (pc := 33) (by decide +kernel)) (
  zcons (zk_istore_n (pc := 34) (j := 1) rfl (by decide +kernel)) (
  zcons (zk_iload_n (pc := 35) (j := 1) rfl (by decide +kernel)) (
  zcons (zk_csi (pc := 36) 49 rfl zw_353 zw_354 zds_X3_isFigureSign (by decide) zw_355 zw_2 (by decide +kernel)) (
  zcons (zk_ifeq (pc := 39) (off := 8) (by decide) (by decide +kernel)) (
  zcons (zk_aload_n (pc := 42) (j := 0) rfl (by decide +kernel)) (
  zcons (zk_cvv (pc := 43) 48 rfl (ci := 3) rfl zw_356 zw_358 zsel_X3_stepOverNumber zds_X3_stepOverNumber (by decide) zw_359 zw_2 (by decide +kernel)) (
  zcons (zk_retv (pc := 46) rfl (by decide +kernel)) (
  zcons (zk_aload_n (pc := 47) (j := 0) rfl (by decide +kernel)) (
  zcons (zk_dup (pc := 48) (by decide +kernel)) (
  zcons (zk_get (pc := 49) (ci := 3) (j := 2) rfl zinX3 (by decide) zw_33 (by decide +kernel)) (
  zcons (zk_iconst (pc := 52) (z := 1) (by decide) (by decide +kernel)) (
  zcons (zk_iadd (pc := 53) (by decide +kernel)) (
  zcons (zk_put (pc := 54) (ci := 3) (j := 2) rfl zinX3 (by decide) zw_33 tyX3 tyX3_ok nmX3 rfl (by decide +kernel) (by decide +kernel)) (
  zcons (zk_aload_n (pc := 57) (j := 0) rfl (by decide +kernel)) (
  zcons (zk_iload_n (pc := 58) (j := 1) rfl (by decide +kernel)) (
  zcons (zk_bipush (pc := 59) (z := 97) (by decide) (by decide +kernel)) (
  zcons (zk_iclt (pc := 61) (off := 9) (by decide) (by decide +kernel)) (
  zcons (zk_iload_n (pc := 64) (j := 1) rfl (by decide +kernel)) (
  zcons (zk_bipush (pc := 65) (z := 122) (by decide) (by decide +kernel)) (
  zcons (zk_icle (pc := 67) (off := 15) (by decide) (by decide +kernel)) (
  zcons (zk_iload_n (pc := 70) (j := 1) rfl (by decide +kernel)) (
  zcons (zk_bipush (pc := 71) (z := 44) (by decide) (by decide +kernel)) (
  zcons (zk_iceq (pc := 73) (off := 9) (by decide) (by decide +kernel)) (
  zcons (zk_iload_n (pc := 76) (j := 1) rfl (by decide +kernel)) (
  zcons (zk_bipush (pc := 77) (z := 59) (by decide) (by decide +kernel)) (
  zcons (zk_icne (pc := 79) (off := 7) (by decide) (by decide +kernel)) (
  zcons (zk_iload_n (pc := 82) (j := 1) rfl (by decide +kernel)) (
  zcons (zk_goto (pc := 83) (off := 5) (by decide) (by decide +kernel)) (
  zcons (zk_bipush (pc := 86) (z := (-2)) (by decide) (by decide +kernel)) (
  zcons (zk_put (pc := 88) (ci := 3) (j := 4) rfl zinX3 (by decide) zw_36 tyX3 tyX3_ok nmX3 rfl (by decide +kernel) (by decide +kernel)) (
  zcons (zk_retv (pc := 91) rfl (by decide +kernel)) (znil)))))))))))))))))))))))))))))))))))))))))))))))))
def tb_X3_stepOverNumber : List (Nat × ZP) := [(0, zo_al 0 1), (1, zo_i 0 2), (2, zo_put 3 5 5), (5, zo_al 0 6), (6, zo_get 3 2 9), (9, zo_al 0 10), (10, zo_get 3 1 13), (13, zo_icge 68 16), (16, zo_al 0 17), (17, zo_getr 3 0 20), (20, zo_al 0 21), (21, zo_get 3 2 24), (24, zo_iald 25), (25, zo_csi 49 1 28), (28, zo_ifeq 68 31), (31, zo_al 0 32), (32, zo_i 10 34), (34, zo_al 0 35), (35, zo_get 3 5 38), (38, zo_bin (· * ·) 39), (39, zo_al 0 40), (40, zo_getr 3 0 43), (43, zo_al 0 44), (44, zo_get 3 2 47), (47, zo_iald 48), (48, zo_bin (· + ·) 49), (49, zo_i 48 51), (51, zo_bin (· - ·) 52), (52, zo_put 3 5 55), (55, zo_al 0 56), (56, zo_dup 57), (57, zo_get 3 2 60), (60, zo_i 1 61), (61, zo_bin (· + ·) 62), (62, zo_put 3 2 65), (65, zo_goto 5), (68, zo_al 0 69), (69, zo_al 0 70), (70, zo_get 3 2 73), (73, zo_al 0 74), (74, zo_get 3 3 77), (77, zo_bin (· - ·) 78), (78, zo_i 2 79), (79, zo_icgt 86 82), (82, zo_i 0 83), (83, zo_goto 88), (86, zo_i (-2) 88), (88, zo_put 3 4 91), (91, zo_retv)]
def cu_X3_stepOverNumber : List (Nat × List Bool) := [(5, [true])]
set_option maxRecDepth 100000 in
set_option maxHeartbeats 4000000 in
theorem ok_X3_stepOverNumber : ∀ e ∈ tb_X3_stepOverNumber, ZOK zmt cX3_stepOverNumber RX3 0 e.1 e.2 :=
  zcons (zk_aload_n (pc := 0) (j := 0) rfl (by decide +kernel)) (
  zcons (zk_iconst (pc := 1) (z := 0) (by decide) (by decide +kernel)) (
  zcons (zk_put (pc := 2) (ci := 3) (j := 5) rfl zinX3 (by decide) zw_37 tyX3 tyX3_ok nmX3 rfl (by decide +kernel) (by decide +kernel)) (
  zcons (zk_aload_n (pc := 5) (j := 0) rfl (by decide +kernel)) (
  zcons (zk_get (pc := 6) (ci := 3) (j := 2) rfl zinX3 (by decide) zw_33 (by decide +kernel)) (
  zcons (zk_aload_n (pc := 9) (j := 0) rfl (by decide +kernel)) (
  zcons (zk_get (pc := 10) (ci := 3) (j := 1) rfl zinX3 (by decide) zw_31 (by decide +kernel)) (
  zcons (zk_icge (pc := 13) (off := 55) (by decide) (by decide +kernel)) (
  zcons (zk_aload_n (pc := 16) (j := 0) rfl (by decide +kernel)) (
  zcons (zk_getr (pc := 17) (ci := 3) (j := 0) rfl zinX3 (by decide) zw_30 (by decide +kernel)) (
  zcons (zk_aload_n (pc := 20) (j := 0) rfl (by decide +kernel)) (
  zcons (zk_get (pc := 21) (ci := 3) (j := 2) rfl zinX3 (by decide) zw_33 (by decide +kernel)) (
  zcons (zk_iaload (pc := 24) (by decide +kernel)) (
  zcons (zk_csi (pc := 25) 49 rfl zw_353 zw_354 zds_X3_isFigureSign (by decide) zw_355 zw_2 (by decide +kernel)) (
  zcons (zk_ifeq (pc := 28) (off := 40) (by decide) (by decide +kernel)) (
  zcons (zk_aload_n (pc := 31) (j := 0) rfl (by decide +kernel)) (
  zcons (zk_bipush (pc := 32) (z := 10) (by decide) (by decide +kernel)) (
  zcons (zk_aload_n (pc := 34) (j := 0) rfl (by decide +kernel)) (
  zcons (zk_get (pc := 35) (ci := 3) (j := 5) rfl zinX3 (by decide) zw_37 (by decide +kernel)) (
  zcons (zk_imul (pc := 38) (by decide +kernel)) (
  zcons (zk_aload_n (pc := 39) (j := 0) rfl (by decide +kernel)) (
  zcons (zk_getr (pc := 40) (ci := 3) (j := 0) rfl zinX3 (by decide) zw_30 (by decide +kernel)) (
  zcons (zk_aload_n (pc := 43) (j := 0) rfl (by decide +kernel)) (
  zcons (zk_get (pc := 44) (ci := 3) (j := 2) rfl zinX3 (by decide) zw_33 (by decide +kernel)) (
  zcons (zk_iaload (pc := 47) (by decide +kernel)) (
  zcons (zk_iadd (pc := 48) (by decide +kernel)) (
  zcons (zk_bipush (pc := 49) (z := 48) (by decide) (by decide +kernel)) (
  zcons (zk_isub (pc := 51) (by decide +kernel)) (
  zcons (zk_put (pc := 52) (ci := 3) (j := 5) rfl zinX3 (by decide) zw_37 tyX3 tyX3_ok nmX3 rfl (by decide +kernel) (by decide +kernel)) (
  zcons (zk_aload_n (pc := 55) (j := 0) rfl (by decide +kernel)) (
  zcons (zk_dup (pc := 56) (by decide +kernel)) (
  zcons (zk_get (pc := 57) (ci := 3) (j := 2) rfl zinX3 (by decide) zw_33 (by decide +kernel)) (
  zcons (zk_iconst (pc := 60) (z := 1) (by decide) (by decide +kernel)) (
  zcons (zk_iadd (pc := 61) (by decide +kernel)) (
  zcons (zk_put (pc := 62) (ci := 3) (j := 2) rfl zinX3 (by decide) zw_33 tyX3 tyX3_ok nmX3 rfl (by decide +kernel) (by decide +kernel)) (
  zcons (zk_goto (pc := 65) (off := (-60)) (by decide) (by decide +kernel)) (
  zcons (zk_aload_n (pc := 68) (j := 0) rfl (by decide +kernel)) (
  zcons (zk_aload_n (pc := 69) (j := 0) rfl (by decide +kernel)) (
  zcons (zk_get (pc := 70) (ci := 3) (j := 2) rfl zinX3 (by decide) zw_33 (by decide +kernel)) (
  zcons (zk_aload_n (pc := 73) (j := 0) rfl (by decide +kernel)) (
  zcons (zk_get (pc := 74) (ci := 3) (j := 3) rfl zinX3 (by decide) zw_34 (by decide +kernel)) (
  zcons (zk_isub (pc := 77) (by decide +kernel)) (
  zcons (zk_iconst (pc := 78) (z := 2) (by decide) (by decide +kernel)) (
  zcons (zk_icgt (pc := 79) (off := 7) (by decide) (by decide +kernel)) (
  zcons (zk_iconst (pc := 82) (z := 0) (by decide) (by decide +kernel)) (
  zcons (zk_goto (pc := 83) (off := 5) (by decide) (by decide +kernel)) (
  zcons (zk_bipush (pc := 86) (z := (-2)) (by decide) (by decide +kernel)) (
  zcons (zk_put (pc := 88) (ci := 3) (j := 4) rfl zinX3 (by decide) zw_36 tyX3 tyX3_ok nmX3 rfl (by decide +kernel) (by decide +kernel)) (
  zcons (zk_retv (pc := 91) rfl (by decide +kernel)) (znil)))))))))))))))))))))))))))))))))))))))))))))))))
def tb_X3_isFigureSign : List (Nat × ZP) := [(0, zo_il 0 1), (1, zo_i 48 3), (3, zo_iclt 16 6), (6, zo_il 0 7), (7, zo_i 57 9), (9, zo_icgt 16 12), (12, zo_i 1 13), (13, zo_goto 17), (16, zo_i 0 17), (17, zo_retz)]
def cu_X3_isFigureSign : List (Nat × List Bool) := []
set_option maxRecDepth 100000 in
set_option maxHeartbeats 4000000 in
theorem ok_X3_isFigureSign : ∀ e ∈ tb_X3_isFigureSign, ZOK zmt cX3_isFigureSign RX3 3 e.1 e.2 :=
  zcons (zk_iload_n (pc := 0) (j := 0) rfl (by decide +kernel)) (
  zcons (zk_bipush (pc := 1) (z := 48) (by decide) (by decide +kernel)) (
  zcons (zk_iclt (pc := 3) (off := 13) (by decide) (by decide +kernel)) (
  zcons (zk_iload_n (pc := 6) (j := 0) rfl (by decide +kernel)) (
  zcons (zk_bipush (pc := 7) (z := 57) (by decide) (by decide +kernel)) (
  zcons (zk_icgt (pc := 9) (off := 7) (by decide) (by decide +kernel)) (
  zcons (zk_iconst (pc := 12) (z := 1) (by decide) (by decide +kernel)) (
  zcons (zk_goto (pc := 13) (off := 4) (by decide) (by decide +kernel)) (
  zcons (zk_iconst (pc := 16) (z := 0) (by decide) (by decide +kernel)) (
  zcons (zk_retz (pc := 17) rfl (by decide +kernel)) (znil))))))))))
def tb_X4_begin : List (Nat × ZP) := [(0, zo_al 0 1), (1, zo_i 1 2), (2, zo_putz 4 1 5), (5, zo_al 0 6), (6, zo_il 1 7), (7, zo_put 4 2 10), (10, zo_al 0 11), (11, zo_il 2 12), (12, zo_put 4 3 15), (15, zo_al 0 16), (16, zo_getr 4 0 19), (19, zo_i 0 20), (20, zo_csv 237 2 23), (23, zo_retv)]
def cu_X4_begin : List (Nat × List Bool) := []
set_option maxRecDepth 100000 in
set_option maxHeartbeats 4000000 in
theorem ok_X4_begin : ∀ e ∈ tb_X4_begin, ZOK zmt cX4_begin RX4 0 e.1 e.2 :=
  zcons (zk_aload_n (pc := 0) (j := 0) rfl (by decide +kernel)) (
  zcons (zk_iconst (pc := 1) (z := 1) (by decide) (by decide +kernel)) (
  zcons (zk_putz (pc := 2) (ci := 4) (j := 1) rfl zinX4 (by decide) zw_239 tyX4 tyX4_ok nmX4 rfl (by decide +kernel) (by decide +kernel)) (
  zcons (zk_aload_n (pc := 5) (j := 0) rfl (by decide +kernel)) (
  zcons (zk_iload_n (pc := 6) (j := 1) rfl (by decide +kernel)) (
  zcons (zk_put (pc := 7) (ci := 4) (j := 2) rfl zinX4 (by decide) zw_241 tyX4 tyX4_ok nmX4 rfl (by decide +kernel) (by decide +kernel)) (
  zcons (zk_aload_n (pc := 10) (j := 0) rfl (by decide +kernel)) (
  zcons (zk_iload_n (pc := 11) (j := 2) rfl (by decide +kernel)) (
  zcons (zk_put (pc := 12) (ci := 4) (j := 3) rfl zinX4 (by decide) zw_243 tyX4 tyX4_ok nmX4 rfl (by decide +kernel) (by decide +kernel)) (
  zcons (zk_aload_n (pc := 15) (j := 0) rfl (by decide +kernel)) (
  zcons (zk_getr (pc := 16) (ci := 4) (j := 0) rfl zinX4 (by decide) zw_236 (by decide +kernel)) (
  zcons (zk_iconst (pc := 19) (z := 0) (by decide) (by decide +kernel)) (
  zcons (zk_csv (pc := 20) 237 rfl zw_302 zw_303 zds_J7_fill_53178 (by decide) zw_304 zw_10 (by decide +kernel)) (
  zcons (zk_retv (pc := 23) rfl (by decide +kernel)) (znil))))))))))))))
def tb_X4_reaches : List (Nat × ZP) := [(0, zo_il 1 1), (1, zo_iflt 30 4), (4, zo_il 2 5), (5, zo_iflt 30 8), (8, zo_il 1 9), (9, zo_al 0 10), (10, zo_get 4 3 13), (13, zo_icgt 30 16), (16, zo_il 2 17), (17, zo_al 0 18), (18, zo_get 4 3 21), (21, zo_il 1 22), (22, zo_bin (· - ·) 23), (23, zo_icgt 30 26), (26, zo_i 1 27), (27, zo_goto 31), (30, zo_i 0 31), (31, zo_retz)]
def cu_X4_reaches : List (Nat × List Bool) := []
set_option maxRecDepth 100000 in
set_option maxHeartbeats 4000000 in
theorem ok_X4_reaches : ∀ e ∈ tb_X4_reaches, ZOK zmt cX4_reaches RX4 3 e.1 e.2 :=
  zcons (zk_iload_n (pc := 0) (j := 1) rfl (by decide +kernel)) (
  zcons (zk_iflt (pc := 1) (off := 29) (by decide) (by decide +kernel)) (
  zcons (zk_iload_n (pc := 4) (j := 2) rfl (by decide +kernel)) (
  zcons (zk_iflt (pc := 5) (off := 25) (by decide) (by decide +kernel)) (
  zcons (zk_iload_n (pc := 8) (j := 1) rfl (by decide +kernel)) (
  zcons (zk_aload_n (pc := 9) (j := 0) rfl (by decide +kernel)) (
  zcons (zk_get (pc := 10) (ci := 4) (j := 3) rfl zinX4 (by decide) zw_243 (by decide +kernel)) (
  zcons (zk_icgt (pc := 13) (off := 17) (by decide) (by decide +kernel)) (
  zcons (zk_iload_n (pc := 16) (j := 2) rfl (by decide +kernel)) (
  zcons (zk_aload_n (pc := 17) (j := 0) rfl (by decide +kernel)) (
  zcons (zk_get (pc := 18) (ci := 4) (j := 3) rfl zinX4 (by decide) zw_243 (by decide +kernel)) (
  zcons (zk_iload_n (pc := 21) (j := 1) rfl (by decide +kernel)) (
  zcons (zk_isub (pc := 22) (by decide +kernel)) (
  zcons (zk_icgt (pc := 23) (off := 7) (by decide) (by decide +kernel)) (
  zcons (zk_iconst (pc := 26) (z := 1) (by decide) (by decide +kernel)) (
  zcons (zk_goto (pc := 27) (off := 4) (by decide) (by decide +kernel)) (
  zcons (zk_iconst (pc := 30) (z := 0) (by decide) (by decide +kernel)) (
  zcons (zk_retz (pc := 31) rfl (by decide +kernel)) (znil))))))))))))))))))
def tb_X4_put : List (Nat × ZP) := [(0, zo_al 0 1), (1, zo_get 4 2 4), (4, zo_ifne 18 7), (7, zo_al 0 8), (8, zo_getr 4 0 11), (11, zo_il 1 12), (12, zo_il 2 13), (13, zo_un (fun x => x.toInt8.toInt32) 14), (14, zo_iast 15), (15, zo_goto 44), (18, zo_al 0 19), (19, zo_get 4 2 22), (22, zo_i 1 23), (23, zo_icne 37 26), (26, zo_al 0 27), (27, zo_getr 4 0 30), (30, zo_il 1 31), (31, zo_il 2 32), (32, zo_un (fun x => x.toInt16.toInt32) 33), (33, zo_iast 34), (34, zo_goto 44), (37, zo_al 0 38), (38, zo_getr 4 0 41), (41, zo_il 1 42), (42, zo_il 2 43), (43, zo_iast 44), (44, zo_al 0 45), (45, zo_getr 4 0 48), (48, zo_il 1 49), (49, zo_iald 50), (50, zo_reti)]
def cu_X4_put : List (Nat × List Bool) := []
set_option maxRecDepth 100000 in
set_option maxHeartbeats 4000000 in
theorem ok_X4_put : ∀ e ∈ tb_X4_put, ZOK zmt cX4_put RX4 1 e.1 e.2 :=
  zcons (zk_aload_n (pc := 0) (j := 0) rfl (by decide +kernel)) (
  zcons (zk_get (pc := 1) (ci := 4) (j := 2) rfl zinX4 (by decide) zw_241 (by decide +kernel)) (
  zcons (zk_ifne (pc := 4) (off := 14) (by decide) (by decide +kernel)) (
  zcons (zk_aload_n (pc := 7) (j := 0) rfl (by decide +kernel)) (
  zcons (zk_getr (pc := 8) (ci := 4) (j := 0) rfl zinX4 (by decide) zw_236 (by decide +kernel)) (
  zcons (zk_iload_n (pc := 11) (j := 1) rfl (by decide +kernel)) (
  zcons (zk_iload_n (pc := 12) (j := 2) rfl (by decide +kernel)) (
  zcons (zk_i2b (pc := 13) (by decide +kernel)) (
  zcons (zk_iastore (pc := 14) (by decide +kernel)) (
  zcons (zk_goto (pc := 15) (off := 29) (by decide) (by decide +kernel)) (
  zcons (zk_aload_n (pc := 18) (j := 0) rfl (by decide +kernel)) (
  zcons (zk_get (pc := 19) (ci := 4) (j := 2) rfl zinX4 (by decide) zw_241 (by decide +kernel)) (
  zcons (zk_iconst (pc := 22) (z := 1) (by decide) (by decide +kernel)) (
  zcons (zk_icne (pc := 23) (off := 14) (by decide) (by decide +kernel)) (
  zcons (zk_aload_n (pc := 26) (j := 0) rfl (by decide +kernel)) (
  zcons (zk_getr (pc := 27) (ci := 4) (j := 0) rfl zinX4 (by decide) zw_236 (by decide +kernel)) (
  zcons (zk_iload_n (pc := 30) (j := 1) rfl (by decide +kernel)) (
  zcons (zk_iload_n (pc := 31) (j := 2) rfl (by decide +kernel)) (
  zcons (zk_i2s (pc := 32) (by decide +kernel)) (
  zcons (zk_iastore (pc := 33) (by decide +kernel)) (
  zcons (zk_goto (pc := 34) (off := 10) (by decide) (by decide +kernel)) (
  zcons (zk_aload_n (pc := 37) (j := 0) rfl (by decide +kernel)) (
  zcons (zk_getr (pc := 38) (ci := 4) (j := 0) rfl zinX4 (by decide) zw_236 (by decide +kernel)) (
  zcons (zk_iload_n (pc := 41) (j := 1) rfl (by decide +kernel)) (
  zcons (zk_iload_n (pc := 42) (j := 2) rfl (by decide +kernel)) (
  zcons (zk_iastore (pc := 43) (by decide +kernel)) (
  zcons (zk_aload_n (pc := 44) (j := 0) rfl (by decide +kernel)) (
  zcons (zk_getr (pc := 45) (ci := 4) (j := 0) rfl zinX4 (by decide) zw_236 (by decide +kernel)) (
  zcons (zk_iload_n (pc := 48) (j := 1) rfl (by decide +kernel)) (
  zcons (zk_iaload (pc := 49) (by decide +kernel)) (
  zcons (zk_reti (pc := 50) rfl (by decide +kernel)) (znil)))))))))))))))))))))))))))))))
end
