section
-- ===== PART A: goes FIRST, ahead of the names: the tables' words, and 'selects' of the private methods out of them =====
/-- a private method of a class that the tables say can be made, by its rows of tables_1 -/
def lw_okq (q : MethodName × Nat) : Prop := (q.1.cls ≠ "java/lang/invoke/MethodHandle" ∧ q.1.cls ≠ "java/lang/invoke/VarHandle") ∧ Cond.instantiable q.1.cls q.2 ∈ tables_1 ∧ Cond.privateMethod q.1 ∈ tables_1 ∧ Cond.instanceMethod q.1 ∈ tables_1
theorem lw_p0 : lw_okq (⟨"MarkRules$Marks", "leadingInto", "(I)I"⟩, 14) := ⟨⟨by decide +kernel, by decide +kernel⟩, List.mem_of_getElem? (i := 19) (by decide +kernel), List.mem_of_getElem? (i := 256) (by decide +kernel), List.mem_of_getElem? (i := 257) (by decide +kernel)⟩
theorem lw_p1 : lw_okq (⟨"MarkRules", "isValueOrNone", "(I)Z"⟩, 7) := ⟨⟨by decide +kernel, by decide +kernel⟩, List.mem_of_getElem? (i := 11) (by decide +kernel), List.mem_of_getElem? (i := 268) (by decide +kernel), List.mem_of_getElem? (i := 269) (by decide +kernel)⟩
theorem lw_p2 : lw_okq (⟨"MarkRules$Values", "areAllWhole", "(II)Z"⟩, 7) := ⟨⟨by decide +kernel, by decide +kernel⟩, List.mem_of_getElem? (i := 89) (by decide +kernel), List.mem_of_getElem? (i := 281) (by decide +kernel), List.mem_of_getElem? (i := 282) (by decide +kernel)⟩
theorem lw_p3 : lw_okq (⟨"MarkRules$Values", "hasAllElementsWhole", "(II)Z"⟩, 7) := ⟨⟨by decide +kernel, by decide +kernel⟩, List.mem_of_getElem? (i := 89) (by decide +kernel), List.mem_of_getElem? (i := 290) (by decide +kernel), List.mem_of_getElem? (i := 291) (by decide +kernel)⟩
theorem lw_p4 : lw_okq (⟨"MarkRules", "takeFor", "(II)I"⟩, 7) := ⟨⟨by decide +kernel, by decide +kernel⟩, List.mem_of_getElem? (i := 11) (by decide +kernel), List.mem_of_getElem? (i := 306) (by decide +kernel), List.mem_of_getElem? (i := 307) (by decide +kernel)⟩
theorem lw_p5 : lw_okq (⟨"MarkRules", "fail", "(I)I"⟩, 7) := ⟨⟨by decide +kernel, by decide +kernel⟩, List.mem_of_getElem? (i := 11) (by decide +kernel), List.mem_of_getElem? (i := 310) (by decide +kernel), List.mem_of_getElem? (i := 311) (by decide +kernel)⟩
theorem lw_p6 : lw_okq (⟨"MarkRules$Marks", "othersHaveDefaults", "(I)Z"⟩, 14) := ⟨⟨by decide +kernel, by decide +kernel⟩, List.mem_of_getElem? (i := 19) (by decide +kernel), List.mem_of_getElem? (i := 352) (by decide +kernel), List.mem_of_getElem? (i := 353) (by decide +kernel)⟩
theorem lw_p7 : lw_okq (⟨"MarkRules$Places", "isClass", "(I)Z"⟩, 3) := ⟨⟨by decide +kernel, by decide +kernel⟩, List.mem_of_getElem? (i := 126) (by decide +kernel), List.mem_of_getElem? (i := 364) (by decide +kernel), List.mem_of_getElem? (i := 365) (by decide +kernel)⟩
theorem lw_p8 : lw_okq (⟨"MarkRules$Places", "isMethod", "(I)Z"⟩, 3) := ⟨⟨by decide +kernel, by decide +kernel⟩, List.mem_of_getElem? (i := 126) (by decide +kernel), List.mem_of_getElem? (i := 376) (by decide +kernel), List.mem_of_getElem? (i := 377) (by decide +kernel)⟩
theorem lw_p9 : lw_okq (⟨"MarkRules", "isSimple", "(II)Z"⟩, 7) := ⟨⟨by decide +kernel, by decide +kernel⟩, List.mem_of_getElem? (i := 11) (by decide +kernel), List.mem_of_getElem? (i := 388) (by decide +kernel), List.mem_of_getElem? (i := 389) (by decide +kernel)⟩
theorem lw_p10 : lw_okq (⟨"MarkRules", "isDoneOrSame", "(II)Z"⟩, 7) := ⟨⟨by decide +kernel, by decide +kernel⟩, List.mem_of_getElem? (i := 11) (by decide +kernel), List.mem_of_getElem? (i := 403) (by decide +kernel), List.mem_of_getElem? (i := 404) (by decide +kernel)⟩
theorem lw_p11 : lw_okq (⟨"MarkRules", "brokenRule", "(II)I"⟩, 7) := ⟨⟨by decide +kernel, by decide +kernel⟩, List.mem_of_getElem? (i := 11) (by decide +kernel), List.mem_of_getElem? (i := 428) (by decide +kernel), List.mem_of_getElem? (i := 429) (by decide +kernel)⟩
theorem lw_p12 : lw_okq (⟨"MarkRules$Values", "haveEqualElements", "(III)Z"⟩, 7) := ⟨⟨by decide +kernel, by decide +kernel⟩, List.mem_of_getElem? (i := 89) (by decide +kernel), List.mem_of_getElem? (i := 478) (by decide +kernel), List.mem_of_getElem? (i := 479) (by decide +kernel)⟩
theorem lw_p13 : lw_okq (⟨"MarkRules$Values", "haveEqualParts", "(III)Z"⟩, 7) := ⟨⟨by decide +kernel, by decide +kernel⟩, List.mem_of_getElem? (i := 89) (by decide +kernel), List.mem_of_getElem? (i := 483) (by decide +kernel), List.mem_of_getElem? (i := 484) (by decide +kernel)⟩
theorem lw_p14 : lw_okq (⟨"MarkRules$Writer", "begin", "(Z)V"⟩, 7) := ⟨⟨by decide +kernel, by decide +kernel⟩, List.mem_of_getElem? (i := 163) (by decide +kernel), List.mem_of_getElem? (i := 495) (by decide +kernel), List.mem_of_getElem? (i := 496) (by decide +kernel)⟩
theorem lw_p15 : lw_okq (⟨"MarkRules$Writer", "writeValue", "(II)V"⟩, 7) := ⟨⟨by decide +kernel, by decide +kernel⟩, List.mem_of_getElem? (i := 163) (by decide +kernel), List.mem_of_getElem? (i := 499) (by decide +kernel), List.mem_of_getElem? (i := 500) (by decide +kernel)⟩
def lw_privs_1 : List (MethodName × Nat) := [(⟨"MarkRules$Marks", "leadingInto", "(I)I"⟩, 14), (⟨"MarkRules", "isValueOrNone", "(I)Z"⟩, 7), (⟨"MarkRules$Values", "areAllWhole", "(II)Z"⟩, 7), (⟨"MarkRules$Values", "hasAllElementsWhole", "(II)Z"⟩, 7), (⟨"MarkRules", "takeFor", "(II)I"⟩, 7), (⟨"MarkRules", "fail", "(I)I"⟩, 7), (⟨"MarkRules$Marks", "othersHaveDefaults", "(I)Z"⟩, 14), (⟨"MarkRules$Places", "isClass", "(I)Z"⟩, 3), (⟨"MarkRules$Places", "isMethod", "(I)Z"⟩, 3), (⟨"MarkRules", "isSimple", "(II)Z"⟩, 7), (⟨"MarkRules", "isDoneOrSame", "(II)Z"⟩, 7), (⟨"MarkRules", "brokenRule", "(II)I"⟩, 7), (⟨"MarkRules$Values", "haveEqualElements", "(III)Z"⟩, 7), (⟨"MarkRules$Values", "haveEqualParts", "(III)Z"⟩, 7), (⟨"MarkRules$Writer", "begin", "(Z)V"⟩, 7), (⟨"MarkRules$Writer", "writeValue", "(II)V"⟩, 7)]
theorem lw_r1 : ∀ q ∈ lw_privs_1, lw_okq q := List.forall_mem_cons.mpr ⟨lw_p0, List.forall_mem_cons.mpr ⟨lw_p1, List.forall_mem_cons.mpr ⟨lw_p2, List.forall_mem_cons.mpr ⟨lw_p3, List.forall_mem_cons.mpr ⟨lw_p4, List.forall_mem_cons.mpr ⟨lw_p5, List.forall_mem_cons.mpr ⟨lw_p6, List.forall_mem_cons.mpr ⟨lw_p7, List.forall_mem_cons.mpr ⟨lw_p8, List.forall_mem_cons.mpr ⟨lw_p9, List.forall_mem_cons.mpr ⟨lw_p10, List.forall_mem_cons.mpr ⟨lw_p11, List.forall_mem_cons.mpr ⟨lw_p12, List.forall_mem_cons.mpr ⟨lw_p13, List.forall_mem_cons.mpr ⟨lw_p14, List.forall_mem_cons.mpr ⟨lw_p15, fun _ h => absurd h List.not_mem_nil⟩⟩⟩⟩⟩⟩⟩⟩⟩⟩⟩⟩⟩⟩⟩⟩
theorem lw_p16 : lw_okq (⟨"MarkRules$Writer", "writeRow", "(II)V"⟩, 7) := ⟨⟨by decide +kernel, by decide +kernel⟩, List.mem_of_getElem? (i := 163) (by decide +kernel), List.mem_of_getElem? (i := 504) (by decide +kernel), List.mem_of_getElem? (i := 505) (by decide +kernel)⟩
theorem lw_p17 : lw_okq (⟨"MarkRules$Writer", "writeByte", "(I)V"⟩, 7) := ⟨⟨by decide +kernel, by decide +kernel⟩, List.mem_of_getElem? (i := 163) (by decide +kernel), List.mem_of_getElem? (i := 508) (by decide +kernel), List.mem_of_getElem? (i := 509) (by decide +kernel)⟩
theorem lw_p18 : lw_okq (⟨"MarkRules$Writer", "writeInstance", "(II)V"⟩, 7) := ⟨⟨by decide +kernel, by decide +kernel⟩, List.mem_of_getElem? (i := 163) (by decide +kernel), List.mem_of_getElem? (i := 513) (by decide +kernel), List.mem_of_getElem? (i := 514) (by decide +kernel)⟩
theorem lw_p19 : lw_okq (⟨"MarkRules$Writer", "writeDigits", "(I)V"⟩, 7) := ⟨⟨by decide +kernel, by decide +kernel⟩, List.mem_of_getElem? (i := 163) (by decide +kernel), List.mem_of_getElem? (i := 518) (by decide +kernel), List.mem_of_getElem? (i := 519) (by decide +kernel)⟩
theorem lw_p20 : lw_okq (⟨"MarkRules$Writer", "writeSimple", "(II)V"⟩, 7) := ⟨⟨by decide +kernel, by decide +kernel⟩, List.mem_of_getElem? (i := 163) (by decide +kernel), List.mem_of_getElem? (i := 527) (by decide +kernel), List.mem_of_getElem? (i := 528) (by decide +kernel)⟩
theorem lw_p21 : lw_okq (⟨"MarkRules", "foundAt", "(II)I"⟩, 7) := ⟨⟨by decide +kernel, by decide +kernel⟩, List.mem_of_getElem? (i := 11) (by decide +kernel), List.mem_of_getElem? (i := 539) (by decide +kernel), List.mem_of_getElem? (i := 540) (by decide +kernel)⟩
theorem lw_p22 : lw_okq (⟨"MarkRules", "ownAt", "(II)I"⟩, 7) := ⟨⟨by decide +kernel, by decide +kernel⟩, List.mem_of_getElem? (i := 11) (by decide +kernel), List.mem_of_getElem? (i := 543) (by decide +kernel), List.mem_of_getElem? (i := 544) (by decide +kernel)⟩
theorem lw_p23 : lw_okq (⟨"MarkRules", "gatheredAt", "(II)I"⟩, 7) := ⟨⟨by decide +kernel, by decide +kernel⟩, List.mem_of_getElem? (i := 11) (by decide +kernel), List.mem_of_getElem? (i := 547) (by decide +kernel), List.mem_of_getElem? (i := 548) (by decide +kernel)⟩
theorem lw_p24 : lw_okq (⟨"MarkRules", "inheritsFrom", "(II)I"⟩, 7) := ⟨⟨by decide +kernel, by decide +kernel⟩, List.mem_of_getElem? (i := 11) (by decide +kernel), List.mem_of_getElem? (i := 555) (by decide +kernel), List.mem_of_getElem? (i := 556) (by decide +kernel)⟩
theorem lw_p25 : lw_okq (⟨"MarkRules", "sourceOfAll", "(II)I"⟩, 7) := ⟨⟨by decide +kernel, by decide +kernel⟩, List.mem_of_getElem? (i := 11) (by decide +kernel), List.mem_of_getElem? (i := 567) (by decide +kernel), List.mem_of_getElem? (i := 568) (by decide +kernel)⟩
theorem lw_p26 : lw_okq (⟨"MarkRules", "howManyHere", "(II)I"⟩, 7) := ⟨⟨by decide +kernel, by decide +kernel⟩, List.mem_of_getElem? (i := 11) (by decide +kernel), List.mem_of_getElem? (i := 571) (by decide +kernel), List.mem_of_getElem? (i := 572) (by decide +kernel)⟩
theorem lw_p27 : lw_okq (⟨"MarkRules", "containerRowAt", "(II)I"⟩, 7) := ⟨⟨by decide +kernel, by decide +kernel⟩, List.mem_of_getElem? (i := 11) (by decide +kernel), List.mem_of_getElem? (i := 575) (by decide +kernel), List.mem_of_getElem? (i := 576) (by decide +kernel)⟩
theorem lw_p28 : lw_okq (⟨"MarkRules", "countOfMark", "(I)I"⟩, 7) := ⟨⟨by decide +kernel, by decide +kernel⟩, List.mem_of_getElem? (i := 11) (by decide +kernel), List.mem_of_getElem? (i := 595) (by decide +kernel), List.mem_of_getElem? (i := 596) (by decide +kernel)⟩
theorem lw_p29 : lw_okq (⟨"MarkRulesModel", "isMark", "(I)Z"⟩, 35) := ⟨⟨by decide +kernel, by decide +kernel⟩, List.mem_of_getElem? (i := 599) (by decide +kernel), List.mem_of_getElem? (i := 719) (by decide +kernel), List.mem_of_getElem? (i := 720) (by decide +kernel)⟩
theorem lw_p30 : lw_okq (⟨"MarkRulesModel", "isKind", "(I)Z"⟩, 35) := ⟨⟨by decide +kernel, by decide +kernel⟩, List.mem_of_getElem? (i := 599) (by decide +kernel), List.mem_of_getElem? (i := 723) (by decide +kernel), List.mem_of_getElem? (i := 724) (by decide +kernel)⟩
theorem lw_p31 : lw_okq (⟨"MarkRulesModel", "elementOf", "(II)I"⟩, 35) := ⟨⟨by decide +kernel, by decide +kernel⟩, List.mem_of_getElem? (i := 599) (by decide +kernel), List.mem_of_getElem? (i := 727) (by decide +kernel), List.mem_of_getElem? (i := 728) (by decide +kernel)⟩
def lw_privs_2 : List (MethodName × Nat) := [(⟨"MarkRules$Writer", "writeRow", "(II)V"⟩, 7), (⟨"MarkRules$Writer", "writeByte", "(I)V"⟩, 7), (⟨"MarkRules$Writer", "writeInstance", "(II)V"⟩, 7), (⟨"MarkRules$Writer", "writeDigits", "(I)V"⟩, 7), (⟨"MarkRules$Writer", "writeSimple", "(II)V"⟩, 7), (⟨"MarkRules", "foundAt", "(II)I"⟩, 7), (⟨"MarkRules", "ownAt", "(II)I"⟩, 7), (⟨"MarkRules", "gatheredAt", "(II)I"⟩, 7), (⟨"MarkRules", "inheritsFrom", "(II)I"⟩, 7), (⟨"MarkRules", "sourceOfAll", "(II)I"⟩, 7), (⟨"MarkRules", "howManyHere", "(II)I"⟩, 7), (⟨"MarkRules", "containerRowAt", "(II)I"⟩, 7), (⟨"MarkRules", "countOfMark", "(I)I"⟩, 7), (⟨"MarkRulesModel", "isMark", "(I)Z"⟩, 35), (⟨"MarkRulesModel", "isKind", "(I)Z"⟩, 35), (⟨"MarkRulesModel", "elementOf", "(II)I"⟩, 35)]
theorem lw_r2 : ∀ q ∈ lw_privs_2, lw_okq q := List.forall_mem_cons.mpr ⟨lw_p16, List.forall_mem_cons.mpr ⟨lw_p17, List.forall_mem_cons.mpr ⟨lw_p18, List.forall_mem_cons.mpr ⟨lw_p19, List.forall_mem_cons.mpr ⟨lw_p20, List.forall_mem_cons.mpr ⟨lw_p21, List.forall_mem_cons.mpr ⟨lw_p22, List.forall_mem_cons.mpr ⟨lw_p23, List.forall_mem_cons.mpr ⟨lw_p24, List.forall_mem_cons.mpr ⟨lw_p25, List.forall_mem_cons.mpr ⟨lw_p26, List.forall_mem_cons.mpr ⟨lw_p27, List.forall_mem_cons.mpr ⟨lw_p28, List.forall_mem_cons.mpr ⟨lw_p29, List.forall_mem_cons.mpr ⟨lw_p30, List.forall_mem_cons.mpr ⟨lw_p31, fun _ h => absurd h List.not_mem_nil⟩⟩⟩⟩⟩⟩⟩⟩⟩⟩⟩⟩⟩⟩⟩⟩
theorem lw_p32 : lw_okq (⟨"MarkRulesModel", "isFixed", "(I)Z"⟩, 35) := ⟨⟨by decide +kernel, by decide +kernel⟩, List.mem_of_getElem? (i := 599) (by decide +kernel), List.mem_of_getElem? (i := 731) (by decide +kernel), List.mem_of_getElem? (i := 732) (by decide +kernel)⟩
theorem lw_p33 : lw_okq (⟨"MarkRulesModel", "mayLead", "(II)Z"⟩, 35) := ⟨⟨by decide +kernel, by decide +kernel⟩, List.mem_of_getElem? (i := 599) (by decide +kernel), List.mem_of_getElem? (i := 735) (by decide +kernel), List.mem_of_getElem? (i := 736) (by decide +kernel)⟩
theorem lw_p34 : lw_okq (⟨"MarkRulesModel", "isContainer", "(II)Z"⟩, 35) := ⟨⟨by decide +kernel, by decide +kernel⟩, List.mem_of_getElem? (i := 599) (by decide +kernel), List.mem_of_getElem? (i := 743) (by decide +kernel), List.mem_of_getElem? (i := 744) (by decide +kernel)⟩
theorem lw_p35 : lw_okq (⟨"MarkRulesModel", "isAmong", "(III)Z"⟩, 35) := ⟨⟨by decide +kernel, by decide +kernel⟩, List.mem_of_getElem? (i := 599) (by decide +kernel), List.mem_of_getElem? (i := 751) (by decide +kernel), List.mem_of_getElem? (i := 752) (by decide +kernel)⟩
theorem lw_p36 : lw_okq (⟨"MarkRulesModel", "isPlace", "(I)Z"⟩, 35) := ⟨⟨by decide +kernel, by decide +kernel⟩, List.mem_of_getElem? (i := 599) (by decide +kernel), List.mem_of_getElem? (i := 755) (by decide +kernel), List.mem_of_getElem? (i := 756) (by decide +kernel)⟩
theorem lw_p37 : lw_okq (⟨"MarkRulesModel", "isType", "(I)Z"⟩, 35) := ⟨⟨by decide +kernel, by decide +kernel⟩, List.mem_of_getElem? (i := 599) (by decide +kernel), List.mem_of_getElem? (i := 759) (by decide +kernel), List.mem_of_getElem? (i := 760) (by decide +kernel)⟩
theorem lw_p38 : lw_okq (⟨"MarkRulesModel", "added", "(III)I"⟩, 35) := ⟨⟨by decide +kernel, by decide +kernel⟩, List.mem_of_getElem? (i := 599) (by decide +kernel), List.mem_of_getElem? (i := 767) (by decide +kernel), List.mem_of_getElem? (i := 768) (by decide +kernel)⟩
theorem lw_p39 : lw_okq (⟨"MarkRulesModel", "isSort", "(II)Z"⟩, 35) := ⟨⟨by decide +kernel, by decide +kernel⟩, List.mem_of_getElem? (i := 599) (by decide +kernel), List.mem_of_getElem? (i := 783) (by decide +kernel), List.mem_of_getElem? (i := 784) (by decide +kernel)⟩
theorem lw_p40 : lw_okq (⟨"MarkRulesModel", "isValue", "(I)Z"⟩, 35) := ⟨⟨by decide +kernel, by decide +kernel⟩, List.mem_of_getElem? (i := 599) (by decide +kernel), List.mem_of_getElem? (i := 787) (by decide +kernel), List.mem_of_getElem? (i := 788) (by decide +kernel)⟩
theorem lw_p41 : lw_okq (⟨"MarkRulesModel", "failed", "(I)I"⟩, 35) := ⟨⟨by decide +kernel, by decide +kernel⟩, List.mem_of_getElem? (i := 599) (by decide +kernel), List.mem_of_getElem? (i := 791) (by decide +kernel), List.mem_of_getElem? (i := 792) (by decide +kernel)⟩
theorem lw_p42 : lw_okq (⟨"MarkRulesModel", "isOfKind", "(II)Z"⟩, 35) := ⟨⟨by decide +kernel, by decide +kernel⟩, List.mem_of_getElem? (i := 599) (by decide +kernel), List.mem_of_getElem? (i := 795) (by decide +kernel), List.mem_of_getElem? (i := 796) (by decide +kernel)⟩
theorem lw_p43 : lw_okq (⟨"MarkRulesModel", "done", "(I)V"⟩, 35) := ⟨⟨by decide +kernel, by decide +kernel⟩, List.mem_of_getElem? (i := 599) (by decide +kernel), List.mem_of_getElem? (i := 799) (by decide +kernel), List.mem_of_getElem? (i := 800) (by decide +kernel)⟩
theorem lw_p44 : lw_okq (⟨"MarkRulesModel", "good", "(I)I"⟩, 35) := ⟨⟨by decide +kernel, by decide +kernel⟩, List.mem_of_getElem? (i := 599) (by decide +kernel), List.mem_of_getElem? (i := 803) (by decide +kernel), List.mem_of_getElem? (i := 804) (by decide +kernel)⟩
theorem lw_p45 : lw_okq (⟨"MarkRulesModel", "isWhole", "(I)Z"⟩, 35) := ⟨⟨by decide +kernel, by decide +kernel⟩, List.mem_of_getElem? (i := 599) (by decide +kernel), List.mem_of_getElem? (i := 811) (by decide +kernel), List.mem_of_getElem? (i := 812) (by decide +kernel)⟩
theorem lw_p46 : lw_okq (⟨"MarkRulesModel", "pile", "(II)V"⟩, 35) := ⟨⟨by decide +kernel, by decide +kernel⟩, List.mem_of_getElem? (i := 599) (by decide +kernel), List.mem_of_getElem? (i := 815) (by decide +kernel), List.mem_of_getElem? (i := 816) (by decide +kernel)⟩
theorem lw_p47 : lw_okq (⟨"MarkRulesModel", "within", "(I)I"⟩, 35) := ⟨⟨by decide +kernel, by decide +kernel⟩, List.mem_of_getElem? (i := 599) (by decide +kernel), List.mem_of_getElem? (i := 819) (by decide +kernel), List.mem_of_getElem? (i := 820) (by decide +kernel)⟩
def lw_privs_3 : List (MethodName × Nat) := [(⟨"MarkRulesModel", "isFixed", "(I)Z"⟩, 35), (⟨"MarkRulesModel", "mayLead", "(II)Z"⟩, 35), (⟨"MarkRulesModel", "isContainer", "(II)Z"⟩, 35), (⟨"MarkRulesModel", "isAmong", "(III)Z"⟩, 35), (⟨"MarkRulesModel", "isPlace", "(I)Z"⟩, 35), (⟨"MarkRulesModel", "isType", "(I)Z"⟩, 35), (⟨"MarkRulesModel", "added", "(III)I"⟩, 35), (⟨"MarkRulesModel", "isSort", "(II)Z"⟩, 35), (⟨"MarkRulesModel", "isValue", "(I)Z"⟩, 35), (⟨"MarkRulesModel", "failed", "(I)I"⟩, 35), (⟨"MarkRulesModel", "isOfKind", "(II)Z"⟩, 35), (⟨"MarkRulesModel", "done", "(I)V"⟩, 35), (⟨"MarkRulesModel", "good", "(I)I"⟩, 35), (⟨"MarkRulesModel", "isWhole", "(I)Z"⟩, 35), (⟨"MarkRulesModel", "pile", "(II)V"⟩, 35), (⟨"MarkRulesModel", "within", "(I)I"⟩, 35)]
theorem lw_r3 : ∀ q ∈ lw_privs_3, lw_okq q := List.forall_mem_cons.mpr ⟨lw_p32, List.forall_mem_cons.mpr ⟨lw_p33, List.forall_mem_cons.mpr ⟨lw_p34, List.forall_mem_cons.mpr ⟨lw_p35, List.forall_mem_cons.mpr ⟨lw_p36, List.forall_mem_cons.mpr ⟨lw_p37, List.forall_mem_cons.mpr ⟨lw_p38, List.forall_mem_cons.mpr ⟨lw_p39, List.forall_mem_cons.mpr ⟨lw_p40, List.forall_mem_cons.mpr ⟨lw_p41, List.forall_mem_cons.mpr ⟨lw_p42, List.forall_mem_cons.mpr ⟨lw_p43, List.forall_mem_cons.mpr ⟨lw_p44, List.forall_mem_cons.mpr ⟨lw_p45, List.forall_mem_cons.mpr ⟨lw_p46, List.forall_mem_cons.mpr ⟨lw_p47, fun _ h => absurd h List.not_mem_nil⟩⟩⟩⟩⟩⟩⟩⟩⟩⟩⟩⟩⟩⟩⟩⟩
theorem lw_p48 : lw_okq (⟨"MarkRulesModel", "inner", "(II)I"⟩, 35) := ⟨⟨by decide +kernel, by decide +kernel⟩, List.mem_of_getElem? (i := 599) (by decide +kernel), List.mem_of_getElem? (i := 823) (by decide +kernel), List.mem_of_getElem? (i := 824) (by decide +kernel)⟩
theorem lw_p49 : lw_okq (⟨"MarkRulesModel", "given", "(II)I"⟩, 35) := ⟨⟨by decide +kernel, by decide +kernel⟩, List.mem_of_getElem? (i := 599) (by decide +kernel), List.mem_of_getElem? (i := 827) (by decide +kernel), List.mem_of_getElem? (i := 828) (by decide +kernel)⟩
theorem lw_p50 : lw_okq (⟨"MarkRulesModel", "areEqual", "(II)Z"⟩, 35) := ⟨⟨by decide +kernel, by decide +kernel⟩, List.mem_of_getElem? (i := 599) (by decide +kernel), List.mem_of_getElem? (i := 839) (by decide +kernel), List.mem_of_getElem? (i := 840) (by decide +kernel)⟩
theorem lw_p51 : lw_okq (⟨"MarkRulesModel", "isLike", "(II)Z"⟩, 35) := ⟨⟨by decide +kernel, by decide +kernel⟩, List.mem_of_getElem? (i := 599) (by decide +kernel), List.mem_of_getElem? (i := 843) (by decide +kernel), List.mem_of_getElem? (i := 844) (by decide +kernel)⟩
theorem lw_p52 : lw_okq (⟨"MarkRulesModel", "begin", "(I)V"⟩, 35) := ⟨⟨by decide +kernel, by decide +kernel⟩, List.mem_of_getElem? (i := 599) (by decide +kernel), List.mem_of_getElem? (i := 859) (by decide +kernel), List.mem_of_getElem? (i := 860) (by decide +kernel)⟩
theorem lw_p53 : lw_okq (⟨"MarkRulesModel", "write", "(I)V"⟩, 35) := ⟨⟨by decide +kernel, by decide +kernel⟩, List.mem_of_getElem? (i := 599) (by decide +kernel), List.mem_of_getElem? (i := 863) (by decide +kernel), List.mem_of_getElem? (i := 864) (by decide +kernel)⟩
theorem lw_p54 : lw_okq (⟨"MarkRulesModel", "writeNumber", "(I)V"⟩, 35) := ⟨⟨by decide +kernel, by decide +kernel⟩, List.mem_of_getElem? (i := 599) (by decide +kernel), List.mem_of_getElem? (i := 867) (by decide +kernel), List.mem_of_getElem? (i := 868) (by decide +kernel)⟩
theorem lw_p55 : lw_okq (⟨"MarkRulesModel", "isBehind", "(II)Z"⟩, 35) := ⟨⟨by decide +kernel, by decide +kernel⟩, List.mem_of_getElem? (i := 599) (by decide +kernel), List.mem_of_getElem? (i := 872) (by decide +kernel), List.mem_of_getElem? (i := 873) (by decide +kernel)⟩
theorem lw_p56 : lw_okq (⟨"MarkRulesModel", "standing", "(II)I"⟩, 35) := ⟨⟨by decide +kernel, by decide +kernel⟩, List.mem_of_getElem? (i := 599) (by decide +kernel), List.mem_of_getElem? (i := 884) (by decide +kernel), List.mem_of_getElem? (i := 885) (by decide +kernel)⟩
theorem lw_p57 : lw_okq (⟨"MarkRulesModel", "mayStand", "(II)Z"⟩, 35) := ⟨⟨by decide +kernel, by decide +kernel⟩, List.mem_of_getElem? (i := 599) (by decide +kernel), List.mem_of_getElem? (i := 888) (by decide +kernel), List.mem_of_getElem? (i := 889) (by decide +kernel)⟩
theorem lw_p58 : lw_okq (⟨"MarkRulesModel", "own", "(II)I"⟩, 35) := ⟨⟨by decide +kernel, by decide +kernel⟩, List.mem_of_getElem? (i := 599) (by decide +kernel), List.mem_of_getElem? (i := 896) (by decide +kernel), List.mem_of_getElem? (i := 897) (by decide +kernel)⟩
theorem lw_p59 : lw_okq (⟨"MarkRulesModel", "stander", "(III)I"⟩, 35) := ⟨⟨by decide +kernel, by decide +kernel⟩, List.mem_of_getElem? (i := 599) (by decide +kernel), List.mem_of_getElem? (i := 900) (by decide +kernel), List.mem_of_getElem? (i := 901) (by decide +kernel)⟩
theorem lw_p60 : lw_okq (⟨"MarkRulesModel", "goesUp", "(II)Z"⟩, 35) := ⟨⟨by decide +kernel, by decide +kernel⟩, List.mem_of_getElem? (i := 599) (by decide +kernel), List.mem_of_getElem? (i := 904) (by decide +kernel), List.mem_of_getElem? (i := 905) (by decide +kernel)⟩
theorem lw_p61 : lw_okq (⟨"MarkRulesModel", "whereAll", "(II)I"⟩, 35) := ⟨⟨by decide +kernel, by decide +kernel⟩, List.mem_of_getElem? (i := 599) (by decide +kernel), List.mem_of_getElem? (i := 912) (by decide +kernel), List.mem_of_getElem? (i := 913) (by decide +kernel)⟩
theorem lw_p62 : lw_okq (⟨"MarkRulesModel", "allAt", "(II)I"⟩, 35) := ⟨⟨by decide +kernel, by decide +kernel⟩, List.mem_of_getElem? (i := 599) (by decide +kernel), List.mem_of_getElem? (i := 916) (by decide +kernel), List.mem_of_getElem? (i := 917) (by decide +kernel)⟩
theorem lw_p63 : lw_okq (⟨"MarkRulesModel", "rowAt", "(II)I"⟩, 35) := ⟨⟨by decide +kernel, by decide +kernel⟩, List.mem_of_getElem? (i := 599) (by decide +kernel), List.mem_of_getElem? (i := 920) (by decide +kernel), List.mem_of_getElem? (i := 921) (by decide +kernel)⟩
def lw_privs_4 : List (MethodName × Nat) := [(⟨"MarkRulesModel", "inner", "(II)I"⟩, 35), (⟨"MarkRulesModel", "given", "(II)I"⟩, 35), (⟨"MarkRulesModel", "areEqual", "(II)Z"⟩, 35), (⟨"MarkRulesModel", "isLike", "(II)Z"⟩, 35), (⟨"MarkRulesModel", "begin", "(I)V"⟩, 35), (⟨"MarkRulesModel", "write", "(I)V"⟩, 35), (⟨"MarkRulesModel", "writeNumber", "(I)V"⟩, 35), (⟨"MarkRulesModel", "isBehind", "(II)Z"⟩, 35), (⟨"MarkRulesModel", "standing", "(II)I"⟩, 35), (⟨"MarkRulesModel", "mayStand", "(II)Z"⟩, 35), (⟨"MarkRulesModel", "own", "(II)I"⟩, 35), (⟨"MarkRulesModel", "stander", "(III)I"⟩, 35), (⟨"MarkRulesModel", "goesUp", "(II)Z"⟩, 35), (⟨"MarkRulesModel", "whereAll", "(II)I"⟩, 35), (⟨"MarkRulesModel", "allAt", "(II)I"⟩, 35), (⟨"MarkRulesModel", "rowAt", "(II)I"⟩, 35)]
theorem lw_r4 : ∀ q ∈ lw_privs_4, lw_okq q := List.forall_mem_cons.mpr ⟨lw_p48, List.forall_mem_cons.mpr ⟨lw_p49, List.forall_mem_cons.mpr ⟨lw_p50, List.forall_mem_cons.mpr ⟨lw_p51, List.forall_mem_cons.mpr ⟨lw_p52, List.forall_mem_cons.mpr ⟨lw_p53, List.forall_mem_cons.mpr ⟨lw_p54, List.forall_mem_cons.mpr ⟨lw_p55, List.forall_mem_cons.mpr ⟨lw_p56, List.forall_mem_cons.mpr ⟨lw_p57, List.forall_mem_cons.mpr ⟨lw_p58, List.forall_mem_cons.mpr ⟨lw_p59, List.forall_mem_cons.mpr ⟨lw_p60, List.forall_mem_cons.mpr ⟨lw_p61, List.forall_mem_cons.mpr ⟨lw_p62, List.forall_mem_cons.mpr ⟨lw_p63, fun _ h => absurd h List.not_mem_nil⟩⟩⟩⟩⟩⟩⟩⟩⟩⟩⟩⟩⟩⟩⟩⟩
def lw_privs : List (MethodName × Nat) := lw_privs_1 ++ (lw_privs_2 ++ (lw_privs_3 ++ (lw_privs_4)))
def lw_tbl : List Cond := k2_sels lw_privs ++ tables_1
theorem lw_privs_ok : ∀ q ∈ lw_privs, lw_okq q := by
  show ∀ q ∈ lw_privs_1 ++ (lw_privs_2 ++ (lw_privs_3 ++ (lw_privs_4))), lw_okq q
  exact List.forall_mem_append.mpr ⟨lw_r1, List.forall_mem_append.mpr ⟨lw_r2, List.forall_mem_append.mpr ⟨lw_r3, lw_r4⟩⟩⟩
end
section
/-! ===== BEGIN words of one list among another's, by their places ===== -/
theorem goodIn_r {big : List Cond} (ws : List Cond) (ps : List Nat) (hp : ws = ps.filterMap (fun i => big[i]?)) (h : ws.all goodWord = true) : GoodIn big ws := by
  intro w hw
  have h1 := List.all_eq_true.mp h w hw
  rw [hp] at hw
  obtain ⟨i, -, hi⟩ := List.mem_filterMap.mp hw
  have hm : w ∈ big := by first | exact List.mem_of_getElem? hi | exact List.getElem?_mem hi
  exact ⟨hm, good_of_word h1⟩
theorem goodIn_app {big a b : List Cond} (ha : GoodIn big a) (hb : GoodIn big b) : GoodIn big (a ++ b) := fun w h => (List.mem_append.mp h).elim (ha w) (hb w)
theorem goodIn_ca {big a b : List Cond} {c : Cond} (ha : GoodIn big (c :: a)) (hb : GoodIn big b) : GoodIn big (c :: (a ++ b)) := fun w h => (List.mem_cons.mp h).elim (fun e => ha w (List.mem_cons.mpr (Or.inl e))) (fun h => (List.mem_append.mp h).elim (fun h => ha w (List.mem_cons.mpr (Or.inr h))) (hb w))
theorem goodIn_sub {big ws : List Cond} (hm : ∀ w ∈ ws, w ∈ big) (h : ws.all goodWord = true) : GoodIn big ws := fun w hw => ⟨hm w hw, good_of_word (List.all_eq_true.mp h w hw)⟩
/-! ===== END ===== -/

/-! ===== BEGIN printed: names, fields, word lists, decode rows ===== -/
def RX0 : String := "MarkRules$Marks"
def TX0 : u_T := fun k => match k with
  | 0 => ("MarkRules$Marks", "size", "I", false)
  | 1 => ("MarkRules$Marks", "targets", "[I", true)
  | 2 => ("MarkRules$Marks", "keeps", "[I", true)
  | 3 => ("MarkRules$Marks", "inherited", "[Z", true)
  | 4 => ("MarkRules$Marks", "sizes", "[I", true)
  | 5 => ("MarkRules$Marks", "leads", "[I", true)
  | 6 => ("MarkRules$Marks", "containers", "[I", true)
  | 7 => ("MarkRules$Marks", "contents", "[I", true)
  | 8 => ("MarkRules$Marks", "everMade", "[Z", true)
  | 9 => ("MarkRules$Marks", "everPut", "[Z", true)
  | 10 => ("MarkRules$Marks", "names", "[I", true)
  | 11 => ("MarkRules$Marks", "kinds", "[I", true)
  | 12 => ("MarkRules$Marks", "rows", "[Z", true)
  | _ => ("MarkRules$Marks", "defaults", "[I", true)
def tyX0 : Nat → FieldType := fun k => match k with
  | 0 => .int
  | 1 => .array .int
  | 2 => .array .int
  | 3 => .array .boolean
  | 4 => .array .int
  | 5 => .array .int
  | 6 => .array .int
  | 7 => .array .int
  | 8 => .array .boolean
  | 9 => .array .boolean
  | 10 => .array .int
  | 11 => .array .int
  | 12 => .array .boolean
  | _ => .array .int
abbrev wsX00 : List Cond := u_ws RX0 TX0 14
theorem nmX0 : ∀ a, a < 14 → ∀ b, b < 14 → a ≠ b → (TX0 a).2.1 ≠ (TX0 b).2.1 := by decide +kernel
theorem tyX0_ok : ∀ k, k < 14 → parseFieldDescriptor (TX0 k).2.2.1 = some (tyX0 k) := by decide +kernel
abbrev cX0_init : ByteArray := prog_2_method_1_code
def yX0_init : MethodName := ⟨RX0, "<init>", "()V"⟩
abbrev cX0_has : ByteArray := prog_2_method_2_code
def yX0_has : MethodName := ⟨RX0, "has", "(I)Z"⟩
abbrev cX0_hasKind : ByteArray := prog_2_method_3_code
def yX0_hasKind : MethodName := ⟨RX0, "hasKind", "(I)Z"⟩
abbrev cX0_add : ByteArray := prog_2_method_4_code
def yX0_add : MethodName := ⟨RX0, "add", "(IIZ)I"⟩
abbrev cX0_addElement : ByteArray := prog_2_method_5_code
def yX0_addElement : MethodName := ⟨RX0, "addElement", "(IIIZ)I"⟩
abbrev cX0_positionOf : ByteArray := prog_2_method_6_code
def yX0_positionOf : MethodName := ⟨RX0, "positionOf", "(II)I"⟩
abbrev cX0_slotOf : ByteArray := prog_2_method_7_code
def yX0_slotOf : MethodName := ⟨RX0, "slotOf", "(II)I"⟩
abbrev cX0_isFixed : ByteArray := prog_2_method_8_code
def yX0_isFixed : MethodName := ⟨RX0, "isFixed", "(I)Z"⟩
abbrev cX0_leadOf : ByteArray := prog_2_method_9_code
def yX0_leadOf : MethodName := ⟨RX0, "leadOf", "(I)I"⟩
abbrev cX0_wouldLeadTooFar : ByteArray := prog_2_method_10_code
def yX0_wouldLeadTooFar : MethodName := ⟨RX0, "wouldLeadTooFar", "(II)Z"⟩
abbrev cX0_leadingInto : ByteArray := prog_2_method_11_code
def yX0_leadingInto : MethodName := ⟨RX0, "leadingInto", "(I)I"⟩
abbrev cX0_canContain : ByteArray := prog_2_method_12_code
def yX0_canContain : MethodName := ⟨RX0, "canContain", "(II)Z"⟩
abbrev cX0_othersHaveDefaults : ByteArray := prog_2_method_13_code
def yX0_othersHaveDefaults : MethodName := ⟨RX0, "othersHaveDefaults", "(I)Z"⟩
def RX1 : String := "MarkRules$Places"
def TX1 : u_T := fun k => match k with
  | 0 => ("MarkRules$Places", "size", "I", false)
  | 1 => ("MarkRules$Places", "kinds", "[I", true)
  | _ => ("MarkRules$Places", "owners", "[I", true)
def tyX1 : Nat → FieldType := fun k => match k with
  | 0 => .int
  | 1 => .array .int
  | _ => .array .int
abbrev wsX10 : List Cond := u_ws RX1 TX1 3
theorem nmX1 : ∀ a, a < 3 → ∀ b, b < 3 → a ≠ b → (TX1 a).2.1 ≠ (TX1 b).2.1 := by decide +kernel
theorem tyX1_ok : ∀ k, k < 3 → parseFieldDescriptor (TX1 k).2.2.1 = some (tyX1 k) := by decide +kernel
abbrev cX1_init : ByteArray := prog_3_method_1_code
def yX1_init : MethodName := ⟨RX1, "<init>", "()V"⟩
abbrev cX1_has : ByteArray := prog_3_method_2_code
def yX1_has : MethodName := ⟨RX1, "has", "(I)Z"⟩
abbrev cX1_isType : ByteArray := prog_3_method_3_code
def yX1_isType : MethodName := ⟨RX1, "isType", "(I)Z"⟩
abbrev cX1_isClass : ByteArray := prog_3_method_4_code
def yX1_isClass : MethodName := ⟨RX1, "isClass", "(I)Z"⟩
abbrev cX1_isMethod : ByteArray := prog_3_method_5_code
def yX1_isMethod : MethodName := ⟨RX1, "isMethod", "(I)Z"⟩
abbrev cX1_fits : ByteArray := prog_3_method_6_code
def yX1_fits : MethodName := ⟨RX1, "fits", "(II)Z"⟩
abbrev cX1_add : ByteArray := prog_3_method_7_code
def yX1_add : MethodName := ⟨RX1, "add", "(II)I"⟩
abbrev cX1_parentOf : ByteArray := prog_3_method_8_code
def yX1_parentOf : MethodName := ⟨RX1, "parentOf", "(I)I"⟩
abbrev cX1_fittingTargets : ByteArray := prog_3_method_9_code
def yX1_fittingTargets : MethodName := ⟨RX1, "fittingTargets", "(I)I"⟩
def RX2 : String := "MarkRules$Standing"
def TX2 : u_T := fun k => match k with
  | 0 => ("MarkRules$Standing", "size", "I", false)
  | 1 => ("MarkRules$Standing", "spots", "[I", true)
  | 2 => ("MarkRules$Standing", "kinds", "[I", true)
  | _ => ("MarkRules$Standing", "instances", "[I", true)
def tyX2 : Nat → FieldType := fun k => match k with
  | 0 => .int
  | 1 => .array .int
  | 2 => .array .int
  | _ => .array .int
abbrev wsX20 : List Cond := u_ws RX2 TX2 4
theorem nmX2 : ∀ a, a < 4 → ∀ b, b < 4 → a ≠ b → (TX2 a).2.1 ≠ (TX2 b).2.1 := by decide +kernel
theorem tyX2_ok : ∀ k, k < 4 → parseFieldDescriptor (TX2 k).2.2.1 = some (tyX2 k) := by decide +kernel
abbrev cX2_init : ByteArray := prog_4_method_1_code
def yX2_init : MethodName := ⟨RX2, "<init>", "()V"⟩
abbrev cX2_add : ByteArray := prog_4_method_2_code
def yX2_add : MethodName := ⟨RX2, "add", "(III)V"⟩
abbrev cX2_howManyAt : ByteArray := prog_4_method_3_code
def yX2_howManyAt : MethodName := ⟨RX2, "howManyAt", "(I)I"⟩
abbrev cX2_howMany : ByteArray := prog_4_method_4_code
def yX2_howMany : MethodName := ⟨RX2, "howMany", "(II)I"⟩
abbrev cX2_nth : ByteArray := prog_4_method_5_code
def yX2_nth : MethodName := ⟨RX2, "nth", "(III)I"⟩
def RX3 : String := "MarkRules$Values"
def TX3 : u_T := fun k => match k with
  | 0 => ("MarkRules$Values", "marks", "LMarkRules$Marks;", true)
  | 1 => ("MarkRules$Values", "size", "I", false)
  | 2 => ("MarkRules$Values", "sorts", "[I", true)
  | 3 => ("MarkRules$Values", "kinds", "[I", true)
  | 4 => ("MarkRules$Values", "numbers", "[I", true)
  | 5 => ("MarkRules$Values", "dones", "[Z", true)
  | _ => ("MarkRules$Values", "parts", "[I", true)
def tyX3 : Nat → FieldType := fun k => match k with
  | 0 => .object "MarkRules$Marks"
  | 1 => .int
  | 2 => .array .int
  | 3 => .array .int
  | 4 => .array .int
  | 5 => .array .boolean
  | _ => .array .int
abbrev wsX30 : List Cond := u_ws RX3 TX3 7
theorem nmX3 : ∀ a, a < 7 → ∀ b, b < 7 → a ≠ b → (TX3 a).2.1 ≠ (TX3 b).2.1 := by decide +kernel
theorem tyX3_ok : ∀ k, k < 7 → parseFieldDescriptor (TX3 k).2.2.1 = some (tyX3 k) := by decide +kernel
abbrev cX3_init : ByteArray := prog_5_method_1_code
def yX3_init : MethodName := ⟨RX3, "<init>", "(LMarkRules$Marks;)V"⟩
abbrev cX3_has : ByteArray := prog_5_method_2_code
def yX3_has : MethodName := ⟨RX3, "has", "(I)Z"⟩
abbrev cX3_isSort : ByteArray := prog_5_method_3_code
def yX3_isSort : MethodName := ⟨RX3, "isSort", "(II)Z"⟩
abbrev cX3_isOfKind : ByteArray := prog_5_method_4_code
def yX3_isOfKind : MethodName := ⟨RX3, "isOfKind", "(II)Z"⟩
abbrev cX3_isRowOf : ByteArray := prog_5_method_5_code
def yX3_isRowOf : MethodName := ⟨RX3, "isRowOf", "(II)Z"⟩
abbrev cX3_markOf : ByteArray := prog_5_method_6_code
def yX3_markOf : MethodName := ⟨RX3, "markOf", "(I)I"⟩
abbrev cX3_add : ByteArray := prog_5_method_7_code
def yX3_add : MethodName := ⟨RX3, "add", "(III)I"⟩
abbrev cX3_addRowOfOne : ByteArray := prog_5_method_8_code
def yX3_addRowOfOne : MethodName := ⟨RX3, "addRowOfOne", "(II)I"⟩
abbrev cX3_append : ByteArray := prog_5_method_9_code
def yX3_append : MethodName := ⟨RX3, "append", "(II)I"⟩
abbrev cX3_setElement : ByteArray := prog_5_method_10_code
def yX3_setElement : MethodName := ⟨RX3, "setElement", "(III)V"⟩
abbrev cX3_finish : ByteArray := prog_5_method_11_code
def yX3_finish : MethodName := ⟨RX3, "finish", "(I)V"⟩
abbrev cX3_partAt : ByteArray := prog_5_method_12_code
def yX3_partAt : MethodName := ⟨RX3, "partAt", "(II)I"⟩
abbrev cX3_inRow : ByteArray := prog_5_method_13_code
def yX3_inRow : MethodName := ⟨RX3, "inRow", "(II)I"⟩
abbrev cX3_elementAt : ByteArray := prog_5_method_14_code
def yX3_elementAt : MethodName := ⟨RX3, "elementAt", "(II)I"⟩
abbrev cX3_elementByName : ByteArray := prog_5_method_15_code
def yX3_elementByName : MethodName := ⟨RX3, "elementByName", "(II)I"⟩
abbrev cX3_howManyElements : ByteArray := prog_5_method_16_code
def yX3_howManyElements : MethodName := ⟨RX3, "howManyElements", "(I)I"⟩
abbrev cX3_isWhole : ByteArray := prog_5_method_17_code
def yX3_isWhole : MethodName := ⟨RX3, "isWhole", "(II)Z"⟩
abbrev cX3_areAllWhole : ByteArray := prog_5_method_18_code
def yX3_areAllWhole : MethodName := ⟨RX3, "areAllWhole", "(II)Z"⟩
abbrev cX3_hasAllElementsWhole : ByteArray := prog_5_method_19_code
def yX3_hasAllElementsWhole : MethodName := ⟨RX3, "hasAllElementsWhole", "(II)Z"⟩
abbrev cX3_areEqual : ByteArray := prog_5_method_20_code
def yX3_areEqual : MethodName := ⟨RX3, "areEqual", "(III)Z"⟩
abbrev cX3_haveEqualElements : ByteArray := prog_5_method_21_code
def yX3_haveEqualElements : MethodName := ⟨RX3, "haveEqualElements", "(III)Z"⟩
abbrev cX3_haveEqualParts : ByteArray := prog_5_method_22_code
def yX3_haveEqualParts : MethodName := ⟨RX3, "haveEqualParts", "(III)Z"⟩
def RX4 : String := "MarkRules$Writer"
def TX4 : u_T := fun k => match k with
  | 0 => ("MarkRules$Writer", "marks", "LMarkRules$Marks;", true)
  | 1 => ("MarkRules$Writer", "values", "LMarkRules$Values;", true)
  | 2 => ("MarkRules$Writer", "bytes", "[B", true)
  | 3 => ("MarkRules$Writer", "length", "I", false)
  | 4 => ("MarkRules$Writer", "digits", "[I", true)
  | 5 => ("MarkRules$Writer", "at", "I", false)
  | _ => ("MarkRules$Writer", "keeps", "Z", false)
def tyX4 : Nat → FieldType := fun k => match k with
  | 0 => .object "MarkRules$Marks"
  | 1 => .object "MarkRules$Values"
  | 2 => .array .byte
  | 3 => .int
  | 4 => .array .int
  | 5 => .int
  | _ => .boolean
abbrev wsX40 : List Cond := u_ws RX4 TX4 7
theorem nmX4 : ∀ a, a < 7 → ∀ b, b < 7 → a ≠ b → (TX4 a).2.1 ≠ (TX4 b).2.1 := by decide +kernel
theorem tyX4_ok : ∀ k, k < 7 → parseFieldDescriptor (TX4 k).2.2.1 = some (tyX4 k) := by decide +kernel
abbrev cX4_init : ByteArray := prog_6_method_1_code
def yX4_init : MethodName := ⟨RX4, "<init>", "(LMarkRules$Marks;LMarkRules$Values;)V"⟩
abbrev cX4_write : ByteArray := prog_6_method_2_code
def yX4_write : MethodName := ⟨RX4, "write", "(I)I"⟩
abbrev cX4_begin : ByteArray := prog_6_method_3_code
def yX4_begin : MethodName := ⟨RX4, "begin", "(Z)V"⟩
abbrev cX4_writeByte : ByteArray := prog_6_method_4_code
def yX4_writeByte : MethodName := ⟨RX4, "writeByte", "(I)V"⟩
abbrev cX4_writeValue : ByteArray := prog_6_method_5_code
def yX4_writeValue : MethodName := ⟨RX4, "writeValue", "(II)V"⟩
abbrev cX4_writeRow : ByteArray := prog_6_method_6_code
def yX4_writeRow : MethodName := ⟨RX4, "writeRow", "(II)V"⟩
abbrev cX4_writeInstance : ByteArray := prog_6_method_7_code
def yX4_writeInstance : MethodName := ⟨RX4, "writeInstance", "(II)V"⟩
abbrev cX4_writeSimple : ByteArray := prog_6_method_8_code
def yX4_writeSimple : MethodName := ⟨RX4, "writeSimple", "(II)V"⟩
abbrev cX4_writeDigits : ByteArray := prog_6_method_9_code
def yX4_writeDigits : MethodName := ⟨RX4, "writeDigits", "(I)V"⟩
def RX5 : String := "MarkRules"
def TX5 : u_T := fun k => match k with
  | 0 => ("MarkRules", "marks", "LMarkRules$Marks;", true)
  | 1 => ("MarkRules", "places", "LMarkRules$Places;", true)
  | 2 => ("MarkRules", "values", "LMarkRules$Values;", true)
  | 3 => ("MarkRules", "standing", "LMarkRules$Standing;", true)
  | 4 => ("MarkRules", "writer", "LMarkRules$Writer;", true)
  | 5 => ("MarkRules", "failures", "[I", true)
  | _ => ("MarkRules", "latestFailure", "I", false)
def tyX5 : Nat → FieldType := fun k => match k with
  | 0 => .object "MarkRules$Marks"
  | 1 => .object "MarkRules$Places"
  | 2 => .object "MarkRules$Values"
  | 3 => .object "MarkRules$Standing"
  | 4 => .object "MarkRules$Writer"
  | 5 => .array .int
  | _ => .int
abbrev wsX50 : List Cond := u_ws RX5 TX5 7
theorem nmX5 : ∀ a, a < 7 → ∀ b, b < 7 → a ≠ b → (TX5 a).2.1 ≠ (TX5 b).2.1 := by decide +kernel
theorem tyX5_ok : ∀ k, k < 7 → parseFieldDescriptor (TX5 k).2.2.1 = some (tyX5 k) := by decide +kernel
abbrev cX5_init : ByteArray := prog_1_method_1_code
def yX5_init : MethodName := ⟨RX5, "<init>", "()V"⟩
abbrev cX5_mark : ByteArray := prog_1_method_2_code
def yX5_mark : MethodName := ⟨RX5, "mark", "(IIZ)I"⟩
abbrev cX5_element : ByteArray := prog_1_method_3_code
def yX5_element : MethodName := ⟨RX5, "element", "(IIIZ)I"⟩
abbrev cX5_fallback : ByteArray := prog_1_method_4_code
def yX5_fallback : MethodName := ⟨RX5, "fallback", "(III)I"⟩
abbrev cX5_container : ByteArray := prog_1_method_5_code
def yX5_container : MethodName := ⟨RX5, "container", "(II)I"⟩
abbrev cX5_place : ByteArray := prog_1_method_6_code
def yX5_place : MethodName := ⟨RX5, "place", "(II)I"⟩
abbrev cX5_value : ByteArray := prog_1_method_7_code
def yX5_value : MethodName := ⟨RX5, "value", "(II)I"⟩
abbrev cX5_row : ByteArray := prog_1_method_8_code
def yX5_row : MethodName := ⟨RX5, "row", "(I)I"⟩
abbrev cX5_push : ByteArray := prog_1_method_9_code
def yX5_push : MethodName := ⟨RX5, "push", "(II)I"⟩
abbrev cX5_instance : ByteArray := prog_1_method_10_code
def yX5_instance : MethodName := ⟨RX5, "instance", "(I)I"⟩
abbrev cX5_give : ByteArray := prog_1_method_11_code
def yX5_give : MethodName := ⟨RX5, "give", "(III)I"⟩
abbrev cX5_put : ByteArray := prog_1_method_12_code
def yX5_put : MethodName := ⟨RX5, "put", "(II)I"⟩
abbrev cX5_cause : ByteArray := prog_1_method_13_code
def yX5_cause : MethodName := ⟨RX5, "cause", "()I"⟩
abbrev cX5_told : ByteArray := prog_1_method_14_code
def yX5_told : MethodName := ⟨RX5, "told", "(II)I"⟩
abbrev cX5_part : ByteArray := prog_1_method_15_code
def yX5_part : MethodName := ⟨RX5, "part", "(II)I"⟩
abbrev cX5_equal : ByteArray := prog_1_method_16_code
def yX5_equal : MethodName := ⟨RX5, "equal", "(II)I"⟩
abbrev cX5_written : ByteArray := prog_1_method_17_code
def yX5_written : MethodName := ⟨RX5, "written", "(I)I"⟩
abbrev cX5_letter : ByteArray := prog_1_method_18_code
def yX5_letter : MethodName := ⟨RX5, "letter", "(I)I"⟩
abbrev cX5_ask : ByteArray := prog_1_method_19_code
def yX5_ask : MethodName := ⟨RX5, "ask", "(IIZ)I"⟩
abbrev cX5_all : ByteArray := prog_1_method_20_code
def yX5_all : MethodName := ⟨RX5, "all", "(II)I"⟩
abbrev cX5_of : ByteArray := prog_1_method_21_code
def yX5_of : MethodName := ⟨RX5, "of", "(III)I"⟩
abbrev cX5_stands : ByteArray := prog_1_method_22_code
def yX5_stands : MethodName := ⟨RX5, "stands", "(I)I"⟩
abbrev cX5_count : ByteArray := prog_1_method_23_code
def yX5_count : MethodName := ⟨RX5, "count", "(I)I"⟩
abbrev cX5_countOfMark : ByteArray := prog_1_method_24_code
def yX5_countOfMark : MethodName := ⟨RX5, "countOfMark", "(I)I"⟩
abbrev cX5_asNumber : ByteArray := prog_1_method_25_code
def yX5_asNumber : MethodName := ⟨RX5, "asNumber", "(Z)I"⟩
abbrev cX5_isValueOrNone : ByteArray := prog_1_method_26_code
def yX5_isValueOrNone : MethodName := ⟨RX5, "isValueOrNone", "(I)Z"⟩
abbrev cX5_isDoneOrSame : ByteArray := prog_1_method_27_code
def yX5_isDoneOrSame : MethodName := ⟨RX5, "isDoneOrSame", "(II)Z"⟩
abbrev cX5_isSimple : ByteArray := prog_1_method_28_code
def yX5_isSimple : MethodName := ⟨RX5, "isSimple", "(II)Z"⟩
abbrev cX5_fail : ByteArray := prog_1_method_29_code
def yX5_fail : MethodName := ⟨RX5, "fail", "(I)I"⟩
abbrev cX5_takeFor : ByteArray := prog_1_method_30_code
def yX5_takeFor : MethodName := ⟨RX5, "takeFor", "(II)I"⟩
abbrev cX5_brokenRule : ByteArray := prog_1_method_31_code
def yX5_brokenRule : MethodName := ⟨RX5, "brokenRule", "(II)I"⟩
abbrev cX5_ownAt : ByteArray := prog_1_method_32_code
def yX5_ownAt : MethodName := ⟨RX5, "ownAt", "(II)I"⟩
abbrev cX5_gatheredAt : ByteArray := prog_1_method_33_code
def yX5_gatheredAt : MethodName := ⟨RX5, "gatheredAt", "(II)I"⟩
abbrev cX5_foundAt : ByteArray := prog_1_method_34_code
def yX5_foundAt : MethodName := ⟨RX5, "foundAt", "(II)I"⟩
abbrev cX5_inheritsFrom : ByteArray := prog_1_method_35_code
def yX5_inheritsFrom : MethodName := ⟨RX5, "inheritsFrom", "(II)I"⟩
abbrev cX5_sourceOfAll : ByteArray := prog_1_method_36_code
def yX5_sourceOfAll : MethodName := ⟨RX5, "sourceOfAll", "(II)I"⟩
abbrev cX5_howManyHere : ByteArray := prog_1_method_37_code
def yX5_howManyHere : MethodName := ⟨RX5, "howManyHere", "(II)I"⟩
abbrev cX5_containerRowAt : ByteArray := prog_1_method_38_code
def yX5_containerRowAt : MethodName := ⟨RX5, "containerRowAt", "(II)I"⟩
def RX6 : String := "MarkRulesModel"
def TX6 : u_T := fun k => match k with
  | 0 => ("MarkRulesModel", "marks", "I", false)
  | 1 => ("MarkRulesModel", "targets", "[I", true)
  | 2 => ("MarkRulesModel", "keep", "[I", true)
  | 3 => ("MarkRulesModel", "inherited", "[Z", true)
  | 4 => ("MarkRulesModel", "container", "[I", true)
  | 5 => ("MarkRulesModel", "contained", "[I", true)
  | 6 => ("MarkRulesModel", "elements", "[I", true)
  | 7 => ("MarkRulesModel", "elementName", "[I", true)
  | 8 => ("MarkRulesModel", "elementKind", "[I", true)
  | 9 => ("MarkRulesModel", "elementRow", "[Z", true)
  | 10 => ("MarkRulesModel", "elementDefault", "[I", true)
  | 11 => ("MarkRulesModel", "depth", "[I", true)
  | 12 => ("MarkRulesModel", "places", "I", false)
  | 13 => ("MarkRulesModel", "placeKind", "[I", true)
  | 14 => ("MarkRulesModel", "placeOf", "[I", true)
  | 15 => ("MarkRulesModel", "values", "I", false)
  | 16 => ("MarkRulesModel", "sort", "[I", true)
  | 17 => ("MarkRulesModel", "kind", "[I", true)
  | 18 => ("MarkRulesModel", "number", "[I", true)
  | 19 => ("MarkRulesModel", "isDone", "[Z", true)
  | 20 => ("MarkRulesModel", "child", "[I", true)
  | 21 => ("MarkRulesModel", "cause", "I", false)
  | 22 => ("MarkRulesModel", "ever", "[I", true)
  | 23 => ("MarkRulesModel", "piled", "I", false)
  | 24 => ("MarkRulesModel", "pile", "[I", true)
  | 25 => ("MarkRulesModel", "other", "[I", true)
  | 26 => ("MarkRulesModel", "far", "[I", true)
  | 27 => ("MarkRulesModel", "letters", "I", false)
  | 28 => ("MarkRulesModel", "letter", "[I", true)
  | 29 => ("MarkRulesModel", "drafted", "I", false)
  | 30 => ("MarkRulesModel", "draft", "[I", true)
  | 31 => ("MarkRulesModel", "digit", "[I", true)
  | 32 => ("MarkRulesModel", "puts", "I", false)
  | 33 => ("MarkRulesModel", "putPlace", "[I", true)
  | _ => ("MarkRulesModel", "putValue", "[I", true)
def tyX6 : Nat → FieldType := fun k => match k with
  | 0 => .int
  | 1 => .array .int
  | 2 => .array .int
  | 3 => .array .boolean
  | 4 => .array .int
  | 5 => .array .int
  | 6 => .array .int
  | 7 => .array .int
  | 8 => .array .int
  | 9 => .array .boolean
  | 10 => .array .int
  | 11 => .array .int
  | 12 => .int
  | 13 => .array .int
  | 14 => .array .int
  | 15 => .int
  | 16 => .array .int
  | 17 => .array .int
  | 18 => .array .int
  | 19 => .array .boolean
  | 20 => .array .int
  | 21 => .int
  | 22 => .array .int
  | 23 => .int
  | 24 => .array .int
  | 25 => .array .int
  | 26 => .array .int
  | 27 => .int
  | 28 => .array .int
  | 29 => .int
  | 30 => .array .int
  | 31 => .array .int
  | 32 => .int
  | 33 => .array .int
  | _ => .array .int
abbrev wsX60 : List Cond := u_ws RX6 TX6 35
theorem nmX6 : ∀ a, a < 35 → ∀ b, b < 35 → a ≠ b → (TX6 a).2.1 ≠ (TX6 b).2.1 := by decide +kernel
theorem tyX6_ok : ∀ k, k < 35 → parseFieldDescriptor (TX6 k).2.2.1 = some (tyX6 k) := by decide +kernel
abbrev cX6_init : ByteArray := prog_8_method_1_code
def yX6_init : MethodName := ⟨RX6, "<init>", "()V"⟩
abbrev cX6_isMark : ByteArray := prog_8_method_2_code
def yX6_isMark : MethodName := ⟨RX6, "isMark", "(I)Z"⟩
abbrev cX6_mark : ByteArray := prog_8_method_3_code
def yX6_mark : MethodName := ⟨RX6, "mark", "(IIZ)I"⟩
abbrev cX6_isKind : ByteArray := prog_8_method_4_code
def yX6_isKind : MethodName := ⟨RX6, "isKind", "(I)Z"⟩
abbrev cX6_elementOf : ByteArray := prog_8_method_5_code
def yX6_elementOf : MethodName := ⟨RX6, "elementOf", "(II)I"⟩
abbrev cX6_isFixed : ByteArray := prog_8_method_6_code
def yX6_isFixed : MethodName := ⟨RX6, "isFixed", "(I)Z"⟩
abbrev cX6_mayLead : ByteArray := prog_8_method_7_code
def yX6_mayLead : MethodName := ⟨RX6, "mayLead", "(II)Z"⟩
abbrev cX6_element : ByteArray := prog_8_method_8_code
def yX6_element : MethodName := ⟨RX6, "element", "(IIIZ)I"⟩
abbrev cX6_isContainer : ByteArray := prog_8_method_9_code
def yX6_isContainer : MethodName := ⟨RX6, "isContainer", "(II)Z"⟩
abbrev cX6_container : ByteArray := prog_8_method_10_code
def yX6_container : MethodName := ⟨RX6, "container", "(II)I"⟩
abbrev cX6_isPlace : ByteArray := prog_8_method_11_code
def yX6_isPlace : MethodName := ⟨RX6, "isPlace", "(I)Z"⟩
abbrev cX6_isAmong : ByteArray := prog_8_method_12_code
def yX6_isAmong : MethodName := ⟨RX6, "isAmong", "(III)Z"⟩
abbrev cX6_isType : ByteArray := prog_8_method_13_code
def yX6_isType : MethodName := ⟨RX6, "isType", "(I)Z"⟩
abbrev cX6_place : ByteArray := prog_8_method_14_code
def yX6_place : MethodName := ⟨RX6, "place", "(II)I"⟩
abbrev cX6_isValue : ByteArray := prog_8_method_15_code
def yX6_isValue : MethodName := ⟨RX6, "isValue", "(I)Z"⟩
abbrev cX6_isSort : ByteArray := prog_8_method_16_code
def yX6_isSort : MethodName := ⟨RX6, "isSort", "(II)Z"⟩
abbrev cX6_added : ByteArray := prog_8_method_17_code
def yX6_added : MethodName := ⟨RX6, "added", "(III)I"⟩
abbrev cX6_value : ByteArray := prog_8_method_18_code
def yX6_value : MethodName := ⟨RX6, "value", "(II)I"⟩
abbrev cX6_row : ByteArray := prog_8_method_19_code
def yX6_row : MethodName := ⟨RX6, "row", "(I)I"⟩
abbrev cX6_instance : ByteArray := prog_8_method_20_code
def yX6_instance : MethodName := ⟨RX6, "instance", "(I)I"⟩
abbrev cX6_failed : ByteArray := prog_8_method_21_code
def yX6_failed : MethodName := ⟨RX6, "failed", "(I)I"⟩
abbrev cX6_good : ByteArray := prog_8_method_22_code
def yX6_good : MethodName := ⟨RX6, "good", "(I)I"⟩
abbrev cX6_isOfKind : ByteArray := prog_8_method_23_code
def yX6_isOfKind : MethodName := ⟨RX6, "isOfKind", "(II)Z"⟩
abbrev cX6_done : ByteArray := prog_8_method_24_code
def yX6_done : MethodName := ⟨RX6, "done", "(I)V"⟩
abbrev cX6_push : ByteArray := prog_8_method_25_code
def yX6_push : MethodName := ⟨RX6, "push", "(II)I"⟩
abbrev cX6_given : ByteArray := prog_8_method_26_code
def yX6_given : MethodName := ⟨RX6, "given", "(II)I"⟩
abbrev cX6_fallback : ByteArray := prog_8_method_27_code
def yX6_fallback : MethodName := ⟨RX6, "fallback", "(III)I"⟩
abbrev cX6_give : ByteArray := prog_8_method_28_code
def yX6_give : MethodName := ⟨RX6, "give", "(III)I"⟩
abbrev cX6_within : ByteArray := prog_8_method_29_code
def yX6_within : MethodName := ⟨RX6, "within", "(I)I"⟩
abbrev cX6_inner : ByteArray := prog_8_method_30_code
def yX6_inner : MethodName := ⟨RX6, "inner", "(II)I"⟩
abbrev cX6_pile : ByteArray := prog_8_method_31_code
def yX6_pile : MethodName := ⟨RX6, "pile", "(II)V"⟩
abbrev cX6_isWhole : ByteArray := prog_8_method_32_code
def yX6_isWhole : MethodName := ⟨RX6, "isWhole", "(I)Z"⟩
abbrev cX6_isLike : ByteArray := prog_8_method_33_code
def yX6_isLike : MethodName := ⟨RX6, "isLike", "(II)Z"⟩
abbrev cX6_areEqual : ByteArray := prog_8_method_34_code
def yX6_areEqual : MethodName := ⟨RX6, "areEqual", "(II)Z"⟩
abbrev cX6_equal : ByteArray := prog_8_method_35_code
def yX6_equal : MethodName := ⟨RX6, "equal", "(II)I"⟩
abbrev cX6_told : ByteArray := prog_8_method_36_code
def yX6_told : MethodName := ⟨RX6, "told", "(II)I"⟩
abbrev cX6_part : ByteArray := prog_8_method_37_code
def yX6_part : MethodName := ⟨RX6, "part", "(II)I"⟩
abbrev cX6_write : ByteArray := prog_8_method_38_code
def yX6_write : MethodName := ⟨RX6, "write", "(I)V"⟩
abbrev cX6_writeNumber : ByteArray := prog_8_method_39_code
def yX6_writeNumber : MethodName := ⟨RX6, "writeNumber", "(I)V"⟩
abbrev cX6_begin : ByteArray := prog_8_method_40_code
def yX6_begin : MethodName := ⟨RX6, "begin", "(I)V"⟩
abbrev cX6_isBehind : ByteArray := prog_8_method_41_code
def yX6_isBehind : MethodName := ⟨RX6, "isBehind", "(II)Z"⟩
abbrev cX6_written : ByteArray := prog_8_method_42_code
def yX6_written : MethodName := ⟨RX6, "written", "(I)I"⟩
abbrev cX6_letter : ByteArray := prog_8_method_43_code
def yX6_letter : MethodName := ⟨RX6, "letter", "(I)I"⟩
abbrev cX6_standing : ByteArray := prog_8_method_44_code
def yX6_standing : MethodName := ⟨RX6, "standing", "(II)I"⟩
abbrev cX6_stander : ByteArray := prog_8_method_45_code
def yX6_stander : MethodName := ⟨RX6, "stander", "(III)I"⟩
abbrev cX6_mayStand : ByteArray := prog_8_method_46_code
def yX6_mayStand : MethodName := ⟨RX6, "mayStand", "(II)Z"⟩
abbrev cX6_put : ByteArray := prog_8_method_47_code
def yX6_put : MethodName := ⟨RX6, "put", "(II)I"⟩
abbrev cX6_own : ByteArray := prog_8_method_48_code
def yX6_own : MethodName := ⟨RX6, "own", "(II)I"⟩
abbrev cX6_goesUp : ByteArray := prog_8_method_49_code
def yX6_goesUp : MethodName := ⟨RX6, "goesUp", "(II)Z"⟩
abbrev cX6_ask : ByteArray := prog_8_method_50_code
def yX6_ask : MethodName := ⟨RX6, "ask", "(IIZ)I"⟩
abbrev cX6_rowAt : ByteArray := prog_8_method_51_code
def yX6_rowAt : MethodName := ⟨RX6, "rowAt", "(II)I"⟩
abbrev cX6_allAt : ByteArray := prog_8_method_52_code
def yX6_allAt : MethodName := ⟨RX6, "allAt", "(II)I"⟩
abbrev cX6_whereAll : ByteArray := prog_8_method_53_code
def yX6_whereAll : MethodName := ⟨RX6, "whereAll", "(II)I"⟩
abbrev cX6_all : ByteArray := prog_8_method_54_code
def yX6_all : MethodName := ⟨RX6, "all", "(II)I"⟩
abbrev cX6_of : ByteArray := prog_8_method_55_code
def yX6_of : MethodName := ⟨RX6, "of", "(III)I"⟩
abbrev cX6_stands : ByteArray := prog_8_method_56_code
def yX6_stands : MethodName := ⟨RX6, "stands", "(I)I"⟩
abbrev cX6_cause : ByteArray := prog_8_method_57_code
def yX6_cause : MethodName := ⟨RX6, "cause", "()I"⟩
abbrev cX6_count : ByteArray := prog_8_method_58_code
def yX6_count : MethodName := ⟨RX6, "count", "(I)I"⟩
def RJ9 : String := "java/lang/Math"
def TJ9 : u_T := fun k => match k with
  | _ => ("", "", "", false)
def tyJ9 : Nat → FieldType := fun k => match k with
  | _ => .int
abbrev wsJ90 : List Cond := u_ws RJ9 TJ9 0
theorem nmJ9 : ∀ a, a < 0 → ∀ b, b < 0 → a ≠ b → (TJ9 a).2.1 ≠ (TJ9 b).2.1 := by decide +kernel
theorem tyJ9_ok : ∀ k, k < 0 → parseFieldDescriptor (TJ9 k).2.2.1 = some (tyJ9 k) := by decide +kernel
abbrev cJ9_abs_067f4 : ByteArray := prog_9_method_61_code
def yJ9_abs_067f4 : MethodName := ⟨RJ9, "abs", "(J)J"⟩
def RJ7 : String := "java/util/Arrays"
def TJ7 : u_T := fun k => match k with
  | _ => ("", "", "", false)
def tyJ7 : Nat → FieldType := fun k => match k with
  | _ => .int
abbrev wsJ70 : List Cond := u_ws RJ7 TJ7 0
theorem nmJ7 : ∀ a, a < 0 → ∀ b, b < 0 → a ≠ b → (TJ7 a).2.1 ≠ (TJ7 b).2.1 := by decide +kernel
theorem tyJ7_ok : ∀ k, k < 0 → parseFieldDescriptor (TJ7 k).2.2.1 = some (tyJ7 k) := by decide +kernel
abbrev cJ7_fill_53178 : ByteArray := prog_10_method_103_code
def yJ7_fill_53178 : MethodName := ⟨RJ7, "fill", "([II)V"⟩
def RL : String := "MarkRulesLaw"
abbrev cL_law : ByteArray := code
def yL_law : MethodName := ⟨RL, "law", "([I)Z"⟩
def wsL_law_r1 : List Cond := [Cond.classLink RL 7 RX5, Cond.instantiable RX5 7, Cond.initialized RX5, Cond.classLink RL 10 RX6, Cond.instantiable RX6 35, Cond.initialized RX6, Cond.methodLink RL 9 yX5_init, Cond.instanceMethod yX5_init, Cond.code yX5_init cX5_init 3 none, Cond.methodLink RX5 1 objectInit, Cond.instanceMethod objectInit, Cond.code objectInit ⟨#[0xb1]⟩ 1 none, Cond.classLink RX5 7 RX0, Cond.instantiable RX0 14, Cond.initialized RX0, Cond.classLink RX5 10 RX3, Cond.instantiable RX3 7, Cond.initialized RX3, Cond.fieldLink RX5 15 "MarkRules" "marks" "LMarkRules$Marks;", Cond.fieldLink RX5 21 "MarkRules" "values" "LMarkRules$Values;", Cond.classLink RX5 25 RX1, Cond.instantiable RX1 3, Cond.initialized RX1, Cond.fieldLink RX5 28 "MarkRules" "places" "LMarkRules$Places;"]
def wsL_law_r2 : List Cond := [Cond.classLink RX5 32 RX2, Cond.instantiable RX2 4, Cond.initialized RX2, Cond.fieldLink RX5 35 "MarkRules" "standing" "LMarkRules$Standing;", Cond.classLink RX5 39 RX4, Cond.instantiable RX4 7, Cond.initialized RX4, Cond.fieldLink RX5 44 "MarkRules" "writer" "LMarkRules$Writer;", Cond.arrayClass .int, Cond.fieldLink RX5 48 "MarkRules" "failures" "[I", Cond.fieldLink RX5 52 "MarkRules" "latestFailure" "I", Cond.methodLink RX5 9 yX0_init, Cond.instanceMethod yX0_init, Cond.code yX0_init cX0_init 1 none, Cond.methodLink RX0 3 objectInit, Cond.fieldLink RX0 9 "MarkRules$Marks" "size" "I", Cond.fieldLink RX0 15 "MarkRules$Marks" "targets" "[I", Cond.fieldLink RX0 19 "MarkRules$Marks" "keeps" "[I", Cond.arrayClass .boolean, Cond.fieldLink RX0 22 "MarkRules$Marks" "inherited" "[Z", Cond.fieldLink RX0 26 "MarkRules$Marks" "sizes" "[I", Cond.fieldLink RX0 29 "MarkRules$Marks" "leads" "[I", Cond.fieldLink RX0 32 "MarkRules$Marks" "containers" "[I", Cond.fieldLink RX0 35 "MarkRules$Marks" "contents" "[I"]
def wsL_law_r3 : List Cond := [Cond.fieldLink RX0 38 "MarkRules$Marks" "everMade" "[Z", Cond.fieldLink RX0 41 "MarkRules$Marks" "everPut" "[Z", Cond.fieldLink RX0 44 "MarkRules$Marks" "names" "[I", Cond.fieldLink RX0 47 "MarkRules$Marks" "kinds" "[I", Cond.fieldLink RX0 50 "MarkRules$Marks" "rows" "[Z", Cond.fieldLink RX0 53 "MarkRules$Marks" "defaults" "[I", Cond.methodLink RX0 56 yJ7_fill_53178, Cond.static yJ7_fill_53178, Cond.initialized RJ7, Cond.code yJ7_fill_53178 cJ7_fill_53178 4 none, Cond.methodLink RX5 12 yX3_init, Cond.instanceMethod yX3_init, Cond.code yX3_init cX3_init 2 none, Cond.methodLink RX3 3 objectInit, Cond.fieldLink RX3 9 "MarkRules$Values" "size" "I", Cond.fieldLink RX3 15 "MarkRules$Values" "sorts" "[I", Cond.fieldLink RX3 19 "MarkRules$Values" "kinds" "[I", Cond.fieldLink RX3 22 "MarkRules$Values" "numbers" "[I", Cond.fieldLink RX3 25 "MarkRules$Values" "dones" "[Z", Cond.fieldLink RX3 29 "MarkRules$Values" "parts" "[I", Cond.fieldLink RX3 32 "MarkRules$Values" "marks" "LMarkRules$Marks;", Cond.methodLink RX3 36 yJ7_fill_53178, Cond.instanceMethod yX1_init, Cond.code yX1_init cX1_init 1 none]
def wsL_law_r4 : List Cond := [Cond.methodLink RX1 3 objectInit, Cond.fieldLink RX1 9 "MarkRules$Places" "size" "I", Cond.fieldLink RX1 15 "MarkRules$Places" "kinds" "[I", Cond.fieldLink RX1 19 "MarkRules$Places" "owners" "[I", Cond.instanceMethod yX2_init, Cond.code yX2_init cX2_init 1 none, Cond.methodLink RX2 3 objectInit, Cond.fieldLink RX2 9 "MarkRules$Standing" "size" "I", Cond.fieldLink RX2 15 "MarkRules$Standing" "spots" "[I", Cond.fieldLink RX2 19 "MarkRules$Standing" "kinds" "[I", Cond.fieldLink RX2 22 "MarkRules$Standing" "instances" "[I", Cond.methodLink RX5 41 yX4_init, Cond.instanceMethod yX4_init, Cond.code yX4_init cX4_init 3 none, Cond.methodLink RX4 3 objectInit, Cond.arrayClass .byte, Cond.fieldLink RX4 9 "MarkRules$Writer" "bytes" "[B", Cond.fieldLink RX4 15 "MarkRules$Writer" "length" "I", Cond.fieldLink RX4 19 "MarkRules$Writer" "digits" "[I", Cond.fieldLink RX4 23 "MarkRules$Writer" "at" "I", Cond.fieldLink RX4 26 "MarkRules$Writer" "keeps" "Z", Cond.fieldLink RX4 30 "MarkRules$Writer" "marks" "LMarkRules$Marks;", Cond.fieldLink RX4 34 "MarkRules$Writer" "values" "LMarkRules$Values;", Cond.methodLink RL 12 yX6_init]
def wsL_law_r5 : List Cond := [Cond.instanceMethod yX6_init, Cond.code yX6_init cX6_init 1 none, Cond.methodLink RX6 1 objectInit, Cond.fieldLink RX6 7 "MarkRulesModel" "targets" "[I", Cond.fieldLink RX6 13 "MarkRulesModel" "keep" "[I", Cond.fieldLink RX6 16 "MarkRulesModel" "inherited" "[Z", Cond.fieldLink RX6 20 "MarkRulesModel" "container" "[I", Cond.fieldLink RX6 23 "MarkRulesModel" "contained" "[I", Cond.fieldLink RX6 26 "MarkRulesModel" "elements" "[I", Cond.fieldLink RX6 29 "MarkRulesModel" "elementName" "[I", Cond.fieldLink RX6 32 "MarkRulesModel" "elementKind" "[I", Cond.fieldLink RX6 35 "MarkRulesModel" "elementRow" "[Z", Cond.fieldLink RX6 38 "MarkRulesModel" "elementDefault" "[I", Cond.fieldLink RX6 41 "MarkRulesModel" "depth" "[I", Cond.fieldLink RX6 44 "MarkRulesModel" "placeKind" "[I", Cond.fieldLink RX6 47 "MarkRulesModel" "placeOf" "[I", Cond.fieldLink RX6 50 "MarkRulesModel" "sort" "[I", Cond.fieldLink RX6 53 "MarkRulesModel" "kind" "[I", Cond.fieldLink RX6 56 "MarkRulesModel" "number" "[I", Cond.fieldLink RX6 59 "MarkRulesModel" "isDone" "[Z", Cond.fieldLink RX6 62 "MarkRulesModel" "child" "[I", Cond.fieldLink RX6 65 "MarkRulesModel" "ever" "[I", Cond.fieldLink RX6 68 "MarkRulesModel" "pile" "[I", Cond.fieldLink RX6 71 "MarkRulesModel" "other" "[I"]
def wsL_law_r6 : List Cond := [Cond.fieldLink RX6 74 "MarkRulesModel" "far" "[I", Cond.fieldLink RX6 77 "MarkRulesModel" "letter" "[I", Cond.fieldLink RX6 80 "MarkRulesModel" "draft" "[I", Cond.fieldLink RX6 83 "MarkRulesModel" "digit" "[I", Cond.fieldLink RX6 86 "MarkRulesModel" "putPlace" "[I", Cond.fieldLink RX6 89 "MarkRulesModel" "putValue" "[I", Cond.methodLink RL 13 yX5_mark, Cond.instanceMethod yX5_mark, Cond.selects RX5 yX5_mark yX5_mark, Cond.code yX5_mark cX5_mark 4 (some .int), Cond.methodLink RX5 56 yX0_add, Cond.instanceMethod yX0_add, Cond.selects RX0 yX0_add yX0_add, Cond.code yX0_add cX0_add 4 (some .int), Cond.methodLink RL 17 yX6_mark, Cond.instanceMethod yX6_mark, Cond.selects RX6 yX6_mark yX6_mark, Cond.code yX6_mark cX6_mark 4 (some .int), Cond.fieldLink RX6 92 "MarkRulesModel" "marks" "I", Cond.methodLink RL 18 yX5_element, Cond.instanceMethod yX5_element, Cond.selects RX5 yX5_element yX5_element, Cond.code yX5_element cX5_element 5 (some .int), Cond.methodLink RX5 60 yX0_has]
def wsL_law_r7 : List Cond := [Cond.instanceMethod yX0_has, Cond.selects RX0 yX0_has yX0_has, Cond.code yX0_has cX0_has 2 (some .boolean), Cond.methodLink RX5 64 yX0_hasKind, Cond.instanceMethod yX0_hasKind, Cond.selects RX0 yX0_hasKind yX0_hasKind, Cond.code yX0_hasKind cX0_hasKind 2 (some .boolean), Cond.methodLink RX0 62 yX0_has, Cond.methodLink RX5 67 yX0_slotOf, Cond.instanceMethod yX0_slotOf, Cond.selects RX0 yX0_slotOf yX0_slotOf, Cond.code yX0_slotOf cX0_slotOf 4 (some .int), Cond.methodLink RX0 70 yX0_positionOf, Cond.instanceMethod yX0_positionOf, Cond.selects RX0 yX0_positionOf yX0_positionOf, Cond.code yX0_positionOf cX0_positionOf 4 (some .int), Cond.methodLink RX5 71 yX0_isFixed, Cond.instanceMethod yX0_isFixed, Cond.selects RX0 yX0_isFixed yX0_isFixed, Cond.code yX0_isFixed cX0_isFixed 2 (some .boolean), Cond.methodLink RX5 74 yX0_wouldLeadTooFar, Cond.instanceMethod yX0_wouldLeadTooFar, Cond.selects RX0 yX0_wouldLeadTooFar yX0_wouldLeadTooFar, Cond.code yX0_wouldLeadTooFar cX0_wouldLeadTooFar 6 (some .boolean)]
def wsL_law_r8 : List Cond := [Cond.methodLink RX0 66 yX0_leadOf, Cond.static yX0_leadOf, Cond.code yX0_leadOf cX0_leadOf 1 (some .int), Cond.methodLink RX0 74 yX0_leadingInto, Cond.instanceMethod yX0_leadingInto, Cond.selects RX0 yX0_leadingInto yX0_leadingInto, Cond.code yX0_leadingInto cX0_leadingInto 4 (some .int), Cond.methodLink RX5 78 yX0_addElement, Cond.instanceMethod yX0_addElement, Cond.selects RX0 yX0_addElement yX0_addElement, Cond.code yX0_addElement cX0_addElement 6 (some .int), Cond.methodLink RL 22 yX6_element, Cond.instanceMethod yX6_element, Cond.selects RX6 yX6_element yX6_element, Cond.code yX6_element cX6_element 6 (some .int), Cond.methodLink RX6 96 yX6_isMark, Cond.instanceMethod yX6_isMark, Cond.selects RX6 yX6_isMark yX6_isMark, Cond.code yX6_isMark cX6_isMark 2 (some .boolean), Cond.methodLink RX6 103 yX6_isKind, Cond.instanceMethod yX6_isKind, Cond.selects RX6 yX6_isKind yX6_isKind, Cond.code yX6_isKind cX6_isKind 2 (some .boolean), Cond.methodLink RX6 106 yX6_elementOf]
def wsL_law_r9 : List Cond := [Cond.instanceMethod yX6_elementOf, Cond.selects RX6 yX6_elementOf yX6_elementOf, Cond.code yX6_elementOf cX6_elementOf 5 (some .int), Cond.methodLink RX6 110 yX6_isFixed, Cond.instanceMethod yX6_isFixed, Cond.selects RX6 yX6_isFixed yX6_isFixed, Cond.code yX6_isFixed cX6_isFixed 4 (some .boolean), Cond.fieldLink RX6 100 "MarkRulesModel" "values" "I", Cond.methodLink RX6 113 yX6_mayLead, Cond.instanceMethod yX6_mayLead, Cond.selects RX6 yX6_mayLead yX6_mayLead, Cond.code yX6_mayLead cX6_mayLead 8 (some .boolean), Cond.methodLink RL 23 yX5_fallback, Cond.instanceMethod yX5_fallback, Cond.selects RX5 yX5_fallback yX5_fallback, Cond.code yX5_fallback cX5_fallback 6 (some .int), Cond.fieldLink RX5 85 "MarkRules$Values" "dones" "[Z", Cond.fieldLink RX5 95 "MarkRules$Marks" "defaults" "[I", Cond.methodLink RX5 82 yX5_isValueOrNone, Cond.instanceMethod yX5_isValueOrNone, Cond.selects RX5 yX5_isValueOrNone yX5_isValueOrNone, Cond.code yX5_isValueOrNone cX5_isValueOrNone 2 (some .boolean), Cond.methodLink RX5 168 yX3_has, Cond.instanceMethod yX3_has]
def wsL_law_r10 : List Cond := [Cond.selects RX3 yX3_has yX3_has, Cond.code yX3_has cX3_has 2 (some .boolean), Cond.methodLink RX5 89 yX3_isWhole, Cond.instanceMethod yX3_isWhole, Cond.selects RX3 yX3_isWhole yX3_isWhole, Cond.code yX3_isWhole cX3_isWhole 3 (some .boolean), Cond.methodLink RX3 42 yX3_has, Cond.methodLink RX3 83 yX3_areAllWhole, Cond.instanceMethod yX3_areAllWhole, Cond.selects RX3 yX3_areAllWhole yX3_areAllWhole, Cond.methodLink RX3 86 yX3_hasAllElementsWhole, Cond.instanceMethod yX3_hasAllElementsWhole, Cond.selects RX3 yX3_hasAllElementsWhole yX3_hasAllElementsWhole, Cond.code yX3_areAllWhole cX3_areAllWhole 4 (some .boolean), Cond.methodLink RX3 62 yX3_partAt, Cond.instanceMethod yX3_partAt, Cond.selects RX3 yX3_partAt yX3_partAt, Cond.code yX3_partAt cX3_partAt 3 (some .int), Cond.methodLink RX3 89 yX3_isWhole, Cond.code yX3_hasAllElementsWhole cX3_hasAllElementsWhole 5 (some .boolean), Cond.methodLink RX3 92 yX3_howManyElements, Cond.instanceMethod yX3_howManyElements, Cond.selects RX3 yX3_howManyElements yX3_howManyElements, Cond.code yX3_howManyElements cX3_howManyElements 2 (some .int)]
def wsL_law_r11 : List Cond := [Cond.fieldLink RX3 80 "MarkRules$Marks" "sizes" "[I", Cond.methodLink RX3 70 yX3_markOf, Cond.instanceMethod yX3_markOf, Cond.selects RX3 yX3_markOf yX3_markOf, Cond.code yX3_markOf cX3_markOf 2 (some .int), Cond.methodLink RX3 77 yX3_elementAt, Cond.instanceMethod yX3_elementAt, Cond.selects RX3 yX3_elementAt yX3_elementAt, Cond.code yX3_elementAt cX3_elementAt 4 (some .int), Cond.fieldLink RX3 65 "MarkRules$Marks" "defaults" "[I", Cond.methodLink RX5 92 yX5_takeFor, Cond.instanceMethod yX5_takeFor, Cond.selects RX5 yX5_takeFor yX5_takeFor, Cond.code yX5_takeFor cX5_takeFor 7 (some .int), Cond.fieldLink RX5 232 "MarkRules$Marks" "kinds" "[I", Cond.fieldLink RX5 233 "MarkRules$Marks" "rows" "[Z", Cond.methodLink RX5 130 yX5_fail, Cond.instanceMethod yX5_fail, Cond.selects RX5 yX5_fail yX5_fail, Cond.code yX5_fail cX5_fail 2 (some .int), Cond.methodLink RX5 137 yX3_isOfKind, Cond.instanceMethod yX3_isOfKind, Cond.selects RX3 yX3_isOfKind yX3_isOfKind, Cond.code yX3_isOfKind cX3_isOfKind 3 (some .boolean)]
def wsL_law_r12 : List Cond := [Cond.methodLink RX5 236 yX3_isRowOf, Cond.instanceMethod yX3_isRowOf, Cond.selects RX3 yX3_isRowOf yX3_isRowOf, Cond.code yX3_isRowOf cX3_isRowOf 3 (some .boolean), Cond.methodLink RX3 46 yX3_isSort, Cond.instanceMethod yX3_isSort, Cond.selects RX3 yX3_isSort yX3_isSort, Cond.code yX3_isSort cX3_isSort 3 (some .boolean), Cond.methodLink RX5 239 yX3_addRowOfOne, Cond.instanceMethod yX3_addRowOfOne, Cond.selects RX3 yX3_addRowOfOne yX3_addRowOfOne, Cond.code yX3_addRowOfOne cX3_addRowOfOne 4 (some .int), Cond.methodLink RX3 50 yX3_add, Cond.instanceMethod yX3_add, Cond.selects RX3 yX3_add yX3_add, Cond.code yX3_add cX3_add 4 (some .int), Cond.methodLink RX3 54 yX3_append, Cond.instanceMethod yX3_append, Cond.selects RX3 yX3_append yX3_append, Cond.code yX3_append cX3_append 3 (some .int), Cond.methodLink RX3 58 yX3_finish, Cond.instanceMethod yX3_finish, Cond.selects RX3 yX3_finish yX3_finish, Cond.code yX3_finish cX3_finish 2 none]
def wsL_law_r13 : List Cond := [Cond.methodLink RX5 242 yX3_finish, Cond.methodLink RL 27 yX6_fallback, Cond.instanceMethod yX6_fallback, Cond.selects RX6 yX6_fallback yX6_fallback, Cond.code yX6_fallback cX6_fallback 5 (some .int), Cond.methodLink RX6 136 yX6_isValue, Cond.instanceMethod yX6_isValue, Cond.selects RX6 yX6_isValue yX6_isValue, Cond.code yX6_isValue cX6_isValue 2 (some .boolean), Cond.methodLink RX6 163 yX6_isWhole, Cond.instanceMethod yX6_isWhole, Cond.selects RX6 yX6_isWhole yX6_isWhole, Cond.code yX6_isWhole cX6_isWhole 5 (some .boolean), Cond.fieldLink RX6 169 "MarkRulesModel" "piled" "I", Cond.methodLink RX6 172 yX6_pile, Cond.instanceMethod yX6_pile, Cond.selects RX6 yX6_pile yX6_pile, Cond.code yX6_pile cX6_pile 3 none, Cond.methodLink RX6 175 yX6_within, Cond.instanceMethod yX6_within, Cond.selects RX6 yX6_within yX6_within, Cond.code yX6_within cX6_within 2 (some .int), Cond.methodLink RX6 178 yX6_inner, Cond.instanceMethod yX6_inner]
def wsL_law_r14 : List Cond := [Cond.selects RX6 yX6_inner yX6_inner, Cond.code yX6_inner cX6_inner 4 (some .int), Cond.methodLink RX6 166 yX6_given, Cond.instanceMethod yX6_given, Cond.selects RX6 yX6_given yX6_given, Cond.code yX6_given cX6_given 5 (some .int), Cond.methodLink RX6 153 yX6_isOfKind, Cond.instanceMethod yX6_isOfKind, Cond.selects RX6 yX6_isOfKind yX6_isOfKind, Cond.code yX6_isOfKind cX6_isOfKind 3 (some .boolean), Cond.methodLink RX6 149 yX6_failed, Cond.instanceMethod yX6_failed, Cond.selects RX6 yX6_failed yX6_failed, Cond.code yX6_failed cX6_failed 2 (some .int), Cond.fieldLink RX6 143 "MarkRulesModel" "cause" "I", Cond.methodLink RX6 139 yX6_added, Cond.instanceMethod yX6_added, Cond.selects RX6 yX6_added yX6_added, Cond.code yX6_added cX6_added 5 (some .int), Cond.methodLink RX6 156 yX6_done, Cond.instanceMethod yX6_done, Cond.selects RX6 yX6_done yX6_done, Cond.code yX6_done cX6_done 2 none, Cond.methodLink RX6 160 yX6_good]
def wsL_law_r15 : List Cond := [Cond.instanceMethod yX6_good, Cond.selects RX6 yX6_good yX6_good, Cond.code yX6_good cX6_good 2 (some .int), Cond.methodLink RL 28 yX5_container, Cond.instanceMethod yX5_container, Cond.selects RX5 yX5_container yX5_container, Cond.code yX5_container cX5_container 3 (some .int), Cond.fieldLink RX5 98 "MarkRules$Marks" "containers" "[I", Cond.fieldLink RX5 101 "MarkRules$Marks" "everPut" "[Z", Cond.fieldLink RX5 107 "MarkRules$Marks" "contents" "[I", Cond.methodLink RX5 104 yX0_canContain, Cond.instanceMethod yX0_canContain, Cond.selects RX0 yX0_canContain yX0_canContain, Cond.code yX0_canContain cX0_canContain 4 (some .boolean), Cond.methodLink RX0 77 yX0_slotOf, Cond.methodLink RX0 80 yX0_othersHaveDefaults, Cond.instanceMethod yX0_othersHaveDefaults, Cond.selects RX0 yX0_othersHaveDefaults yX0_othersHaveDefaults, Cond.code yX0_othersHaveDefaults cX0_othersHaveDefaults 4 (some .boolean), Cond.methodLink RL 32 yX6_container, Cond.instanceMethod yX6_container, Cond.selects RX6 yX6_container yX6_container, Cond.code yX6_container cX6_container 5 (some .int), Cond.fieldLink RX6 117 "MarkRulesModel" "puts" "I"]
def wsL_law_r16 : List Cond := [Cond.methodLink RX6 120 yX6_isContainer, Cond.instanceMethod yX6_isContainer, Cond.selects RX6 yX6_isContainer yX6_isContainer, Cond.code yX6_isContainer cX6_isContainer 6 (some .boolean), Cond.methodLink RL 33 yX5_place, Cond.instanceMethod yX5_place, Cond.selects RX5 yX5_place yX5_place, Cond.code yX5_place cX5_place 3 (some .int), Cond.methodLink RX5 110 yX1_fits, Cond.instanceMethod yX1_fits, Cond.selects RX1 yX1_fits yX1_fits, Cond.code yX1_fits cX1_fits 3 (some .boolean), Cond.methodLink RX1 26 yX1_isClass, Cond.instanceMethod yX1_isClass, Cond.selects RX1 yX1_isClass yX1_isClass, Cond.code yX1_isClass cX1_isClass 2 (some .boolean), Cond.methodLink RX1 22 yX1_has, Cond.instanceMethod yX1_has, Cond.selects RX1 yX1_has yX1_has, Cond.code yX1_has cX1_has 2 (some .boolean), Cond.methodLink RX1 29 yX1_isType, Cond.instanceMethod yX1_isType, Cond.selects RX1 yX1_isType yX1_isType, Cond.code yX1_isType cX1_isType 2 (some .boolean)]
def wsL_law_r17 : List Cond := [Cond.methodLink RX1 32 yX1_isMethod, Cond.instanceMethod yX1_isMethod, Cond.selects RX1 yX1_isMethod yX1_isMethod, Cond.code yX1_isMethod cX1_isMethod 2 (some .boolean), Cond.methodLink RX5 113 yX1_add, Cond.instanceMethod yX1_add, Cond.selects RX1 yX1_add yX1_add, Cond.code yX1_add cX1_add 3 (some .int), Cond.methodLink RL 36 yX6_place, Cond.instanceMethod yX6_place, Cond.selects RX6 yX6_place yX6_place, Cond.code yX6_place cX6_place 4 (some .int), Cond.fieldLink RX6 123 "MarkRulesModel" "places" "I", Cond.methodLink RX6 129 yX6_isAmong, Cond.instanceMethod yX6_isAmong, Cond.selects RX6 yX6_isAmong yX6_isAmong, Cond.code yX6_isAmong cX6_isAmong 4 (some .boolean), Cond.methodLink RX6 126 yX6_isPlace, Cond.instanceMethod yX6_isPlace, Cond.selects RX6 yX6_isPlace yX6_isPlace, Cond.code yX6_isPlace cX6_isPlace 2 (some .boolean), Cond.methodLink RX6 133 yX6_isType, Cond.instanceMethod yX6_isType, Cond.selects RX6 yX6_isType yX6_isType]
def wsL_law_r18 : List Cond := [Cond.code yX6_isType cX6_isType 2 (some .boolean), Cond.methodLink RL 37 yX5_value, Cond.instanceMethod yX5_value, Cond.selects RX5 yX5_value yX5_value, Cond.code yX5_value cX5_value 3 (some .int), Cond.methodLink RX5 115 yX5_isSimple, Cond.instanceMethod yX5_isSimple, Cond.selects RX5 yX5_isSimple yX5_isSimple, Cond.code yX5_isSimple cX5_isSimple 3 (some .boolean), Cond.methodLink RX5 229 yX1_isType, Cond.methodLink RX5 118 yX3_add, Cond.methodLink RL 40 yX6_value, Cond.instanceMethod yX6_value, Cond.selects RX6 yX6_value yX6_value, Cond.code yX6_value cX6_value 4 (some .int), Cond.methodLink RL 41 yX5_row, Cond.instanceMethod yX5_row, Cond.selects RX5 yX5_row yX5_row, Cond.code yX5_row cX5_row 2 (some .int), Cond.methodLink RL 45 yX6_row, Cond.instanceMethod yX6_row, Cond.selects RX6 yX6_row yX6_row, Cond.code yX6_row cX6_row 2 (some .int), Cond.methodLink RL 46 yX5_push]
def wsL_law_r19 : List Cond := [Cond.instanceMethod yX5_push, Cond.selects RX5 yX5_push yX5_push, Cond.code yX5_push cX5_push 3 (some .int), Cond.fieldLink RX5 127 "MarkRules$Values" "numbers" "[I", Cond.fieldLink RX5 134 "MarkRules$Values" "kinds" "[I", Cond.methodLink RX5 121 yX3_isSort, Cond.methodLink RX5 124 yX5_isDoneOrSame, Cond.instanceMethod yX5_isDoneOrSame, Cond.selects RX5 yX5_isDoneOrSame yX5_isDoneOrSame, Cond.code yX5_isDoneOrSame cX5_isDoneOrSame 3 (some .boolean), Cond.methodLink RX5 140 yX3_append, Cond.methodLink RL 49 yX6_push, Cond.instanceMethod yX6_push, Cond.selects RX6 yX6_push yX6_push, Cond.code yX6_push cX6_push 3 (some .int), Cond.methodLink RX6 146 yX6_isSort, Cond.instanceMethod yX6_isSort, Cond.selects RX6 yX6_isSort yX6_isSort, Cond.code yX6_isSort cX6_isSort 3 (some .boolean), Cond.methodLink RL 50 yX5_instance, Cond.instanceMethod yX5_instance, Cond.selects RX5 yX5_instance yX5_instance, Cond.code yX5_instance cX5_instance 3 (some .int), Cond.fieldLink RX5 143 "MarkRules$Marks" "everMade" "[Z"]
def wsL_law_r20 : List Cond := [Cond.methodLink RL 53 yX6_instance, Cond.instanceMethod yX6_instance, Cond.selects RX6 yX6_instance yX6_instance, Cond.code yX6_instance cX6_instance 2 (some .int), Cond.methodLink RL 54 yX5_give, Cond.instanceMethod yX5_give, Cond.selects RX5 yX5_give yX5_give, Cond.code yX5_give cX5_give 7 (some .int), Cond.methodLink RX5 146 yX3_markOf, Cond.methodLink RX5 149 yX0_positionOf, Cond.methodLink RX5 152 yX3_partAt, Cond.methodLink RX5 155 yX3_setElement, Cond.instanceMethod yX3_setElement, Cond.selects RX3 yX3_setElement yX3_setElement, Cond.code yX3_setElement cX3_setElement 4 none, Cond.methodLink RL 57 yX6_give, Cond.instanceMethod yX6_give, Cond.selects RX6 yX6_give yX6_give, Cond.code yX6_give cX6_give 7 (some .int), Cond.methodLink RL 58 yX5_put, Cond.instanceMethod yX5_put, Cond.selects RX5 yX5_put yX5_put, Cond.code yX5_put cX5_put 5 (some .int), Cond.methodLink RX5 159 yX1_has]
def wsL_law_r21 : List Cond := [Cond.methodLink RX5 160 yX5_brokenRule, Cond.instanceMethod yX5_brokenRule, Cond.selects RX5 yX5_brokenRule yX5_brokenRule, Cond.code yX5_brokenRule cX5_brokenRule 6 (some .int), Cond.fieldLink RX5 246 "MarkRules$Marks" "targets" "[I", Cond.methodLink RX5 249 yX1_fittingTargets, Cond.instanceMethod yX1_fittingTargets, Cond.selects RX1 yX1_fittingTargets yX1_fittingTargets, Cond.code yX1_fittingTargets cX1_fittingTargets 2 (some .int), Cond.methodLink RX5 163 yX2_howMany, Cond.instanceMethod yX2_howMany, Cond.selects RX2 yX2_howMany yX2_howMany, Cond.code yX2_howMany cX2_howMany 5 (some .int), Cond.methodLink RX5 166 yX2_add, Cond.instanceMethod yX2_add, Cond.selects RX2 yX2_add yX2_add, Cond.code yX2_add cX2_add 4 none, Cond.methodLink RL 61 yX6_put, Cond.instanceMethod yX6_put, Cond.selects RX6 yX6_put yX6_put, Cond.code yX6_put cX6_put 5 (some .int), Cond.methodLink RX6 207 yX6_standing, Cond.instanceMethod yX6_standing, Cond.selects RX6 yX6_standing yX6_standing]
def wsL_law_r22 : List Cond := [Cond.code yX6_standing cX6_standing 5 (some .int), Cond.methodLink RX6 210 yX6_mayStand, Cond.instanceMethod yX6_mayStand, Cond.selects RX6 yX6_mayStand yX6_mayStand, Cond.code yX6_mayStand cX6_mayStand 5 (some .boolean), Cond.methodLink RL 62 yX5_cause, Cond.instanceMethod yX5_cause, Cond.selects RX5 yX5_cause yX5_cause, Cond.code yX5_cause cX5_cause 1 (some .int), Cond.methodLink RL 66 yX6_cause, Cond.instanceMethod yX6_cause, Cond.selects RX6 yX6_cause yX6_cause, Cond.code yX6_cause cX6_cause 1 (some .int), Cond.methodLink RL 67 yX5_told, Cond.instanceMethod yX5_told, Cond.selects RX5 yX5_told yX5_told, Cond.code yX5_told cX5_told 3 (some .int), Cond.fieldLink RX5 169 "MarkRules$Values" "sorts" "[I", Cond.methodLink RX5 172 yX5_asNumber, Cond.static yX5_asNumber, Cond.code yX5_asNumber cX5_asNumber 1 (some .int), Cond.methodLink RL 70 yX6_told, Cond.instanceMethod yX6_told, Cond.selects RX6 yX6_told yX6_told]
def wsL_law_r23 : List Cond := [Cond.code yX6_told cX6_told 3 (some .int), Cond.methodLink RL 71 yX5_part, Cond.instanceMethod yX5_part, Cond.selects RX5 yX5_part yX5_part, Cond.code yX5_part cX5_part 3 (some .int), Cond.methodLink RX5 176 yX3_inRow, Cond.instanceMethod yX3_inRow, Cond.selects RX3 yX3_inRow yX3_inRow, Cond.code yX3_inRow cX3_inRow 3 (some .int), Cond.methodLink RX5 179 yX3_elementByName, Cond.instanceMethod yX3_elementByName, Cond.selects RX3 yX3_elementByName yX3_elementByName, Cond.code yX3_elementByName cX3_elementByName 4 (some .int), Cond.methodLink RX3 74 yX0_positionOf, Cond.methodLink RL 74 yX6_part, Cond.instanceMethod yX6_part, Cond.selects RX6 yX6_part yX6_part, Cond.code yX6_part cX6_part 4 (some .int), Cond.methodLink RL 75 yX5_equal, Cond.instanceMethod yX5_equal, Cond.selects RX5 yX5_equal yX5_equal, Cond.code yX5_equal cX5_equal 3 (some .int), Cond.methodLink RX5 182 yX3_areEqual, Cond.instanceMethod yX3_areEqual]
def wsL_law_r24 : List Cond := [Cond.selects RX3 yX3_areEqual yX3_areEqual, Cond.code yX3_areEqual cX3_areEqual 4 (some .boolean), Cond.methodLink RX3 95 yX3_haveEqualElements, Cond.instanceMethod yX3_haveEqualElements, Cond.selects RX3 yX3_haveEqualElements yX3_haveEqualElements, Cond.methodLink RX3 99 yX3_haveEqualParts, Cond.instanceMethod yX3_haveEqualParts, Cond.selects RX3 yX3_haveEqualParts yX3_haveEqualParts, Cond.code yX3_haveEqualElements cX3_haveEqualElements 5 (some .boolean), Cond.methodLink RX3 102 yX3_areEqual, Cond.code yX3_haveEqualParts cX3_haveEqualParts 5 (some .boolean), Cond.methodLink RL 78 yX6_equal, Cond.instanceMethod yX6_equal, Cond.selects RX6 yX6_equal yX6_equal, Cond.code yX6_equal cX6_equal 3 (some .int), Cond.methodLink RX6 184 yX6_areEqual, Cond.instanceMethod yX6_areEqual, Cond.selects RX6 yX6_areEqual yX6_areEqual, Cond.code yX6_areEqual cX6_areEqual 7 (some .boolean), Cond.methodLink RX6 181 yX6_isLike, Cond.instanceMethod yX6_isLike, Cond.selects RX6 yX6_isLike yX6_isLike, Cond.code yX6_isLike cX6_isLike 3 (some .boolean), Cond.methodLink RL 79 yX5_written]
def wsL_law_r25 : List Cond := [Cond.instanceMethod yX5_written, Cond.selects RX5 yX5_written yX5_written, Cond.code yX5_written cX5_written 2 (some .int), Cond.methodLink RX5 186 yX4_write, Cond.instanceMethod yX4_write, Cond.selects RX4 yX4_write yX4_write, Cond.code yX4_write cX4_write 2 (some .int), Cond.methodLink RX4 38 yX4_begin, Cond.instanceMethod yX4_begin, Cond.selects RX4 yX4_begin yX4_begin, Cond.code yX4_begin cX4_begin 2 none, Cond.methodLink RX4 42 yX4_writeValue, Cond.instanceMethod yX4_writeValue, Cond.selects RX4 yX4_writeValue yX4_writeValue, Cond.code yX4_writeValue cX4_writeValue 3 none, Cond.fieldLink RX4 52 "MarkRules$Values" "sorts" "[I", Cond.fieldLink RX4 61 "MarkRules$Values" "kinds" "[I", Cond.fieldLink RX4 64 "MarkRules$Values" "numbers" "[I", Cond.methodLink RX4 46 yX3_has, Cond.methodLink RX4 55 yX4_writeRow, Cond.instanceMethod yX4_writeRow, Cond.selects RX4 yX4_writeRow yX4_writeRow, Cond.methodLink RX4 58 yX4_writeInstance, Cond.instanceMethod yX4_writeInstance]
def wsL_law_r26 : List Cond := [Cond.selects RX4 yX4_writeInstance yX4_writeInstance, Cond.methodLink RX4 67 yX4_writeSimple, Cond.instanceMethod yX4_writeSimple, Cond.selects RX4 yX4_writeSimple yX4_writeSimple, Cond.code yX4_writeSimple cX4_writeSimple 3 none, Cond.methodLink RX4 70 yX4_writeByte, Cond.instanceMethod yX4_writeByte, Cond.selects RX4 yX4_writeByte yX4_writeByte, Cond.code yX4_writeByte cX4_writeByte 2 none, Cond.methodLink RX4 82 yX4_writeDigits, Cond.instanceMethod yX4_writeDigits, Cond.selects RX4 yX4_writeDigits yX4_writeDigits, Cond.code yX4_writeDigits cX4_writeDigits 6 none, Cond.methodLink RX4 96 Lib.MathLoose.abs_long.x, Cond.static Lib.MathLoose.abs_long.x, Cond.initialized "java/lang/Math", Cond.code Lib.MathLoose.abs_long.x Lib.MathLoose.abs_long.code 2 (some .long), Cond.constantLong RX4 102 (10), Cond.code yX4_writeInstance cX4_writeInstance 7 none, Cond.fieldLink RX4 85 "MarkRules$Marks" "sizes" "[I", Cond.fieldLink RX4 93 "MarkRules$Marks" "names" "[I", Cond.methodLink RX4 78 yX3_markOf, Cond.methodLink RX4 90 yX3_elementAt, Cond.code yX4_writeRow cX4_writeRow 4 none]
def wsL_law_r27 : List Cond := [Cond.methodLink RX4 74 yX3_partAt, Cond.methodLink RL 82 yX6_written, Cond.instanceMethod yX6_written, Cond.selects RX6 yX6_written yX6_written, Cond.code yX6_written cX6_written 6 (some .int), Cond.fieldLink RX6 187 "MarkRulesModel" "drafted" "I", Cond.fieldLink RX6 204 "MarkRulesModel" "letters" "I", Cond.methodLink RX6 198 yX6_begin, Cond.instanceMethod yX6_begin, Cond.selects RX6 yX6_begin yX6_begin, Cond.code yX6_begin cX6_begin 2 none, Cond.methodLink RX6 190 yX6_write, Cond.instanceMethod yX6_write, Cond.selects RX6 yX6_write yX6_write, Cond.code yX6_write cX6_write 2 none, Cond.methodLink RX6 195 yX6_writeNumber, Cond.instanceMethod yX6_writeNumber, Cond.selects RX6 yX6_writeNumber yX6_writeNumber, Cond.code yX6_writeNumber cX6_writeNumber 6 none, Cond.constantLong RX6 193 (10), Cond.methodLink RX6 201 yX6_isBehind, Cond.instanceMethod yX6_isBehind, Cond.selects RX6 yX6_isBehind yX6_isBehind, Cond.code yX6_isBehind cX6_isBehind 5 (some .boolean)]
def wsL_law_r28 : List Cond := [Cond.methodLink RL 83 yX5_letter, Cond.instanceMethod yX5_letter, Cond.selects RX5 yX5_letter yX5_letter, Cond.code yX5_letter cX5_letter 2 (some .int), Cond.fieldLink RX5 189 "MarkRules$Writer" "length" "I", Cond.fieldLink RX5 192 "MarkRules$Writer" "bytes" "[B", Cond.methodLink RL 86 yX6_letter, Cond.instanceMethod yX6_letter, Cond.selects RX6 yX6_letter yX6_letter, Cond.code yX6_letter cX6_letter 2 (some .int), Cond.methodLink RL 87 yX5_ask, Cond.instanceMethod yX5_ask, Cond.selects RX5 yX5_ask yX5_ask, Cond.code yX5_ask cX5_ask 4 (some .int), Cond.methodLink RX5 196 yX5_foundAt, Cond.instanceMethod yX5_foundAt, Cond.selects RX5 yX5_foundAt yX5_foundAt, Cond.code yX5_foundAt cX5_foundAt 6 (some .int), Cond.methodLink RX5 199 yX5_ownAt, Cond.instanceMethod yX5_ownAt, Cond.selects RX5 yX5_ownAt yX5_ownAt, Cond.code yX5_ownAt cX5_ownAt 4 (some .int), Cond.fieldLink RX5 252 "MarkRules$Marks" "keeps" "[I", Cond.methodLink RX5 255 yX5_gatheredAt]
def wsL_law_r29 : List Cond := [Cond.instanceMethod yX5_gatheredAt, Cond.selects RX5 yX5_gatheredAt yX5_gatheredAt, Cond.code yX5_gatheredAt cX5_gatheredAt 4 (some .int), Cond.methodLink RX5 208 yX2_nth, Cond.instanceMethod yX2_nth, Cond.selects RX2 yX2_nth yX2_nth, Cond.code yX2_nth cX2_nth 6 (some .int), Cond.methodLink RX5 258 yX5_inheritsFrom, Cond.instanceMethod yX5_inheritsFrom, Cond.selects RX5 yX5_inheritsFrom yX5_inheritsFrom, Cond.code yX5_inheritsFrom cX5_inheritsFrom 3 (some .int), Cond.fieldLink RX5 261 "MarkRules$Marks" "inherited" "[Z", Cond.methodLink RX5 264 yX1_parentOf, Cond.instanceMethod yX1_parentOf, Cond.selects RX1 yX1_parentOf yX1_parentOf, Cond.code yX1_parentOf cX1_parentOf 2 (some .int), Cond.methodLink RL 90 yX6_ask, Cond.instanceMethod yX6_ask, Cond.selects RX6 yX6_ask yX6_ask, Cond.code yX6_ask cX6_ask 6 (some .int), Cond.methodLink RX6 216 yX6_own, Cond.instanceMethod yX6_own, Cond.selects RX6 yX6_own yX6_own, Cond.code yX6_own cX6_own 6 (some .int)]
def wsL_law_r30 : List Cond := [Cond.methodLink RX6 213 yX6_stander, Cond.instanceMethod yX6_stander, Cond.selects RX6 yX6_stander yX6_stander, Cond.code yX6_stander cX6_stander 6 (some .int), Cond.methodLink RX6 219 yX6_goesUp, Cond.instanceMethod yX6_goesUp, Cond.selects RX6 yX6_goesUp yX6_goesUp, Cond.code yX6_goesUp cX6_goesUp 3 (some .boolean), Cond.methodLink RL 91 yX5_all, Cond.instanceMethod yX5_all, Cond.selects RX5 yX5_all yX5_all, Cond.code yX5_all cX5_all 4 (some .int), Cond.methodLink RX5 202 yX5_sourceOfAll, Cond.instanceMethod yX5_sourceOfAll, Cond.selects RX5 yX5_sourceOfAll yX5_sourceOfAll, Cond.code yX5_sourceOfAll cX5_sourceOfAll 5 (some .int), Cond.methodLink RX5 205 yX5_howManyHere, Cond.instanceMethod yX5_howManyHere, Cond.selects RX5 yX5_howManyHere yX5_howManyHere, Cond.code yX5_howManyHere cX5_howManyHere 5 (some .int), Cond.methodLink RX5 211 yX5_containerRowAt, Cond.instanceMethod yX5_containerRowAt, Cond.selects RX5 yX5_containerRowAt yX5_containerRowAt, Cond.code yX5_containerRowAt cX5_containerRowAt 5 (some .int)]
def wsL_law_r31 : List Cond := [Cond.methodLink RL 94 yX6_all, Cond.instanceMethod yX6_all, Cond.selects RX6 yX6_all yX6_all, Cond.code yX6_all cX6_all 3 (some .int), Cond.methodLink RX6 228 yX6_whereAll, Cond.instanceMethod yX6_whereAll, Cond.selects RX6 yX6_whereAll yX6_whereAll, Cond.code yX6_whereAll cX6_whereAll 4 (some .int), Cond.methodLink RX6 225 yX6_allAt, Cond.instanceMethod yX6_allAt, Cond.selects RX6 yX6_allAt yX6_allAt, Cond.code yX6_allAt cX6_allAt 5 (some .int), Cond.methodLink RX6 222 yX6_rowAt, Cond.instanceMethod yX6_rowAt, Cond.selects RX6 yX6_rowAt yX6_rowAt, Cond.code yX6_rowAt cX6_rowAt 5 (some .int), Cond.methodLink RL 95 yX5_of, Cond.instanceMethod yX5_of, Cond.selects RX5 yX5_of yX5_of, Cond.code yX5_of cX5_of 5 (some .int), Cond.methodLink RL 98 yX6_of, Cond.instanceMethod yX6_of, Cond.selects RX6 yX6_of yX6_of, Cond.code yX6_of cX6_of 5 (some .int)]
def wsL_law_r32 : List Cond := [Cond.methodLink RL 99 yX5_stands, Cond.instanceMethod yX5_stands, Cond.selects RX5 yX5_stands yX5_stands, Cond.code yX5_stands cX5_stands 2 (some .int), Cond.methodLink RX5 214 yX2_howManyAt, Cond.instanceMethod yX2_howManyAt, Cond.selects RX2 yX2_howManyAt yX2_howManyAt, Cond.code yX2_howManyAt cX2_howManyAt 4 (some .int), Cond.methodLink RL 102 yX6_stands, Cond.instanceMethod yX6_stands, Cond.selects RX6 yX6_stands yX6_stands, Cond.code yX6_stands cX6_stands 4 (some .int), Cond.methodLink RL 103 yX5_count, Cond.instanceMethod yX5_count, Cond.selects RX5 yX5_count yX5_count, Cond.code yX5_count cX5_count 2 (some .int), Cond.fieldLink RX5 217 "MarkRules$Marks" "size" "I", Cond.fieldLink RX5 220 "MarkRules$Places" "size" "I", Cond.fieldLink RX5 221 "MarkRules$Values" "size" "I", Cond.fieldLink RX5 222 "MarkRules$Standing" "size" "I", Cond.methodLink RX5 223 yX5_countOfMark, Cond.instanceMethod yX5_countOfMark, Cond.selects RX5 yX5_countOfMark yX5_countOfMark, Cond.code yX5_countOfMark cX5_countOfMark 2 (some .int)]
def wsL_law_r33 : List Cond := [Cond.fieldLink RX5 226 "MarkRules$Marks" "sizes" "[I", Cond.methodLink RL 106 yX6_count, Cond.instanceMethod yX6_count, Cond.selects RX6 yX6_count yX6_count, Cond.code yX6_count cX6_count 2 (some .int)]
def wsL_law : List Cond := (wsL_law_r1 ++ (wsL_law_r2 ++ (wsL_law_r3 ++ (wsL_law_r4 ++ (wsL_law_r5 ++ (wsL_law_r6 ++ (wsL_law_r7 ++ (wsL_law_r8 ++ (wsL_law_r9 ++ (wsL_law_r10 ++ (wsL_law_r11 ++ (wsL_law_r12 ++ (wsL_law_r13 ++ (wsL_law_r14 ++ (wsL_law_r15 ++ (wsL_law_r16 ++ (wsL_law_r17 ++ (wsL_law_r18 ++ (wsL_law_r19 ++ (wsL_law_r20 ++ (wsL_law_r21 ++ (wsL_law_r22 ++ (wsL_law_r23 ++ (wsL_law_r24 ++ (wsL_law_r25 ++ (wsL_law_r26 ++ (wsL_law_r27 ++ (wsL_law_r28 ++ (wsL_law_r29 ++ (wsL_law_r30 ++ (wsL_law_r31 ++ (wsL_law_r32 ++ wsL_law_r33)))))))))))))))))))))))))))))))) ++ wsX50 ++ wsX60 ++ wsX00 ++ wsX30 ++ wsX10 ++ wsX20 ++ wsX40 ++ ([] : List Cond)
set_option maxRecDepth 20000 in
theorem zg_r1 : GoodIn lw_tbl wsL_law_r1 := goodIn_r _ [74, 75, 65, 662, 663, 72, 76, 77, 78, 79, 80, 81, 82, 83, 66, 152, 153, 68, 257, 259, 189, 190, 69, 258] (by decide +kernel) (by decide +kernel)
set_option maxRecDepth 20000 in
theorem zg_r2 : GoodIn lw_tbl wsL_law_r2 := goodIn_r _ [206, 207, 70, 260, 226, 227, 71, 261, 150, 262, 263, 84, 85, 86, 87, 91, 93, 95, 151, 97, 99, 103, 104, 106] (by decide +kernel) (by decide +kernel)
set_option maxRecDepth 20000 in
theorem zg_r3 : GoodIn lw_tbl wsL_law_r3 := goodIn_r _ [108, 110, 112, 114, 116, 118, 88, 89, 67, 90, 154, 155, 156, 157, 160, 162, 165, 168, 171, 173, 159, 158, 192, 193] (by decide +kernel) (by decide +kernel)
set_option maxRecDepth 20000 in
theorem zg_r4 : GoodIn lw_tbl wsL_law_r4 := goodIn_r _ [194, 195, 197, 198, 209, 210, 211, 212, 214, 215, 216, 228, 229, 230, 231, 256, 234, 236, 238, 239, 240, 232, 233, 664] (by decide +kernel) (by decide +kernel)
set_option maxRecDepth 20000 in
theorem zg_r5 : GoodIn lw_tbl wsL_law_r5 := goodIn_r _ [665, 666, 667, 669, 670, 671, 672, 673, 674, 675, 676, 677, 678, 679, 681, 682, 684, 685, 686, 687, 688, 690, 692, 693] (by decide +kernel) (by decide +kernel)
set_option maxRecDepth 20000 in
theorem zg_r6 : GoodIn lw_tbl wsL_law_r6 := goodIn_r _ [694, 696, 698, 699, 701, 702, 279, 280, 281, 282, 283, 284, 285, 286, 774, 775, 776, 777, 668, 287, 288, 289, 290, 291] (by decide +kernel) (by decide +kernel)
set_option maxRecDepth 20000 in
theorem zg_r7 : GoodIn lw_tbl wsL_law_r7 := goodIn_r _ [292, 293, 294, 295, 296, 297, 298, 299, 300, 301, 302, 303, 304, 305, 306, 307, 308, 309, 310, 311, 312, 313, 314, 315] (by decide +kernel) (by decide +kernel)
set_option maxRecDepth 20000 in
theorem zg_r8 : GoodIn lw_tbl wsL_law_r8 := goodIn_r _ [316, 317, 318, 319, 321, 0, 322, 323, 324, 325, 326, 778, 779, 780, 781, 782, 784, 29, 785, 786, 788, 30, 789, 790] (by decide +kernel) (by decide +kernel)
set_option maxRecDepth 20000 in
theorem zg_r9 : GoodIn lw_tbl wsL_law_r9 := goodIn_r _ [792, 31, 793, 794, 796, 32, 797, 683, 798, 800, 33, 801, 327, 328, 329, 330, 172, 119, 331, 333, 1, 334, 335, 336] (by decide +kernel) (by decide +kernel)
set_option maxRecDepth 20000 in
theorem zg_r10 : GoodIn lw_tbl wsL_law_r10 := goodIn_r _ [337, 338, 339, 340, 341, 342, 343, 344, 346, 2, 353, 355, 3, 347, 348, 349, 350, 351, 352, 356, 357, 358, 359, 360] (by decide +kernel) (by decide +kernel)
set_option maxRecDepth 20000 in
theorem zg_r11 : GoodIn lw_tbl wsL_law_r11 := goodIn_r _ [101, 361, 362, 363, 364, 365, 366, 367, 368, 120, 369, 371, 4, 372, 115, 117, 373, 375, 5, 376, 377, 378, 379, 380] (by decide +kernel) (by decide +kernel)
set_option maxRecDepth 20000 in
theorem zg_r12 : GoodIn lw_tbl wsL_law_r12 := goodIn_r _ [381, 382, 383, 384, 385, 386, 387, 388, 389, 390, 391, 392, 393, 394, 395, 396, 397, 398, 399, 400, 401, 402, 403, 404] (by decide +kernel) (by decide +kernel)
set_option maxRecDepth 20000 in
theorem zg_r13 : GoodIn lw_tbl wsL_law_r13 := goodIn_r _ [405, 870, 871, 872, 873, 850, 852, 40, 853, 874, 876, 45, 877, 691, 878, 880, 46, 881, 882, 884, 47, 885, 886, 888] (by decide +kernel) (by decide +kernel)
set_option maxRecDepth 20000 in
theorem zg_r14 : GoodIn lw_tbl wsL_law_r14 := goodIn_r _ [48, 889, 890, 892, 49, 893, 858, 860, 42, 861, 854, 856, 41, 857, 689, 830, 832, 38, 833, 862, 864, 43, 865, 866] (by decide +kernel) (by decide +kernel)
set_option maxRecDepth 20000 in
theorem zg_r15 : GoodIn lw_tbl wsL_law_r15 := goodIn_r _ [868, 44, 869, 406, 407, 408, 409, 105, 111, 107, 410, 411, 412, 413, 414, 415, 417, 6, 418, 802, 803, 804, 805, 700] (by decide +kernel) (by decide +kernel)
set_option maxRecDepth 20000 in
theorem zg_r16 : GoodIn lw_tbl wsL_law_r16 := goodIn_r _ [806, 808, 34, 809, 419, 420, 421, 422, 423, 424, 425, 426, 427, 429, 7, 430, 431, 432, 433, 434, 435, 436, 437, 438] (by decide +kernel) (by decide +kernel)
set_option maxRecDepth 20000 in
theorem zg_r17 : GoodIn lw_tbl wsL_law_r17 := goodIn_r _ [439, 441, 8, 442, 443, 444, 445, 446, 810, 811, 812, 813, 680, 814, 816, 35, 817, 818, 820, 36, 821, 822, 824, 37] (by decide +kernel) (by decide +kernel)
set_option maxRecDepth 20000 in
theorem zg_r18 : GoodIn lw_tbl wsL_law_r18 := goodIn_r _ [825, 447, 448, 449, 450, 451, 453, 9, 454, 455, 456, 826, 827, 828, 829, 457, 458, 459, 460, 834, 835, 836, 837, 461] (by decide +kernel) (by decide +kernel)
set_option maxRecDepth 20000 in
theorem zg_r19 : GoodIn lw_tbl wsL_law_r19 := goodIn_r _ [462, 463, 464, 170, 167, 465, 466, 468, 10, 469, 470, 842, 843, 844, 845, 846, 848, 39, 849, 471, 472, 473, 474, 109] (by decide +kernel) (by decide +kernel)
set_option maxRecDepth 20000 in
theorem zg_r20 : GoodIn lw_tbl wsL_law_r20 := goodIn_r _ [838, 839, 840, 841, 475, 476, 477, 478, 479, 480, 481, 482, 483, 484, 485, 894, 895, 896, 897, 486, 487, 488, 489, 490] (by decide +kernel) (by decide +kernel)
set_option maxRecDepth 20000 in
theorem zg_r21 : GoodIn lw_tbl wsL_law_r21 := goodIn_r _ [491, 493, 11, 494, 94, 495, 496, 497, 498, 501, 502, 503, 504, 505, 506, 507, 508, 943, 944, 945, 946, 947, 949, 56] (by decide +kernel) (by decide +kernel)
set_option maxRecDepth 20000 in
theorem zg_r22 : GoodIn lw_tbl wsL_law_r22 := goodIn_r _ [950, 951, 953, 57, 954, 509, 510, 511, 512, 995, 996, 997, 998, 513, 514, 515, 516, 164, 517, 518, 519, 910, 911, 912] (by decide +kernel) (by decide +kernel)
set_option maxRecDepth 20000 in
theorem zg_r23 : GoodIn lw_tbl wsL_law_r23 := goodIn_r _ [913, 520, 521, 522, 523, 524, 525, 526, 527, 528, 529, 530, 531, 532, 914, 915, 916, 917, 533, 534, 535, 536, 537, 538] (by decide +kernel) (by decide +kernel)
set_option maxRecDepth 20000 in
theorem zg_r24 : GoodIn lw_tbl wsL_law_r24 := goodIn_r _ [539, 540, 541, 543, 12, 546, 548, 13, 544, 545, 549, 898, 899, 900, 901, 902, 904, 50, 905, 906, 908, 51, 909, 550] (by decide +kernel) (by decide +kernel)
set_option maxRecDepth 20000 in
theorem zg_r25 : GoodIn lw_tbl wsL_law_r25 := goodIn_r _ [551, 552, 553, 554, 555, 556, 557, 558, 560, 14, 561, 562, 564, 15, 565, 163, 166, 169, 566, 567, 569, 16, 576, 578] (by decide +kernel) (by decide +kernel)
set_option maxRecDepth 20000 in
theorem zg_r26 : GoodIn lw_tbl wsL_law_r26 := goodIn_r _ [18, 590, 592, 20, 593, 571, 573, 17, 574, 581, 583, 19, 584, 585, 586, 73, 587, 588, 579, 100, 113, 580, 589, 570] (by decide +kernel) (by decide +kernel)
set_option maxRecDepth 20000 in
theorem zg_r27 : GoodIn lw_tbl wsL_law_r27 := goodIn_r _ [575, 918, 919, 920, 921, 697, 695, 922, 924, 52, 925, 926, 928, 53, 929, 930, 932, 54, 933, 934, 935, 937, 55, 938] (by decide +kernel) (by decide +kernel)
set_option maxRecDepth 20000 in
theorem zg_r28 : GoodIn lw_tbl wsL_law_r28 := goodIn_r _ [594, 595, 596, 597, 237, 235, 939, 940, 941, 942, 598, 599, 600, 601, 602, 604, 21, 605, 606, 608, 22, 609, 96, 610] (by decide +kernel) (by decide +kernel)
set_option maxRecDepth 20000 in
theorem zg_r29 : GoodIn lw_tbl wsL_law_r29 := goodIn_r _ [612, 23, 613, 614, 615, 616, 617, 618, 620, 24, 621, 98, 622, 623, 624, 625, 955, 956, 957, 958, 959, 961, 58, 962] (by decide +kernel) (by decide +kernel)
set_option maxRecDepth 20000 in
theorem zg_r30 : GoodIn lw_tbl wsL_law_r30 := goodIn_r _ [963, 965, 59, 966, 967, 969, 60, 970, 626, 627, 628, 629, 630, 632, 25, 633, 634, 636, 26, 637, 638, 640, 27, 641] (by decide +kernel) (by decide +kernel)
set_option maxRecDepth 20000 in
theorem zg_r31 : GoodIn lw_tbl wsL_law_r31 := goodIn_r _ [971, 972, 973, 974, 975, 977, 61, 978, 979, 981, 62, 982, 983, 985, 63, 986, 642, 643, 644, 645, 987, 988, 989, 990] (by decide +kernel) (by decide +kernel)
set_option maxRecDepth 20000 in
theorem zg_r32 : GoodIn lw_tbl wsL_law_r32 := goodIn_r _ [646, 647, 648, 649, 650, 651, 652, 653, 991, 992, 993, 994, 654, 655, 656, 657, 92, 196, 161, 213, 658, 660, 28, 661] (by decide +kernel) (by decide +kernel)
set_option maxRecDepth 20000 in
theorem zg_r33 : GoodIn lw_tbl wsL_law_r33 := goodIn_r _ [102, 999, 1000, 1001, 1002] (by decide +kernel) (by decide +kernel)
set_option maxRecDepth 20000 in
theorem zg_X0 : GoodIn lw_tbl wsX00 := goodIn_r _ [121, 123, 125, 127, 129, 131, 133, 135, 137, 139, 141, 143, 145, 147] (by decide +kernel) (by decide +kernel)
set_option maxRecDepth 20000 in
theorem zg_X1 : GoodIn lw_tbl wsX10 := goodIn_r _ [199, 201, 203] (by decide +kernel) (by decide +kernel)
set_option maxRecDepth 20000 in
theorem zg_X2 : GoodIn lw_tbl wsX20 := goodIn_r _ [217, 219, 221, 223] (by decide +kernel) (by decide +kernel)
set_option maxRecDepth 20000 in
theorem zg_X3 : GoodIn lw_tbl wsX30 := goodIn_r _ [174, 176, 178, 180, 182, 184, 186] (by decide +kernel) (by decide +kernel)
set_option maxRecDepth 20000 in
theorem zg_X4 : GoodIn lw_tbl wsX40 := goodIn_r _ [241, 243, 245, 247, 249, 251, 253] (by decide +kernel) (by decide +kernel)
set_option maxRecDepth 20000 in
theorem zg_X5 : GoodIn lw_tbl wsX50 := goodIn_r _ [264, 266, 268, 270, 272, 274, 276] (by decide +kernel) (by decide +kernel)
set_option maxRecDepth 20000 in
theorem zg_X6 : GoodIn lw_tbl wsX60 := goodIn_r _ [703, 705, 707, 709, 711, 713, 715, 717, 719, 721, 723, 725, 727, 729, 731, 733, 735, 737, 739, 741, 743, 745, 747, 749, 751, 753, 755, 757, 759, 761, 763, 765, 767, 769, 771] (by decide +kernel) (by decide +kernel)
theorem zT_good : GoodIn lw_tbl wsL_law := goodIn_app (goodIn_app (goodIn_app (goodIn_app (goodIn_app (goodIn_app (goodIn_app (goodIn_app (goodIn_app zg_r1 (goodIn_app zg_r2 (goodIn_app zg_r3 (goodIn_app zg_r4 (goodIn_app zg_r5 (goodIn_app zg_r6 (goodIn_app zg_r7 (goodIn_app zg_r8 (goodIn_app zg_r9 (goodIn_app zg_r10 (goodIn_app zg_r11 (goodIn_app zg_r12 (goodIn_app zg_r13 (goodIn_app zg_r14 (goodIn_app zg_r15 (goodIn_app zg_r16 (goodIn_app zg_r17 (goodIn_app zg_r18 (goodIn_app zg_r19 (goodIn_app zg_r20 (goodIn_app zg_r21 (goodIn_app zg_r22 (goodIn_app zg_r23 (goodIn_app zg_r24 (goodIn_app zg_r25 (goodIn_app zg_r26 (goodIn_app zg_r27 (goodIn_app zg_r28 (goodIn_app zg_r29 (goodIn_app zg_r30 (goodIn_app zg_r31 (goodIn_app zg_r32 zg_r33)))))))))))))))))))))))))))))))) zg_X5) zg_X6) zg_X0) zg_X3) zg_X1) zg_X2) zg_X4) (fun w h => absurd h List.not_mem_nil)
theorem wsL_law_in : ∀ w ∈ wsL_law, w ∈ lw_tbl := fun w h => (zT_good w h).1
theorem inlX0 : ∀ w ∈ wsX00, w ∈ wsL_law := fun _ h => List.mem_append_left _ (List.mem_append_left _ (List.mem_append_left _ (List.mem_append_left _ (List.mem_append_left _ (List.mem_append_right _ h)))))
theorem inX0 : ∀ w ∈ wsX00, w ∈ lw_tbl := fun w h => wsL_law_in w (inlX0 w h)
theorem inlX1 : ∀ w ∈ wsX10, w ∈ wsL_law := fun _ h => List.mem_append_left _ (List.mem_append_left _ (List.mem_append_left _ (List.mem_append_right _ h)))
theorem inX1 : ∀ w ∈ wsX10, w ∈ lw_tbl := fun w h => wsL_law_in w (inlX1 w h)
theorem inlX2 : ∀ w ∈ wsX20, w ∈ wsL_law := fun _ h => List.mem_append_left _ (List.mem_append_left _ (List.mem_append_right _ h))
theorem inX2 : ∀ w ∈ wsX20, w ∈ lw_tbl := fun w h => wsL_law_in w (inlX2 w h)
theorem inlX3 : ∀ w ∈ wsX30, w ∈ wsL_law := fun _ h => List.mem_append_left _ (List.mem_append_left _ (List.mem_append_left _ (List.mem_append_left _ (List.mem_append_right _ h))))
theorem inX3 : ∀ w ∈ wsX30, w ∈ lw_tbl := fun w h => wsL_law_in w (inlX3 w h)
theorem inlX4 : ∀ w ∈ wsX40, w ∈ wsL_law := fun _ h => List.mem_append_left _ (List.mem_append_right _ h)
theorem inX4 : ∀ w ∈ wsX40, w ∈ lw_tbl := fun w h => wsL_law_in w (inlX4 w h)
theorem inlX5 : ∀ w ∈ wsX50, w ∈ wsL_law := fun _ h => List.mem_append_left _ (List.mem_append_left _ (List.mem_append_left _ (List.mem_append_left _ (List.mem_append_left _ (List.mem_append_left _ (List.mem_append_left _ (List.mem_append_right _ h)))))))
theorem inX5 : ∀ w ∈ wsX50, w ∈ lw_tbl := fun w h => wsL_law_in w (inlX5 w h)
theorem inlX6 : ∀ w ∈ wsX60, w ∈ wsL_law := fun _ h => List.mem_append_left _ (List.mem_append_left _ (List.mem_append_left _ (List.mem_append_left _ (List.mem_append_left _ (List.mem_append_left _ (List.mem_append_right _ h))))))
theorem inX6 : ∀ w ∈ wsX60, w ∈ lw_tbl := fun w h => wsL_law_in w (inlX6 w h)
abbrev vwCl : List vw_C := [(RX0, TX0, 14), (RX1, TX1, 3), (RX2, TX2, 4), (RX3, TX3, 7), (RX4, TX4, 7), (RX5, TX5, 7), (RX6, TX6, 35)]
end
section
/-! A small machine over abstract cells: heap positions stand for addresses, no cell is made. zex runs a method's instructions from a place, zcall a method from its entry. What it answers, the Java machine answers (part 12). A reference .ref k with k < 1000 is the cell at position k, one from 1000 on a table that nobody writes. -/
abbrev zE : Type := (Nat × vp_A) ⊕ (Nat × List Value)
abbrev zH : Type := List zE
abbrev zO : Type := Option (Option Value × zH)
abbrev zCal : Type := Nat → List Value → zH → zO
abbrev zI : Type := Jvm.ClassFile.Instr
/-- is an index in its row -/
def zin (i : Int32) (n : Nat) : Bool := !(decide (i < 0)) && decide (i.toNatClampNeg < n)
theorem zin_vp {i : Int32} {n : Nat} (h : zin i n = true) : vp_in i n := by
  simp only [zin, Bool.and_eq_true, Bool.not_eq_true', decide_eq_false_iff_not, decide_eq_true_eq] at h
  rintro (q | q)
  · exact h.1 q
  · exact absurd h.2 (Nat.not_lt.mpr q)
/-- where a jump goes -/
def zto (pc : Nat) (off : Int) : Nat := ((pc : Int) + off).toNat
def ztok (pc : Nat) (off : Int) : Bool := decide (0 ≤ (pc : Int) + off)
theorem zto_ok {pc : Nat} {off : Int} (h : ztok pc off = true) : (pc : Int) + off = (zto pc off : Int) := by
  simp only [ztok, decide_eq_true_eq] at h
  simp only [zto]
  omega
/-- which way of a switch -/
def zki (n : Int) : Int32 := Int32.ofInt n
def zkb (n : Int) : Int32 := (Int8.ofInt n).toInt32
def zks (n : Int) : Int32 := (Int16.ofInt n).toInt32
def zsw (pc : Nat) : List (Int × Int) → Int → Int32 → Nat
  | [], d, _ => zto pc d
  | (k, o) :: r, d, x => if x = zki k then zto pc o else zsw pc r d x
/-- a table's ways as pairs -/
def ztp : Int → List Int → List (Int × Int)
  | _, [] => []
  | k, o :: r => (k, o) :: ztp (k + 1) r
/-- locals: a place that holds nothing known holds .retAddr -/
def zkn : Value → Bool
  | .retAddr _ => false
  | _ => true
def zc2 : Value → Bool
  | .long _ => true
  | .double _ => true
  | _ => false
/-- no long begins at the place ahead -/
def zfree (lv : List Value) : Nat → Bool
  | 0 => true
  | i + 1 => match lv[i]? with
    | some v => !(zc2 v)
    | none => true
def zst1 (lv : List Value) (i : Nat) (v : Value) : Option (List Value) := if (zfree lv i && decide (i < lv.length)) = true then some (lv.set i v) else none
def zst2 (lv : List Value) (i : Nat) (v : Value) : Option (List Value) := if (zfree lv i && decide (i + 1 < lv.length)) = true then some ((lv.set i v).set (i + 1) (.retAddr 0)) else none
def zcmp : Jvm.ClassFile.Cond → Int32 → Int32 → Nat → Nat → Nat
  | .eq, x, y, t, f => if x = y then t else f
  | .ne, x, y, t, f => if x = y then f else t
  | .lt, x, y, t, f => if x < y then t else f
  | .ge, x, y, t, f => if x < y then f else t
  | .gt, x, y, t, f => if y < x then t else f
  | .le, x, y, t, f => if y < x then f else t
/-- a cell that is an object of class ci; an array of ints (tag 0), of booleans (1), of bytes (2) -/
def zobj (h : zH) (k ci : Nat) : Option (List Value) := match h[k]? with
  | some (.inr (c, fs)) => if c = ci then some fs else none
  | _ => none
def zarr (h : zH) (k t : Nat) : Option (Nat × (Nat → Int32)) := match h[k]? with
  | some (.inl (t', n, .inl f)) => if t' = t then some (n, f) else none
  | _ => none
theorem zobj_ok {h : zH} {k ci : Nat} {fs : List Value} (q : zobj h k ci = some fs) : h[k]? = some (.inr (ci, fs)) := by
  unfold zobj at q
  split at q
  · rename_i c fs' hk
    split at q
    · rename_i hc
      cases q
      rw [hk, hc]
    · cases q
  · cases q
theorem zarr_ok {h : zH} {k t : Nat} {nf : Nat × (Nat → Int32)} (q : zarr h k t = some nf) : h[k]? = some (.inl (t, nf.1, .inl nf.2)) := by
  unfold zarr at q
  split at q
  · rename_i t' n f hk
    split at q
    · rename_i hc
      cases q
      rw [hk, hc]
    · cases q
  · cases q
/-- an array of booleans or of bytes -/
def zbar (h : zH) (k : Nat) : Option (Nat × Nat × (Nat → Int32)) := match zarr h k 1 with
  | some nf => some (1, nf)
  | none => match zarr h k 2 with
    | some nf => some (2, nf)
    | none => none
def zbn (t : Nat) (x : Int32) : Int32 := if t = 1 then vp_nar .boolean x else vp_nar .byte x
/-- an array that is read: a cell, or a table -/
def zrd (tb : Nat → Option (Nat × (Nat → Int32))) (h : zH) (k : Nat) : Option (Nat × (Nat → Int32)) := if k < 1000 then zarr h k 0 else tb (k - 1000)
def zlenA (tb : Nat → Option (Nat × (Nat → Int32))) (h : zH) (k : Nat) : Option Nat := if k < 1000 then (match h[k]? with
  | some (.inl (t, n, .inl _)) => if t < 3 then some n else none
  | _ => none) else (tb (k - 1000)).map (fun nf => nf.1)
def zfit (ty : Nat) (x : Int32) : Bool := decide (ty = 0) || (decide (ty = 1) && (x == 0 || x == 1))
def zsum (l : List Value) : Nat := (l.map fun v => v.category).sum
abbrev zT4 : Type := Option (Nat × List Value × List Value × zH)
def zlook {α : Type} : List (Nat × α) → Nat → Option α
  | [], _ => none
  | (k, v) :: r, i => cond (Nat.beq k i) (some v) (zlook r i)
theorem zlook_mem {α : Type} : ∀ {l : List (Nat × α)} {i : Nat} {v : α}, zlook l i = some v → (i, v) ∈ l
  | [], _, _, h => by cases h
  | (k, w) :: r, i, v, h => by
    unfold zlook at h
    cases hb : Nat.beq k i with
    | true =>
      rw [hb] at h
      have hk : k = i := Nat.eq_of_beq_eq_true hb
      cases h
      rw [hk]
      exact List.mem_cons_self
    | false =>
      rw [hb] at h
      exact List.mem_cons_of_mem _ (zlook_mem h)
/-- a method's code in pieces: each with a bound above its places -/
abbrev zCd : Type := List (Nat × List (Nat × zI × Nat))
def zfe : zCd → Nat → Option (zI × Nat)
  | [], _ => none
  | (u, l) :: r, i => cond (Nat.blt i u) (zlook l i) (zfe r i)
theorem zfe_mem : ∀ {cd : zCd} {i : Nat} {v : zI × Nat}, zfe cd i = some v → ∃ q ∈ cd, (i, v) ∈ q.2
  | [], _, _, h => by cases h
  | (u, l) :: r, i, v, h => by
    unfold zfe at h
    cases hb : Nat.blt i u with
    | true =>
      rw [hb] at h
      exact ⟨(u, l), List.mem_cons_self, zlook_mem h⟩
    | false =>
      rw [hb] at h
      obtain ⟨q, h1, h2⟩ := zfe_mem (cd := r) h
      exact ⟨q, List.mem_cons_of_mem _ h1, h2⟩
/-- the lengths of the instructions, and jumps that stay at places -/
def zlo (e : Nat × zI × Nat) : Bool := match e.2.1 with
  | .iload_n _ | .aload_n _ | .iconst _ | .iaload | .ireturn | .iadd | .istore_n _ | .iastore | .isub | .baload | .imul | .return_ | .dup | .dup2 | .bastore | .lload_n _ | .iand | .lstore_n _ | .lconst _ | .lcmp | .ishl | .ior | .i2l | .lrem | .lneg | .ldiv | .l2i | .ixor | .arraylength | .pop | .i2b => decide (e.2.2 = 1)
  | .iload _ | .bipush _ | .istore _ => decide (e.2.2 = 2)
  | .getfield _ | .putfield _ | .invokevirtual _ | .invokestatic _ | .sipush _ | .ldc2_w _ | .getstatic _ | .iinc _ _ => decide (e.2.2 = 3)
  | .if_icmp _ off | .ifCond _ off | .goto off => decide (e.2.2 = 3) && ztok e.1 off
  | .tableswitch d lo hi offs => ztok e.1 d && offs.toList.all (ztok e.1) && decide (hi = lo + offs.toList.length - 1) && decide (-1000 ≤ lo) && decide (hi ≤ 1000)
  | .lookupswitch d ps => ztok e.1 d && ps.toList.all (fun q => ztok e.1 q.2 && decide (-1000 ≤ q.1) && decide (q.1 ≤ 1000)) && (ps.toList.zip (ps.toList.drop 1)).all (fun (a, next) => a.1 < next.1)
  | _ => false
def zR : Nat → String
  | 0 => RX0
  | 1 => RX1
  | 2 => RX2
  | 3 => RX3
  | 4 => RX4
  | 5 => RX5
  | 6 => RX6
  | 7 => RL
  | _ => RJ7
/-- what a method gives back: 0 nothing, 1 an int, 2 a boolean -/
def zrt : Nat → Option FieldType
  | 0 => none
  | 1 => some .int
  | _ => some .boolean
/-- a method: its class, what it gives, its locals, its code; its name and bytes -/
abbrev zMe : Type := (Nat × Nat × Nat × zCd) × (MethodName × ByteArray × Option FieldType)
def zP (e : zMe) : Prop := (∀ q ∈ e.1.2.2.2, ∀ x ∈ q.2, decode e.2.2.1 x.1 = .ok x.2 ∧ zlo x = true) ∧ Cond.code e.2.1 e.2.2.1 e.1.2.2.1 e.2.2.2 ∈ wsL_law ∧ plainName e.2.1.cls = true ∧ e.2.2.2 = zrt e.1.2.1 ∧ e.2.1.cls = zR e.1.1 ∧ (e.2.1.cls ≠ "java/lang/invoke/MethodHandle" ∧ e.2.1.cls ≠ "java/lang/invoke/VarHandle") ∧ e.1.2.2.1 ≤ 20
end
section
/-! THE TABLES of the small machine, by program out of the printed names (gen1.py): code, links, fields. -/
def zk_X0_has : zCd := [(6, [(0, .iload_n 1, 1), (1, .ifCond .lt 15, 3), (4, .iload_n 1, 1), (5, .aload_n 0, 1)]), (14, [(6, .getfield 9, 3), (9, .if_icmp .ge 7, 3), (12, .iconst 1, 1), (13, .goto 4, 3)]), (18, [(16, .iconst 0, 1), (17, .ireturn, 1)])]
set_option maxRecDepth 20000 in
theorem zkd_X0_has : ∀ q ∈ zk_X0_has, ∀ e ∈ q.2, decode cX0_has e.1 = .ok e.2 ∧ zlo e = true := by decide +kernel
def zm_X0_has : zMe := ((0, 2, 2, zk_X0_has), (yX0_has, cX0_has, (some .boolean)))
set_option maxRecDepth 20000 in
theorem zp_X0_has : zP zm_X0_has := ⟨zkd_X0_has, List.mem_of_getElem? (i := 146) rfl, by decide +kernel, rfl, rfl, by decide +kernel, by decide +kernel⟩
def zk_X0_hasKind : zCd := [(6, [(0, .iload_n 1, 1), (1, .ifCond .lt 8, 3), (4, .iload_n 1, 1), (5, .iconst 3, 1)]), (12, [(6, .if_icmp .le 14, 3), (9, .aload_n 0, 1), (10, .iload_n 1, 1), (11, .bipush 10, 2)]), (21, [(13, .isub, 1), (14, .invokevirtual 62, 3), (17, .ifCond .eq 7, 3), (20, .iconst 1, 1)]), (26, [(21, .goto 4, 3), (24, .iconst 0, 1), (25, .ireturn, 1)])]
set_option maxRecDepth 20000 in
theorem zkd_X0_hasKind : ∀ q ∈ zk_X0_hasKind, ∀ e ∈ q.2, decode cX0_hasKind e.1 = .ok e.2 ∧ zlo e = true := by decide +kernel
def zm_X0_hasKind : zMe := ((0, 2, 2, zk_X0_hasKind), (yX0_hasKind, cX0_hasKind, (some .boolean)))
set_option maxRecDepth 20000 in
theorem zp_X0_hasKind : zP zm_X0_hasKind := ⟨zkd_X0_hasKind, List.mem_of_getElem? (i := 150) rfl, by decide +kernel, rfl, rfl, by decide +kernel, by decide +kernel⟩
def zk_X0_add : zCd := [(10, [(0, .aload_n 0, 1), (1, .getfield 9, 3), (4, .bipush 12, 2), (6, .if_icmp .lt 6, 3), (9, .bipush (-3), 2)]), (18, [(11, .ireturn, 1), (12, .aload_n 0, 1), (13, .getfield 15, 3), (16, .aload_n 0, 1), (17, .getfield 9, 3)]), (27, [(20, .iload_n 1, 1), (21, .iastore, 1), (22, .aload_n 0, 1), (23, .getfield 19, 3), (26, .aload_n 0, 1)]), (34, [(27, .getfield 9, 3), (30, .iload_n 2, 1), (31, .iastore, 1), (32, .aload_n 0, 1), (33, .getfield 22, 3)]), (43, [(36, .aload_n 0, 1), (37, .getfield 9, 3), (40, .iload_n 3, 1), (41, .bastore, 1), (42, .aload_n 0, 1)]), (50, [(43, .dup, 1), (44, .getfield 9, 3), (47, .iconst 1, 1), (48, .iadd, 1), (49, .putfield 9, 3)]), (59, [(52, .aload_n 0, 1), (53, .getfield 9, 3), (56, .iconst 1, 1), (57, .isub, 1), (58, .ireturn, 1)])]
set_option maxRecDepth 20000 in
theorem zkd_X0_add : ∀ q ∈ zk_X0_add, ∀ e ∈ q.2, decode cX0_add e.1 = .ok e.2 ∧ zlo e = true := by decide +kernel
def zm_X0_add : zMe := ((0, 1, 4, zk_X0_add), (yX0_add, cX0_add, (some .int)))
set_option maxRecDepth 20000 in
theorem zp_X0_add : zP zm_X0_add := ⟨zkd_X0_add, List.mem_of_getElem? (i := 133) rfl, by decide +kernel, rfl, rfl, by decide +kernel, by decide +kernel⟩
def zk_X0_addElement : zCd := [(11, [(0, .aload_n 0, 1), (1, .getfield 26, 3), (4, .iload_n 1, 1), (5, .iaload, 1), (6, .iconst 5, 1), (7, .if_icmp .lt 6, 3), (10, .bipush (-3), 2)]), (21, [(12, .ireturn, 1), (13, .iload_n 1, 1), (14, .iconst 5, 1), (15, .imul, 1), (16, .aload_n 0, 1), (17, .getfield 26, 3), (20, .iload_n 1, 1)]), (32, [(21, .iaload, 1), (22, .iadd, 1), (23, .istore 5, 2), (25, .aload_n 0, 1), (26, .getfield 44, 3), (29, .iload 5, 2), (31, .iload_n 2, 1)]), (42, [(32, .iastore, 1), (33, .aload_n 0, 1), (34, .getfield 47, 3), (37, .iload 5, 2), (39, .iload_n 3, 1), (40, .iastore, 1), (41, .aload_n 0, 1)]), (55, [(42, .getfield 50, 3), (45, .iload 5, 2), (47, .iload 4, 2), (49, .bastore, 1), (50, .aload_n 0, 1), (51, .getfield 29, 3), (54, .iload_n 1, 1)]), (64, [(55, .dup2, 1), (56, .iaload, 1), (57, .iload_n 3, 1), (58, .invokestatic 66, 3), (61, .ior, 1), (62, .iastore, 1), (63, .aload_n 0, 1)]), (73, [(64, .getfield 26, 3), (67, .iload_n 1, 1), (68, .dup2, 1), (69, .iaload, 1), (70, .iconst 1, 1), (71, .iadd, 1), (72, .iastore, 1)]), (80, [(73, .aload_n 0, 1), (74, .getfield 26, 3), (77, .iload_n 1, 1), (78, .iaload, 1), (79, .ireturn, 1)])]
set_option maxRecDepth 20000 in
theorem zkd_X0_addElement : ∀ q ∈ zk_X0_addElement, ∀ e ∈ q.2, decode cX0_addElement e.1 = .ok e.2 ∧ zlo e = true := by decide +kernel
def zm_X0_addElement : zMe := ((0, 1, 6, zk_X0_addElement), (yX0_addElement, cX0_addElement, (some .int)))
set_option maxRecDepth 20000 in
theorem zp_X0_addElement : zP zm_X0_addElement := ⟨zkd_X0_addElement, List.mem_of_getElem? (i := 178) rfl, by decide +kernel, rfl, rfl, by decide +kernel, by decide +kernel⟩
def zk_X0_positionOf : zCd := [(9, [(0, .aload_n 0, 1), (1, .iload_n 1, 1), (2, .invokevirtual 62, 3), (5, .ifCond .ne 5, 3), (8, .iconst (-1), 1)]), (14, [(9, .ireturn, 1), (10, .iconst 0, 1), (11, .istore_n 3, 1), (12, .iload_n 3, 1), (13, .aload_n 0, 1)]), (23, [(14, .getfield 26, 3), (17, .iload_n 1, 1), (18, .iaload, 1), (19, .if_icmp .ge 25, 3), (22, .aload_n 0, 1)]), (30, [(23, .getfield 44, 3), (26, .iload_n 1, 1), (27, .iconst 5, 1), (28, .imul, 1), (29, .iload_n 3, 1)]), (37, [(30, .iadd, 1), (31, .iaload, 1), (32, .iload_n 2, 1), (33, .if_icmp .ne 5, 3), (36, .iload_n 3, 1)]), (46, [(37, .ireturn, 1), (38, .iinc 3 1, 3), (41, .goto (-29), 3), (44, .iconst (-1), 1), (45, .ireturn, 1)])]
set_option maxRecDepth 20000 in
theorem zkd_X0_positionOf : ∀ q ∈ zk_X0_positionOf, ∀ e ∈ q.2, decode cX0_positionOf e.1 = .ok e.2 ∧ zlo e = true := by decide +kernel
def zm_X0_positionOf : zMe := ((0, 1, 4, zk_X0_positionOf), (yX0_positionOf, cX0_positionOf, (some .int)))
set_option maxRecDepth 20000 in
theorem zp_X0_positionOf : zP zm_X0_positionOf := ⟨zkd_X0_positionOf, List.mem_of_getElem? (i := 159) rfl, by decide +kernel, rfl, rfl, by decide +kernel, by decide +kernel⟩
def zk_X0_slotOf : zCd := [(4, [(0, .aload_n 0, 1), (1, .iload_n 1, 1), (2, .iload_n 2, 1), (3, .invokevirtual 70, 3)]), (10, [(6, .istore_n 3, 1), (7, .iload_n 3, 1), (8, .iconst (-1), 1), (9, .if_icmp .ne 7, 3)]), (18, [(12, .iconst (-1), 1), (13, .goto 8, 3), (16, .iload_n 1, 1), (17, .iconst 5, 1)]), (22, [(18, .imul, 1), (19, .iload_n 3, 1), (20, .iadd, 1), (21, .ireturn, 1)])]
set_option maxRecDepth 20000 in
theorem zkd_X0_slotOf : ∀ q ∈ zk_X0_slotOf, ∀ e ∈ q.2, decode cX0_slotOf e.1 = .ok e.2 ∧ zlo e = true := by decide +kernel
def zm_X0_slotOf : zMe := ((0, 1, 4, zk_X0_slotOf), (yX0_slotOf, cX0_slotOf, (some .int)))
set_option maxRecDepth 20000 in
theorem zp_X0_slotOf : zP zm_X0_slotOf := ⟨zkd_X0_slotOf, List.mem_of_getElem? (i := 155) rfl, by decide +kernel, rfl, rfl, by decide +kernel, by decide +kernel⟩
def zk_X0_isFixed : zCd := [(6, [(0, .aload_n 0, 1), (1, .getfield 38, 3), (4, .iload_n 1, 1), (5, .baload, 1)]), (14, [(6, .ifCond .ne 23, 3), (9, .aload_n 0, 1), (10, .getfield 32, 3), (13, .iload_n 1, 1)]), (20, [(14, .iaload, 1), (15, .iconst (-1), 1), (16, .if_icmp .ne 13, 3), (19, .aload_n 0, 1)]), (26, [(20, .getfield 35, 3), (23, .iload_n 1, 1), (24, .iaload, 1), (25, .iconst (-1), 1)]), (34, [(26, .if_icmp .eq 7, 3), (29, .iconst 1, 1), (30, .goto 4, 3), (33, .iconst 0, 1)]), (35, [(34, .ireturn, 1)])]
set_option maxRecDepth 20000 in
theorem zkd_X0_isFixed : ∀ q ∈ zk_X0_isFixed, ∀ e ∈ q.2, decode cX0_isFixed e.1 = .ok e.2 ∧ zlo e = true := by decide +kernel
def zm_X0_isFixed : zMe := ((0, 2, 2, zk_X0_isFixed), (yX0_isFixed, cX0_isFixed, (some .boolean)))
set_option maxRecDepth 20000 in
theorem zp_X0_isFixed : zP zm_X0_isFixed := ⟨zkd_X0_isFixed, List.mem_of_getElem? (i := 163) rfl, by decide +kernel, rfl, rfl, by decide +kernel, by decide +kernel⟩
def zk_X0_leadOf : zCd := [(7, [(0, .iload_n 0, 1), (1, .bipush 10, 2), (3, .if_icmp .lt 12, 3), (6, .iconst 1, 1)]), (12, [(7, .iload_n 0, 1), (8, .bipush 10, 2), (10, .isub, 1), (11, .ishl, 1)]), (17, [(12, .goto 4, 3), (15, .iconst 0, 1), (16, .ireturn, 1)])]
set_option maxRecDepth 20000 in
theorem zkd_X0_leadOf : ∀ q ∈ zk_X0_leadOf, ∀ e ∈ q.2, decode cX0_leadOf e.1 = .ok e.2 ∧ zlo e = true := by decide +kernel
def zm_X0_leadOf : zMe := ((0, 1, 1, zk_X0_leadOf), (yX0_leadOf, cX0_leadOf, (some .int)))
set_option maxRecDepth 20000 in
theorem zp_X0_leadOf : zP zm_X0_leadOf := ⟨zkd_X0_leadOf, List.mem_of_getElem? (i := 170) rfl, by decide +kernel, rfl, rfl, by decide +kernel, by decide +kernel⟩
def zk_X0_wouldLeadTooFar : zCd := [(8, [(0, .aload_n 0, 1), (1, .getfield 29, 3), (4, .iload_n 1, 1), (5, .iaload, 1), (6, .istore_n 3, 1), (7, .aload_n 0, 1)]), (16, [(8, .getfield 29, 3), (11, .iload_n 1, 1), (12, .dup2, 1), (13, .iaload, 1), (14, .iload_n 2, 1), (15, .invokestatic 66, 3)]), (26, [(18, .ior, 1), (19, .iastore, 1), (20, .iconst 1, 1), (21, .aload_n 0, 1), (22, .getfield 9, 3), (25, .ishl, 1)]), (34, [(26, .iconst 1, 1), (27, .isub, 1), (28, .istore 4, 2), (30, .iconst 0, 1), (31, .istore 5, 2), (33, .iload 5, 2)]), (46, [(35, .iconst 2, 1), (36, .if_icmp .gt 17, 3), (39, .aload_n 0, 1), (40, .iload 4, 2), (42, .invokevirtual 74, 3), (45, .istore 4, 2)]), (59, [(47, .iinc 5 1, 3), (50, .goto (-17), 3), (53, .aload_n 0, 1), (54, .getfield 29, 3), (57, .iload_n 1, 1), (58, .iload_n 3, 1)]), (70, [(59, .iastore, 1), (60, .iload 4, 2), (62, .ifCond .eq 7, 3), (65, .iconst 1, 1), (66, .goto 4, 3), (69, .iconst 0, 1)]), (71, [(70, .ireturn, 1)])]
set_option maxRecDepth 20000 in
theorem zkd_X0_wouldLeadTooFar : ∀ q ∈ zk_X0_wouldLeadTooFar, ∀ e ∈ q.2, decode cX0_wouldLeadTooFar e.1 = .ok e.2 ∧ zlo e = true := by decide +kernel
def zm_X0_wouldLeadTooFar : zMe := ((0, 2, 6, zk_X0_wouldLeadTooFar), (yX0_wouldLeadTooFar, cX0_wouldLeadTooFar, (some .boolean)))
set_option maxRecDepth 20000 in
theorem zp_X0_wouldLeadTooFar : zP zm_X0_wouldLeadTooFar := ⟨zkd_X0_wouldLeadTooFar, List.mem_of_getElem? (i := 167) rfl, by decide +kernel, rfl, rfl, by decide +kernel, by decide +kernel⟩
def zk_X0_leadingInto : zCd := [(5, [(0, .iconst 0, 1), (1, .istore_n 2, 1), (2, .iconst 0, 1), (3, .istore_n 3, 1), (4, .iload_n 3, 1)]), (14, [(5, .aload_n 0, 1), (6, .getfield 9, 3), (9, .if_icmp .ge 26, 3), (12, .aload_n 0, 1), (13, .getfield 29, 3)]), (21, [(16, .iload_n 3, 1), (17, .iaload, 1), (18, .iload_n 1, 1), (19, .iand, 1), (20, .ifCond .eq 9, 3)]), (28, [(23, .iload_n 2, 1), (24, .iconst 1, 1), (25, .iload_n 3, 1), (26, .ishl, 1), (27, .ior, 1)]), (37, [(28, .istore_n 2, 1), (29, .iinc 3 1, 3), (32, .goto (-28), 3), (35, .iload_n 2, 1), (36, .ireturn, 1)])]
set_option maxRecDepth 20000 in
theorem zkd_X0_leadingInto : ∀ q ∈ zk_X0_leadingInto, ∀ e ∈ q.2, decode cX0_leadingInto e.1 = .ok e.2 ∧ zlo e = true := by decide +kernel
def zm_X0_leadingInto : zMe := ((0, 1, 4, zk_X0_leadingInto), (yX0_leadingInto, cX0_leadingInto, (some .int)))
set_option maxRecDepth 20000 in
theorem zp_X0_leadingInto : zP zm_X0_leadingInto := ⟨zkd_X0_leadingInto, List.mem_of_getElem? (i := 174) rfl, by decide +kernel, rfl, rfl, by decide +kernel, by decide +kernel⟩
def zk_X0_canContain : zCd := [(9, [(0, .aload_n 0, 1), (1, .iload_n 1, 1), (2, .iconst 0, 1), (3, .invokevirtual 77, 3), (6, .istore_n 3, 1), (7, .iload_n 3, 1), (8, .iconst (-1), 1)]), (22, [(9, .if_icmp .eq 25, 3), (12, .aload_n 0, 1), (13, .getfield 50, 3), (16, .iload_n 3, 1), (17, .baload, 1), (18, .ifCond .eq 16, 3), (21, .aload_n 0, 1)]), (32, [(22, .getfield 47, 3), (25, .iload_n 3, 1), (26, .iaload, 1), (27, .bipush 10, 2), (29, .iload_n 2, 1), (30, .iadd, 1), (31, .if_icmp .eq 5, 3)]), (43, [(34, .iconst 0, 1), (35, .ireturn, 1), (36, .aload_n 0, 1), (37, .getfield 19, 3), (40, .iload_n 1, 1), (41, .iaload, 1), (42, .aload_n 0, 1)]), (56, [(43, .getfield 19, 3), (46, .iload_n 2, 1), (47, .iaload, 1), (48, .if_icmp .lt 51, 3), (51, .aload_n 0, 1), (52, .getfield 15, 3), (55, .iload_n 1, 1)]), (65, [(56, .iaload, 1), (57, .aload_n 0, 1), (58, .getfield 15, 3), (61, .iload_n 2, 1), (62, .iaload, 1), (63, .iconst (-1), 1), (64, .ixor, 1)]), (76, [(65, .iand, 1), (66, .ifCond .ne 33, 3), (69, .aload_n 0, 1), (70, .getfield 22, 3), (73, .iload_n 1, 1), (74, .baload, 1), (75, .ifCond .ne 12, 3)]), (89, [(78, .aload_n 0, 1), (79, .getfield 22, 3), (82, .iload_n 2, 1), (83, .baload, 1), (84, .ifCond .ne 15, 3), (87, .aload_n 0, 1), (88, .iload_n 1, 1)]), (101, [(89, .invokevirtual 80, 3), (92, .ifCond .eq 7, 3), (95, .iconst 1, 1), (96, .goto 4, 3), (99, .iconst 0, 1), (100, .ireturn, 1)])]
set_option maxRecDepth 20000 in
theorem zkd_X0_canContain : ∀ q ∈ zk_X0_canContain, ∀ e ∈ q.2, decode cX0_canContain e.1 = .ok e.2 ∧ zlo e = true := by decide +kernel
def zm_X0_canContain : zMe := ((0, 2, 4, zk_X0_canContain), (yX0_canContain, cX0_canContain, (some .boolean)))
set_option maxRecDepth 20000 in
theorem zp_X0_canContain : zP zm_X0_canContain := ⟨zkd_X0_canContain, List.mem_of_getElem? (i := 349) rfl, by decide +kernel, rfl, rfl, by decide +kernel, by decide +kernel⟩
def zk_X0_othersHaveDefaults : zCd := [(5, [(0, .iconst 0, 1), (1, .istore_n 2, 1), (2, .iload_n 2, 1), (3, .aload_n 0, 1), (4, .getfield 26, 3)]), (14, [(7, .iload_n 1, 1), (8, .iaload, 1), (9, .if_icmp .ge 36, 3), (12, .iload_n 1, 1), (13, .iconst 5, 1)]), (19, [(14, .imul, 1), (15, .iload_n 2, 1), (16, .iadd, 1), (17, .istore_n 3, 1), (18, .aload_n 0, 1)]), (28, [(19, .getfield 44, 3), (22, .iload_n 3, 1), (23, .iaload, 1), (24, .ifCond .eq 15, 3), (27, .aload_n 0, 1)]), (35, [(28, .getfield 53, 3), (31, .iload_n 3, 1), (32, .iaload, 1), (33, .iconst (-1), 1), (34, .if_icmp .ne 5, 3)]), (46, [(37, .iconst 0, 1), (38, .ireturn, 1), (39, .iinc 2 1, 3), (42, .goto (-40), 3), (45, .iconst 1, 1)]), (47, [(46, .ireturn, 1)])]
set_option maxRecDepth 20000 in
theorem zkd_X0_othersHaveDefaults : ∀ q ∈ zk_X0_othersHaveDefaults, ∀ e ∈ q.2, decode cX0_othersHaveDefaults e.1 = .ok e.2 ∧ zlo e = true := by decide +kernel
def zm_X0_othersHaveDefaults : zMe := ((0, 2, 4, zk_X0_othersHaveDefaults), (yX0_othersHaveDefaults, cX0_othersHaveDefaults, (some .boolean)))
set_option maxRecDepth 20000 in
theorem zp_X0_othersHaveDefaults : zP zm_X0_othersHaveDefaults := ⟨zkd_X0_othersHaveDefaults, List.mem_of_getElem? (i := 354) rfl, by decide +kernel, rfl, rfl, by decide +kernel, by decide +kernel⟩
def zk_X1_has : zCd := [(6, [(0, .iload_n 1, 1), (1, .ifCond .lt 15, 3), (4, .iload_n 1, 1), (5, .aload_n 0, 1)]), (14, [(6, .getfield 9, 3), (9, .if_icmp .ge 7, 3), (12, .iconst 1, 1), (13, .goto 4, 3)]), (18, [(16, .iconst 0, 1), (17, .ireturn, 1)])]
set_option maxRecDepth 20000 in
theorem zkd_X1_has : ∀ q ∈ zk_X1_has, ∀ e ∈ q.2, decode cX1_has e.1 = .ok e.2 ∧ zlo e = true := by decide +kernel
def zm_X1_has : zMe := ((1, 2, 2, zk_X1_has), (yX1_has, cX1_has, (some .boolean)))
set_option maxRecDepth 20000 in
theorem zp_X1_has : zP zm_X1_has := ⟨zkd_X1_has, List.mem_of_getElem? (i := 379) rfl, by decide +kernel, rfl, rfl, by decide +kernel, by decide +kernel⟩
def zk_X1_isType : zCd := [(6, [(0, .aload_n 0, 1), (1, .iload_n 1, 1), (2, .invokevirtual 22, 3), (5, .ifCond .eq 26, 3)]), (14, [(8, .aload_n 0, 1), (9, .getfield 15, 3), (12, .iload_n 1, 1), (13, .iaload, 1)]), (22, [(14, .ifCond .eq 13, 3), (17, .aload_n 0, 1), (18, .getfield 15, 3), (21, .iload_n 1, 1)]), (28, [(22, .iaload, 1), (23, .iconst 1, 1), (24, .if_icmp .ne 7, 3), (27, .iconst 1, 1)]), (33, [(28, .goto 4, 3), (31, .iconst 0, 1), (32, .ireturn, 1)])]
set_option maxRecDepth 20000 in
theorem zkd_X1_isType : ∀ q ∈ zk_X1_isType, ∀ e ∈ q.2, decode cX1_isType e.1 = .ok e.2 ∧ zlo e = true := by decide +kernel
def zm_X1_isType : zMe := ((1, 2, 2, zk_X1_isType), (yX1_isType, cX1_isType, (some .boolean)))
set_option maxRecDepth 20000 in
theorem zp_X1_isType : zP zm_X1_isType := ⟨zkd_X1_isType, List.mem_of_getElem? (i := 383) rfl, by decide +kernel, rfl, rfl, by decide +kernel, by decide +kernel⟩
def zk_X1_isClass : zCd := [(6, [(0, .aload_n 0, 1), (1, .iload_n 1, 1), (2, .invokevirtual 22, 3), (5, .ifCond .eq 16, 3)]), (14, [(8, .aload_n 0, 1), (9, .getfield 15, 3), (12, .iload_n 1, 1), (13, .iaload, 1)]), (22, [(14, .ifCond .ne 7, 3), (17, .iconst 1, 1), (18, .goto 4, 3), (21, .iconst 0, 1)]), (23, [(22, .ireturn, 1)])]
set_option maxRecDepth 20000 in
theorem zkd_X1_isClass : ∀ q ∈ zk_X1_isClass, ∀ e ∈ q.2, decode cX1_isClass e.1 = .ok e.2 ∧ zlo e = true := by decide +kernel
def zm_X1_isClass : zMe := ((1, 2, 2, zk_X1_isClass), (yX1_isClass, cX1_isClass, (some .boolean)))
set_option maxRecDepth 20000 in
theorem zp_X1_isClass : zP zm_X1_isClass := ⟨zkd_X1_isClass, List.mem_of_getElem? (i := 375) rfl, by decide +kernel, rfl, rfl, by decide +kernel, by decide +kernel⟩
def zk_X1_isMethod : zCd := [(6, [(0, .aload_n 0, 1), (1, .iload_n 1, 1), (2, .invokevirtual 22, 3), (5, .ifCond .eq 27, 3)]), (14, [(8, .aload_n 0, 1), (9, .getfield 15, 3), (12, .iload_n 1, 1), (13, .iaload, 1)]), (20, [(14, .iconst 3, 1), (15, .if_icmp .eq 13, 3), (18, .aload_n 0, 1), (19, .getfield 15, 3)]), (26, [(22, .iload_n 1, 1), (23, .iaload, 1), (24, .iconst 4, 1), (25, .if_icmp .ne 7, 3)]), (34, [(28, .iconst 1, 1), (29, .goto 4, 3), (32, .iconst 0, 1), (33, .ireturn, 1)])]
set_option maxRecDepth 20000 in
theorem zkd_X1_isMethod : ∀ q ∈ zk_X1_isMethod, ∀ e ∈ q.2, decode cX1_isMethod e.1 = .ok e.2 ∧ zlo e = true := by decide +kernel
def zm_X1_isMethod : zMe := ((1, 2, 2, zk_X1_isMethod), (yX1_isMethod, cX1_isMethod, (some .boolean)))
set_option maxRecDepth 20000 in
theorem zp_X1_isMethod : zP zm_X1_isMethod := ⟨zkd_X1_isMethod, List.mem_of_getElem? (i := 387) rfl, by decide +kernel, rfl, rfl, by decide +kernel, by decide +kernel⟩
def zk_X1_fits : zCd := [(43, [(0, .iload_n 1, 1), (1, .tableswitch 81 0 5 #[39, 58, 69, 69, 69, 75], 39), (40, .iload_n 2, 1), (41, .iconst (-1), 1), (42, .if_icmp .eq 11, 3)]), (54, [(45, .aload_n 0, 1), (46, .iload_n 2, 1), (47, .invokevirtual 26, 3), (50, .ifCond .eq 7, 3), (53, .iconst 1, 1)]), (61, [(54, .goto 4, 3), (57, .iconst 0, 1), (58, .ireturn, 1), (59, .iload_n 2, 1), (60, .iconst (-1), 1)]), (70, [(61, .if_icmp .ne 7, 3), (64, .iconst 1, 1), (65, .goto 4, 3), (68, .iconst 0, 1), (69, .ireturn, 1)]), (77, [(70, .aload_n 0, 1), (71, .iload_n 2, 1), (72, .invokevirtual 29, 3), (75, .ireturn, 1), (76, .aload_n 0, 1)]), (84, [(77, .iload_n 2, 1), (78, .invokevirtual 32, 3), (81, .ireturn, 1), (82, .iconst 0, 1), (83, .ireturn, 1)])]
set_option maxRecDepth 20000 in
theorem zkd_X1_fits : ∀ q ∈ zk_X1_fits, ∀ e ∈ q.2, decode cX1_fits e.1 = .ok e.2 ∧ zlo e = true := by decide +kernel
def zm_X1_fits : zMe := ((1, 2, 3, zk_X1_fits), (yX1_fits, cX1_fits, (some .boolean)))
set_option maxRecDepth 20000 in
theorem zp_X1_fits : zP zm_X1_fits := ⟨zkd_X1_fits, List.mem_of_getElem? (i := 371) rfl, by decide +kernel, rfl, rfl, by decide +kernel, by decide +kernel⟩
def zk_X1_add : zCd := [(10, [(0, .aload_n 0, 1), (1, .getfield 9, 3), (4, .bipush 40, 2), (6, .if_icmp .lt 6, 3), (9, .bipush (-3), 2)]), (18, [(11, .ireturn, 1), (12, .aload_n 0, 1), (13, .getfield 15, 3), (16, .aload_n 0, 1), (17, .getfield 9, 3)]), (27, [(20, .iload_n 1, 1), (21, .iastore, 1), (22, .aload_n 0, 1), (23, .getfield 19, 3), (26, .aload_n 0, 1)]), (34, [(27, .getfield 9, 3), (30, .iload_n 2, 1), (31, .iastore, 1), (32, .aload_n 0, 1), (33, .dup, 1)]), (43, [(34, .getfield 9, 3), (37, .iconst 1, 1), (38, .iadd, 1), (39, .putfield 9, 3), (42, .aload_n 0, 1)]), (49, [(43, .getfield 9, 3), (46, .iconst 1, 1), (47, .isub, 1), (48, .ireturn, 1)])]
set_option maxRecDepth 20000 in
theorem zkd_X1_add : ∀ q ∈ zk_X1_add, ∀ e ∈ q.2, decode cX1_add e.1 = .ok e.2 ∧ zlo e = true := by decide +kernel
def zm_X1_add : zMe := ((1, 1, 3, zk_X1_add), (yX1_add, cX1_add, (some .int)))
set_option maxRecDepth 20000 in
theorem zp_X1_add : zP zm_X1_add := ⟨zkd_X1_add, List.mem_of_getElem? (i := 391) rfl, by decide +kernel, rfl, rfl, by decide +kernel, by decide +kernel⟩
def zk_X1_parentOf : zCd := [(6, [(0, .aload_n 0, 1), (1, .iload_n 1, 1), (2, .invokevirtual 26, 3), (5, .ifCond .eq 12, 3)]), (14, [(8, .aload_n 0, 1), (9, .getfield 19, 3), (12, .iload_n 1, 1), (13, .iaload, 1)]), (19, [(14, .goto 4, 3), (17, .iconst (-1), 1), (18, .ireturn, 1)])]
set_option maxRecDepth 20000 in
theorem zkd_X1_parentOf : ∀ q ∈ zk_X1_parentOf, ∀ e ∈ q.2, decode cX1_parentOf e.1 = .ok e.2 ∧ zlo e = true := by decide +kernel
def zm_X1_parentOf : zMe := ((1, 1, 2, zk_X1_parentOf), (yX1_parentOf, cX1_parentOf, (some .int)))
set_option maxRecDepth 20000 in
theorem zp_X1_parentOf : zP zm_X1_parentOf := ⟨zkd_X1_parentOf, List.mem_of_getElem? (i := 687) rfl, by decide +kernel, rfl, rfl, by decide +kernel, by decide +kernel⟩
def zk_X1_fittingTargets : zCd := [(8, [(0, .getstatic 35, 3), (3, .aload_n 0, 1), (4, .getfield 15, 3), (7, .iload_n 1, 1)]), (11, [(8, .iaload, 1), (9, .iaload, 1), (10, .ireturn, 1)])]
set_option maxRecDepth 20000 in
theorem zkd_X1_fittingTargets : ∀ q ∈ zk_X1_fittingTargets, ∀ e ∈ q.2, decode cX1_fittingTargets e.1 = .ok e.2 ∧ zlo e = true := by decide +kernel
def zm_X1_fittingTargets : zMe := ((1, 1, 2, zk_X1_fittingTargets), (yX1_fittingTargets, cX1_fittingTargets, (some .int)))
set_option maxRecDepth 20000 in
theorem zp_X1_fittingTargets : zP zm_X1_fittingTargets := ⟨zkd_X1_fittingTargets, List.mem_of_getElem? (i := 488) rfl, by decide +kernel, rfl, rfl, by decide +kernel, by decide +kernel⟩
def zk_X2_add : zCd := [(10, [(0, .aload_n 0, 1), (1, .getfield 9, 3), (4, .bipush 100, 2), (6, .if_icmp .lt 4, 3), (9, .return_, 1)]), (19, [(10, .aload_n 0, 1), (11, .getfield 15, 3), (14, .aload_n 0, 1), (15, .getfield 9, 3), (18, .iload_n 1, 1)]), (26, [(19, .iastore, 1), (20, .aload_n 0, 1), (21, .getfield 19, 3), (24, .aload_n 0, 1), (25, .getfield 9, 3)]), (35, [(28, .iload_n 2, 1), (29, .iastore, 1), (30, .aload_n 0, 1), (31, .getfield 22, 3), (34, .aload_n 0, 1)]), (42, [(35, .getfield 9, 3), (38, .iload_n 3, 1), (39, .iastore, 1), (40, .aload_n 0, 1), (41, .dup, 1)]), (51, [(42, .getfield 9, 3), (45, .iconst 1, 1), (46, .iadd, 1), (47, .putfield 9, 3), (50, .return_, 1)])]
set_option maxRecDepth 20000 in
theorem zkd_X2_add : ∀ q ∈ zk_X2_add, ∀ e ∈ q.2, decode cX2_add e.1 = .ok e.2 ∧ zlo e = true := by decide +kernel
def zm_X2_add : zMe := ((2, 0, 4, zk_X2_add), (yX2_add, cX2_add, none))
set_option maxRecDepth 20000 in
theorem zp_X2_add : zP zm_X2_add := ⟨zkd_X2_add, List.mem_of_getElem? (i := 496) rfl, by decide +kernel, rfl, rfl, by decide +kernel, by decide +kernel⟩
def zk_X2_howManyAt : zCd := [(4, [(0, .iconst 0, 1), (1, .istore_n 2, 1), (2, .iconst 0, 1), (3, .istore_n 3, 1)]), (10, [(4, .iload_n 3, 1), (5, .aload_n 0, 1), (6, .getfield 9, 3), (9, .if_icmp .ge 22, 3)]), (18, [(12, .aload_n 0, 1), (13, .getfield 15, 3), (16, .iload_n 3, 1), (17, .iaload, 1)]), (26, [(18, .iload_n 1, 1), (19, .if_icmp .ne 6, 3), (22, .iinc 2 1, 3), (25, .iinc 3 1, 3)]), (33, [(28, .goto (-24), 3), (31, .iload_n 2, 1), (32, .ireturn, 1)])]
set_option maxRecDepth 20000 in
theorem zkd_X2_howManyAt : ∀ q ∈ zk_X2_howManyAt, ∀ e ∈ q.2, decode cX2_howManyAt e.1 = .ok e.2 ∧ zlo e = true := by decide +kernel
def zm_X2_howManyAt : zMe := ((2, 1, 4, zk_X2_howManyAt), (yX2_howManyAt, cX2_howManyAt, (some .int)))
set_option maxRecDepth 20000 in
theorem zp_X2_howManyAt : zP zm_X2_howManyAt := ⟨zkd_X2_howManyAt, List.mem_of_getElem? (i := 751) rfl, by decide +kernel, rfl, rfl, by decide +kernel, by decide +kernel⟩
def zk_X2_howMany : zCd := [(6, [(0, .iconst 0, 1), (1, .istore_n 3, 1), (2, .iconst 0, 1), (3, .istore 4, 2), (5, .iload 4, 2)]), (16, [(7, .aload_n 0, 1), (8, .getfield 9, 3), (11, .if_icmp .ge 34, 3), (14, .aload_n 0, 1), (15, .getfield 15, 3)]), (26, [(18, .iload 4, 2), (20, .iaload, 1), (21, .iload_n 1, 1), (22, .if_icmp .ne 17, 3), (25, .aload_n 0, 1)]), (34, [(26, .getfield 19, 3), (29, .iload 4, 2), (31, .iaload, 1), (32, .iload_n 2, 1), (33, .if_icmp .ne 6, 3)]), (47, [(36, .iinc 3 1, 3), (39, .iinc 4 1, 3), (42, .goto (-37), 3), (45, .iload_n 3, 1), (46, .ireturn, 1)])]
set_option maxRecDepth 20000 in
theorem zkd_X2_howMany : ∀ q ∈ zk_X2_howMany, ∀ e ∈ q.2, decode cX2_howMany e.1 = .ok e.2 ∧ zlo e = true := by decide +kernel
def zm_X2_howMany : zMe := ((2, 1, 5, zk_X2_howMany), (yX2_howMany, cX2_howMany, (some .int)))
set_option maxRecDepth 20000 in
theorem zp_X2_howMany : zP zm_X2_howMany := ⟨zkd_X2_howMany, List.mem_of_getElem? (i := 492) rfl, by decide +kernel, rfl, rfl, by decide +kernel, by decide +kernel⟩
def zk_X2_nth : zCd := [(7, [(0, .iconst 0, 1), (1, .istore 4, 2), (3, .iconst 0, 1), (4, .istore 5, 2), (6, .iload 5, 2)]), (17, [(8, .aload_n 0, 1), (9, .getfield 9, 3), (12, .if_icmp .ge 48, 3), (15, .aload_n 0, 1), (16, .getfield 15, 3)]), (27, [(19, .iload 5, 2), (21, .iaload, 1), (22, .iload_n 1, 1), (23, .if_icmp .ne 31, 3), (26, .aload_n 0, 1)]), (35, [(27, .getfield 19, 3), (30, .iload 5, 2), (32, .iaload, 1), (33, .iload_n 2, 1), (34, .if_icmp .ne 20, 3)]), (45, [(37, .iload 4, 2), (39, .iload_n 3, 1), (40, .if_icmp .ne 11, 3), (43, .aload_n 0, 1), (44, .getfield 22, 3)]), (55, [(47, .iload 5, 2), (49, .iaload, 1), (50, .ireturn, 1), (51, .iinc 4 1, 3), (54, .iinc 5 1, 3)]), (62, [(57, .goto (-51), 3), (60, .iconst (-1), 1), (61, .ireturn, 1)])]
set_option maxRecDepth 20000 in
theorem zkd_X2_nth : ∀ q ∈ zk_X2_nth, ∀ e ∈ q.2, decode cX2_nth e.1 = .ok e.2 ∧ zlo e = true := by decide +kernel
def zm_X2_nth : zMe := ((2, 1, 6, zk_X2_nth), (yX2_nth, cX2_nth, (some .int)))
set_option maxRecDepth 20000 in
theorem zp_X2_nth : zP zm_X2_nth := ⟨zkd_X2_nth, List.mem_of_getElem? (i := 678) rfl, by decide +kernel, rfl, rfl, by decide +kernel, by decide +kernel⟩
def zk_X3_has : zCd := [(6, [(0, .iload_n 1, 1), (1, .ifCond .lt 15, 3), (4, .iload_n 1, 1), (5, .aload_n 0, 1)]), (14, [(6, .getfield 9, 3), (9, .if_icmp .ge 7, 3), (12, .iconst 1, 1), (13, .goto 4, 3)]), (18, [(16, .iconst 0, 1), (17, .ireturn, 1)])]
set_option maxRecDepth 20000 in
theorem zkd_X3_has : ∀ q ∈ zk_X3_has, ∀ e ∈ q.2, decode cX3_has e.1 = .ok e.2 ∧ zlo e = true := by decide +kernel
def zm_X3_has : zMe := ((3, 2, 2, zk_X3_has), (yX3_has, cX3_has, (some .boolean)))
set_option maxRecDepth 20000 in
theorem zp_X3_has : zP zm_X3_has := ⟨zkd_X3_has, List.mem_of_getElem? (i := 217) rfl, by decide +kernel, rfl, rfl, by decide +kernel, by decide +kernel⟩
def zk_X3_isSort : zCd := [(6, [(0, .aload_n 0, 1), (1, .iload_n 1, 1), (2, .invokevirtual 42, 3), (5, .ifCond .eq 17, 3)]), (14, [(8, .aload_n 0, 1), (9, .getfield 15, 3), (12, .iload_n 1, 1), (13, .iaload, 1)]), (20, [(14, .iload_n 2, 1), (15, .if_icmp .ne 7, 3), (18, .iconst 1, 1), (19, .goto 4, 3)]), (24, [(22, .iconst 0, 1), (23, .ireturn, 1)])]
set_option maxRecDepth 20000 in
theorem zkd_X3_isSort : ∀ q ∈ zk_X3_isSort, ∀ e ∈ q.2, decode cX3_isSort e.1 = .ok e.2 ∧ zlo e = true := by decide +kernel
def zm_X3_isSort : zMe := ((3, 2, 3, zk_X3_isSort), (yX3_isSort, cX3_isSort, (some .boolean)))
set_option maxRecDepth 20000 in
theorem zp_X3_isSort : zP zm_X3_isSort := ⟨zkd_X3_isSort, List.mem_of_getElem? (i := 271) rfl, by decide +kernel, rfl, rfl, by decide +kernel, by decide +kernel⟩
def zk_X3_isOfKind : zCd := [(6, [(0, .aload_n 0, 1), (1, .iload_n 1, 1), (2, .invokevirtual 42, 3), (5, .ifCond .eq 27, 3)]), (14, [(8, .aload_n 0, 1), (9, .getfield 15, 3), (12, .iload_n 1, 1), (13, .iaload, 1)]), (20, [(14, .iconst 1, 1), (15, .if_icmp .eq 17, 3), (18, .aload_n 0, 1), (19, .getfield 19, 3)]), (26, [(22, .iload_n 1, 1), (23, .iaload, 1), (24, .iload_n 2, 1), (25, .if_icmp .ne 7, 3)]), (34, [(28, .iconst 1, 1), (29, .goto 4, 3), (32, .iconst 0, 1), (33, .ireturn, 1)])]
set_option maxRecDepth 20000 in
theorem zkd_X3_isOfKind : ∀ q ∈ zk_X3_isOfKind, ∀ e ∈ q.2, decode cX3_isOfKind e.1 = .ok e.2 ∧ zlo e = true := by decide +kernel
def zm_X3_isOfKind : zMe := ((3, 2, 3, zk_X3_isOfKind), (yX3_isOfKind, cX3_isOfKind, (some .boolean)))
set_option maxRecDepth 20000 in
theorem zp_X3_isOfKind : zP zm_X3_isOfKind := ⟨zkd_X3_isOfKind, List.mem_of_getElem? (i := 263) rfl, by decide +kernel, rfl, rfl, by decide +kernel, by decide +kernel⟩
def zk_X3_isRowOf : zCd := [(4, [(0, .aload_n 0, 1), (1, .iload_n 1, 1), (2, .iconst 1, 1), (3, .invokevirtual 46, 3)]), (14, [(6, .ifCond .eq 17, 3), (9, .aload_n 0, 1), (10, .getfield 19, 3), (13, .iload_n 1, 1)]), (20, [(14, .iaload, 1), (15, .iload_n 2, 1), (16, .if_icmp .ne 7, 3), (19, .iconst 1, 1)]), (25, [(20, .goto 4, 3), (23, .iconst 0, 1), (24, .ireturn, 1)])]
set_option maxRecDepth 20000 in
theorem zkd_X3_isRowOf : ∀ q ∈ zk_X3_isRowOf, ∀ e ∈ q.2, decode cX3_isRowOf e.1 = .ok e.2 ∧ zlo e = true := by decide +kernel
def zm_X3_isRowOf : zMe := ((3, 2, 3, zk_X3_isRowOf), (yX3_isRowOf, cX3_isRowOf, (some .boolean)))
set_option maxRecDepth 20000 in
theorem zp_X3_isRowOf : zP zm_X3_isRowOf := ⟨zkd_X3_isRowOf, List.mem_of_getElem? (i := 267) rfl, by decide +kernel, rfl, rfl, by decide +kernel, by decide +kernel⟩
def zk_X3_markOf : zCd := [(6, [(0, .aload_n 0, 1), (1, .getfield 19, 3), (4, .iload_n 1, 1), (5, .iaload, 1)]), (10, [(6, .bipush 10, 2), (8, .isub, 1), (9, .ireturn, 1)])]
set_option maxRecDepth 20000 in
theorem zkd_X3_markOf : ∀ q ∈ zk_X3_markOf, ∀ e ∈ q.2, decode cX3_markOf e.1 = .ok e.2 ∧ zlo e = true := by decide +kernel
def zm_X3_markOf : zMe := ((3, 1, 2, zk_X3_markOf), (yX3_markOf, cX3_markOf, (some .int)))
set_option maxRecDepth 20000 in
theorem zp_X3_markOf : zP zm_X3_markOf := ⟨zkd_X3_markOf, List.mem_of_getElem? (i := 244) rfl, by decide +kernel, rfl, rfl, by decide +kernel, by decide +kernel⟩
def zk_X3_add : zCd := [(10, [(0, .aload_n 0, 1), (1, .getfield 9, 3), (4, .bipush 100, 2), (6, .if_icmp .lt 6, 3), (9, .bipush (-3), 2)]), (18, [(11, .ireturn, 1), (12, .aload_n 0, 1), (13, .getfield 15, 3), (16, .aload_n 0, 1), (17, .getfield 9, 3)]), (27, [(20, .iload_n 1, 1), (21, .iastore, 1), (22, .aload_n 0, 1), (23, .getfield 19, 3), (26, .aload_n 0, 1)]), (34, [(27, .getfield 9, 3), (30, .iload_n 2, 1), (31, .iastore, 1), (32, .aload_n 0, 1), (33, .getfield 22, 3)]), (43, [(36, .aload_n 0, 1), (37, .getfield 9, 3), (40, .iload_n 3, 1), (41, .iastore, 1), (42, .aload_n 0, 1)]), (50, [(43, .dup, 1), (44, .getfield 9, 3), (47, .iconst 1, 1), (48, .iadd, 1), (49, .putfield 9, 3)]), (59, [(52, .aload_n 0, 1), (53, .getfield 9, 3), (56, .iconst 1, 1), (57, .isub, 1), (58, .ireturn, 1)])]
set_option maxRecDepth 20000 in
theorem zkd_X3_add : ∀ q ∈ zk_X3_add, ∀ e ∈ q.2, decode cX3_add e.1 = .ok e.2 ∧ zlo e = true := by decide +kernel
def zm_X3_add : zMe := ((3, 1, 4, zk_X3_add), (yX3_add, cX3_add, (some .int)))
set_option maxRecDepth 20000 in
theorem zp_X3_add : zP zm_X3_add := ⟨zkd_X3_add, List.mem_of_getElem? (i := 279) rfl, by decide +kernel, rfl, rfl, by decide +kernel, by decide +kernel⟩
def zk_X3_addRowOfOne : zCd := [(4, [(0, .aload_n 0, 1), (1, .iconst 1, 1), (2, .iload_n 1, 1), (3, .iconst 0, 1)]), (10, [(4, .invokevirtual 50, 3), (7, .istore_n 3, 1), (8, .iload_n 3, 1), (9, .bipush (-3), 2)]), (17, [(11, .if_icmp .eq 10, 3), (14, .aload_n 0, 1), (15, .iload_n 3, 1), (16, .iload_n 2, 1)]), (23, [(17, .invokevirtual 54, 3), (20, .pop, 1), (21, .iload_n 3, 1), (22, .ireturn, 1)])]
set_option maxRecDepth 20000 in
theorem zkd_X3_addRowOfOne : ∀ q ∈ zk_X3_addRowOfOne, ∀ e ∈ q.2, decode cX3_addRowOfOne e.1 = .ok e.2 ∧ zlo e = true := by decide +kernel
def zm_X3_addRowOfOne : zMe := ((3, 1, 4, zk_X3_addRowOfOne), (yX3_addRowOfOne, cX3_addRowOfOne, (some .int)))
set_option maxRecDepth 20000 in
theorem zp_X3_addRowOfOne : zP zm_X3_addRowOfOne := ⟨zkd_X3_addRowOfOne, List.mem_of_getElem? (i := 275) rfl, by decide +kernel, rfl, rfl, by decide +kernel, by decide +kernel⟩
def zk_X3_append : zCd := [(7, [(0, .aload_n 0, 1), (1, .getfield 29, 3), (4, .iload_n 1, 1), (5, .iconst 5, 1), (6, .imul, 1)]), (14, [(7, .aload_n 0, 1), (8, .getfield 22, 3), (11, .iload_n 1, 1), (12, .iaload, 1), (13, .iadd, 1)]), (21, [(14, .iload_n 2, 1), (15, .iastore, 1), (16, .aload_n 0, 1), (17, .getfield 22, 3), (20, .iload_n 1, 1)]), (26, [(21, .dup2, 1), (22, .iaload, 1), (23, .iconst 1, 1), (24, .iadd, 1), (25, .iastore, 1)]), (33, [(26, .aload_n 0, 1), (27, .iload_n 2, 1), (28, .invokevirtual 58, 3), (31, .aload_n 0, 1), (32, .getfield 22, 3)]), (38, [(35, .iload_n 1, 1), (36, .iaload, 1), (37, .ireturn, 1)])]
set_option maxRecDepth 20000 in
theorem zkd_X3_append : ∀ q ∈ zk_X3_append, ∀ e ∈ q.2, decode cX3_append e.1 = .ok e.2 ∧ zlo e = true := by decide +kernel
def zm_X3_append : zMe := ((3, 1, 3, zk_X3_append), (yX3_append, cX3_append, (some .int)))
set_option maxRecDepth 20000 in
theorem zp_X3_append : zP zm_X3_append := ⟨zkd_X3_append, List.mem_of_getElem? (i := 283) rfl, by decide +kernel, rfl, rfl, by decide +kernel, by decide +kernel⟩
def zk_X3_setElement : zCd := [(6, [(0, .aload_n 0, 1), (1, .getfield 29, 3), (4, .iload_n 1, 1), (5, .iconst 5, 1)]), (10, [(6, .imul, 1), (7, .iload_n 2, 1), (8, .iadd, 1), (9, .iload_n 3, 1)]), (16, [(10, .iastore, 1), (11, .aload_n 0, 1), (12, .getfield 22, 3), (15, .iload_n 1, 1)]), (20, [(16, .dup2, 1), (17, .iaload, 1), (18, .iconst 1, 1), (19, .iadd, 1)]), (22, [(20, .iastore, 1), (21, .return_, 1)])]
set_option maxRecDepth 20000 in
theorem zkd_X3_setElement : ∀ q ∈ zk_X3_setElement, ∀ e ∈ q.2, decode cX3_setElement e.1 = .ok e.2 ∧ zlo e = true := by decide +kernel
def zm_X3_setElement : zMe := ((3, 0, 4, zk_X3_setElement), (yX3_setElement, cX3_setElement, none))
set_option maxRecDepth 20000 in
theorem zp_X3_setElement : zP zm_X3_setElement := ⟨zkd_X3_setElement, List.mem_of_getElem? (i := 470) rfl, by decide +kernel, rfl, rfl, by decide +kernel, by decide +kernel⟩
def zk_X3_finish : zCd := [(6, [(0, .aload_n 0, 1), (1, .getfield 25, 3), (4, .iload_n 1, 1), (5, .aload_n 0, 1)]), (12, [(6, .getfield 15, 3), (9, .iload_n 1, 1), (10, .iaload, 1), (11, .ifCond .eq 7, 3)]), (20, [(14, .iconst 1, 1), (15, .goto 4, 3), (18, .iconst 0, 1), (19, .bastore, 1)]), (21, [(20, .return_, 1)])]
set_option maxRecDepth 20000 in
theorem zkd_X3_finish : ∀ q ∈ zk_X3_finish, ∀ e ∈ q.2, decode cX3_finish e.1 = .ok e.2 ∧ zlo e = true := by decide +kernel
def zm_X3_finish : zMe := ((3, 0, 2, zk_X3_finish), (yX3_finish, cX3_finish, none))
set_option maxRecDepth 20000 in
theorem zp_X3_finish : zP zm_X3_finish := ⟨zkd_X3_finish, List.mem_of_getElem? (i := 287) rfl, by decide +kernel, rfl, rfl, by decide +kernel, by decide +kernel⟩
def zk_X3_partAt : zCd := [(6, [(0, .aload_n 0, 1), (1, .getfield 29, 3), (4, .iload_n 1, 1), (5, .iconst 5, 1)]), (10, [(6, .imul, 1), (7, .iload_n 2, 1), (8, .iadd, 1), (9, .iaload, 1)]), (11, [(10, .ireturn, 1)])]
set_option maxRecDepth 20000 in
theorem zkd_X3_partAt : ∀ q ∈ zk_X3_partAt, ∀ e ∈ q.2, decode cX3_partAt e.1 = .ok e.2 ∧ zlo e = true := by decide +kernel
def zm_X3_partAt : zMe := ((3, 1, 3, zk_X3_partAt), (yX3_partAt, cX3_partAt, (some .int)))
set_option maxRecDepth 20000 in
theorem zp_X3_partAt : zP zm_X3_partAt := ⟨zkd_X3_partAt, List.mem_of_getElem? (i := 233) rfl, by decide +kernel, rfl, rfl, by decide +kernel, by decide +kernel⟩
def zk_X3_inRow : zCd := [(4, [(0, .aload_n 0, 1), (1, .iload_n 1, 1), (2, .iconst 1, 1), (3, .invokevirtual 46, 3)]), (14, [(6, .ifCond .eq 26, 3), (9, .iload_n 2, 1), (10, .ifCond .lt 22, 3), (13, .iload_n 2, 1)]), (20, [(14, .aload_n 0, 1), (15, .getfield 22, 3), (18, .iload_n 1, 1), (19, .iaload, 1)]), (26, [(20, .if_icmp .ge 12, 3), (23, .aload_n 0, 1), (24, .iload_n 1, 1), (25, .iload_n 2, 1)]), (34, [(26, .invokevirtual 62, 3), (29, .goto 4, 3), (32, .iconst (-1), 1), (33, .ireturn, 1)])]
set_option maxRecDepth 20000 in
theorem zkd_X3_inRow : ∀ q ∈ zk_X3_inRow, ∀ e ∈ q.2, decode cX3_inRow e.1 = .ok e.2 ∧ zlo e = true := by decide +kernel
def zm_X3_inRow : zMe := ((3, 1, 3, zk_X3_inRow), (yX3_inRow, cX3_inRow, (some .int)))
set_option maxRecDepth 20000 in
theorem zp_X3_inRow : zP zm_X3_inRow := ⟨zkd_X3_inRow, List.mem_of_getElem? (i := 536) rfl, by decide +kernel, rfl, rfl, by decide +kernel, by decide +kernel⟩
def zk_X3_elementAt : zCd := [(4, [(0, .aload_n 0, 1), (1, .iload_n 1, 1), (2, .iload_n 2, 1), (3, .invokevirtual 62, 3)]), (10, [(6, .istore_n 3, 1), (7, .iload_n 3, 1), (8, .iconst (-1), 1), (9, .if_icmp .eq 7, 3)]), (18, [(12, .iload_n 3, 1), (13, .goto 20, 3), (16, .aload_n 0, 1), (17, .getfield 32, 3)]), (26, [(20, .getfield 65, 3), (23, .aload_n 0, 1), (24, .iload_n 1, 1), (25, .invokevirtual 70, 3)]), (32, [(28, .iconst 5, 1), (29, .imul, 1), (30, .iload_n 2, 1), (31, .iadd, 1)]), (34, [(32, .iaload, 1), (33, .ireturn, 1)])]
set_option maxRecDepth 20000 in
theorem zkd_X3_elementAt : ∀ q ∈ zk_X3_elementAt, ∀ e ∈ q.2, decode cX3_elementAt e.1 = .ok e.2 ∧ zlo e = true := by decide +kernel
def zm_X3_elementAt : zMe := ((3, 1, 4, zk_X3_elementAt), (yX3_elementAt, cX3_elementAt, (some .int)))
set_option maxRecDepth 20000 in
theorem zp_X3_elementAt : zP zm_X3_elementAt := ⟨zkd_X3_elementAt, List.mem_of_getElem? (i := 248) rfl, by decide +kernel, rfl, rfl, by decide +kernel, by decide +kernel⟩
def zk_X3_elementByName : zCd := [(6, [(0, .aload_n 0, 1), (1, .getfield 32, 3), (4, .aload_n 0, 1), (5, .iload_n 1, 1)]), (14, [(6, .invokevirtual 70, 3), (9, .iload_n 2, 1), (10, .invokevirtual 74, 3), (13, .istore_n 3, 1)]), (20, [(14, .iload_n 3, 1), (15, .iconst (-1), 1), (16, .if_icmp .ne 7, 3), (19, .iconst (-1), 1)]), (26, [(20, .goto 9, 3), (23, .aload_n 0, 1), (24, .iload_n 1, 1), (25, .iload_n 3, 1)]), (30, [(26, .invokevirtual 77, 3), (29, .ireturn, 1)])]
set_option maxRecDepth 20000 in
theorem zkd_X3_elementByName : ∀ q ∈ zk_X3_elementByName, ∀ e ∈ q.2, decode cX3_elementByName e.1 = .ok e.2 ∧ zlo e = true := by decide +kernel
def zm_X3_elementByName : zMe := ((3, 1, 4, zk_X3_elementByName), (yX3_elementByName, cX3_elementByName, (some .int)))
set_option maxRecDepth 20000 in
theorem zp_X3_elementByName : zP zm_X3_elementByName := ⟨zkd_X3_elementByName, List.mem_of_getElem? (i := 540) rfl, by decide +kernel, rfl, rfl, by decide +kernel, by decide +kernel⟩
def zk_X3_howManyElements : zCd := [(8, [(0, .aload_n 0, 1), (1, .getfield 32, 3), (4, .getfield 80, 3), (7, .aload_n 0, 1)]), (14, [(8, .iload_n 1, 1), (9, .invokevirtual 70, 3), (12, .iaload, 1), (13, .ireturn, 1)])]
set_option maxRecDepth 20000 in
theorem zkd_X3_howManyElements : ∀ q ∈ zk_X3_howManyElements, ∀ e ∈ q.2, decode cX3_howManyElements e.1 = .ok e.2 ∧ zlo e = true := by decide +kernel
def zm_X3_howManyElements : zMe := ((3, 1, 2, zk_X3_howManyElements), (yX3_howManyElements, cX3_howManyElements, (some .int)))
set_option maxRecDepth 20000 in
theorem zp_X3_howManyElements : zP zm_X3_howManyElements := ⟨zkd_X3_howManyElements, List.mem_of_getElem? (i := 239) rfl, by decide +kernel, rfl, rfl, by decide +kernel, by decide +kernel⟩
def zk_X3_isWhole : zCd := [(9, [(0, .aload_n 0, 1), (1, .iload_n 1, 1), (2, .invokevirtual 42, 3), (5, .ifCond .eq 9, 3), (8, .iload_n 2, 1)]), (17, [(9, .bipush 16, 2), (11, .if_icmp .le 5, 3), (14, .iconst 0, 1), (15, .ireturn, 1), (16, .aload_n 0, 1)]), (49, [(17, .getfield 15, 3), (20, .iload_n 1, 1), (21, .iaload, 1), (22, .lookupswitch 40 #[(1, 26), (2, 33)], 26), (48, .aload_n 0, 1)]), (56, [(49, .iload_n 1, 1), (50, .iload_n 2, 1), (51, .invokevirtual 83, 3), (54, .ireturn, 1), (55, .aload_n 0, 1)]), (63, [(56, .iload_n 1, 1), (57, .iload_n 2, 1), (58, .invokevirtual 86, 3), (61, .ireturn, 1), (62, .iconst 1, 1)]), (64, [(63, .ireturn, 1)])]
set_option maxRecDepth 20000 in
theorem zkd_X3_isWhole : ∀ q ∈ zk_X3_isWhole, ∀ e ∈ q.2, decode cX3_isWhole e.1 = .ok e.2 ∧ zlo e = true := by decide +kernel
def zm_X3_isWhole : zMe := ((3, 2, 3, zk_X3_isWhole), (yX3_isWhole, cX3_isWhole, (some .boolean)))
set_option maxRecDepth 20000 in
theorem zp_X3_isWhole : zP zm_X3_isWhole := ⟨zkd_X3_isWhole, List.mem_of_getElem? (i := 221) rfl, by decide +kernel, rfl, rfl, by decide +kernel, by decide +kernel⟩
def zk_X3_areAllWhole : zCd := [(4, [(0, .iconst 0, 1), (1, .istore_n 3, 1), (2, .iload_n 3, 1), (3, .aload_n 0, 1)]), (10, [(4, .getfield 22, 3), (7, .iload_n 1, 1), (8, .iaload, 1), (9, .if_icmp .ge 27, 3)]), (16, [(12, .aload_n 0, 1), (13, .aload_n 0, 1), (14, .iload_n 1, 1), (15, .iload_n 3, 1)]), (22, [(16, .invokevirtual 62, 3), (19, .iload_n 2, 1), (20, .iconst 1, 1), (21, .iadd, 1)]), (30, [(22, .invokevirtual 89, 3), (25, .ifCond .ne 5, 3), (28, .iconst 0, 1), (29, .ireturn, 1)]), (38, [(30, .iinc 3 1, 3), (33, .goto (-31), 3), (36, .iconst 1, 1), (37, .ireturn, 1)])]
set_option maxRecDepth 20000 in
theorem zkd_X3_areAllWhole : ∀ q ∈ zk_X3_areAllWhole, ∀ e ∈ q.2, decode cX3_areAllWhole e.1 = .ok e.2 ∧ zlo e = true := by decide +kernel
def zm_X3_areAllWhole : zMe := ((3, 2, 4, zk_X3_areAllWhole), (yX3_areAllWhole, cX3_areAllWhole, (some .boolean)))
set_option maxRecDepth 20000 in
theorem zp_X3_areAllWhole : zP zm_X3_areAllWhole := ⟨zkd_X3_areAllWhole, List.mem_of_getElem? (i := 229) rfl, by decide +kernel, rfl, rfl, by decide +kernel, by decide +kernel⟩
def zk_X3_hasAllElementsWhole : zCd := [(5, [(0, .iconst 0, 1), (1, .istore_n 3, 1), (2, .iload_n 3, 1), (3, .aload_n 0, 1), (4, .iload_n 1, 1)]), (14, [(5, .invokevirtual 92, 3), (8, .if_icmp .ge 50, 3), (11, .aload_n 0, 1), (12, .iload_n 1, 1), (13, .iload_n 3, 1)]), (23, [(14, .invokevirtual 62, 3), (17, .istore 4, 2), (19, .iload 4, 2), (21, .iconst (-1), 1), (22, .if_icmp .ne 16, 3)]), (32, [(25, .aload_n 0, 1), (26, .iload_n 1, 1), (27, .iload_n 3, 1), (28, .invokevirtual 77, 3), (31, .iconst (-1), 1)]), (42, [(32, .if_icmp .ne 20, 3), (35, .goto 15, 3), (38, .aload_n 0, 1), (39, .iload 4, 2), (41, .iload_n 2, 1)]), (51, [(42, .iconst 1, 1), (43, .iadd, 1), (44, .invokevirtual 89, 3), (47, .ifCond .ne 5, 3), (50, .iconst 0, 1)]), (60, [(51, .ireturn, 1), (52, .iinc 3 1, 3), (55, .goto (-53), 3), (58, .iconst 1, 1), (59, .ireturn, 1)])]
set_option maxRecDepth 20000 in
theorem zkd_X3_hasAllElementsWhole : ∀ q ∈ zk_X3_hasAllElementsWhole, ∀ e ∈ q.2, decode cX3_hasAllElementsWhole e.1 = .ok e.2 ∧ zlo e = true := by decide +kernel
def zm_X3_hasAllElementsWhole : zMe := ((3, 2, 5, zk_X3_hasAllElementsWhole), (yX3_hasAllElementsWhole, cX3_hasAllElementsWhole, (some .boolean)))
set_option maxRecDepth 20000 in
theorem zp_X3_hasAllElementsWhole : zP zm_X3_hasAllElementsWhole := ⟨zkd_X3_hasAllElementsWhole, List.mem_of_getElem? (i := 235) rfl, by decide +kernel, rfl, rfl, by decide +kernel, by decide +kernel⟩
def zk_X3_areEqual : zCd := [(10, [(0, .iload_n 1, 1), (1, .iload_n 2, 1), (2, .if_icmp .ne 5, 3), (5, .iconst 1, 1), (6, .ireturn, 1), (7, .aload_n 0, 1), (8, .iload_n 1, 1), (9, .invokevirtual 42, 3)]), (27, [(12, .ifCond .eq 17, 3), (15, .aload_n 0, 1), (16, .iload_n 2, 1), (17, .invokevirtual 42, 3), (20, .ifCond .eq 9, 3), (23, .iload_n 3, 1), (24, .bipush 16, 2), (26, .if_icmp .le 5, 3)]), (39, [(29, .iconst 0, 1), (30, .ireturn, 1), (31, .aload_n 0, 1), (32, .getfield 15, 3), (35, .iload_n 1, 1), (36, .iaload, 1), (37, .aload_n 0, 1), (38, .getfield 15, 3)]), (53, [(41, .iload_n 2, 1), (42, .iaload, 1), (43, .if_icmp .ne 18, 3), (46, .aload_n 0, 1), (47, .getfield 19, 3), (50, .iload_n 1, 1), (51, .iaload, 1), (52, .aload_n 0, 1)]), (65, [(53, .getfield 19, 3), (56, .iload_n 2, 1), (57, .iaload, 1), (58, .if_icmp .eq 5, 3), (61, .iconst 0, 1), (62, .ireturn, 1), (63, .aload_n 0, 1), (64, .getfield 15, 3)]), (77, [(67, .iload_n 1, 1), (68, .iaload, 1), (69, .iconst 2, 1), (70, .if_icmp .ne 11, 3), (73, .aload_n 0, 1), (74, .iload_n 1, 1), (75, .iload_n 2, 1), (76, .iload_n 3, 1)]), (89, [(77, .invokevirtual 95, 3), (80, .ireturn, 1), (81, .aload_n 0, 1), (82, .getfield 22, 3), (85, .iload_n 1, 1), (86, .iaload, 1), (87, .aload_n 0, 1), (88, .getfield 22, 3)]), (103, [(91, .iload_n 2, 1), (92, .iaload, 1), (93, .if_icmp .ne 26, 3), (96, .aload_n 0, 1), (97, .getfield 15, 3), (100, .iload_n 1, 1), (101, .iaload, 1), (102, .ifCond .eq 13, 3)]), (117, [(105, .aload_n 0, 1), (106, .iload_n 1, 1), (107, .iload_n 2, 1), (108, .iload_n 3, 1), (109, .invokevirtual 99, 3), (112, .ifCond .eq 7, 3), (115, .iconst 1, 1), (116, .goto 4, 3)]), (121, [(119, .iconst 0, 1), (120, .ireturn, 1)])]
set_option maxRecDepth 20000 in
theorem zkd_X3_areEqual : ∀ q ∈ zk_X3_areEqual, ∀ e ∈ q.2, decode cX3_areEqual e.1 = .ok e.2 ∧ zlo e = true := by decide +kernel
def zm_X3_areEqual : zMe := ((3, 2, 4, zk_X3_areEqual), (yX3_areEqual, cX3_areEqual, (some .boolean)))
set_option maxRecDepth 20000 in
theorem zp_X3_areEqual : zP zm_X3_areEqual := ⟨zkd_X3_areEqual, List.mem_of_getElem? (i := 553) rfl, by decide +kernel, rfl, rfl, by decide +kernel, by decide +kernel⟩
def zk_X3_haveEqualElements : zCd := [(7, [(0, .iconst 0, 1), (1, .istore 4, 2), (3, .iload 4, 2), (5, .aload_n 0, 1), (6, .iload_n 1, 1)]), (16, [(7, .invokevirtual 92, 3), (10, .if_icmp .ge 35, 3), (13, .aload_n 0, 1), (14, .aload_n 0, 1), (15, .iload_n 1, 1)]), (24, [(16, .iload 4, 2), (18, .invokevirtual 77, 3), (21, .aload_n 0, 1), (22, .iload_n 2, 1), (23, .iload 4, 2)]), (32, [(25, .invokevirtual 77, 3), (28, .iload_n 3, 1), (29, .iconst 1, 1), (30, .iadd, 1), (31, .invokevirtual 102, 3)]), (43, [(34, .ifCond .ne 5, 3), (37, .iconst 0, 1), (38, .ireturn, 1), (39, .iinc 4 1, 3), (42, .goto (-39), 3)]), (47, [(45, .iconst 1, 1), (46, .ireturn, 1)])]
set_option maxRecDepth 20000 in
theorem zkd_X3_haveEqualElements : ∀ q ∈ zk_X3_haveEqualElements, ∀ e ∈ q.2, decode cX3_haveEqualElements e.1 = .ok e.2 ∧ zlo e = true := by decide +kernel
def zm_X3_haveEqualElements : zMe := ((3, 2, 5, zk_X3_haveEqualElements), (yX3_haveEqualElements, cX3_haveEqualElements, (some .boolean)))
set_option maxRecDepth 20000 in
theorem zp_X3_haveEqualElements : zP zm_X3_haveEqualElements := ⟨zkd_X3_haveEqualElements, List.mem_of_getElem? (i := 560) rfl, by decide +kernel, rfl, rfl, by decide +kernel, by decide +kernel⟩
def zk_X3_haveEqualParts : zCd := [(7, [(0, .iconst 0, 1), (1, .istore 4, 2), (3, .iload 4, 2), (5, .aload_n 0, 1), (6, .getfield 22, 3)]), (16, [(9, .iload_n 1, 1), (10, .iaload, 1), (11, .if_icmp .ge 35, 3), (14, .aload_n 0, 1), (15, .aload_n 0, 1)]), (24, [(16, .iload_n 1, 1), (17, .iload 4, 2), (19, .invokevirtual 62, 3), (22, .aload_n 0, 1), (23, .iload_n 2, 1)]), (32, [(24, .iload 4, 2), (26, .invokevirtual 62, 3), (29, .iload_n 3, 1), (30, .iconst 1, 1), (31, .iadd, 1)]), (41, [(32, .invokevirtual 102, 3), (35, .ifCond .ne 5, 3), (38, .iconst 0, 1), (39, .ireturn, 1), (40, .iinc 4 1, 3)]), (48, [(43, .goto (-40), 3), (46, .iconst 1, 1), (47, .ireturn, 1)])]
set_option maxRecDepth 20000 in
theorem zkd_X3_haveEqualParts : ∀ q ∈ zk_X3_haveEqualParts, ∀ e ∈ q.2, decode cX3_haveEqualParts e.1 = .ok e.2 ∧ zlo e = true := by decide +kernel
def zm_X3_haveEqualParts : zMe := ((3, 2, 5, zk_X3_haveEqualParts), (yX3_haveEqualParts, cX3_haveEqualParts, (some .boolean)))
set_option maxRecDepth 20000 in
theorem zp_X3_haveEqualParts : zP zm_X3_haveEqualParts := ⟨zkd_X3_haveEqualParts, List.mem_of_getElem? (i := 562) rfl, by decide +kernel, rfl, rfl, by decide +kernel, by decide +kernel⟩
def zk_X4_write : zCd := [(7, [(0, .aload_n 0, 1), (1, .iconst 0, 1), (2, .invokevirtual 38, 3), (5, .aload_n 0, 1), (6, .iload_n 1, 1)]), (16, [(7, .iconst 0, 1), (8, .invokevirtual 42, 3), (11, .aload_n 0, 1), (12, .getfield 23, 3), (15, .sipush 2000, 3)]), (26, [(18, .if_icmp .le 6, 3), (21, .bipush (-3), 2), (23, .ireturn, 1), (24, .aload_n 0, 1), (25, .iconst 1, 1)]), (33, [(26, .invokevirtual 38, 3), (29, .aload_n 0, 1), (30, .iload_n 1, 1), (31, .iconst 0, 1), (32, .invokevirtual 42, 3)]), (44, [(35, .aload_n 0, 1), (36, .aload_n 0, 1), (37, .getfield 23, 3), (40, .putfield 15, 3), (43, .aload_n 0, 1)]), (48, [(44, .getfield 15, 3), (47, .ireturn, 1)])]
set_option maxRecDepth 20000 in
theorem zkd_X4_write : ∀ q ∈ zk_X4_write, ∀ e ∈ q.2, decode cX4_write e.1 = .ok e.2 ∧ zlo e = true := by decide +kernel
def zm_X4_write : zMe := ((4, 1, 2, zk_X4_write), (yX4_write, cX4_write, (some .int)))
set_option maxRecDepth 20000 in
theorem zp_X4_write : zP zm_X4_write := ⟨zkd_X4_write, List.mem_of_getElem? (i := 582) rfl, by decide +kernel, rfl, rfl, by decide +kernel, by decide +kernel⟩
def zk_X4_begin : zCd := [(6, [(0, .aload_n 0, 1), (1, .iconst 0, 1), (2, .putfield 23, 3), (5, .aload_n 0, 1)]), (11, [(6, .iload_n 1, 1), (7, .putfield 26, 3), (10, .return_, 1)])]
set_option maxRecDepth 20000 in
theorem zkd_X4_begin : ∀ q ∈ zk_X4_begin, ∀ e ∈ q.2, decode cX4_begin e.1 = .ok e.2 ∧ zlo e = true := by decide +kernel
def zm_X4_begin : zMe := ((4, 0, 2, zk_X4_begin), (yX4_begin, cX4_begin, none))
set_option maxRecDepth 20000 in
theorem zp_X4_begin : zP zm_X4_begin := ⟨zkd_X4_begin, List.mem_of_getElem? (i := 586) rfl, by decide +kernel, rfl, rfl, by decide +kernel, by decide +kernel⟩
def zk_X4_writeByte : zCd := [(8, [(0, .aload_n 0, 1), (1, .getfield 26, 3), (4, .ifCond .eq 24, 3), (7, .aload_n 0, 1)]), (18, [(8, .getfield 23, 3), (11, .sipush 2000, 3), (14, .if_icmp .ge 14, 3), (17, .aload_n 0, 1)]), (26, [(18, .getfield 9, 3), (21, .aload_n 0, 1), (22, .getfield 23, 3), (25, .iload_n 1, 1)]), (30, [(26, .i2b, 1), (27, .bastore, 1), (28, .aload_n 0, 1), (29, .dup, 1)]), (36, [(30, .getfield 23, 3), (33, .iconst 1, 1), (34, .iadd, 1), (35, .putfield 23, 3)]), (39, [(38, .return_, 1)])]
set_option maxRecDepth 20000 in
theorem zkd_X4_writeByte : ∀ q ∈ zk_X4_writeByte, ∀ e ∈ q.2, decode cX4_writeByte e.1 = .ok e.2 ∧ zlo e = true := by decide +kernel
def zm_X4_writeByte : zMe := ((4, 0, 2, zk_X4_writeByte), (yX4_writeByte, cX4_writeByte, none))
set_option maxRecDepth 20000 in
theorem zp_X4_writeByte : zP zm_X4_writeByte := ⟨zkd_X4_writeByte, List.mem_of_getElem? (i := 608) rfl, by decide +kernel, rfl, rfl, by decide +kernel, by decide +kernel⟩
def zk_X4_writeValue : zCd := [(12, [(0, .aload_n 0, 1), (1, .getfield 34, 3), (4, .iload_n 1, 1), (5, .invokevirtual 46, 3), (8, .ifCond .eq 19, 3), (11, .iload_n 2, 1)]), (25, [(12, .bipush 16, 2), (14, .if_icmp .gt 13, 3), (17, .aload_n 0, 1), (18, .getfield 23, 3), (21, .sipush 2000, 3), (24, .if_icmp .le 4, 3)]), (37, [(27, .return_, 1), (28, .aload_n 0, 1), (29, .getfield 34, 3), (32, .getfield 52, 3), (35, .iload_n 1, 1), (36, .iaload, 1)]), (71, [(37, .lookupswitch 45 #[(1, 27), (2, 36)], 27), (64, .aload_n 0, 1), (65, .iload_n 1, 1), (66, .iload_n 2, 1), (67, .invokevirtual 55, 3), (70, .goto 34, 3)]), (83, [(73, .aload_n 0, 1), (74, .iload_n 1, 1), (75, .iload_n 2, 1), (76, .invokevirtual 58, 3), (79, .goto 25, 3), (82, .aload_n 0, 1)]), (93, [(83, .aload_n 0, 1), (84, .getfield 34, 3), (87, .getfield 61, 3), (90, .iload_n 1, 1), (91, .iaload, 1), (92, .aload_n 0, 1)]), (105, [(93, .getfield 34, 3), (96, .getfield 64, 3), (99, .iload_n 1, 1), (100, .iaload, 1), (101, .invokevirtual 67, 3), (104, .return_, 1)])]
set_option maxRecDepth 20000 in
theorem zkd_X4_writeValue : ∀ q ∈ zk_X4_writeValue, ∀ e ∈ q.2, decode cX4_writeValue e.1 = .ok e.2 ∧ zlo e = true := by decide +kernel
def zm_X4_writeValue : zMe := ((4, 0, 3, zk_X4_writeValue), (yX4_writeValue, cX4_writeValue, none))
set_option maxRecDepth 20000 in
theorem zp_X4_writeValue : zP zm_X4_writeValue := ⟨zkd_X4_writeValue, List.mem_of_getElem? (i := 590) rfl, by decide +kernel, rfl, rfl, by decide +kernel, by decide +kernel⟩
def zk_X4_writeRow : zCd := [(8, [(0, .aload_n 0, 1), (1, .bipush 123, 2), (3, .invokevirtual 70, 3), (6, .iconst 0, 1), (7, .istore_n 3, 1)]), (17, [(8, .iload_n 3, 1), (9, .aload_n 0, 1), (10, .getfield 34, 3), (13, .getfield 64, 3), (16, .iload_n 1, 1)]), (26, [(17, .iaload, 1), (18, .if_icmp .ge 35, 3), (21, .iload_n 3, 1), (22, .ifCond .le 9, 3), (25, .aload_n 0, 1)]), (34, [(26, .bipush 44, 2), (28, .invokevirtual 70, 3), (31, .aload_n 0, 1), (32, .aload_n 0, 1), (33, .getfield 34, 3)]), (43, [(36, .iload_n 1, 1), (37, .iload_n 3, 1), (38, .invokevirtual 74, 3), (41, .iload_n 2, 1), (42, .iconst 1, 1)]), (54, [(43, .iadd, 1), (44, .invokevirtual 42, 3), (47, .iinc 3 1, 3), (50, .goto (-42), 3), (53, .aload_n 0, 1)]), (60, [(54, .bipush 125, 2), (56, .invokevirtual 70, 3), (59, .return_, 1)])]
set_option maxRecDepth 20000 in
theorem zkd_X4_writeRow : ∀ q ∈ zk_X4_writeRow, ∀ e ∈ q.2, decode cX4_writeRow e.1 = .ok e.2 ∧ zlo e = true := by decide +kernel
def zm_X4_writeRow : zMe := ((4, 0, 4, zk_X4_writeRow), (yX4_writeRow, cX4_writeRow, none))
set_option maxRecDepth 20000 in
theorem zp_X4_writeRow : zP zm_X4_writeRow := ⟨zkd_X4_writeRow, List.mem_of_getElem? (i := 623) rfl, by decide +kernel, rfl, rfl, by decide +kernel, by decide +kernel⟩
def zk_X4_writeInstance : zCd := [(13, [(0, .aload_n 0, 1), (1, .getfield 34, 3), (4, .iload_n 1, 1), (5, .invokevirtual 78, 3), (8, .istore_n 3, 1), (9, .iconst 1, 1), (10, .istore 4, 2), (12, .aload_n 0, 1)]), (27, [(13, .bipush 64, 2), (15, .invokevirtual 70, 3), (18, .aload_n 0, 1), (19, .iload_n 3, 1), (20, .invokevirtual 82, 3), (23, .aload_n 0, 1), (24, .bipush 40, 2), (26, .invokevirtual 70, 3)]), (43, [(29, .iconst 0, 1), (30, .istore 5, 2), (32, .iload 5, 2), (34, .aload_n 0, 1), (35, .getfield 30, 3), (38, .getfield 85, 3), (41, .iload_n 3, 1), (42, .iaload, 1)]), (59, [(43, .if_icmp .ge 77, 3), (46, .aload_n 0, 1), (47, .getfield 34, 3), (50, .iload_n 1, 1), (51, .iload 5, 2), (53, .invokevirtual 90, 3), (56, .istore 6, 2), (58, .iload 6, 2)]), (76, [(60, .iconst (-1), 1), (61, .if_icmp .ne 6, 3), (64, .goto 50, 3), (67, .iload 4, 2), (69, .ifCond .ne 9, 3), (72, .aload_n 0, 1), (73, .bipush 44, 2), (75, .invokevirtual 70, 3)]), (91, [(78, .iconst 0, 1), (79, .istore 4, 2), (81, .aload_n 0, 1), (82, .aload_n 0, 1), (83, .getfield 30, 3), (86, .getfield 93, 3), (89, .iload_n 3, 1), (90, .iconst 5, 1)]), (103, [(91, .imul, 1), (92, .iload 5, 2), (94, .iadd, 1), (95, .iaload, 1), (96, .invokevirtual 82, 3), (99, .aload_n 0, 1), (100, .bipush 61, 2), (102, .invokevirtual 70, 3)]), (118, [(105, .aload_n 0, 1), (106, .iload 6, 2), (108, .iload_n 2, 1), (109, .iconst 1, 1), (110, .iadd, 1), (111, .invokevirtual 42, 3), (114, .iinc 5 1, 3), (117, .goto (-85), 3)]), (127, [(120, .aload_n 0, 1), (121, .bipush 41, 2), (123, .invokevirtual 70, 3), (126, .return_, 1)])]
set_option maxRecDepth 20000 in
theorem zkd_X4_writeInstance : ∀ q ∈ zk_X4_writeInstance, ∀ e ∈ q.2, decode cX4_writeInstance e.1 = .ok e.2 ∧ zlo e = true := by decide +kernel
def zm_X4_writeInstance : zMe := ((4, 0, 7, zk_X4_writeInstance), (yX4_writeInstance, cX4_writeInstance, none))
set_option maxRecDepth 20000 in
theorem zp_X4_writeInstance : zP zm_X4_writeInstance := ⟨zkd_X4_writeInstance, List.mem_of_getElem? (i := 618) rfl, by decide +kernel, rfl, rfl, by decide +kernel, by decide +kernel⟩
def zk_X4_writeSimple : zCd := [(30, [(0, .iload_n 1, 1), (1, .tableswitch 54 1 3 #[27, 36, 45], 27), (28, .aload_n 0, 1), (29, .bipush 119, 2)]), (39, [(31, .invokevirtual 70, 3), (34, .goto 21, 3), (37, .aload_n 0, 1), (38, .bipush 99, 2)]), (48, [(40, .invokevirtual 70, 3), (43, .goto 12, 3), (46, .aload_n 0, 1), (47, .bipush 116, 2)]), (57, [(49, .invokevirtual 70, 3), (52, .goto 3, 3), (55, .aload_n 0, 1), (56, .iload_n 2, 1)]), (61, [(57, .invokevirtual 82, 3), (60, .return_, 1)])]
set_option maxRecDepth 20000 in
theorem zkd_X4_writeSimple : ∀ q ∈ zk_X4_writeSimple, ∀ e ∈ q.2, decode cX4_writeSimple e.1 = .ok e.2 ∧ zlo e = true := by decide +kernel
def zm_X4_writeSimple : zMe := ((4, 0, 3, zk_X4_writeSimple), (yX4_writeSimple, cX4_writeSimple, none))
set_option maxRecDepth 20000 in
theorem zp_X4_writeSimple : zP zm_X4_writeSimple := ⟨zkd_X4_writeSimple, List.mem_of_getElem? (i := 604) rfl, by decide +kernel, rfl, rfl, by decide +kernel, by decide +kernel⟩
def zk_X4_writeDigits : zCd := [(11, [(0, .iload_n 1, 1), (1, .i2l, 1), (2, .invokestatic 96, 3), (5, .lstore_n 2, 1), (6, .iload_n 1, 1), (7, .ifCond .ge 9, 3), (10, .aload_n 0, 1)]), (23, [(11, .bipush 45, 2), (13, .invokevirtual 70, 3), (16, .iconst 0, 1), (17, .istore 4, 2), (19, .iconst 0, 1), (20, .istore 5, 2), (22, .iload 5, 2)]), (37, [(24, .bipush 10, 2), (26, .if_icmp .ge 42, 3), (29, .iload 5, 2), (31, .ifCond .eq 9, 3), (34, .lload_n 2, 1), (35, .lconst 0, 1), (36, .lcmp, 1)]), (51, [(37, .ifCond .le 31, 3), (40, .aload_n 0, 1), (41, .getfield 19, 3), (44, .iload 5, 2), (46, .lload_n 2, 1), (47, .ldc2_w 102, 3), (50, .lrem, 1)]), (60, [(51, .l2i, 1), (52, .iastore, 1), (53, .lload_n 2, 1), (54, .ldc2_w 102, 3), (57, .ldiv, 1), (58, .lstore_n 2, 1), (59, .iinc 4 1, 3)]), (75, [(62, .iinc 5 1, 3), (65, .goto (-43), 3), (68, .iload 4, 2), (70, .iconst 1, 1), (71, .isub, 1), (72, .istore 5, 2), (74, .iload 5, 2)]), (89, [(76, .ifCond .lt 23, 3), (79, .aload_n 0, 1), (80, .bipush 48, 2), (82, .aload_n 0, 1), (83, .getfield 19, 3), (86, .iload 5, 2), (88, .iaload, 1)]), (100, [(89, .iadd, 1), (90, .invokevirtual 70, 3), (93, .iinc 5 (-1), 3), (96, .goto (-22), 3), (99, .return_, 1)])]
set_option maxRecDepth 20000 in
theorem zkd_X4_writeDigits : ∀ q ∈ zk_X4_writeDigits, ∀ e ∈ q.2, decode cX4_writeDigits e.1 = .ok e.2 ∧ zlo e = true := by decide +kernel
def zm_X4_writeDigits : zMe := ((4, 0, 6, zk_X4_writeDigits), (yX4_writeDigits, cX4_writeDigits, none))
set_option maxRecDepth 20000 in
theorem zp_X4_writeDigits : zP zm_X4_writeDigits := ⟨zkd_X4_writeDigits, List.mem_of_getElem? (i := 612) rfl, by decide +kernel, rfl, rfl, by decide +kernel, by decide +kernel⟩
def zk_X5_mark : zCd := [(6, [(0, .iload_n 1, 1), (1, .ifCond .lt 18, 3), (4, .iload_n 1, 1), (5, .bipush 31, 2)]), (15, [(7, .if_icmp .gt 12, 3), (10, .iload_n 2, 1), (11, .ifCond .lt 8, 3), (14, .iload_n 2, 1)]), (22, [(15, .iconst 2, 1), (16, .if_icmp .le 6, 3), (19, .bipush (-2), 2), (21, .ireturn, 1)]), (28, [(22, .aload_n 0, 1), (23, .getfield 15, 3), (26, .iload_n 1, 1), (27, .iload_n 2, 1)]), (33, [(28, .iload_n 3, 1), (29, .invokevirtual 56, 3), (32, .ireturn, 1)])]
set_option maxRecDepth 20000 in
theorem zkd_X5_mark : ∀ q ∈ zk_X5_mark, ∀ e ∈ q.2, decode cX5_mark e.1 = .ok e.2 ∧ zlo e = true := by decide +kernel
def zm_X5_mark : zMe := ((5, 1, 4, zk_X5_mark), (yX5_mark, cX5_mark, (some .int)))
set_option maxRecDepth 20000 in
theorem zp_X5_mark : zP zm_X5_mark := ⟨zkd_X5_mark, List.mem_of_getElem? (i := 129) rfl, by decide +kernel, rfl, rfl, by decide +kernel, by decide +kernel⟩
def zk_X5_element : zCd := [(13, [(0, .aload_n 0, 1), (1, .getfield 15, 3), (4, .iload_n 1, 1), (5, .invokevirtual 60, 3), (8, .ifCond .eq 24, 3), (11, .iload_n 2, 1), (12, .ifCond .lt 20, 3)]), (27, [(15, .iload_n 2, 1), (16, .bipush 9, 2), (18, .if_icmp .gt 14, 3), (21, .aload_n 0, 1), (22, .getfield 15, 3), (25, .iload_n 3, 1), (26, .invokevirtual 64, 3)]), (41, [(29, .ifCond .ne 6, 3), (32, .bipush (-2), 2), (34, .ireturn, 1), (35, .aload_n 0, 1), (36, .getfield 15, 3), (39, .iload_n 1, 1), (40, .iload_n 2, 1)]), (53, [(41, .invokevirtual 67, 3), (44, .iconst (-1), 1), (45, .if_icmp .eq 6, 3), (48, .bipush (-2), 2), (50, .ireturn, 1), (51, .aload_n 0, 1), (52, .getfield 15, 3)]), (67, [(55, .iload_n 1, 1), (56, .invokevirtual 71, 3), (59, .ifCond .eq 6, 3), (62, .bipush (-4), 2), (64, .ireturn, 1), (65, .aload_n 0, 1), (66, .getfield 15, 3)]), (81, [(69, .iload_n 1, 1), (70, .iload_n 3, 1), (71, .invokevirtual 74, 3), (74, .ifCond .eq 6, 3), (77, .bipush (-6), 2), (79, .ireturn, 1), (80, .aload_n 0, 1)]), (93, [(81, .getfield 15, 3), (84, .iload_n 1, 1), (85, .iload_n 2, 1), (86, .iload_n 3, 1), (87, .iload 4, 2), (89, .invokevirtual 78, 3), (92, .ireturn, 1)])]
set_option maxRecDepth 20000 in
theorem zkd_X5_element : ∀ q ∈ zk_X5_element, ∀ e ∈ q.2, decode cX5_element e.1 = .ok e.2 ∧ zlo e = true := by decide +kernel
def zm_X5_element : zMe := ((5, 1, 5, zk_X5_element), (yX5_element, cX5_element, (some .int)))
set_option maxRecDepth 20000 in
theorem zp_X5_element : zP zm_X5_element := ⟨zkd_X5_element, List.mem_of_getElem? (i := 142) rfl, by decide +kernel, rfl, rfl, by decide +kernel, by decide +kernel⟩
def zk_X5_fallback : zCd := [(12, [(0, .aload_n 0, 1), (1, .getfield 15, 3), (4, .iload_n 1, 1), (5, .iload_n 2, 1), (6, .invokevirtual 67, 3), (9, .istore 4, 2), (11, .iload 4, 2)]), (26, [(13, .iconst (-1), 1), (14, .if_icmp .eq 11, 3), (17, .aload_n 0, 1), (18, .iload_n 3, 1), (19, .invokevirtual 82, 3), (22, .ifCond .ne 6, 3), (25, .bipush (-2), 2)]), (40, [(27, .ireturn, 1), (28, .aload_n 0, 1), (29, .getfield 15, 3), (32, .iload_n 1, 1), (33, .invokevirtual 71, 3), (36, .ifCond .eq 6, 3), (39, .bipush (-4), 2)]), (52, [(41, .ireturn, 1), (42, .iload_n 3, 1), (43, .iconst (-1), 1), (44, .if_icmp .eq 30, 3), (47, .aload_n 0, 1), (48, .getfield 21, 3), (51, .getfield 85, 3)]), (65, [(54, .iload_n 3, 1), (55, .baload, 1), (56, .ifCond .ne 15, 3), (59, .aload_n 0, 1), (60, .getfield 21, 3), (63, .iload_n 3, 1), (64, .iconst 0, 1)]), (78, [(65, .invokevirtual 89, 3), (68, .ifCond .ne 6, 3), (71, .bipush (-4), 2), (73, .ireturn, 1), (74, .aload_n 0, 1), (75, .iload 4, 2), (77, .iload_n 3, 1)]), (92, [(78, .invokevirtual 92, 3), (81, .istore 5, 2), (83, .iload 5, 2), (85, .ifCond .ge 6, 3), (88, .iload 5, 2), (90, .ireturn, 1), (91, .aload_n 0, 1)]), (105, [(92, .getfield 15, 3), (95, .getfield 95, 3), (98, .iload 4, 2), (100, .iload 5, 2), (102, .iastore, 1), (103, .iconst 1, 1), (104, .ireturn, 1)])]
set_option maxRecDepth 20000 in
theorem zkd_X5_fallback : ∀ q ∈ zk_X5_fallback, ∀ e ∈ q.2, decode cX5_fallback e.1 = .ok e.2 ∧ zlo e = true := by decide +kernel
def zm_X5_fallback : zMe := ((5, 1, 6, zk_X5_fallback), (yX5_fallback, cX5_fallback, (some .int)))
set_option maxRecDepth 20000 in
theorem zp_X5_fallback : zP zm_X5_fallback := ⟨zkd_X5_fallback, List.mem_of_getElem? (i := 207) rfl, by decide +kernel, rfl, rfl, by decide +kernel, by decide +kernel⟩
def zk_X5_container : zCd := [(13, [(0, .aload_n 0, 1), (1, .getfield 15, 3), (4, .iload_n 1, 1), (5, .invokevirtual 60, 3), (8, .ifCond .eq 14, 3), (11, .aload_n 0, 1), (12, .getfield 15, 3)]), (27, [(15, .iload_n 2, 1), (16, .invokevirtual 60, 3), (19, .ifCond .ne 6, 3), (22, .bipush (-2), 2), (24, .ireturn, 1), (25, .aload_n 0, 1), (26, .getfield 15, 3)]), (40, [(29, .getfield 98, 3), (32, .iload_n 1, 1), (33, .iaload, 1), (34, .iconst (-1), 1), (35, .if_icmp .ne 15, 3), (38, .aload_n 0, 1), (39, .getfield 15, 3)]), (54, [(42, .getfield 101, 3), (45, .iload_n 1, 1), (46, .baload, 1), (47, .ifCond .eq 6, 3), (50, .bipush (-4), 2), (52, .ireturn, 1), (53, .aload_n 0, 1)]), (67, [(54, .getfield 15, 3), (57, .iload_n 2, 1), (58, .iload_n 1, 1), (59, .invokevirtual 104, 3), (62, .ifCond .ne 5, 3), (65, .iconst 0, 1), (66, .ireturn, 1)]), (78, [(67, .aload_n 0, 1), (68, .getfield 15, 3), (71, .getfield 98, 3), (74, .iload_n 1, 1), (75, .iload_n 2, 1), (76, .iastore, 1), (77, .aload_n 0, 1)]), (89, [(78, .getfield 15, 3), (81, .getfield 107, 3), (84, .iload_n 2, 1), (85, .iload_n 1, 1), (86, .iastore, 1), (87, .iconst 1, 1), (88, .ireturn, 1)])]
set_option maxRecDepth 20000 in
theorem zkd_X5_container : ∀ q ∈ zk_X5_container, ∀ e ∈ q.2, decode cX5_container e.1 = .ok e.2 ∧ zlo e = true := by decide +kernel
def zm_X5_container : zMe := ((5, 1, 3, zk_X5_container), (yX5_container, cX5_container, (some .int)))
set_option maxRecDepth 20000 in
theorem zp_X5_container : zP zm_X5_container := ⟨zkd_X5_container, List.mem_of_getElem? (i := 342) rfl, by decide +kernel, rfl, rfl, by decide +kernel, by decide +kernel⟩
def zk_X5_place : zCd := [(6, [(0, .aload_n 0, 1), (1, .getfield 28, 3), (4, .iload_n 1, 1), (5, .iload_n 2, 1)]), (14, [(6, .invokevirtual 110, 3), (9, .ifCond .eq 15, 3), (12, .aload_n 0, 1), (13, .getfield 28, 3)]), (22, [(16, .iload_n 1, 1), (17, .iload_n 2, 1), (18, .invokevirtual 113, 3), (21, .goto 5, 3)]), (27, [(24, .bipush (-2), 2), (26, .ireturn, 1)])]
set_option maxRecDepth 20000 in
theorem zkd_X5_place : ∀ q ∈ zk_X5_place, ∀ e ∈ q.2, decode cX5_place e.1 = .ok e.2 ∧ zlo e = true := by decide +kernel
def zm_X5_place : zMe := ((5, 1, 3, zk_X5_place), (yX5_place, cX5_place, (some .int)))
set_option maxRecDepth 20000 in
theorem zp_X5_place : zP zm_X5_place := ⟨zkd_X5_place, List.mem_of_getElem? (i := 367) rfl, by decide +kernel, rfl, rfl, by decide +kernel, by decide +kernel⟩
def zk_X5_value : zCd := [(4, [(0, .aload_n 0, 1), (1, .iload_n 1, 1), (2, .iload_n 2, 1), (3, .invokevirtual 115, 3)]), (14, [(6, .ifCond .eq 16, 3), (9, .aload_n 0, 1), (10, .getfield 21, 3), (13, .iconst 0, 1)]), (20, [(14, .iload_n 1, 1), (15, .iload_n 2, 1), (16, .invokevirtual 118, 3), (19, .goto 5, 3)]), (25, [(22, .bipush (-2), 2), (24, .ireturn, 1)])]
set_option maxRecDepth 20000 in
theorem zkd_X5_value : ∀ q ∈ zk_X5_value, ∀ e ∈ q.2, decode cX5_value e.1 = .ok e.2 ∧ zlo e = true := by decide +kernel
def zm_X5_value : zMe := ((5, 1, 3, zk_X5_value), (yX5_value, cX5_value, (some .int)))
set_option maxRecDepth 20000 in
theorem zp_X5_value : zP zm_X5_value := ⟨zkd_X5_value, List.mem_of_getElem? (i := 412) rfl, by decide +kernel, rfl, rfl, by decide +kernel, by decide +kernel⟩
def zk_X5_row : zCd := [(6, [(0, .aload_n 0, 1), (1, .getfield 15, 3), (4, .iload_n 1, 1), (5, .invokevirtual 64, 3)]), (16, [(8, .ifCond .eq 16, 3), (11, .aload_n 0, 1), (12, .getfield 21, 3), (15, .iconst 1, 1)]), (22, [(16, .iload_n 1, 1), (17, .iconst 0, 1), (18, .invokevirtual 118, 3), (21, .goto 5, 3)]), (27, [(24, .bipush (-2), 2), (26, .ireturn, 1)])]
set_option maxRecDepth 20000 in
theorem zkd_X5_row : ∀ q ∈ zk_X5_row, ∀ e ∈ q.2, decode cX5_row e.1 = .ok e.2 ∧ zlo e = true := by decide +kernel
def zm_X5_row : zMe := ((5, 1, 2, zk_X5_row), (yX5_row, cX5_row, (some .int)))
set_option maxRecDepth 20000 in
theorem zp_X5_row : zP zm_X5_row := ⟨zkd_X5_row, List.mem_of_getElem? (i := 426) rfl, by decide +kernel, rfl, rfl, by decide +kernel, by decide +kernel⟩
def zk_X5_push : zCd := [(14, [(0, .aload_n 0, 1), (1, .getfield 21, 3), (4, .iload_n 1, 1), (5, .iconst 1, 1), (6, .invokevirtual 121, 3), (9, .ifCond .eq 11, 3), (12, .aload_n 0, 1), (13, .iload_n 2, 1)]), (31, [(14, .invokevirtual 82, 3), (17, .ifCond .ne 6, 3), (20, .bipush (-2), 2), (22, .ireturn, 1), (23, .aload_n 0, 1), (24, .getfield 21, 3), (27, .getfield 85, 3), (30, .iload_n 1, 1)]), (45, [(31, .baload, 1), (32, .ifCond .ne 12, 3), (35, .aload_n 0, 1), (36, .iload_n 2, 1), (37, .iload_n 1, 1), (38, .invokevirtual 124, 3), (41, .ifCond .eq 6, 3), (44, .bipush (-4), 2)]), (58, [(46, .ireturn, 1), (47, .aload_n 0, 1), (48, .getfield 21, 3), (51, .getfield 127, 3), (54, .iload_n 1, 1), (55, .iaload, 1), (56, .iconst 4, 1), (57, .if_icmp .lt 6, 3)]), (71, [(60, .bipush (-3), 2), (62, .ireturn, 1), (63, .iload_n 2, 1), (64, .iconst (-1), 1), (65, .if_icmp .ne 9, 3), (68, .aload_n 0, 1), (69, .iconst 1, 1), (70, .invokevirtual 130, 3)]), (87, [(73, .ireturn, 1), (74, .aload_n 0, 1), (75, .getfield 21, 3), (78, .iload_n 2, 1), (79, .aload_n 0, 1), (80, .getfield 21, 3), (83, .getfield 134, 3), (86, .iload_n 1, 1)]), (101, [(87, .iaload, 1), (88, .invokevirtual 137, 3), (91, .ifCond .ne 9, 3), (94, .aload_n 0, 1), (95, .iconst 3, 1), (96, .invokevirtual 130, 3), (99, .ireturn, 1), (100, .aload_n 0, 1)]), (115, [(101, .iconst 0, 1), (102, .putfield 52, 3), (105, .aload_n 0, 1), (106, .getfield 21, 3), (109, .iload_n 1, 1), (110, .iload_n 2, 1), (111, .invokevirtual 140, 3), (114, .ireturn, 1)])]
set_option maxRecDepth 20000 in
theorem zkd_X5_push : ∀ q ∈ zk_X5_push, ∀ e ∈ q.2, decode cX5_push e.1 = .ok e.2 ∧ zlo e = true := by decide +kernel
def zm_X5_push : zMe := ((5, 1, 3, zk_X5_push), (yX5_push, cX5_push, (some .int)))
set_option maxRecDepth 20000 in
theorem zp_X5_push : zP zm_X5_push := ⟨zkd_X5_push, List.mem_of_getElem? (i := 434) rfl, by decide +kernel, rfl, rfl, by decide +kernel, by decide +kernel⟩
def zk_X5_instance : zCd := [(9, [(0, .aload_n 0, 1), (1, .getfield 15, 3), (4, .iload_n 1, 1), (5, .invokevirtual 60, 3), (8, .ifCond .ne 6, 3)]), (19, [(11, .bipush (-2), 2), (13, .ireturn, 1), (14, .aload_n 0, 1), (15, .getfield 21, 3), (18, .iconst 2, 1)]), (25, [(19, .bipush 10, 2), (21, .iload_n 1, 1), (22, .iadd, 1), (23, .iconst 0, 1), (24, .invokevirtual 118, 3)]), (35, [(27, .istore_n 2, 1), (28, .iload_n 2, 1), (29, .bipush (-3), 2), (31, .if_icmp .eq 13, 3), (34, .aload_n 0, 1)]), (44, [(35, .getfield 15, 3), (38, .getfield 143, 3), (41, .iload_n 1, 1), (42, .iconst 1, 1), (43, .bastore, 1)]), (46, [(44, .iload_n 2, 1), (45, .ireturn, 1)])]
set_option maxRecDepth 20000 in
theorem zkd_X5_instance : ∀ q ∈ zk_X5_instance, ∀ e ∈ q.2, decode cX5_instance e.1 = .ok e.2 ∧ zlo e = true := by decide +kernel
def zm_X5_instance : zMe := ((5, 1, 3, zk_X5_instance), (yX5_instance, cX5_instance, (some .int)))
set_option maxRecDepth 20000 in
theorem zp_X5_instance : zP zm_X5_instance := ⟨zkd_X5_instance, List.mem_of_getElem? (i := 454) rfl, by decide +kernel, rfl, rfl, by decide +kernel, by decide +kernel⟩
def zk_X5_give : zCd := [(14, [(0, .aload_n 0, 1), (1, .getfield 21, 3), (4, .iload_n 1, 1), (5, .iconst 2, 1), (6, .invokevirtual 121, 3), (9, .ifCond .eq 11, 3), (12, .aload_n 0, 1), (13, .iload_n 3, 1)]), (29, [(14, .invokevirtual 82, 3), (17, .ifCond .ne 6, 3), (20, .bipush (-2), 2), (22, .ireturn, 1), (23, .aload_n 0, 1), (24, .getfield 21, 3), (27, .iload_n 1, 1), (28, .invokevirtual 146, 3)]), (46, [(31, .istore 4, 2), (33, .aload_n 0, 1), (34, .getfield 15, 3), (37, .iload 4, 2), (39, .iload_n 2, 1), (40, .invokevirtual 149, 3), (43, .istore 5, 2), (45, .iload 5, 2)]), (62, [(47, .iconst (-1), 1), (48, .if_icmp .ne 6, 3), (51, .bipush (-2), 2), (53, .ireturn, 1), (54, .aload_n 0, 1), (55, .getfield 21, 3), (58, .getfield 85, 3), (61, .iload_n 1, 1)]), (76, [(62, .baload, 1), (63, .ifCond .ne 12, 3), (66, .aload_n 0, 1), (67, .iload_n 3, 1), (68, .iload_n 1, 1), (69, .invokevirtual 124, 3), (72, .ifCond .eq 6, 3), (75, .bipush (-4), 2)]), (90, [(77, .ireturn, 1), (78, .aload_n 0, 1), (79, .getfield 21, 3), (82, .iload_n 1, 1), (83, .iload 5, 2), (85, .invokevirtual 152, 3), (88, .iconst (-1), 1), (89, .if_icmp .eq 6, 3)]), (104, [(92, .bipush (-4), 2), (94, .ireturn, 1), (95, .aload_n 0, 1), (96, .aload_n 0, 1), (97, .getfield 15, 3), (100, .iload 4, 2), (102, .iload_n 2, 1), (103, .invokevirtual 67, 3)]), (121, [(106, .iload_n 3, 1), (107, .invokevirtual 92, 3), (110, .istore 6, 2), (112, .iload 6, 2), (114, .ifCond .ge 6, 3), (117, .iload 6, 2), (119, .ireturn, 1), (120, .aload_n 0, 1)]), (134, [(121, .getfield 21, 3), (124, .iload_n 1, 1), (125, .iload 5, 2), (127, .iload 6, 2), (129, .invokevirtual 155, 3), (132, .iconst 1, 1), (133, .ireturn, 1)])]
set_option maxRecDepth 20000 in
theorem zkd_X5_give : ∀ q ∈ zk_X5_give, ∀ e ∈ q.2, decode cX5_give e.1 = .ok e.2 ∧ zlo e = true := by decide +kernel
def zm_X5_give : zMe := ((5, 1, 7, zk_X5_give), (yX5_give, cX5_give, (some .int)))
set_option maxRecDepth 20000 in
theorem zp_X5_give : zP zm_X5_give := ⟨zkd_X5_give, List.mem_of_getElem? (i := 463) rfl, by decide +kernel, rfl, rfl, by decide +kernel, by decide +kernel⟩
def zk_X5_put : zCd := [(16, [(0, .aload_n 0, 1), (1, .getfield 28, 3), (4, .iload_n 1, 1), (5, .invokevirtual 159, 3), (8, .ifCond .eq 15, 3), (11, .aload_n 0, 1), (12, .getfield 21, 3), (15, .iload_n 2, 1)]), (31, [(16, .iconst 2, 1), (17, .invokevirtual 121, 3), (20, .ifCond .ne 6, 3), (23, .bipush (-2), 2), (25, .ireturn, 1), (26, .aload_n 0, 1), (27, .getfield 21, 3), (30, .getfield 85, 3)]), (44, [(33, .iload_n 2, 1), (34, .baload, 1), (35, .ifCond .eq 6, 3), (38, .bipush (-4), 2), (40, .ireturn, 1), (41, .aload_n 0, 1), (42, .iload_n 1, 1), (43, .iload_n 2, 1)]), (57, [(44, .invokevirtual 160, 3), (47, .istore_n 3, 1), (48, .iload_n 3, 1), (49, .ifCond .eq 8, 3), (52, .bipush (-10), 2), (54, .iload_n 3, 1), (55, .isub, 1), (56, .ireturn, 1)]), (72, [(57, .aload_n 0, 1), (58, .getfield 21, 3), (61, .iload_n 2, 1), (62, .invokevirtual 146, 3), (65, .istore 4, 2), (67, .aload_n 0, 1), (68, .getfield 35, 3), (71, .iload_n 1, 1)]), (86, [(72, .iload 4, 2), (74, .invokevirtual 163, 3), (77, .iconst 4, 1), (78, .if_icmp .lt 6, 3), (81, .bipush (-3), 2), (83, .ireturn, 1), (84, .aload_n 0, 1), (85, .getfield 21, 3)]), (102, [(88, .getfield 85, 3), (91, .iload_n 2, 1), (92, .iconst 1, 1), (93, .bastore, 1), (94, .aload_n 0, 1), (95, .getfield 15, 3), (98, .getfield 101, 3), (101, .iload 4, 2)]), (114, [(103, .iconst 1, 1), (104, .bastore, 1), (105, .aload_n 0, 1), (106, .getfield 35, 3), (109, .iload_n 1, 1), (110, .iload 4, 2), (112, .iload_n 2, 1), (113, .invokevirtual 166, 3)]), (127, [(116, .aload_n 0, 1), (117, .getfield 35, 3), (120, .iload_n 1, 1), (121, .iload 4, 2), (123, .invokevirtual 163, 3), (126, .ireturn, 1)])]
set_option maxRecDepth 20000 in
theorem zkd_X5_put : ∀ q ∈ zk_X5_put, ∀ e ∈ q.2, decode cX5_put e.1 = .ok e.2 ∧ zlo e = true := by decide +kernel
def zm_X5_put : zMe := ((5, 1, 5, zk_X5_put), (yX5_put, cX5_put, (some .int)))
set_option maxRecDepth 20000 in
theorem zp_X5_put : zP zm_X5_put := ⟨zkd_X5_put, List.mem_of_getElem? (i := 478) rfl, by decide +kernel, rfl, rfl, by decide +kernel, by decide +kernel⟩
def zk_X5_cause : zCd := [(5, [(0, .aload_n 0, 1), (1, .getfield 52, 3), (4, .ireturn, 1)])]
set_option maxRecDepth 20000 in
theorem zkd_X5_cause : ∀ q ∈ zk_X5_cause, ∀ e ∈ q.2, decode cX5_cause e.1 = .ok e.2 ∧ zlo e = true := by decide +kernel
def zm_X5_cause : zMe := ((5, 1, 1, zk_X5_cause), (yX5_cause, cX5_cause, (some .int)))
set_option maxRecDepth 20000 in
theorem zp_X5_cause : zP zm_X5_cause := ⟨zkd_X5_cause, List.mem_of_getElem? (i := 512) rfl, by decide +kernel, rfl, rfl, by decide +kernel, by decide +kernel⟩
def zk_X5_told : zCd := [(12, [(0, .aload_n 0, 1), (1, .getfield 21, 3), (4, .iload_n 1, 1), (5, .invokevirtual 168, 3), (8, .ifCond .ne 6, 3), (11, .bipush (-2), 2)]), (53, [(13, .ireturn, 1), (14, .iload_n 2, 1), (15, .tableswitch 89 0 4 #[33, 43, 53, 63, 76], 33), (48, .aload_n 0, 1), (49, .getfield 21, 3), (52, .getfield 169, 3)]), (63, [(55, .iload_n 1, 1), (56, .iaload, 1), (57, .ireturn, 1), (58, .aload_n 0, 1), (59, .getfield 21, 3), (62, .getfield 134, 3)]), (73, [(65, .iload_n 1, 1), (66, .iaload, 1), (67, .ireturn, 1), (68, .aload_n 0, 1), (69, .getfield 21, 3), (72, .getfield 127, 3)]), (83, [(75, .iload_n 1, 1), (76, .iaload, 1), (77, .ireturn, 1), (78, .aload_n 0, 1), (79, .getfield 21, 3), (82, .getfield 85, 3)]), (93, [(85, .iload_n 1, 1), (86, .baload, 1), (87, .invokestatic 172, 3), (90, .ireturn, 1), (91, .aload_n 0, 1), (92, .getfield 21, 3)]), (105, [(95, .iload_n 1, 1), (96, .iconst 0, 1), (97, .invokevirtual 89, 3), (100, .invokestatic 172, 3), (103, .ireturn, 1), (104, .bipush (-2), 2)]), (107, [(106, .ireturn, 1)])]
set_option maxRecDepth 20000 in
theorem zkd_X5_told : ∀ q ∈ zk_X5_told, ∀ e ∈ q.2, decode cX5_told e.1 = .ok e.2 ∧ zlo e = true := by decide +kernel
def zm_X5_told : zMe := ((5, 1, 3, zk_X5_told), (yX5_told, cX5_told, (some .int)))
set_option maxRecDepth 20000 in
theorem zp_X5_told : zP zm_X5_told := ⟨zkd_X5_told, List.mem_of_getElem? (i := 520) rfl, by decide +kernel, rfl, rfl, by decide +kernel, by decide +kernel⟩
def zk_X5_part : zCd := [(7, [(0, .aload_n 0, 1), (1, .getfield 21, 3), (4, .iload_n 1, 1), (5, .iconst 1, 1), (6, .invokevirtual 121, 3)]), (18, [(9, .ifCond .eq 13, 3), (12, .aload_n 0, 1), (13, .getfield 21, 3), (16, .iload_n 1, 1), (17, .iload_n 2, 1)]), (27, [(18, .invokevirtual 176, 3), (21, .ireturn, 1), (22, .aload_n 0, 1), (23, .getfield 21, 3), (26, .iload_n 1, 1)]), (36, [(27, .iconst 2, 1), (28, .invokevirtual 121, 3), (31, .ifCond .eq 13, 3), (34, .aload_n 0, 1), (35, .getfield 21, 3)]), (45, [(38, .iload_n 1, 1), (39, .iload_n 2, 1), (40, .invokevirtual 179, 3), (43, .ireturn, 1), (44, .bipush (-2), 2)]), (47, [(46, .ireturn, 1)])]
set_option maxRecDepth 20000 in
theorem zkd_X5_part : ∀ q ∈ zk_X5_part, ∀ e ∈ q.2, decode cX5_part e.1 = .ok e.2 ∧ zlo e = true := by decide +kernel
def zm_X5_part : zMe := ((5, 1, 3, zk_X5_part), (yX5_part, cX5_part, (some .int)))
set_option maxRecDepth 20000 in
theorem zp_X5_part : zP zm_X5_part := ⟨zkd_X5_part, List.mem_of_getElem? (i := 532) rfl, by decide +kernel, rfl, rfl, by decide +kernel, by decide +kernel⟩
def zk_X5_equal : zCd := [(6, [(0, .aload_n 0, 1), (1, .getfield 21, 3), (4, .iload_n 1, 1), (5, .invokevirtual 168, 3)]), (16, [(8, .ifCond .eq 14, 3), (11, .aload_n 0, 1), (12, .getfield 21, 3), (15, .iload_n 2, 1)]), (25, [(16, .invokevirtual 168, 3), (19, .ifCond .ne 6, 3), (22, .bipush (-2), 2), (24, .ireturn, 1)]), (31, [(25, .aload_n 0, 1), (26, .getfield 21, 3), (29, .iload_n 1, 1), (30, .iload_n 2, 1)]), (39, [(31, .iconst 0, 1), (32, .invokevirtual 182, 3), (35, .invokestatic 172, 3), (38, .ireturn, 1)])]
set_option maxRecDepth 20000 in
theorem zkd_X5_equal : ∀ q ∈ zk_X5_equal, ∀ e ∈ q.2, decode cX5_equal e.1 = .ok e.2 ∧ zlo e = true := by decide +kernel
def zm_X5_equal : zMe := ((5, 1, 3, zk_X5_equal), (yX5_equal, cX5_equal, (some .int)))
set_option maxRecDepth 20000 in
theorem zp_X5_equal : zP zm_X5_equal := ⟨zkd_X5_equal, List.mem_of_getElem? (i := 549) rfl, by decide +kernel, rfl, rfl, by decide +kernel, by decide +kernel⟩
def zk_X5_written : zCd := [(6, [(0, .aload_n 0, 1), (1, .getfield 21, 3), (4, .iload_n 1, 1), (5, .invokevirtual 168, 3)]), (16, [(8, .ifCond .eq 14, 3), (11, .aload_n 0, 1), (12, .getfield 44, 3), (15, .iload_n 1, 1)]), (25, [(16, .invokevirtual 186, 3), (19, .goto 5, 3), (22, .bipush (-2), 2), (24, .ireturn, 1)])]
set_option maxRecDepth 20000 in
theorem zkd_X5_written : ∀ q ∈ zk_X5_written, ∀ e ∈ q.2, decode cX5_written e.1 = .ok e.2 ∧ zlo e = true := by decide +kernel
def zm_X5_written : zMe := ((5, 1, 2, zk_X5_written), (yX5_written, cX5_written, (some .int)))
set_option maxRecDepth 20000 in
theorem zp_X5_written : zP zm_X5_written := ⟨zkd_X5_written, List.mem_of_getElem? (i := 578) rfl, by decide +kernel, rfl, rfl, by decide +kernel, by decide +kernel⟩
def zk_X5_letter : zCd := [(6, [(0, .iload_n 1, 1), (1, .ifCond .lt 26, 3), (4, .iload_n 1, 1), (5, .aload_n 0, 1)]), (16, [(6, .getfield 44, 3), (9, .getfield 189, 3), (12, .if_icmp .ge 15, 3), (15, .aload_n 0, 1)]), (24, [(16, .getfield 44, 3), (19, .getfield 192, 3), (22, .iload_n 1, 1), (23, .baload, 1)]), (29, [(24, .goto 4, 3), (27, .iconst (-1), 1), (28, .ireturn, 1)])]
set_option maxRecDepth 20000 in
theorem zkd_X5_letter : ∀ q ∈ zk_X5_letter, ∀ e ∈ q.2, decode cX5_letter e.1 = .ok e.2 ∧ zlo e = true := by decide +kernel
def zm_X5_letter : zMe := ((5, 1, 2, zk_X5_letter), (yX5_letter, cX5_letter, (some .int)))
set_option maxRecDepth 20000 in
theorem zp_X5_letter : zP zm_X5_letter := ⟨zkd_X5_letter, List.mem_of_getElem? (i := 651) rfl, by decide +kernel, rfl, rfl, by decide +kernel, by decide +kernel⟩
def zk_X5_ask : zCd := [(6, [(0, .aload_n 0, 1), (1, .getfield 28, 3), (4, .iload_n 1, 1), (5, .invokevirtual 159, 3)]), (16, [(8, .ifCond .eq 14, 3), (11, .aload_n 0, 1), (12, .getfield 15, 3), (15, .iload_n 2, 1)]), (25, [(16, .invokevirtual 60, 3), (19, .ifCond .ne 6, 3), (22, .bipush (-2), 2), (24, .ireturn, 1)]), (31, [(25, .iload_n 3, 1), (26, .ifCond .eq 12, 3), (29, .aload_n 0, 1), (30, .iload_n 1, 1)]), (39, [(31, .iload_n 2, 1), (32, .invokevirtual 196, 3), (35, .goto 9, 3), (38, .aload_n 0, 1)]), (45, [(39, .iload_n 1, 1), (40, .iload_n 2, 1), (41, .invokevirtual 199, 3), (44, .ireturn, 1)])]
set_option maxRecDepth 20000 in
theorem zkd_X5_ask : ∀ q ∈ zk_X5_ask, ∀ e ∈ q.2, decode cX5_ask e.1 = .ok e.2 ∧ zlo e = true := by decide +kernel
def zm_X5_ask : zMe := ((5, 1, 4, zk_X5_ask), (yX5_ask, cX5_ask, (some .int)))
set_option maxRecDepth 20000 in
theorem zp_X5_ask : zP zm_X5_ask := ⟨zkd_X5_ask, List.mem_of_getElem? (i := 661) rfl, by decide +kernel, rfl, rfl, by decide +kernel, by decide +kernel⟩
def zk_X5_all : zCd := [(9, [(0, .aload_n 0, 1), (1, .getfield 28, 3), (4, .iload_n 1, 1), (5, .invokevirtual 159, 3), (8, .ifCond .eq 14, 3)]), (20, [(11, .aload_n 0, 1), (12, .getfield 15, 3), (15, .iload_n 2, 1), (16, .invokevirtual 60, 3), (19, .ifCond .ne 6, 3)]), (28, [(22, .bipush (-2), 2), (24, .ireturn, 1), (25, .aload_n 0, 1), (26, .iload_n 1, 1), (27, .iload_n 2, 1)]), (35, [(28, .invokevirtual 202, 3), (31, .istore_n 3, 1), (32, .iload_n 3, 1), (33, .iconst (-1), 1), (34, .if_icmp .ne 7, 3)]), (44, [(37, .iconst 0, 1), (38, .goto 9, 3), (41, .aload_n 0, 1), (42, .iload_n 3, 1), (43, .iload_n 2, 1)]), (48, [(44, .invokevirtual 205, 3), (47, .ireturn, 1)])]
set_option maxRecDepth 20000 in
theorem zkd_X5_all : ∀ q ∈ zk_X5_all, ∀ e ∈ q.2, decode cX5_all e.1 = .ok e.2 ∧ zlo e = true := by decide +kernel
def zm_X5_all : zMe := ((5, 1, 4, zk_X5_all), (yX5_all, cX5_all, (some .int)))
set_option maxRecDepth 20000 in
theorem zp_X5_all : zP zm_X5_all := ⟨zkd_X5_all, List.mem_of_getElem? (i := 707) rfl, by decide +kernel, rfl, rfl, by decide +kernel, by decide +kernel⟩
def zk_X5_of : zCd := [(12, [(0, .aload_n 0, 1), (1, .getfield 28, 3), (4, .iload_n 1, 1), (5, .invokevirtual 159, 3), (8, .ifCond .eq 14, 3), (11, .aload_n 0, 1)]), (25, [(12, .getfield 15, 3), (15, .iload_n 2, 1), (16, .invokevirtual 60, 3), (19, .ifCond .ne 6, 3), (22, .bipush (-2), 2), (24, .ireturn, 1)]), (34, [(25, .aload_n 0, 1), (26, .iload_n 1, 1), (27, .iload_n 2, 1), (28, .invokevirtual 202, 3), (31, .istore 4, 2), (33, .iload 4, 2)]), (43, [(35, .iconst (-1), 1), (36, .if_icmp .ne 5, 3), (39, .iconst (-1), 1), (40, .ireturn, 1), (41, .aload_n 0, 1), (42, .getfield 35, 3)]), (56, [(45, .iload 4, 2), (47, .iload_n 2, 1), (48, .invokevirtual 163, 3), (51, .ifCond .le 15, 3), (54, .aload_n 0, 1), (55, .getfield 35, 3)]), (67, [(58, .iload 4, 2), (60, .iload_n 2, 1), (61, .iload_n 3, 1), (62, .invokevirtual 208, 3), (65, .ireturn, 1), (66, .aload_n 0, 1)]), (78, [(67, .getfield 21, 3), (70, .aload_n 0, 1), (71, .iload 4, 2), (73, .iload_n 2, 1), (74, .invokevirtual 211, 3), (77, .iload_n 3, 1)]), (82, [(78, .invokevirtual 176, 3), (81, .ireturn, 1)])]
set_option maxRecDepth 20000 in
theorem zkd_X5_of : ∀ q ∈ zk_X5_of, ∀ e ∈ q.2, decode cX5_of e.1 = .ok e.2 ∧ zlo e = true := by decide +kernel
def zm_X5_of : zMe := ((5, 1, 5, zk_X5_of), (yX5_of, cX5_of, (some .int)))
set_option maxRecDepth 20000 in
theorem zp_X5_of : zP zm_X5_of := ⟨zkd_X5_of, List.mem_of_getElem? (i := 739) rfl, by decide +kernel, rfl, rfl, by decide +kernel, by decide +kernel⟩
def zk_X5_stands : zCd := [(6, [(0, .aload_n 0, 1), (1, .getfield 28, 3), (4, .iload_n 1, 1), (5, .invokevirtual 159, 3)]), (16, [(8, .ifCond .eq 14, 3), (11, .aload_n 0, 1), (12, .getfield 35, 3), (15, .iload_n 1, 1)]), (25, [(16, .invokevirtual 214, 3), (19, .goto 5, 3), (22, .bipush (-2), 2), (24, .ireturn, 1)])]
set_option maxRecDepth 20000 in
theorem zkd_X5_stands : ∀ q ∈ zk_X5_stands, ∀ e ∈ q.2, decode cX5_stands e.1 = .ok e.2 ∧ zlo e = true := by decide +kernel
def zm_X5_stands : zMe := ((5, 1, 2, zk_X5_stands), (yX5_stands, cX5_stands, (some .int)))
set_option maxRecDepth 20000 in
theorem zp_X5_stands : zP zm_X5_stands := ⟨zkd_X5_stands, List.mem_of_getElem? (i := 747) rfl, by decide +kernel, rfl, rfl, by decide +kernel, by decide +kernel⟩
def zk_X5_count : zCd := [(77, [(0, .iload_n 1, 1), (1, .tableswitch 113 0 13 #[71, 79, 87, 95, 113, 113, 113, 113, 113, 113, 113, 103, 103, 103], 71), (72, .aload_n 0, 1), (73, .getfield 15, 3), (76, .getfield 217, 3)]), (88, [(79, .ireturn, 1), (80, .aload_n 0, 1), (81, .getfield 28, 3), (84, .getfield 220, 3), (87, .ireturn, 1)]), (97, [(88, .aload_n 0, 1), (89, .getfield 21, 3), (92, .getfield 221, 3), (95, .ireturn, 1), (96, .aload_n 0, 1)]), (106, [(97, .getfield 35, 3), (100, .getfield 222, 3), (103, .ireturn, 1), (104, .aload_n 0, 1), (105, .getfield 48, 3)]), (114, [(108, .iload_n 1, 1), (109, .bipush 10, 2), (111, .isub, 1), (112, .iaload, 1), (113, .ireturn, 1)]), (120, [(114, .aload_n 0, 1), (115, .iload_n 1, 1), (116, .invokevirtual 223, 3), (119, .ireturn, 1)])]
set_option maxRecDepth 20000 in
theorem zkd_X5_count : ∀ q ∈ zk_X5_count, ∀ e ∈ q.2, decode cX5_count e.1 = .ok e.2 ∧ zlo e = true := by decide +kernel
def zm_X5_count : zMe := ((5, 1, 2, zk_X5_count), (yX5_count, cX5_count, (some .int)))
set_option maxRecDepth 20000 in
theorem zp_X5_count : zP zm_X5_count := ⟨zkd_X5_count, List.mem_of_getElem? (i := 759) rfl, by decide +kernel, rfl, rfl, by decide +kernel, by decide +kernel⟩
def zk_X5_countOfMark : zCd := [(8, [(0, .aload_n 0, 1), (1, .getfield 15, 3), (4, .iload_n 1, 1), (5, .bipush 20, 2), (7, .isub, 1)]), (19, [(8, .invokevirtual 60, 3), (11, .ifCond .eq 16, 3), (14, .aload_n 0, 1), (15, .getfield 15, 3), (18, .getfield 226, 3)]), (27, [(21, .iload_n 1, 1), (22, .bipush 20, 2), (24, .isub, 1), (25, .iaload, 1), (26, .ireturn, 1)]), (35, [(27, .aload_n 0, 1), (28, .getfield 15, 3), (31, .iload_n 1, 1), (32, .bipush 40, 2), (34, .isub, 1)]), (46, [(35, .invokevirtual 60, 3), (38, .ifCond .eq 16, 3), (41, .aload_n 0, 1), (42, .getfield 15, 3), (45, .getfield 98, 3)]), (54, [(48, .iload_n 1, 1), (49, .bipush 40, 2), (51, .isub, 1), (52, .iaload, 1), (53, .ireturn, 1)]), (57, [(54, .bipush (-2), 2), (56, .ireturn, 1)])]
set_option maxRecDepth 20000 in
theorem zkd_X5_countOfMark : ∀ q ∈ zk_X5_countOfMark, ∀ e ∈ q.2, decode cX5_countOfMark e.1 = .ok e.2 ∧ zlo e = true := by decide +kernel
def zm_X5_countOfMark : zMe := ((5, 1, 2, zk_X5_countOfMark), (yX5_countOfMark, cX5_countOfMark, (some .int)))
set_option maxRecDepth 20000 in
theorem zp_X5_countOfMark : zP zm_X5_countOfMark := ⟨zkd_X5_countOfMark, List.mem_of_getElem? (i := 767) rfl, by decide +kernel, rfl, rfl, by decide +kernel, by decide +kernel⟩
def zk_X5_asNumber : zCd := [(6, [(0, .iload_n 0, 1), (1, .ifCond .eq 7, 3), (4, .iconst 1, 1), (5, .goto 4, 3)]), (10, [(8, .iconst 0, 1), (9, .ireturn, 1)])]
set_option maxRecDepth 20000 in
theorem zkd_X5_asNumber : ∀ q ∈ zk_X5_asNumber, ∀ e ∈ q.2, decode cX5_asNumber e.1 = .ok e.2 ∧ zlo e = true := by decide +kernel
def zm_X5_asNumber : zMe := ((5, 1, 1, zk_X5_asNumber), (yX5_asNumber, cX5_asNumber, (some .int)))
set_option maxRecDepth 20000 in
theorem zp_X5_asNumber : zP zm_X5_asNumber := ⟨zkd_X5_asNumber, List.mem_of_getElem? (i := 524) rfl, by decide +kernel, rfl, rfl, by decide +kernel, by decide +kernel⟩
def zk_X5_isValueOrNone : zCd := [(6, [(0, .iload_n 1, 1), (1, .iconst (-1), 1), (2, .if_icmp .eq 14, 3), (5, .aload_n 0, 1)]), (14, [(6, .getfield 21, 3), (9, .iload_n 1, 1), (10, .invokevirtual 168, 3), (13, .ifCond .eq 7, 3)]), (22, [(16, .iconst 1, 1), (17, .goto 4, 3), (20, .iconst 0, 1), (21, .ireturn, 1)])]
set_option maxRecDepth 20000 in
theorem zkd_X5_isValueOrNone : ∀ q ∈ zk_X5_isValueOrNone, ∀ e ∈ q.2, decode cX5_isValueOrNone e.1 = .ok e.2 ∧ zlo e = true := by decide +kernel
def zm_X5_isValueOrNone : zMe := ((5, 2, 2, zk_X5_isValueOrNone), (yX5_isValueOrNone, cX5_isValueOrNone, (some .boolean)))
set_option maxRecDepth 20000 in
theorem zp_X5_isValueOrNone : zP zm_X5_isValueOrNone := ⟨zkd_X5_isValueOrNone, List.mem_of_getElem? (i := 213) rfl, by decide +kernel, rfl, rfl, by decide +kernel, by decide +kernel⟩
def zk_X5_isDoneOrSame : zCd := [(6, [(0, .iload_n 1, 1), (1, .iconst (-1), 1), (2, .if_icmp .eq 24, 3), (5, .iload_n 1, 1)]), (12, [(6, .iload_n 2, 1), (7, .if_icmp .eq 15, 3), (10, .aload_n 0, 1), (11, .getfield 21, 3)]), (20, [(14, .getfield 85, 3), (17, .iload_n 1, 1), (18, .baload, 1), (19, .ifCond .eq 7, 3)]), (28, [(22, .iconst 1, 1), (23, .goto 4, 3), (26, .iconst 0, 1), (27, .ireturn, 1)])]
set_option maxRecDepth 20000 in
theorem zkd_X5_isDoneOrSame : ∀ q ∈ zk_X5_isDoneOrSame, ∀ e ∈ q.2, decode cX5_isDoneOrSame e.1 = .ok e.2 ∧ zlo e = true := by decide +kernel
def zm_X5_isDoneOrSame : zMe := ((5, 2, 3, zk_X5_isDoneOrSame), (yX5_isDoneOrSame, cX5_isDoneOrSame, (some .boolean)))
set_option maxRecDepth 20000 in
theorem zp_X5_isDoneOrSame : zP zm_X5_isDoneOrSame := ⟨zkd_X5_isDoneOrSame, List.mem_of_getElem? (i := 441) rfl, by decide +kernel, rfl, rfl, by decide +kernel, by decide +kernel⟩
def zk_X5_isSimple : zCd := [(35, [(0, .iload_n 1, 1), (1, .tableswitch 73 0 3 #[31, 33, 49, 64], 31), (32, .iconst 1, 1), (33, .ireturn, 1), (34, .iload_n 2, 1)]), (45, [(35, .ifCond .lt 13, 3), (38, .iload_n 2, 1), (39, .bipush 99, 2), (41, .if_icmp .gt 7, 3), (44, .iconst 1, 1)]), (52, [(45, .goto 4, 3), (48, .iconst 0, 1), (49, .ireturn, 1), (50, .iload_n 2, 1), (51, .ifCond .lt 12, 3)]), (61, [(54, .iload_n 2, 1), (55, .iconst 4, 1), (56, .if_icmp .gt 7, 3), (59, .iconst 1, 1), (60, .goto 4, 3)]), (70, [(63, .iconst 0, 1), (64, .ireturn, 1), (65, .aload_n 0, 1), (66, .getfield 28, 3), (69, .iload_n 2, 1)]), (76, [(70, .invokevirtual 229, 3), (73, .ireturn, 1), (74, .iconst 0, 1), (75, .ireturn, 1)])]
set_option maxRecDepth 20000 in
theorem zkd_X5_isSimple : ∀ q ∈ zk_X5_isSimple, ∀ e ∈ q.2, decode cX5_isSimple e.1 = .ok e.2 ∧ zlo e = true := by decide +kernel
def zm_X5_isSimple : zMe := ((5, 2, 3, zk_X5_isSimple), (yX5_isSimple, cX5_isSimple, (some .boolean)))
set_option maxRecDepth 20000 in
theorem zp_X5_isSimple : zP zm_X5_isSimple := ⟨zkd_X5_isSimple, List.mem_of_getElem? (i := 416) rfl, by decide +kernel, rfl, rfl, by decide +kernel, by decide +kernel⟩
def zk_X5_fail : zCd := [(6, [(0, .aload_n 0, 1), (1, .iload_n 1, 1), (2, .putfield 52, 3), (5, .aload_n 0, 1)]), (12, [(6, .getfield 48, 3), (9, .iload_n 1, 1), (10, .dup2, 1), (11, .iaload, 1)]), (16, [(12, .iconst 1, 1), (13, .iadd, 1), (14, .iastore, 1), (15, .bipush (-5), 2)]), (18, [(17, .ireturn, 1)])]
set_option maxRecDepth 20000 in
theorem zkd_X5_fail : ∀ q ∈ zk_X5_fail, ∀ e ∈ q.2, decode cX5_fail e.1 = .ok e.2 ∧ zlo e = true := by decide +kernel
def zm_X5_fail : zMe := ((5, 1, 2, zk_X5_fail), (yX5_fail, cX5_fail, (some .int)))
set_option maxRecDepth 20000 in
theorem zp_X5_fail : zP zm_X5_fail := ⟨zkd_X5_fail, List.mem_of_getElem? (i := 259) rfl, by decide +kernel, rfl, rfl, by decide +kernel, by decide +kernel⟩
def zk_X5_takeFor : zCd := [(12, [(0, .iload_n 2, 1), (1, .iconst (-1), 1), (2, .if_icmp .ne 9, 3), (5, .aload_n 0, 1), (6, .iconst 1, 1), (7, .invokevirtual 130, 3), (10, .ireturn, 1), (11, .aload_n 0, 1)]), (26, [(12, .getfield 15, 3), (15, .getfield 232, 3), (18, .iload_n 1, 1), (19, .iaload, 1), (20, .istore_n 3, 1), (21, .aload_n 0, 1), (22, .getfield 15, 3), (25, .getfield 233, 3)]), (40, [(28, .iload_n 1, 1), (29, .baload, 1), (30, .ifCond .eq 19, 3), (33, .aload_n 0, 1), (34, .getfield 21, 3), (37, .iload_n 2, 1), (38, .iload_n 3, 1), (39, .invokevirtual 137, 3)]), (57, [(42, .ifCond .eq 7, 3), (45, .iconst 1, 1), (46, .goto 4, 3), (49, .iconst 0, 1), (50, .istore 4, 2), (52, .aload_n 0, 1), (53, .getfield 15, 3), (56, .getfield 233, 3)]), (71, [(59, .iload_n 1, 1), (60, .baload, 1), (61, .ifCond .eq 15, 3), (64, .aload_n 0, 1), (65, .getfield 21, 3), (68, .iload_n 2, 1), (69, .iload_n 3, 1), (70, .invokevirtual 236, 3)]), (88, [(73, .goto 12, 3), (76, .aload_n 0, 1), (77, .getfield 21, 3), (80, .iload_n 2, 1), (81, .iload_n 3, 1), (82, .invokevirtual 137, 3), (85, .istore 5, 2), (87, .iload 4, 2)]), (104, [(89, .ifCond .ne 14, 3), (92, .iload 5, 2), (94, .ifCond .ne 9, 3), (97, .aload_n 0, 1), (98, .iconst 2, 1), (99, .invokevirtual 130, 3), (102, .ireturn, 1), (103, .iload 4, 2)]), (121, [(105, .ifCond .eq 15, 3), (108, .aload_n 0, 1), (109, .getfield 21, 3), (112, .iload_n 3, 1), (113, .iload_n 2, 1), (114, .invokevirtual 239, 3), (117, .goto 4, 3), (120, .iload_n 2, 1)]), (135, [(121, .istore 6, 2), (123, .iload 6, 2), (125, .bipush (-3), 2), (127, .if_icmp .ne 6, 3), (130, .bipush (-3), 2), (132, .ireturn, 1), (133, .aload_n 0, 1), (134, .iconst 0, 1)]), (150, [(135, .putfield 52, 3), (138, .aload_n 0, 1), (139, .getfield 21, 3), (142, .iload 6, 2), (144, .invokevirtual 242, 3), (147, .iload 6, 2), (149, .ireturn, 1)])]
set_option maxRecDepth 20000 in
theorem zkd_X5_takeFor : ∀ q ∈ zk_X5_takeFor, ∀ e ∈ q.2, decode cX5_takeFor e.1 = .ok e.2 ∧ zlo e = true := by decide +kernel
def zm_X5_takeFor : zMe := ((5, 1, 7, zk_X5_takeFor), (yX5_takeFor, cX5_takeFor, (some .int)))
set_option maxRecDepth 20000 in
theorem zp_X5_takeFor : zP zm_X5_takeFor := ⟨zkd_X5_takeFor, List.mem_of_getElem? (i := 253) rfl, by decide +kernel, rfl, rfl, by decide +kernel, by decide +kernel⟩
def zk_X5_brokenRule : zCd := [(14, [(0, .aload_n 0, 1), (1, .getfield 21, 3), (4, .iload_n 2, 1), (5, .invokevirtual 146, 3), (8, .istore_n 3, 1), (9, .aload_n 0, 1), (10, .getfield 15, 3), (13, .getfield 98, 3)]), (29, [(16, .iload_n 3, 1), (17, .iaload, 1), (18, .istore 4, 2), (20, .aload_n 0, 1), (21, .getfield 15, 3), (24, .getfield 107, 3), (27, .iload_n 3, 1), (28, .iaload, 1)]), (42, [(29, .istore 5, 2), (31, .aload_n 0, 1), (32, .getfield 15, 3), (35, .getfield 246, 3), (38, .iload_n 3, 1), (39, .iaload, 1), (40, .aload_n 0, 1), (41, .getfield 28, 3)]), (56, [(44, .iload_n 1, 1), (45, .invokevirtual 249, 3), (48, .iand, 1), (49, .ifCond .ne 5, 3), (52, .iconst 1, 1), (53, .ireturn, 1), (54, .aload_n 0, 1), (55, .getfield 21, 3)]), (71, [(58, .iload_n 2, 1), (59, .iconst 0, 1), (60, .invokevirtual 89, 3), (63, .ifCond .ne 5, 3), (66, .iconst 2, 1), (67, .ireturn, 1), (68, .iload 4, 2), (70, .iconst (-1), 1)]), (87, [(71, .if_icmp .ne 17, 3), (74, .aload_n 0, 1), (75, .getfield 35, 3), (78, .iload_n 1, 1), (79, .iload_n 3, 1), (80, .invokevirtual 163, 3), (83, .ifCond .le 5, 3), (86, .iconst 3, 1)]), (100, [(87, .ireturn, 1), (88, .iload 4, 2), (90, .iconst (-1), 1), (91, .if_icmp .eq 18, 3), (94, .aload_n 0, 1), (95, .getfield 35, 3), (98, .iload_n 1, 1), (99, .iload 4, 2)]), (116, [(101, .invokevirtual 163, 3), (104, .ifCond .le 5, 3), (107, .iconst 4, 1), (108, .ireturn, 1), (109, .iload 5, 2), (111, .iconst (-1), 1), (112, .if_icmp .eq 18, 3), (115, .aload_n 0, 1)]), (131, [(116, .getfield 35, 3), (119, .iload_n 1, 1), (120, .iload 5, 2), (122, .invokevirtual 163, 3), (125, .ifCond .le 5, 3), (128, .iconst 5, 1), (129, .ireturn, 1), (130, .iconst 0, 1)]), (132, [(131, .ireturn, 1)])]
set_option maxRecDepth 20000 in
theorem zkd_X5_brokenRule : ∀ q ∈ zk_X5_brokenRule, ∀ e ∈ q.2, decode cX5_brokenRule e.1 = .ok e.2 ∧ zlo e = true := by decide +kernel
def zm_X5_brokenRule : zMe := ((5, 1, 6, zk_X5_brokenRule), (yX5_brokenRule, cX5_brokenRule, (some .int)))
set_option maxRecDepth 20000 in
theorem zp_X5_brokenRule : zP zm_X5_brokenRule := ⟨zkd_X5_brokenRule, List.mem_of_getElem? (i := 483) rfl, by decide +kernel, rfl, rfl, by decide +kernel, by decide +kernel⟩
def zk_X5_ownAt : zCd := [(10, [(0, .aload_n 0, 1), (1, .getfield 15, 3), (4, .getfield 252, 3), (7, .iload_n 2, 1), (8, .iaload, 1), (9, .iconst 2, 1)]), (20, [(10, .if_icmp .eq 5, 3), (13, .iconst (-1), 1), (14, .ireturn, 1), (15, .aload_n 0, 1), (16, .getfield 35, 3), (19, .iload_n 1, 1)]), (30, [(20, .iload_n 2, 1), (21, .invokevirtual 163, 3), (24, .istore_n 3, 1), (25, .iload_n 3, 1), (26, .ifCond .ne 18, 3), (29, .aload_n 0, 1)]), (40, [(30, .iload_n 1, 1), (31, .aload_n 0, 1), (32, .getfield 15, 3), (35, .getfield 107, 3), (38, .iload_n 2, 1), (39, .iaload, 1)]), (50, [(40, .invokevirtual 255, 3), (43, .ireturn, 1), (44, .iload_n 3, 1), (45, .iconst 1, 1), (46, .if_icmp .ne 16, 3), (49, .aload_n 0, 1)]), (60, [(50, .getfield 35, 3), (53, .iload_n 1, 1), (54, .iload_n 2, 1), (55, .iconst 0, 1), (56, .invokevirtual 208, 3), (59, .goto 4, 3)]), (64, [(62, .iconst (-1), 1), (63, .ireturn, 1)])]
set_option maxRecDepth 20000 in
theorem zkd_X5_ownAt : ∀ q ∈ zk_X5_ownAt, ∀ e ∈ q.2, decode cX5_ownAt e.1 = .ok e.2 ∧ zlo e = true := by decide +kernel
def zm_X5_ownAt : zMe := ((5, 1, 4, zk_X5_ownAt), (yX5_ownAt, cX5_ownAt, (some .int)))
set_option maxRecDepth 20000 in
theorem zp_X5_ownAt : zP zm_X5_ownAt := ⟨zkd_X5_ownAt, List.mem_of_getElem? (i := 669) rfl, by decide +kernel, rfl, rfl, by decide +kernel, by decide +kernel⟩
def zk_X5_gatheredAt : zCd := [(7, [(0, .iload_n 2, 1), (1, .iconst (-1), 1), (2, .if_icmp .eq 16, 3), (5, .aload_n 0, 1), (6, .getfield 15, 3)]), (16, [(9, .getfield 252, 3), (12, .iload_n 2, 1), (13, .iaload, 1), (14, .iconst 2, 1), (15, .if_icmp .eq 5, 3)]), (25, [(18, .iconst (-1), 1), (19, .ireturn, 1), (20, .aload_n 0, 1), (21, .getfield 35, 3), (24, .iload_n 1, 1)]), (32, [(25, .iload_n 2, 1), (26, .invokevirtual 163, 3), (29, .istore_n 3, 1), (30, .iload_n 3, 1), (31, .iconst 1, 1)]), (40, [(32, .if_icmp .le 10, 3), (35, .bipush (-100), 2), (37, .iload_n 3, 1), (38, .isub, 1), (39, .goto 4, 3)]), (44, [(42, .iconst (-1), 1), (43, .ireturn, 1)])]
set_option maxRecDepth 20000 in
theorem zkd_X5_gatheredAt : ∀ q ∈ zk_X5_gatheredAt, ∀ e ∈ q.2, decode cX5_gatheredAt e.1 = .ok e.2 ∧ zlo e = true := by decide +kernel
def zm_X5_gatheredAt : zMe := ((5, 1, 4, zk_X5_gatheredAt), (yX5_gatheredAt, cX5_gatheredAt, (some .int)))
set_option maxRecDepth 20000 in
theorem zp_X5_gatheredAt : zP zm_X5_gatheredAt := ⟨zkd_X5_gatheredAt, List.mem_of_getElem? (i := 674) rfl, by decide +kernel, rfl, rfl, by decide +kernel, by decide +kernel⟩
def zk_X5_foundAt : zCd := [(6, [(0, .iload_n 1, 1), (1, .istore_n 3, 1), (2, .iconst 0, 1), (3, .istore 4, 2), (5, .iload 4, 2)]), (15, [(7, .bipush 40, 2), (9, .if_icmp .ge 38, 3), (12, .iload_n 3, 1), (13, .iconst (-1), 1), (14, .if_icmp .eq 33, 3)]), (24, [(17, .aload_n 0, 1), (18, .iload_n 3, 1), (19, .iload_n 2, 1), (20, .invokevirtual 199, 3), (23, .istore 5, 2)]), (34, [(25, .iload 5, 2), (27, .iconst (-1), 1), (28, .if_icmp .eq 6, 3), (31, .iload 5, 2), (33, .ireturn, 1)]), (41, [(34, .aload_n 0, 1), (35, .iload_n 3, 1), (36, .iload_n 2, 1), (37, .invokevirtual 258, 3), (40, .istore_n 3, 1)]), (49, [(41, .iinc 4 1, 3), (44, .goto (-39), 3), (47, .iconst (-1), 1), (48, .ireturn, 1)])]
set_option maxRecDepth 20000 in
theorem zkd_X5_foundAt : ∀ q ∈ zk_X5_foundAt, ∀ e ∈ q.2, decode cX5_foundAt e.1 = .ok e.2 ∧ zlo e = true := by decide +kernel
def zm_X5_foundAt : zMe := ((5, 1, 6, zk_X5_foundAt), (yX5_foundAt, cX5_foundAt, (some .int)))
set_option maxRecDepth 20000 in
theorem zp_X5_foundAt : zP zm_X5_foundAt := ⟨zkd_X5_foundAt, List.mem_of_getElem? (i := 665) rfl, by decide +kernel, rfl, rfl, by decide +kernel, by decide +kernel⟩
def zk_X5_inheritsFrom : zCd := [(8, [(0, .aload_n 0, 1), (1, .getfield 15, 3), (4, .getfield 261, 3), (7, .iload_n 2, 1)]), (14, [(8, .baload, 1), (9, .ifCond .eq 14, 3), (12, .aload_n 0, 1), (13, .getfield 28, 3)]), (24, [(16, .iload_n 1, 1), (17, .invokevirtual 264, 3), (20, .goto 4, 3), (23, .iconst (-1), 1)]), (25, [(24, .ireturn, 1)])]
set_option maxRecDepth 20000 in
theorem zkd_X5_inheritsFrom : ∀ q ∈ zk_X5_inheritsFrom, ∀ e ∈ q.2, decode cX5_inheritsFrom e.1 = .ok e.2 ∧ zlo e = true := by decide +kernel
def zm_X5_inheritsFrom : zMe := ((5, 1, 3, zk_X5_inheritsFrom), (yX5_inheritsFrom, cX5_inheritsFrom, (some .int)))
set_option maxRecDepth 20000 in
theorem zp_X5_inheritsFrom : zP zm_X5_inheritsFrom := ⟨zkd_X5_inheritsFrom, List.mem_of_getElem? (i := 682) rfl, by decide +kernel, rfl, rfl, by decide +kernel, by decide +kernel⟩
def zk_X5_sourceOfAll : zCd := [(9, [(0, .aload_n 0, 1), (1, .getfield 15, 3), (4, .getfield 252, 3), (7, .iload_n 2, 1), (8, .iaload, 1)]), (16, [(9, .iconst 2, 1), (10, .if_icmp .eq 5, 3), (13, .iconst (-1), 1), (14, .ireturn, 1), (15, .iload_n 1, 1)]), (23, [(16, .istore_n 3, 1), (17, .iconst 0, 1), (18, .istore 4, 2), (20, .iload 4, 2), (22, .bipush 40, 2)]), (33, [(24, .if_icmp .ge 32, 3), (27, .iload_n 3, 1), (28, .iconst (-1), 1), (29, .if_icmp .eq 27, 3), (32, .aload_n 0, 1)]), (42, [(33, .iload_n 3, 1), (34, .iload_n 2, 1), (35, .invokevirtual 205, 3), (38, .ifCond .le 5, 3), (41, .iload_n 3, 1)]), (47, [(42, .ireturn, 1), (43, .aload_n 0, 1), (44, .iload_n 3, 1), (45, .iload_n 2, 1), (46, .invokevirtual 258, 3)]), (58, [(49, .istore_n 3, 1), (50, .iinc 4 1, 3), (53, .goto (-33), 3), (56, .iconst (-1), 1), (57, .ireturn, 1)])]
set_option maxRecDepth 20000 in
theorem zkd_X5_sourceOfAll : ∀ q ∈ zk_X5_sourceOfAll, ∀ e ∈ q.2, decode cX5_sourceOfAll e.1 = .ok e.2 ∧ zlo e = true := by decide +kernel
def zm_X5_sourceOfAll : zMe := ((5, 1, 5, zk_X5_sourceOfAll), (yX5_sourceOfAll, cX5_sourceOfAll, (some .int)))
set_option maxRecDepth 20000 in
theorem zp_X5_sourceOfAll : zP zm_X5_sourceOfAll := ⟨zkd_X5_sourceOfAll, List.mem_of_getElem? (i := 711) rfl, by decide +kernel, rfl, rfl, by decide +kernel, by decide +kernel⟩
def zk_X5_howManyHere : zCd := [(7, [(0, .aload_n 0, 1), (1, .getfield 35, 3), (4, .iload_n 1, 1), (5, .iload_n 2, 1), (6, .invokevirtual 163, 3)]), (16, [(9, .istore_n 3, 1), (10, .iload_n 3, 1), (11, .ifCond .le 5, 3), (14, .iload_n 3, 1), (15, .ireturn, 1)]), (23, [(16, .aload_n 0, 1), (17, .iload_n 1, 1), (18, .iload_n 2, 1), (19, .invokevirtual 211, 3), (22, .istore 4, 2)]), (32, [(24, .iload 4, 2), (26, .iconst (-1), 1), (27, .if_icmp .ne 7, 3), (30, .iconst 0, 1), (31, .goto 13, 3)]), (44, [(34, .aload_n 0, 1), (35, .getfield 21, 3), (38, .getfield 127, 3), (41, .iload 4, 2), (43, .iaload, 1)]), (45, [(44, .ireturn, 1)])]
set_option maxRecDepth 20000 in
theorem zkd_X5_howManyHere : ∀ q ∈ zk_X5_howManyHere, ∀ e ∈ q.2, decode cX5_howManyHere e.1 = .ok e.2 ∧ zlo e = true := by decide +kernel
def zm_X5_howManyHere : zMe := ((5, 1, 5, zk_X5_howManyHere), (yX5_howManyHere, cX5_howManyHere, (some .int)))
set_option maxRecDepth 20000 in
theorem zp_X5_howManyHere : zP zm_X5_howManyHere := ⟨zkd_X5_howManyHere, List.mem_of_getElem? (i := 715) rfl, by decide +kernel, rfl, rfl, by decide +kernel, by decide +kernel⟩
def zk_X5_containerRowAt : zCd := [(9, [(0, .aload_n 0, 1), (1, .getfield 15, 3), (4, .getfield 98, 3), (7, .iload_n 2, 1), (8, .iaload, 1)]), (16, [(9, .istore_n 3, 1), (10, .iload_n 3, 1), (11, .iconst (-1), 1), (12, .if_icmp .ne 5, 3), (15, .iconst (-1), 1)]), (21, [(16, .ireturn, 1), (17, .aload_n 0, 1), (18, .iload_n 1, 1), (19, .iload_n 3, 1), (20, .invokevirtual 199, 3)]), (32, [(23, .istore 4, 2), (25, .aload_n 0, 1), (26, .getfield 21, 3), (29, .iload 4, 2), (31, .iconst 2, 1)]), (43, [(32, .invokevirtual 121, 3), (35, .ifCond .eq 16, 3), (38, .aload_n 0, 1), (39, .getfield 21, 3), (42, .iload 4, 2)]), (53, [(44, .iconst 0, 1), (45, .invokevirtual 179, 3), (48, .goto 4, 3), (51, .iconst (-1), 1), (52, .ireturn, 1)])]
set_option maxRecDepth 20000 in
theorem zkd_X5_containerRowAt : ∀ q ∈ zk_X5_containerRowAt, ∀ e ∈ q.2, decode cX5_containerRowAt e.1 = .ok e.2 ∧ zlo e = true := by decide +kernel
def zm_X5_containerRowAt : zMe := ((5, 1, 5, zk_X5_containerRowAt), (yX5_containerRowAt, cX5_containerRowAt, (some .int)))
set_option maxRecDepth 20000 in
theorem zp_X5_containerRowAt : zP zm_X5_containerRowAt := ⟨zkd_X5_containerRowAt, List.mem_of_getElem? (i := 719) rfl, by decide +kernel, rfl, rfl, by decide +kernel, by decide +kernel⟩
def zk_X6_isMark : zCd := [(6, [(0, .iload_n 1, 1), (1, .ifCond .lt 15, 3), (4, .iload_n 1, 1), (5, .aload_n 0, 1)]), (14, [(6, .getfield 92, 3), (9, .if_icmp .ge 7, 3), (12, .iconst 1, 1), (13, .goto 4, 3)]), (18, [(16, .iconst 0, 1), (17, .ireturn, 1)])]
set_option maxRecDepth 20000 in
theorem zkd_X6_isMark : ∀ q ∈ zk_X6_isMark, ∀ e ∈ q.2, decode cX6_isMark e.1 = .ok e.2 ∧ zlo e = true := by decide +kernel
def zm_X6_isMark : zMe := ((6, 2, 2, zk_X6_isMark), (yX6_isMark, cX6_isMark, (some .boolean)))
set_option maxRecDepth 20000 in
theorem zp_X6_isMark : zP zm_X6_isMark := ⟨zkd_X6_isMark, List.mem_of_getElem? (i := 186) rfl, by decide +kernel, rfl, rfl, by decide +kernel, by decide +kernel⟩
def zk_X6_mark : zCd := [(11, [(0, .iload_n 1, 1), (1, .ifCond .lt 18, 3), (4, .iload_n 1, 1), (5, .bipush 31, 2), (7, .if_icmp .gt 12, 3), (10, .iload_n 2, 1)]), (22, [(11, .ifCond .lt 8, 3), (14, .iload_n 2, 1), (15, .iconst 2, 1), (16, .if_icmp .le 6, 3), (19, .bipush (-2), 2), (21, .ireturn, 1)]), (34, [(22, .aload_n 0, 1), (23, .getfield 92, 3), (26, .bipush 12, 2), (28, .if_icmp .ne 6, 3), (31, .bipush (-3), 2), (33, .ireturn, 1)]), (44, [(34, .aload_n 0, 1), (35, .getfield 7, 3), (38, .aload_n 0, 1), (39, .getfield 92, 3), (42, .iload_n 1, 1), (43, .iastore, 1)]), (54, [(44, .aload_n 0, 1), (45, .getfield 13, 3), (48, .aload_n 0, 1), (49, .getfield 92, 3), (52, .iload_n 2, 1), (53, .iastore, 1)]), (64, [(54, .aload_n 0, 1), (55, .getfield 16, 3), (58, .aload_n 0, 1), (59, .getfield 92, 3), (62, .iload_n 3, 1), (63, .bastore, 1)]), (72, [(64, .aload_n 0, 1), (65, .dup, 1), (66, .getfield 92, 3), (69, .iconst 1, 1), (70, .iadd, 1), (71, .putfield 92, 3)]), (81, [(74, .aload_n 0, 1), (75, .getfield 92, 3), (78, .iconst 1, 1), (79, .isub, 1), (80, .ireturn, 1)])]
set_option maxRecDepth 20000 in
theorem zkd_X6_mark : ∀ q ∈ zk_X6_mark, ∀ e ∈ q.2, decode cX6_mark e.1 = .ok e.2 ∧ zlo e = true := by decide +kernel
def zm_X6_mark : zMe := ((6, 1, 4, zk_X6_mark), (yX6_mark, cX6_mark, (some .int)))
set_option maxRecDepth 20000 in
theorem zp_X6_mark : zP zm_X6_mark := ⟨zkd_X6_mark, List.mem_of_getElem? (i := 137) rfl, by decide +kernel, rfl, rfl, by decide +kernel, by decide +kernel⟩
def zk_X6_isKind : zCd := [(6, [(0, .iload_n 1, 1), (1, .ifCond .lt 8, 3), (4, .iload_n 1, 1), (5, .iconst 3, 1)]), (12, [(6, .if_icmp .le 14, 3), (9, .aload_n 0, 1), (10, .iload_n 1, 1), (11, .bipush 10, 2)]), (21, [(13, .isub, 1), (14, .invokevirtual 96, 3), (17, .ifCond .eq 7, 3), (20, .iconst 1, 1)]), (26, [(21, .goto 4, 3), (24, .iconst 0, 1), (25, .ireturn, 1)])]
set_option maxRecDepth 20000 in
theorem zkd_X6_isKind : ∀ q ∈ zk_X6_isKind, ∀ e ∈ q.2, decode cX6_isKind e.1 = .ok e.2 ∧ zlo e = true := by decide +kernel
def zm_X6_isKind : zMe := ((6, 2, 2, zk_X6_isKind), (yX6_isKind, cX6_isKind, (some .boolean)))
set_option maxRecDepth 20000 in
theorem zp_X6_isKind : zP zm_X6_isKind := ⟨zkd_X6_isKind, List.mem_of_getElem? (i := 190) rfl, by decide +kernel, rfl, rfl, by decide +kernel, by decide +kernel⟩
def zk_X6_elementOf : zCd := [(6, [(0, .iconst (-1), 1), (1, .istore_n 3, 1), (2, .iconst 0, 1), (3, .istore 4, 2), (5, .iload 4, 2)]), (14, [(7, .aload_n 0, 1), (8, .getfield 26, 3), (11, .iload_n 1, 1), (12, .iaload, 1), (13, .if_icmp .ge 35, 3)]), (23, [(16, .aload_n 0, 1), (17, .getfield 29, 3), (20, .iconst 5, 1), (21, .iload_n 1, 1), (22, .imul, 1)]), (29, [(23, .iload 4, 2), (25, .iadd, 1), (26, .iaload, 1), (27, .iload_n 2, 1), (28, .if_icmp .ne 12, 3)]), (37, [(31, .iconst 5, 1), (32, .iload_n 1, 1), (33, .imul, 1), (34, .iload 4, 2), (36, .iadd, 1)]), (46, [(37, .goto 4, 3), (40, .iload_n 3, 1), (41, .istore_n 3, 1), (42, .iinc 4 1, 3), (45, .goto (-40), 3)]), (50, [(48, .iload_n 3, 1), (49, .ireturn, 1)])]
set_option maxRecDepth 20000 in
theorem zkd_X6_elementOf : ∀ q ∈ zk_X6_elementOf, ∀ e ∈ q.2, decode cX6_elementOf e.1 = .ok e.2 ∧ zlo e = true := by decide +kernel
def zm_X6_elementOf : zMe := ((6, 1, 5, zk_X6_elementOf), (yX6_elementOf, cX6_elementOf, (some .int)))
set_option maxRecDepth 20000 in
theorem zp_X6_elementOf : zP zm_X6_elementOf := ⟨zkd_X6_elementOf, List.mem_of_getElem? (i := 194) rfl, by decide +kernel, rfl, rfl, by decide +kernel, by decide +kernel⟩
def zk_X6_isFixed : zCd := [(8, [(0, .aload_n 0, 1), (1, .getfield 20, 3), (4, .iload_n 1, 1), (5, .iaload, 1), (6, .iconst (-1), 1), (7, .if_icmp .ne 13, 3)]), (18, [(10, .aload_n 0, 1), (11, .getfield 23, 3), (14, .iload_n 1, 1), (15, .iaload, 1), (16, .iconst (-1), 1), (17, .if_icmp .eq 7, 3)]), (28, [(20, .iconst 1, 1), (21, .goto 4, 3), (24, .iconst 0, 1), (25, .istore_n 2, 1), (26, .iconst 0, 1), (27, .istore_n 3, 1)]), (38, [(28, .iload_n 3, 1), (29, .aload_n 0, 1), (30, .getfield 100, 3), (33, .if_icmp .ge 39, 3), (36, .iload_n 2, 1), (37, .ifCond .ne 23, 3)]), (48, [(40, .aload_n 0, 1), (41, .getfield 50, 3), (44, .iload_n 3, 1), (45, .iaload, 1), (46, .iconst 2, 1), (47, .if_icmp .ne 17, 3)]), (58, [(50, .aload_n 0, 1), (51, .getfield 53, 3), (54, .iload_n 3, 1), (55, .iaload, 1), (56, .iload_n 1, 1), (57, .if_icmp .ne 7, 3)]), (70, [(60, .iconst 1, 1), (61, .goto 4, 3), (64, .iconst 0, 1), (65, .istore_n 2, 1), (66, .iinc 3 1, 3), (69, .goto (-41), 3)]), (74, [(72, .iload_n 2, 1), (73, .ireturn, 1)])]
set_option maxRecDepth 20000 in
theorem zkd_X6_isFixed : ∀ q ∈ zk_X6_isFixed, ∀ e ∈ q.2, decode cX6_isFixed e.1 = .ok e.2 ∧ zlo e = true := by decide +kernel
def zm_X6_isFixed : zMe := ((6, 2, 4, zk_X6_isFixed), (yX6_isFixed, cX6_isFixed, (some .boolean)))
set_option maxRecDepth 20000 in
theorem zp_X6_isFixed : zP zm_X6_isFixed := ⟨zkd_X6_isFixed, List.mem_of_getElem? (i := 198) rfl, by decide +kernel, rfl, rfl, by decide +kernel, by decide +kernel⟩
def zk_X6_mayLead : zCd := [(15, [(0, .iconst 0, 1), (1, .istore_n 3, 1), (2, .iload_n 3, 1), (3, .bipush 12, 2), (5, .if_icmp .ge 16, 3), (8, .aload_n 0, 1), (9, .getfield 41, 3), (12, .iload_n 3, 1), (13, .iconst 0, 1), (14, .iastore, 1)]), (33, [(15, .iinc 3 1, 3), (18, .goto (-16), 3), (21, .iconst 1, 1), (22, .istore_n 3, 1), (23, .iconst 0, 1), (24, .istore 4, 2), (26, .iload 4, 2), (28, .iconst 4, 1), (29, .if_icmp .ge 144, 3), (32, .iconst 0, 1)]), (51, [(33, .istore 5, 2), (35, .iload 5, 2), (37, .aload_n 0, 1), (38, .getfield 92, 3), (41, .if_icmp .ge 126, 3), (44, .iconst 0, 1), (45, .istore 6, 2), (47, .iload 6, 2), (49, .aload_n 0, 1), (50, .getfield 26, 3)]), (70, [(53, .iload 5, 2), (55, .iaload, 1), (56, .if_icmp .ge 66, 3), (59, .aload_n 0, 1), (60, .getfield 32, 3), (63, .iconst 5, 1), (64, .iload 5, 2), (66, .imul, 1), (67, .iload 6, 2), (69, .iadd, 1)]), (88, [(70, .iaload, 1), (71, .bipush 10, 2), (73, .isub, 1), (74, .istore 7, 2), (76, .iload 7, 2), (78, .ifCond .lt 38, 3), (81, .aload_n 0, 1), (82, .getfield 41, 3), (85, .iload 7, 2), (87, .iaload, 1)]), (105, [(88, .iconst 1, 1), (89, .iadd, 1), (90, .aload_n 0, 1), (91, .getfield 41, 3), (94, .iload 5, 2), (96, .iaload, 1), (97, .if_icmp .le 19, 3), (100, .aload_n 0, 1), (101, .getfield 41, 3), (104, .iload 5, 2)]), (123, [(106, .aload_n 0, 1), (107, .getfield 41, 3), (110, .iload 7, 2), (112, .iaload, 1), (113, .iconst 1, 1), (114, .iadd, 1), (115, .iastore, 1), (116, .iinc 6 1, 3), (119, .goto (-72), 3), (122, .iload 5, 2)]), (138, [(124, .iload_n 1, 1), (125, .if_icmp .ne 36, 3), (128, .aload_n 0, 1), (129, .getfield 41, 3), (132, .iload_n 2, 1), (133, .iaload, 1), (134, .iconst 1, 1), (135, .iadd, 1), (136, .aload_n 0, 1), (137, .getfield 41, 3)]), (158, [(140, .iload 5, 2), (142, .iaload, 1), (143, .if_icmp .le 18, 3), (146, .aload_n 0, 1), (147, .getfield 41, 3), (150, .iload 5, 2), (152, .aload_n 0, 1), (153, .getfield 41, 3), (156, .iload_n 2, 1), (157, .iaload, 1)]), (177, [(158, .iconst 1, 1), (159, .iadd, 1), (160, .iastore, 1), (161, .iinc 5 1, 3), (164, .goto (-129), 3), (167, .iinc 4 1, 3), (170, .goto (-144), 3), (173, .iconst 0, 1), (174, .istore 4, 2), (176, .iload 4, 2)]), (197, [(178, .aload_n 0, 1), (179, .getfield 92, 3), (182, .if_icmp .ge 30, 3), (185, .iload_n 3, 1), (186, .ifCond .eq 18, 3), (189, .aload_n 0, 1), (190, .getfield 41, 3), (193, .iload 4, 2), (195, .iaload, 1), (196, .iconst 2, 1)]), (214, [(197, .if_icmp .gt 7, 3), (200, .iconst 1, 1), (201, .goto 4, 3), (204, .iconst 0, 1), (205, .istore_n 3, 1), (206, .iinc 4 1, 3), (209, .goto (-33), 3), (212, .iload_n 3, 1), (213, .ireturn, 1)])]
set_option maxRecDepth 20000 in
theorem zkd_X6_mayLead : ∀ q ∈ zk_X6_mayLead, ∀ e ∈ q.2, decode cX6_mayLead e.1 = .ok e.2 ∧ zlo e = true := by decide +kernel
def zm_X6_mayLead : zMe := ((6, 2, 8, zk_X6_mayLead), (yX6_mayLead, cX6_mayLead, (some .boolean)))
set_option maxRecDepth 20000 in
theorem zp_X6_mayLead : zP zm_X6_mayLead := ⟨zkd_X6_mayLead, List.mem_of_getElem? (i := 203) rfl, by decide +kernel, rfl, rfl, by decide +kernel, by decide +kernel⟩
def zk_X6_element : zCd := [(16, [(0, .aload_n 0, 1), (1, .iload_n 1, 1), (2, .invokevirtual 96, 3), (5, .ifCond .eq 31, 3), (8, .iload_n 2, 1), (9, .ifCond .lt 27, 3), (12, .iload_n 2, 1), (13, .bipush 9, 2), (15, .if_icmp .gt 21, 3)]), (33, [(18, .aload_n 0, 1), (19, .iload_n 3, 1), (20, .invokevirtual 103, 3), (23, .ifCond .eq 13, 3), (26, .aload_n 0, 1), (27, .iload_n 1, 1), (28, .iload_n 2, 1), (29, .invokevirtual 106, 3), (32, .iconst (-1), 1)]), (50, [(33, .if_icmp .eq 6, 3), (36, .bipush (-2), 2), (38, .ireturn, 1), (39, .aload_n 0, 1), (40, .iload_n 1, 1), (41, .invokevirtual 110, 3), (44, .ifCond .eq 6, 3), (47, .bipush (-4), 2), (49, .ireturn, 1)]), (63, [(50, .iload_n 3, 1), (51, .bipush 10, 2), (53, .if_icmp .lt 18, 3), (56, .aload_n 0, 1), (57, .iload_n 1, 1), (58, .iload_n 3, 1), (59, .bipush 10, 2), (61, .isub, 1), (62, .invokevirtual 113, 3)]), (79, [(65, .ifCond .ne 6, 3), (68, .bipush (-6), 2), (70, .ireturn, 1), (71, .aload_n 0, 1), (72, .getfield 26, 3), (75, .iload_n 1, 1), (76, .iaload, 1), (77, .iconst 5, 1), (78, .if_icmp .ne 6, 3)]), (93, [(81, .bipush (-3), 2), (83, .ireturn, 1), (84, .iconst 5, 1), (85, .iload_n 1, 1), (86, .imul, 1), (87, .aload_n 0, 1), (88, .getfield 26, 3), (91, .iload_n 1, 1), (92, .iaload, 1)]), (106, [(93, .iadd, 1), (94, .istore 5, 2), (96, .aload_n 0, 1), (97, .getfield 29, 3), (100, .iload 5, 2), (102, .iload_n 2, 1), (103, .iastore, 1), (104, .aload_n 0, 1), (105, .getfield 32, 3)]), (122, [(108, .iload 5, 2), (110, .iload_n 3, 1), (111, .iastore, 1), (112, .aload_n 0, 1), (113, .getfield 35, 3), (116, .iload 5, 2), (118, .iload 4, 2), (120, .bastore, 1), (121, .aload_n 0, 1)]), (136, [(122, .getfield 38, 3), (125, .iload 5, 2), (127, .iconst (-1), 1), (128, .iastore, 1), (129, .aload_n 0, 1), (130, .getfield 26, 3), (133, .iload_n 1, 1), (134, .dup2, 1), (135, .iaload, 1)]), (146, [(136, .iconst 1, 1), (137, .iadd, 1), (138, .iastore, 1), (139, .aload_n 0, 1), (140, .getfield 26, 3), (143, .iload_n 1, 1), (144, .iaload, 1), (145, .ireturn, 1)])]
set_option maxRecDepth 20000 in
theorem zkd_X6_element : ∀ q ∈ zk_X6_element, ∀ e ∈ q.2, decode cX6_element e.1 = .ok e.2 ∧ zlo e = true := by decide +kernel
def zm_X6_element : zMe := ((6, 1, 6, zk_X6_element), (yX6_element, cX6_element, (some .int)))
set_option maxRecDepth 20000 in
theorem zp_X6_element : zP zm_X6_element := ⟨zkd_X6_element, List.mem_of_getElem? (i := 182) rfl, by decide +kernel, rfl, rfl, by decide +kernel, by decide +kernel⟩
def zk_X6_isContainer : zCd := [(13, [(0, .aload_n 0, 1), (1, .iload_n 2, 1), (2, .iconst 0, 1), (3, .invokevirtual 106, 3), (6, .istore_n 3, 1), (7, .iload_n 3, 1), (8, .iconst (-1), 1), (9, .if_icmp .eq 29, 3), (12, .aload_n 0, 1)]), (28, [(13, .getfield 35, 3), (16, .iload_n 3, 1), (17, .baload, 1), (18, .ifCond .eq 20, 3), (21, .aload_n 0, 1), (22, .getfield 32, 3), (25, .iload_n 3, 1), (26, .iaload, 1), (27, .bipush 10, 2)]), (43, [(29, .iload_n 1, 1), (30, .iadd, 1), (31, .if_icmp .ne 7, 3), (34, .iconst 1, 1), (35, .goto 4, 3), (38, .iconst 0, 1), (39, .istore 4, 2), (41, .iconst 5, 1), (42, .iload_n 2, 1)]), (56, [(43, .imul, 1), (44, .istore 5, 2), (46, .iload 5, 2), (48, .iconst 5, 1), (49, .iload_n 2, 1), (50, .imul, 1), (51, .aload_n 0, 1), (52, .getfield 26, 3), (55, .iload_n 2, 1)]), (73, [(56, .iaload, 1), (57, .iadd, 1), (58, .if_icmp .ge 38, 3), (61, .iload 4, 2), (63, .ifCond .eq 24, 3), (66, .iload 5, 2), (68, .iload_n 3, 1), (69, .if_icmp .eq 14, 3), (72, .aload_n 0, 1)]), (89, [(73, .getfield 38, 3), (76, .iload 5, 2), (78, .iaload, 1), (79, .iconst (-1), 1), (80, .if_icmp .eq 7, 3), (83, .iconst 1, 1), (84, .goto 4, 3), (87, .iconst 0, 1), (88, .istore 4, 2)]), (108, [(90, .iinc 5 1, 3), (93, .goto (-47), 3), (96, .iload 4, 2), (98, .ifCond .eq 58, 3), (101, .aload_n 0, 1), (102, .getfield 13, 3), (105, .iload_n 2, 1), (106, .iaload, 1), (107, .aload_n 0, 1)]), (123, [(108, .getfield 13, 3), (111, .iload_n 1, 1), (112, .iaload, 1), (113, .if_icmp .lt 43, 3), (116, .aload_n 0, 1), (117, .getfield 7, 3), (120, .iload_n 2, 1), (121, .iaload, 1), (122, .aload_n 0, 1)]), (136, [(123, .getfield 7, 3), (126, .iload_n 1, 1), (127, .iaload, 1), (128, .iconst (-1), 1), (129, .ixor, 1), (130, .iand, 1), (131, .ifCond .ne 25, 3), (134, .aload_n 0, 1), (135, .getfield 16, 3)]), (153, [(138, .iload_n 2, 1), (139, .baload, 1), (140, .ifCond .ne 12, 3), (143, .aload_n 0, 1), (144, .getfield 16, 3), (147, .iload_n 1, 1), (148, .baload, 1), (149, .ifCond .ne 7, 3), (152, .iconst 1, 1)]), (158, [(153, .goto 4, 3), (156, .iconst 0, 1), (157, .ireturn, 1)])]
set_option maxRecDepth 20000 in
theorem zkd_X6_isContainer : ∀ q ∈ zk_X6_isContainer, ∀ e ∈ q.2, decode cX6_isContainer e.1 = .ok e.2 ∧ zlo e = true := by decide +kernel
def zm_X6_isContainer : zMe := ((6, 2, 6, zk_X6_isContainer), (yX6_isContainer, cX6_isContainer, (some .boolean)))
set_option maxRecDepth 20000 in
theorem zp_X6_isContainer : zP zm_X6_isContainer := ⟨zkd_X6_isContainer, List.mem_of_getElem? (i := 363) rfl, by decide +kernel, rfl, rfl, by decide +kernel, by decide +kernel⟩
def zk_X6_container : zCd := [(14, [(0, .aload_n 0, 1), (1, .iload_n 1, 1), (2, .invokevirtual 96, 3), (5, .ifCond .eq 11, 3), (8, .aload_n 0, 1), (9, .iload_n 2, 1), (10, .invokevirtual 96, 3), (13, .ifCond .ne 6, 3)]), (27, [(16, .bipush (-2), 2), (18, .ireturn, 1), (19, .iconst 0, 1), (20, .istore_n 3, 1), (21, .iconst 0, 1), (22, .istore 4, 2), (24, .iload 4, 2), (26, .aload_n 0, 1)]), (43, [(27, .getfield 117, 3), (30, .if_icmp .ge 35, 3), (33, .iload_n 3, 1), (34, .ifCond .ne 19, 3), (37, .aload_n 0, 1), (38, .getfield 53, 3), (41, .aload_n 0, 1), (42, .getfield 89, 3)]), (58, [(45, .iload 4, 2), (47, .iaload, 1), (48, .iaload, 1), (49, .iload_n 1, 1), (50, .if_icmp .ne 7, 3), (53, .iconst 1, 1), (54, .goto 4, 3), (57, .iconst 0, 1)]), (72, [(58, .istore_n 3, 1), (59, .iinc 4 1, 3), (62, .goto (-38), 3), (65, .aload_n 0, 1), (66, .getfield 20, 3), (69, .iload_n 1, 1), (70, .iaload, 1), (71, .iconst (-1), 1)]), (85, [(72, .if_icmp .ne 7, 3), (75, .iload_n 3, 1), (76, .ifCond .eq 6, 3), (79, .bipush (-4), 2), (81, .ireturn, 1), (82, .aload_n 0, 1), (83, .iload_n 1, 1), (84, .iload_n 2, 1)]), (99, [(85, .invokevirtual 120, 3), (88, .ifCond .ne 5, 3), (91, .iconst 0, 1), (92, .ireturn, 1), (93, .aload_n 0, 1), (94, .getfield 20, 3), (97, .iload_n 1, 1), (98, .iload_n 2, 1)]), (109, [(99, .iastore, 1), (100, .aload_n 0, 1), (101, .getfield 23, 3), (104, .iload_n 2, 1), (105, .iload_n 1, 1), (106, .iastore, 1), (107, .iconst 1, 1), (108, .ireturn, 1)])]
set_option maxRecDepth 20000 in
theorem zkd_X6_container : ∀ q ∈ zk_X6_container, ∀ e ∈ q.2, decode cX6_container e.1 = .ok e.2 ∧ zlo e = true := by decide +kernel
def zm_X6_container : zMe := ((6, 1, 5, zk_X6_container), (yX6_container, cX6_container, (some .int)))
set_option maxRecDepth 20000 in
theorem zp_X6_container : zP zm_X6_container := ⟨zkd_X6_container, List.mem_of_getElem? (i := 358) rfl, by decide +kernel, rfl, rfl, by decide +kernel, by decide +kernel⟩
def zk_X6_isPlace : zCd := [(6, [(0, .iload_n 1, 1), (1, .ifCond .lt 15, 3), (4, .iload_n 1, 1), (5, .aload_n 0, 1)]), (14, [(6, .getfield 123, 3), (9, .if_icmp .ge 7, 3), (12, .iconst 1, 1), (13, .goto 4, 3)]), (18, [(16, .iconst 0, 1), (17, .ireturn, 1)])]
set_option maxRecDepth 20000 in
theorem zkd_X6_isPlace : ∀ q ∈ zk_X6_isPlace, ∀ e ∈ q.2, decode cX6_isPlace e.1 = .ok e.2 ∧ zlo e = true := by decide +kernel
def zm_X6_isPlace : zMe := ((6, 2, 2, zk_X6_isPlace), (yX6_isPlace, cX6_isPlace, (some .boolean)))
set_option maxRecDepth 20000 in
theorem zp_X6_isPlace : zP zm_X6_isPlace := ⟨zkd_X6_isPlace, List.mem_of_getElem? (i := 404) rfl, by decide +kernel, rfl, rfl, by decide +kernel, by decide +kernel⟩
def zk_X6_isAmong : zCd := [(6, [(0, .aload_n 0, 1), (1, .iload_n 1, 1), (2, .invokevirtual 126, 3), (5, .ifCond .eq 27, 3)]), (14, [(8, .aload_n 0, 1), (9, .getfield 44, 3), (12, .iload_n 1, 1), (13, .iaload, 1)]), (20, [(14, .iload_n 2, 1), (15, .if_icmp .lt 17, 3), (18, .aload_n 0, 1), (19, .getfield 44, 3)]), (26, [(22, .iload_n 1, 1), (23, .iaload, 1), (24, .iload_n 3, 1), (25, .if_icmp .gt 7, 3)]), (34, [(28, .iconst 1, 1), (29, .goto 4, 3), (32, .iconst 0, 1), (33, .ireturn, 1)])]
set_option maxRecDepth 20000 in
theorem zkd_X6_isAmong : ∀ q ∈ zk_X6_isAmong, ∀ e ∈ q.2, decode cX6_isAmong e.1 = .ok e.2 ∧ zlo e = true := by decide +kernel
def zm_X6_isAmong : zMe := ((6, 2, 4, zk_X6_isAmong), (yX6_isAmong, cX6_isAmong, (some .boolean)))
set_option maxRecDepth 20000 in
theorem zp_X6_isAmong : zP zm_X6_isAmong := ⟨zkd_X6_isAmong, List.mem_of_getElem? (i := 400) rfl, by decide +kernel, rfl, rfl, by decide +kernel, by decide +kernel⟩
def zk_X6_isType : zCd := [(4, [(0, .aload_n 0, 1), (1, .iload_n 1, 1), (2, .iconst 0, 1), (3, .iconst 1, 1)]), (8, [(4, .invokevirtual 129, 3), (7, .ireturn, 1)])]
set_option maxRecDepth 20000 in
theorem zkd_X6_isType : ∀ q ∈ zk_X6_isType, ∀ e ∈ q.2, decode cX6_isType e.1 = .ok e.2 ∧ zlo e = true := by decide +kernel
def zm_X6_isType : zMe := ((6, 2, 2, zk_X6_isType), (yX6_isType, cX6_isType, (some .boolean)))
set_option maxRecDepth 20000 in
theorem zp_X6_isType : zP zm_X6_isType := ⟨zkd_X6_isType, List.mem_of_getElem? (i := 408) rfl, by decide +kernel, rfl, rfl, by decide +kernel, by decide +kernel⟩
def zk_X6_place : zCd := [(13, [(0, .iload_n 1, 1), (1, .ifCond .ne 26, 3), (4, .iload_n 2, 1), (5, .iconst (-1), 1), (6, .if_icmp .eq 13, 3), (9, .aload_n 0, 1), (10, .iload_n 2, 1), (11, .iconst 0, 1), (12, .iconst 0, 1)]), (30, [(13, .invokevirtual 129, 3), (16, .ifCond .eq 7, 3), (19, .iconst 1, 1), (20, .goto 63, 3), (23, .iconst 0, 1), (24, .goto 59, 3), (27, .iload_n 1, 1), (28, .iconst 1, 1), (29, .if_icmp .ne 16, 3)]), (47, [(32, .iload_n 2, 1), (33, .iconst (-1), 1), (34, .if_icmp .ne 7, 3), (37, .iconst 1, 1), (38, .goto 45, 3), (41, .iconst 0, 1), (42, .goto 41, 3), (45, .iload_n 1, 1), (46, .iconst 2, 1)]), (64, [(47, .if_icmp .lt 16, 3), (50, .iload_n 1, 1), (51, .iconst 4, 1), (52, .if_icmp .gt 11, 3), (55, .aload_n 0, 1), (56, .iload_n 2, 1), (57, .invokevirtual 133, 3), (60, .goto 23, 3), (63, .iload_n 1, 1)]), (79, [(64, .iconst 5, 1), (65, .if_icmp .ne 17, 3), (68, .aload_n 0, 1), (69, .iload_n 2, 1), (70, .iconst 3, 1), (71, .iconst 4, 1), (72, .invokevirtual 129, 3), (75, .ifCond .eq 7, 3), (78, .iconst 1, 1)]), (93, [(79, .goto 4, 3), (82, .iconst 0, 1), (83, .istore_n 3, 1), (84, .iload_n 3, 1), (85, .ifCond .ne 6, 3), (88, .bipush (-2), 2), (90, .ireturn, 1), (91, .aload_n 0, 1), (92, .getfield 123, 3)]), (112, [(95, .bipush 40, 2), (97, .if_icmp .ne 6, 3), (100, .bipush (-3), 2), (102, .ireturn, 1), (103, .aload_n 0, 1), (104, .getfield 44, 3), (107, .aload_n 0, 1), (108, .getfield 123, 3), (111, .iload_n 1, 1)]), (125, [(112, .iastore, 1), (113, .aload_n 0, 1), (114, .getfield 47, 3), (117, .aload_n 0, 1), (118, .getfield 123, 3), (121, .iload_n 2, 1), (122, .iastore, 1), (123, .aload_n 0, 1), (124, .dup, 1)]), (140, [(125, .getfield 123, 3), (128, .iconst 1, 1), (129, .iadd, 1), (130, .putfield 123, 3), (133, .aload_n 0, 1), (134, .getfield 123, 3), (137, .iconst 1, 1), (138, .isub, 1), (139, .ireturn, 1)])]
set_option maxRecDepth 20000 in
theorem zkd_X6_place : ∀ q ∈ zk_X6_place, ∀ e ∈ q.2, decode cX6_place e.1 = .ok e.2 ∧ zlo e = true := by decide +kernel
def zm_X6_place : zMe := ((6, 1, 4, zk_X6_place), (yX6_place, cX6_place, (some .int)))
set_option maxRecDepth 20000 in
theorem zp_X6_place : zP zm_X6_place := ⟨zkd_X6_place, List.mem_of_getElem? (i := 395) rfl, by decide +kernel, rfl, rfl, by decide +kernel, by decide +kernel⟩
def zk_X6_isValue : zCd := [(6, [(0, .iload_n 1, 1), (1, .ifCond .lt 15, 3), (4, .iload_n 1, 1), (5, .aload_n 0, 1)]), (14, [(6, .getfield 100, 3), (9, .if_icmp .ge 7, 3), (12, .iconst 1, 1), (13, .goto 4, 3)]), (18, [(16, .iconst 0, 1), (17, .ireturn, 1)])]
set_option maxRecDepth 20000 in
theorem zkd_X6_isValue : ∀ q ∈ zk_X6_isValue, ∀ e ∈ q.2, decode cX6_isValue e.1 = .ok e.2 ∧ zlo e = true := by decide +kernel
def zm_X6_isValue : zMe := ((6, 2, 2, zk_X6_isValue), (yX6_isValue, cX6_isValue, (some .boolean)))
set_option maxRecDepth 20000 in
theorem zp_X6_isValue : zP zm_X6_isValue := ⟨zkd_X6_isValue, List.mem_of_getElem? (i := 296) rfl, by decide +kernel, rfl, rfl, by decide +kernel, by decide +kernel⟩
def zk_X6_isSort : zCd := [(6, [(0, .aload_n 0, 1), (1, .iload_n 1, 1), (2, .invokevirtual 136, 3), (5, .ifCond .eq 17, 3)]), (14, [(8, .aload_n 0, 1), (9, .getfield 50, 3), (12, .iload_n 1, 1), (13, .iaload, 1)]), (20, [(14, .iload_n 2, 1), (15, .if_icmp .ne 7, 3), (18, .iconst 1, 1), (19, .goto 4, 3)]), (24, [(22, .iconst 0, 1), (23, .ireturn, 1)])]
set_option maxRecDepth 20000 in
theorem zkd_X6_isSort : ∀ q ∈ zk_X6_isSort, ∀ e ∈ q.2, decode cX6_isSort e.1 = .ok e.2 ∧ zlo e = true := by decide +kernel
def zm_X6_isSort : zMe := ((6, 2, 3, zk_X6_isSort), (yX6_isSort, cX6_isSort, (some .boolean)))
set_option maxRecDepth 20000 in
theorem zp_X6_isSort : zP zm_X6_isSort := ⟨zkd_X6_isSort, List.mem_of_getElem? (i := 450) rfl, by decide +kernel, rfl, rfl, by decide +kernel, by decide +kernel⟩
def zk_X6_added : zCd := [(11, [(0, .aload_n 0, 1), (1, .getfield 50, 3), (4, .aload_n 0, 1), (5, .getfield 100, 3), (8, .iload_n 1, 1), (9, .iastore, 1), (10, .aload_n 0, 1)]), (22, [(11, .getfield 53, 3), (14, .aload_n 0, 1), (15, .getfield 100, 3), (18, .iload_n 2, 1), (19, .iastore, 1), (20, .aload_n 0, 1), (21, .getfield 56, 3)]), (35, [(24, .aload_n 0, 1), (25, .getfield 100, 3), (28, .iload_n 3, 1), (29, .iastore, 1), (30, .aload_n 0, 1), (31, .getfield 59, 3), (34, .aload_n 0, 1)]), (46, [(35, .getfield 100, 3), (38, .iconst 0, 1), (39, .bastore, 1), (40, .iconst 0, 1), (41, .istore 4, 2), (43, .iload 4, 2), (45, .iconst 5, 1)]), (59, [(46, .if_icmp .ge 24, 3), (49, .aload_n 0, 1), (50, .getfield 62, 3), (53, .iconst 5, 1), (54, .aload_n 0, 1), (55, .getfield 100, 3), (58, .imul, 1)]), (71, [(59, .iload 4, 2), (61, .iadd, 1), (62, .iconst (-1), 1), (63, .iastore, 1), (64, .iinc 4 1, 3), (67, .goto (-24), 3), (70, .aload_n 0, 1)]), (82, [(71, .dup, 1), (72, .getfield 100, 3), (75, .iconst 1, 1), (76, .iadd, 1), (77, .putfield 100, 3), (80, .aload_n 0, 1), (81, .getfield 100, 3)]), (87, [(84, .iconst 1, 1), (85, .isub, 1), (86, .ireturn, 1)])]
set_option maxRecDepth 20000 in
theorem zkd_X6_added : ∀ q ∈ zk_X6_added, ∀ e ∈ q.2, decode cX6_added e.1 = .ok e.2 ∧ zlo e = true := by decide +kernel
def zm_X6_added : zMe := ((6, 1, 5, zk_X6_added), (yX6_added, cX6_added, (some .int)))
set_option maxRecDepth 20000 in
theorem zp_X6_added : zP zm_X6_added := ⟨zkd_X6_added, List.mem_of_getElem? (i := 330) rfl, by decide +kernel, rfl, rfl, by decide +kernel, by decide +kernel⟩
def zk_X6_value : zCd := [(10, [(0, .iload_n 1, 1), (1, .ifCond .eq 45, 3), (4, .iload_n 1, 1), (5, .iconst 1, 1), (6, .if_icmp .ne 13, 3), (9, .iload_n 2, 1)]), (21, [(10, .ifCond .lt 9, 3), (13, .iload_n 2, 1), (14, .bipush 99, 2), (16, .if_icmp .le 30, 3), (19, .iload_n 1, 1), (20, .iconst 2, 1)]), (31, [(21, .if_icmp .ne 12, 3), (24, .iload_n 2, 1), (25, .ifCond .lt 8, 3), (28, .iload_n 2, 1), (29, .iconst 4, 1), (30, .if_icmp .le 16, 3)]), (41, [(33, .iload_n 1, 1), (34, .iconst 3, 1), (35, .if_icmp .ne 15, 3), (38, .aload_n 0, 1), (39, .iload_n 2, 1), (40, .invokevirtual 133, 3)]), (53, [(43, .ifCond .eq 7, 3), (46, .iconst 1, 1), (47, .goto 4, 3), (50, .iconst 0, 1), (51, .istore_n 3, 1), (52, .iload_n 3, 1)]), (64, [(53, .ifCond .ne 6, 3), (56, .bipush (-2), 2), (58, .ireturn, 1), (59, .aload_n 0, 1), (60, .getfield 100, 3), (63, .bipush 100, 2)]), (76, [(65, .if_icmp .ne 8, 3), (68, .bipush (-3), 2), (70, .goto 10, 3), (73, .aload_n 0, 1), (74, .iconst 0, 1), (75, .iload_n 1, 1)]), (81, [(76, .iload_n 2, 1), (77, .invokevirtual 139, 3), (80, .ireturn, 1)])]
set_option maxRecDepth 20000 in
theorem zkd_X6_value : ∀ q ∈ zk_X6_value, ∀ e ∈ q.2, decode cX6_value e.1 = .ok e.2 ∧ zlo e = true := by decide +kernel
def zm_X6_value : zMe := ((6, 1, 4, zk_X6_value), (yX6_value, cX6_value, (some .int)))
set_option maxRecDepth 20000 in
theorem zp_X6_value : zP zm_X6_value := ⟨zkd_X6_value, List.mem_of_getElem? (i := 422) rfl, by decide +kernel, rfl, rfl, by decide +kernel, by decide +kernel⟩
def zk_X6_row : zCd := [(6, [(0, .aload_n 0, 1), (1, .iload_n 1, 1), (2, .invokevirtual 103, 3), (5, .ifCond .ne 6, 3)]), (13, [(8, .bipush (-2), 2), (10, .ireturn, 1), (11, .aload_n 0, 1), (12, .getfield 100, 3)]), (23, [(15, .bipush 100, 2), (17, .if_icmp .ne 8, 3), (20, .bipush (-3), 2), (22, .goto 10, 3)]), (29, [(25, .aload_n 0, 1), (26, .iconst 1, 1), (27, .iload_n 1, 1), (28, .iconst 0, 1)]), (33, [(29, .invokevirtual 139, 3), (32, .ireturn, 1)])]
set_option maxRecDepth 20000 in
theorem zkd_X6_row : ∀ q ∈ zk_X6_row, ∀ e ∈ q.2, decode cX6_row e.1 = .ok e.2 ∧ zlo e = true := by decide +kernel
def zm_X6_row : zMe := ((6, 1, 2, zk_X6_row), (yX6_row, cX6_row, (some .int)))
set_option maxRecDepth 20000 in
theorem zp_X6_row : zP zm_X6_row := ⟨zkd_X6_row, List.mem_of_getElem? (i := 430) rfl, by decide +kernel, rfl, rfl, by decide +kernel, by decide +kernel⟩
def zk_X6_instance : zCd := [(6, [(0, .aload_n 0, 1), (1, .iload_n 1, 1), (2, .invokevirtual 96, 3), (5, .ifCond .ne 6, 3)]), (13, [(8, .bipush (-2), 2), (10, .ireturn, 1), (11, .aload_n 0, 1), (12, .getfield 100, 3)]), (23, [(15, .bipush 100, 2), (17, .if_icmp .ne 8, 3), (20, .bipush (-3), 2), (22, .goto 10, 3)]), (29, [(25, .aload_n 0, 1), (26, .iconst 2, 1), (27, .iload_n 1, 1), (28, .iconst 0, 1)]), (33, [(29, .invokevirtual 139, 3), (32, .ireturn, 1)])]
set_option maxRecDepth 20000 in
theorem zkd_X6_instance : ∀ q ∈ zk_X6_instance, ∀ e ∈ q.2, decode cX6_instance e.1 = .ok e.2 ∧ zlo e = true := by decide +kernel
def zm_X6_instance : zMe := ((6, 1, 2, zk_X6_instance), (yX6_instance, cX6_instance, (some .int)))
set_option maxRecDepth 20000 in
theorem zp_X6_instance : zP zm_X6_instance := ⟨zkd_X6_instance, List.mem_of_getElem? (i := 459) rfl, by decide +kernel, rfl, rfl, by decide +kernel, by decide +kernel⟩
def zk_X6_failed : zCd := [(6, [(0, .aload_n 0, 1), (1, .iload_n 1, 1), (2, .putfield 143, 3), (5, .aload_n 0, 1)]), (12, [(6, .getfield 65, 3), (9, .iload_n 1, 1), (10, .dup2, 1), (11, .iaload, 1)]), (16, [(12, .iconst 1, 1), (13, .iadd, 1), (14, .iastore, 1), (15, .bipush (-5), 2)]), (18, [(17, .ireturn, 1)])]
set_option maxRecDepth 20000 in
theorem zkd_X6_failed : ∀ q ∈ zk_X6_failed, ∀ e ∈ q.2, decode cX6_failed e.1 = .ok e.2 ∧ zlo e = true := by decide +kernel
def zm_X6_failed : zMe := ((6, 1, 2, zk_X6_failed), (yX6_failed, cX6_failed, (some .int)))
set_option maxRecDepth 20000 in
theorem zp_X6_failed : zP zm_X6_failed := ⟨zkd_X6_failed, List.mem_of_getElem? (i := 325) rfl, by decide +kernel, rfl, rfl, by decide +kernel, by decide +kernel⟩
def zk_X6_good : zCd := [(6, [(0, .aload_n 0, 1), (1, .iconst 0, 1), (2, .putfield 143, 3), (5, .iload_n 1, 1)]), (7, [(6, .ireturn, 1)])]
set_option maxRecDepth 20000 in
theorem zkd_X6_good : ∀ q ∈ zk_X6_good, ∀ e ∈ q.2, decode cX6_good e.1 = .ok e.2 ∧ zlo e = true := by decide +kernel
def zm_X6_good : zMe := ((6, 1, 2, zk_X6_good), (yX6_good, cX6_good, (some .int)))
set_option maxRecDepth 20000 in
theorem zp_X6_good : zP zm_X6_good := ⟨zkd_X6_good, List.mem_of_getElem? (i := 338) rfl, by decide +kernel, rfl, rfl, by decide +kernel, by decide +kernel⟩
def zk_X6_isOfKind : zCd := [(7, [(0, .aload_n 0, 1), (1, .getfield 50, 3), (4, .iload_n 1, 1), (5, .iaload, 1), (6, .ifCond .ne 21, 3)]), (16, [(9, .aload_n 0, 1), (10, .getfield 53, 3), (13, .iload_n 1, 1), (14, .iaload, 1), (15, .iload_n 2, 1)]), (25, [(16, .if_icmp .ne 7, 3), (19, .iconst 1, 1), (20, .goto 35, 3), (23, .iconst 0, 1), (24, .goto 31, 3)]), (34, [(27, .aload_n 0, 1), (28, .getfield 50, 3), (31, .iload_n 1, 1), (32, .iaload, 1), (33, .iconst 2, 1)]), (42, [(34, .if_icmp .ne 20, 3), (37, .iload_n 2, 1), (38, .bipush 10, 2), (40, .aload_n 0, 1), (41, .getfield 53, 3)]), (51, [(44, .iload_n 1, 1), (45, .iaload, 1), (46, .iadd, 1), (47, .if_icmp .ne 7, 3), (50, .iconst 1, 1)]), (56, [(51, .goto 4, 3), (54, .iconst 0, 1), (55, .ireturn, 1)])]
set_option maxRecDepth 20000 in
theorem zkd_X6_isOfKind : ∀ q ∈ zk_X6_isOfKind, ∀ e ∈ q.2, decode cX6_isOfKind e.1 = .ok e.2 ∧ zlo e = true := by decide +kernel
def zm_X6_isOfKind : zMe := ((6, 2, 3, zk_X6_isOfKind), (yX6_isOfKind, cX6_isOfKind, (some .boolean)))
set_option maxRecDepth 20000 in
theorem zp_X6_isOfKind : zP zm_X6_isOfKind := ⟨zkd_X6_isOfKind, List.mem_of_getElem? (i := 321) rfl, by decide +kernel, rfl, rfl, by decide +kernel, by decide +kernel⟩
def zk_X6_done : zCd := [(6, [(0, .aload_n 0, 1), (1, .getfield 59, 3), (4, .iload_n 1, 1), (5, .aload_n 0, 1)]), (12, [(6, .getfield 50, 3), (9, .iload_n 1, 1), (10, .iaload, 1), (11, .ifCond .eq 7, 3)]), (20, [(14, .iconst 1, 1), (15, .goto 4, 3), (18, .iconst 0, 1), (19, .bastore, 1)]), (21, [(20, .return_, 1)])]
set_option maxRecDepth 20000 in
theorem zkd_X6_done : ∀ q ∈ zk_X6_done, ∀ e ∈ q.2, decode cX6_done e.1 = .ok e.2 ∧ zlo e = true := by decide +kernel
def zm_X6_done : zMe := ((6, 0, 2, zk_X6_done), (yX6_done, cX6_done, none))
set_option maxRecDepth 20000 in
theorem zp_X6_done : zP zm_X6_done := ⟨zkd_X6_done, List.mem_of_getElem? (i := 334) rfl, by decide +kernel, rfl, rfl, by decide +kernel, by decide +kernel⟩
def zk_X6_push : zCd := [(15, [(0, .aload_n 0, 1), (1, .iload_n 1, 1), (2, .iconst 1, 1), (3, .invokevirtual 146, 3), (6, .ifCond .eq 16, 3), (9, .iload_n 2, 1), (10, .iconst (-1), 1), (11, .if_icmp .eq 14, 3), (14, .aload_n 0, 1)]), (31, [(15, .iload_n 2, 1), (16, .invokevirtual 136, 3), (19, .ifCond .ne 6, 3), (22, .bipush (-2), 2), (24, .ireturn, 1), (25, .aload_n 0, 1), (26, .getfield 59, 3), (29, .iload_n 1, 1), (30, .baload, 1)]), (46, [(31, .ifCond .ne 22, 3), (34, .iload_n 2, 1), (35, .iload_n 1, 1), (36, .if_icmp .eq 17, 3), (39, .iload_n 2, 1), (40, .iconst (-1), 1), (41, .if_icmp .eq 15, 3), (44, .aload_n 0, 1), (45, .getfield 59, 3)]), (62, [(48, .iload_n 2, 1), (49, .baload, 1), (50, .ifCond .eq 6, 3), (53, .bipush (-4), 2), (55, .ireturn, 1), (56, .aload_n 0, 1), (57, .getfield 56, 3), (60, .iload_n 1, 1), (61, .iaload, 1)]), (76, [(62, .iconst 4, 1), (63, .if_icmp .ne 6, 3), (66, .bipush (-3), 2), (68, .ireturn, 1), (69, .iload_n 2, 1), (70, .iconst (-1), 1), (71, .if_icmp .ne 9, 3), (74, .aload_n 0, 1), (75, .iconst 1, 1)]), (89, [(76, .invokevirtual 149, 3), (79, .ireturn, 1), (80, .aload_n 0, 1), (81, .iload_n 2, 1), (82, .aload_n 0, 1), (83, .getfield 53, 3), (86, .iload_n 1, 1), (87, .iaload, 1), (88, .invokevirtual 153, 3)]), (106, [(91, .ifCond .ne 9, 3), (94, .aload_n 0, 1), (95, .iconst 3, 1), (96, .invokevirtual 149, 3), (99, .ireturn, 1), (100, .aload_n 0, 1), (101, .getfield 62, 3), (104, .iconst 5, 1), (105, .iload_n 1, 1)]), (117, [(106, .imul, 1), (107, .aload_n 0, 1), (108, .getfield 56, 3), (111, .iload_n 1, 1), (112, .iaload, 1), (113, .iadd, 1), (114, .iload_n 2, 1), (115, .iastore, 1), (116, .aload_n 0, 1)]), (128, [(117, .getfield 56, 3), (120, .iload_n 1, 1), (121, .dup2, 1), (122, .iaload, 1), (123, .iconst 1, 1), (124, .iadd, 1), (125, .iastore, 1), (126, .aload_n 0, 1), (127, .iload_n 2, 1)]), (142, [(128, .invokevirtual 156, 3), (131, .aload_n 0, 1), (132, .aload_n 0, 1), (133, .getfield 56, 3), (136, .iload_n 1, 1), (137, .iaload, 1), (138, .invokevirtual 160, 3), (141, .ireturn, 1)])]
set_option maxRecDepth 20000 in
theorem zkd_X6_push : ∀ q ∈ zk_X6_push, ∀ e ∈ q.2, decode cX6_push e.1 = .ok e.2 ∧ zlo e = true := by decide +kernel
def zm_X6_push : zMe := ((6, 1, 3, zk_X6_push), (yX6_push, cX6_push, (some .int)))
set_option maxRecDepth 20000 in
theorem zp_X6_push : zP zm_X6_push := ⟨zkd_X6_push, List.mem_of_getElem? (i := 446) rfl, by decide +kernel, rfl, rfl, by decide +kernel, by decide +kernel⟩
def zk_X6_given : zCd := [(14, [(0, .iload_n 2, 1), (1, .iconst (-1), 1), (2, .if_icmp .eq 21, 3), (5, .aload_n 0, 1), (6, .iload_n 2, 1), (7, .aload_n 0, 1), (8, .getfield 32, 3), (11, .iload_n 1, 1), (12, .iaload, 1), (13, .invokevirtual 153, 3)]), (34, [(16, .ifCond .eq 7, 3), (19, .iconst 1, 1), (20, .goto 4, 3), (23, .iconst 0, 1), (24, .istore_n 3, 1), (25, .iload_n 3, 1), (26, .ifCond .eq 24, 3), (29, .aload_n 0, 1), (30, .getfield 35, 3), (33, .iload_n 1, 1)]), (52, [(34, .baload, 1), (35, .ifCond .eq 15, 3), (38, .aload_n 0, 1), (39, .getfield 100, 3), (42, .bipush 100, 2), (44, .if_icmp .ne 6, 3), (47, .bipush (-3), 2), (49, .ireturn, 1), (50, .iload_n 2, 1), (51, .iconst (-1), 1)]), (70, [(52, .if_icmp .ne 9, 3), (55, .aload_n 0, 1), (56, .iconst 1, 1), (57, .invokevirtual 149, 3), (60, .ireturn, 1), (61, .iload_n 3, 1), (62, .ifCond .eq 54, 3), (65, .aload_n 0, 1), (66, .getfield 35, 3), (69, .iload_n 1, 1)]), (84, [(70, .baload, 1), (71, .ifCond .eq 45, 3), (74, .aload_n 0, 1), (75, .iconst 1, 1), (76, .aload_n 0, 1), (77, .getfield 32, 3), (80, .iload_n 1, 1), (81, .iaload, 1), (82, .iconst 1, 1), (83, .invokevirtual 139, 3)]), (100, [(86, .istore 4, 2), (88, .aload_n 0, 1), (89, .getfield 62, 3), (92, .iconst 5, 1), (93, .iload 4, 2), (95, .imul, 1), (96, .iload_n 2, 1), (97, .iastore, 1), (98, .aload_n 0, 1), (99, .iload_n 2, 1)]), (118, [(100, .invokevirtual 156, 3), (103, .aload_n 0, 1), (104, .iload 4, 2), (106, .invokevirtual 156, 3), (109, .aload_n 0, 1), (110, .iload 4, 2), (112, .invokevirtual 160, 3), (115, .ireturn, 1), (116, .aload_n 0, 1), (117, .getfield 35, 3)]), (136, [(120, .iload_n 1, 1), (121, .baload, 1), (122, .ifCond .eq 32, 3), (125, .aload_n 0, 1), (126, .getfield 50, 3), (129, .iload_n 2, 1), (130, .iaload, 1), (131, .iconst 1, 1), (132, .if_icmp .ne 22, 3), (135, .aload_n 0, 1)]), (152, [(136, .getfield 53, 3), (139, .iload_n 2, 1), (140, .iaload, 1), (141, .aload_n 0, 1), (142, .getfield 32, 3), (145, .iload_n 1, 1), (146, .iaload, 1), (147, .if_icmp .ne 7, 3), (150, .iconst 1, 1), (151, .goto 4, 3)]), (172, [(154, .iconst 0, 1), (155, .istore 4, 2), (157, .iload 4, 2), (159, .ifCond .ne 22, 3), (162, .iload_n 3, 1), (163, .ifCond .eq 12, 3), (166, .aload_n 0, 1), (167, .getfield 35, 3), (170, .iload_n 1, 1), (171, .baload, 1)]), (188, [(172, .ifCond .eq 9, 3), (175, .aload_n 0, 1), (176, .iconst 2, 1), (177, .invokevirtual 149, 3), (180, .ireturn, 1), (181, .aload_n 0, 1), (182, .iload_n 2, 1), (183, .invokevirtual 156, 3), (186, .aload_n 0, 1), (187, .iload_n 2, 1)]), (192, [(188, .invokevirtual 160, 3), (191, .ireturn, 1)])]
set_option maxRecDepth 20000 in
theorem zkd_X6_given : ∀ q ∈ zk_X6_given, ∀ e ∈ q.2, decode cX6_given e.1 = .ok e.2 ∧ zlo e = true := by decide +kernel
def zm_X6_given : zMe := ((6, 1, 5, zk_X6_given), (yX6_given, cX6_given, (some .int)))
set_option maxRecDepth 20000 in
theorem zp_X6_given : zP zm_X6_given := ⟨zkd_X6_given, List.mem_of_getElem? (i := 317) rfl, by decide +kernel, rfl, rfl, by decide +kernel, by decide +kernel⟩
def zk_X6_fallback : zCd := [(11, [(0, .aload_n 0, 1), (1, .iload_n 1, 1), (2, .invokevirtual 96, 3), (5, .ifCond .eq 26, 3), (8, .aload_n 0, 1), (9, .iload_n 1, 1), (10, .iload_n 2, 1)]), (24, [(11, .invokevirtual 106, 3), (14, .iconst (-1), 1), (15, .if_icmp .eq 16, 3), (18, .iload_n 3, 1), (19, .iconst (-1), 1), (20, .if_icmp .eq 14, 3), (23, .aload_n 0, 1)]), (36, [(24, .iload_n 3, 1), (25, .invokevirtual 136, 3), (28, .ifCond .ne 6, 3), (31, .bipush (-2), 2), (33, .ireturn, 1), (34, .aload_n 0, 1), (35, .iload_n 1, 1)]), (49, [(36, .invokevirtual 110, 3), (39, .ifCond .ne 25, 3), (42, .iload_n 3, 1), (43, .iconst (-1), 1), (44, .if_icmp .eq 23, 3), (47, .aload_n 0, 1), (48, .getfield 59, 3)]), (62, [(51, .iload_n 3, 1), (52, .baload, 1), (53, .ifCond .ne 11, 3), (56, .aload_n 0, 1), (57, .iload_n 3, 1), (58, .invokevirtual 163, 3), (61, .ifCond .ne 6, 3)]), (72, [(64, .bipush (-4), 2), (66, .ireturn, 1), (67, .aload_n 0, 1), (68, .aload_n 0, 1), (69, .iload_n 1, 1), (70, .iload_n 2, 1), (71, .invokevirtual 106, 3)]), (88, [(74, .iload_n 3, 1), (75, .invokevirtual 166, 3), (78, .istore 4, 2), (80, .iload 4, 2), (82, .ifCond .ge 6, 3), (85, .iload 4, 2), (87, .ireturn, 1)]), (99, [(88, .aload_n 0, 1), (89, .getfield 38, 3), (92, .aload_n 0, 1), (93, .iload_n 1, 1), (94, .iload_n 2, 1), (95, .invokevirtual 106, 3), (98, .iload 4, 2)]), (103, [(100, .iastore, 1), (101, .iconst 1, 1), (102, .ireturn, 1)])]
set_option maxRecDepth 20000 in
theorem zkd_X6_fallback : ∀ q ∈ zk_X6_fallback, ∀ e ∈ q.2, decode cX6_fallback e.1 = .ok e.2 ∧ zlo e = true := by decide +kernel
def zm_X6_fallback : zMe := ((6, 1, 5, zk_X6_fallback), (yX6_fallback, cX6_fallback, (some .int)))
set_option maxRecDepth 20000 in
theorem zp_X6_fallback : zP zm_X6_fallback := ⟨zkd_X6_fallback, List.mem_of_getElem? (i := 292) rfl, by decide +kernel, rfl, rfl, by decide +kernel, by decide +kernel⟩
def zk_X6_give : zCd := [(15, [(0, .aload_n 0, 1), (1, .iload_n 1, 1), (2, .iconst 2, 1), (3, .invokevirtual 146, 3), (6, .ifCond .eq 31, 3), (9, .aload_n 0, 1), (10, .aload_n 0, 1), (11, .getfield 53, 3), (14, .iload_n 1, 1)]), (30, [(15, .iaload, 1), (16, .iload_n 2, 1), (17, .invokevirtual 106, 3), (20, .iconst (-1), 1), (21, .if_icmp .eq 16, 3), (24, .iload_n 3, 1), (25, .iconst (-1), 1), (26, .if_icmp .eq 14, 3), (29, .aload_n 0, 1)]), (46, [(30, .iload_n 3, 1), (31, .invokevirtual 136, 3), (34, .ifCond .ne 6, 3), (37, .bipush (-2), 2), (39, .ireturn, 1), (40, .aload_n 0, 1), (41, .aload_n 0, 1), (42, .getfield 53, 3), (45, .iload_n 1, 1)]), (59, [(46, .iaload, 1), (47, .iload_n 2, 1), (48, .invokevirtual 106, 3), (51, .istore 4, 2), (53, .iconst 5, 1), (54, .iload_n 1, 1), (55, .imul, 1), (56, .iload 4, 2), (58, .iadd, 1)]), (71, [(59, .iconst 5, 1), (60, .aload_n 0, 1), (61, .getfield 53, 3), (64, .iload_n 1, 1), (65, .iaload, 1), (66, .imul, 1), (67, .isub, 1), (68, .istore 5, 2), (70, .aload_n 0, 1)]), (87, [(71, .getfield 59, 3), (74, .iload_n 1, 1), (75, .baload, 1), (76, .ifCond .ne 33, 3), (79, .aload_n 0, 1), (80, .getfield 62, 3), (83, .iload 5, 2), (85, .iaload, 1), (86, .iconst (-1), 1)]), (102, [(87, .if_icmp .ne 22, 3), (90, .iload_n 3, 1), (91, .iload_n 1, 1), (92, .if_icmp .eq 17, 3), (95, .iload_n 3, 1), (96, .iconst (-1), 1), (97, .if_icmp .eq 15, 3), (100, .aload_n 0, 1), (101, .getfield 59, 3)]), (117, [(104, .iload_n 3, 1), (105, .baload, 1), (106, .ifCond .eq 6, 3), (109, .bipush (-4), 2), (111, .ireturn, 1), (112, .aload_n 0, 1), (113, .iload 4, 2), (115, .iload_n 3, 1), (116, .invokevirtual 166, 3)]), (136, [(119, .istore 6, 2), (121, .iload 6, 2), (123, .ifCond .ge 6, 3), (126, .iload 6, 2), (128, .ireturn, 1), (129, .aload_n 0, 1), (130, .getfield 62, 3), (133, .iload 5, 2), (135, .iload 6, 2)]), (148, [(137, .iastore, 1), (138, .aload_n 0, 1), (139, .getfield 56, 3), (142, .iload_n 1, 1), (143, .dup2, 1), (144, .iaload, 1), (145, .iconst 1, 1), (146, .iadd, 1), (147, .iastore, 1)]), (150, [(148, .iconst 1, 1), (149, .ireturn, 1)])]
set_option maxRecDepth 20000 in
theorem zkd_X6_give : ∀ q ∈ zk_X6_give, ∀ e ∈ q.2, decode cX6_give e.1 = .ok e.2 ∧ zlo e = true := by decide +kernel
def zm_X6_give : zMe := ((6, 1, 7, zk_X6_give), (yX6_give, cX6_give, (some .int)))
set_option maxRecDepth 20000 in
theorem zp_X6_give : zP zm_X6_give := ⟨zkd_X6_give, List.mem_of_getElem? (i := 474) rfl, by decide +kernel, rfl, rfl, by decide +kernel, by decide +kernel⟩
def zk_X6_within : zCd := [(7, [(0, .aload_n 0, 1), (1, .getfield 50, 3), (4, .iload_n 1, 1), (5, .iaload, 1), (6, .iconst 1, 1)]), (16, [(7, .if_icmp .ne 12, 3), (10, .aload_n 0, 1), (11, .getfield 56, 3), (14, .iload_n 1, 1), (15, .iaload, 1)]), (25, [(16, .goto 28, 3), (19, .aload_n 0, 1), (20, .getfield 50, 3), (23, .iload_n 1, 1), (24, .iaload, 1)]), (34, [(25, .iconst 2, 1), (26, .if_icmp .ne 17, 3), (29, .aload_n 0, 1), (30, .getfield 26, 3), (33, .aload_n 0, 1)]), (41, [(34, .getfield 53, 3), (37, .iload_n 1, 1), (38, .iaload, 1), (39, .iaload, 1), (40, .goto 4, 3)]), (45, [(43, .iconst 0, 1), (44, .ireturn, 1)])]
set_option maxRecDepth 20000 in
theorem zkd_X6_within : ∀ q ∈ zk_X6_within, ∀ e ∈ q.2, decode cX6_within e.1 = .ok e.2 ∧ zlo e = true := by decide +kernel
def zm_X6_within : zMe := ((6, 1, 2, zk_X6_within), (yX6_within, cX6_within, (some .int)))
set_option maxRecDepth 20000 in
theorem zp_X6_within : zP zm_X6_within := ⟨zkd_X6_within, List.mem_of_getElem? (i := 309) rfl, by decide +kernel, rfl, rfl, by decide +kernel, by decide +kernel⟩
def zk_X6_inner : zCd := [(7, [(0, .aload_n 0, 1), (1, .getfield 62, 3), (4, .iconst 5, 1), (5, .iload_n 1, 1), (6, .imul, 1)]), (12, [(7, .iload_n 2, 1), (8, .iadd, 1), (9, .iaload, 1), (10, .istore_n 3, 1), (11, .aload_n 0, 1)]), (19, [(12, .getfield 50, 3), (15, .iload_n 1, 1), (16, .iaload, 1), (17, .iconst 2, 1), (18, .if_icmp .ne 26, 3)]), (28, [(21, .iload_n 3, 1), (22, .iconst (-1), 1), (23, .if_icmp .ne 21, 3), (26, .aload_n 0, 1), (27, .getfield 38, 3)]), (37, [(30, .iconst 5, 1), (31, .aload_n 0, 1), (32, .getfield 53, 3), (35, .iload_n 1, 1), (36, .iaload, 1)]), (42, [(37, .imul, 1), (38, .iload_n 2, 1), (39, .iadd, 1), (40, .iaload, 1), (41, .goto 4, 3)]), (46, [(44, .iload_n 3, 1), (45, .ireturn, 1)])]
set_option maxRecDepth 20000 in
theorem zkd_X6_inner : ∀ q ∈ zk_X6_inner, ∀ e ∈ q.2, decode cX6_inner e.1 = .ok e.2 ∧ zlo e = true := by decide +kernel
def zm_X6_inner : zMe := ((6, 1, 4, zk_X6_inner), (yX6_inner, cX6_inner, (some .int)))
set_option maxRecDepth 20000 in
theorem zp_X6_inner : zP zm_X6_inner := ⟨zkd_X6_inner, List.mem_of_getElem? (i := 313) rfl, by decide +kernel, rfl, rfl, by decide +kernel, by decide +kernel⟩
def zk_X6_pile : zCd := [(9, [(0, .aload_n 0, 1), (1, .getfield 68, 3), (4, .aload_n 0, 1), (5, .getfield 169, 3), (8, .iload_n 1, 1)]), (16, [(9, .iastore, 1), (10, .aload_n 0, 1), (11, .getfield 71, 3), (14, .aload_n 0, 1), (15, .getfield 169, 3)]), (25, [(18, .iload_n 2, 1), (19, .iastore, 1), (20, .aload_n 0, 1), (21, .getfield 74, 3), (24, .aload_n 0, 1)]), (32, [(25, .getfield 169, 3), (28, .iconst 0, 1), (29, .iastore, 1), (30, .aload_n 0, 1), (31, .dup, 1)]), (41, [(32, .getfield 169, 3), (35, .iconst 1, 1), (36, .iadd, 1), (37, .putfield 169, 3), (40, .return_, 1)])]
set_option maxRecDepth 20000 in
theorem zkd_X6_pile : ∀ q ∈ zk_X6_pile, ∀ e ∈ q.2, decode cX6_pile e.1 = .ok e.2 ∧ zlo e = true := by decide +kernel
def zm_X6_pile : zMe := ((6, 0, 3, zk_X6_pile), (yX6_pile, cX6_pile, none))
set_option maxRecDepth 20000 in
theorem zp_X6_pile : zP zm_X6_pile := ⟨zkd_X6_pile, List.mem_of_getElem? (i := 305) rfl, by decide +kernel, rfl, rfl, by decide +kernel, by decide +kernel⟩
def zk_X6_isWhole : zCd := [(10, [(0, .iconst 1, 1), (1, .istore_n 2, 1), (2, .aload_n 0, 1), (3, .iconst 0, 1), (4, .putfield 169, 3), (7, .aload_n 0, 1), (8, .iload_n 1, 1), (9, .iconst (-1), 1)]), (26, [(10, .invokevirtual 172, 3), (13, .iload_n 2, 1), (14, .ifCond .eq 113, 3), (17, .aload_n 0, 1), (18, .getfield 169, 3), (21, .ifCond .le 106, 3), (24, .aload_n 0, 1), (25, .getfield 169, 3)]), (38, [(28, .iconst 1, 1), (29, .isub, 1), (30, .istore_n 3, 1), (31, .aload_n 0, 1), (32, .getfield 74, 3), (35, .iload_n 3, 1), (36, .iaload, 1), (37, .aload_n 0, 1)]), (52, [(38, .aload_n 0, 1), (39, .getfield 68, 3), (42, .iload_n 3, 1), (43, .iaload, 1), (44, .invokevirtual 175, 3), (47, .if_icmp .ne 16, 3), (50, .aload_n 0, 1), (51, .dup, 1)]), (66, [(52, .getfield 169, 3), (55, .iconst 1, 1), (56, .isub, 1), (57, .putfield 169, 3), (60, .goto 64, 3), (63, .aload_n 0, 1), (64, .aload_n 0, 1), (65, .getfield 68, 3)]), (80, [(68, .iload_n 3, 1), (69, .iaload, 1), (70, .aload_n 0, 1), (71, .getfield 74, 3), (74, .iload_n 3, 1), (75, .iaload, 1), (76, .invokevirtual 178, 3), (79, .istore 4, 2)]), (91, [(81, .aload_n 0, 1), (82, .getfield 74, 3), (85, .iload_n 3, 1), (86, .dup2, 1), (87, .iaload, 1), (88, .iconst 1, 1), (89, .iadd, 1), (90, .iastore, 1)]), (104, [(91, .iload 4, 2), (93, .iconst (-1), 1), (94, .if_icmp .eq 7, 3), (97, .iconst 1, 1), (98, .goto 4, 3), (101, .iconst 0, 1), (102, .istore_n 2, 1), (103, .iload_n 2, 1)]), (119, [(104, .ifCond .eq 20, 3), (107, .aload_n 0, 1), (108, .getfield 50, 3), (111, .iload 4, 2), (113, .iaload, 1), (114, .ifCond .eq 10, 3), (117, .aload_n 0, 1), (118, .iload 4, 2)]), (129, [(120, .iconst (-1), 1), (121, .invokevirtual 172, 3), (124, .goto (-111), 3), (127, .iload_n 2, 1), (128, .ireturn, 1)])]
set_option maxRecDepth 20000 in
theorem zkd_X6_isWhole : ∀ q ∈ zk_X6_isWhole, ∀ e ∈ q.2, decode cX6_isWhole e.1 = .ok e.2 ∧ zlo e = true := by decide +kernel
def zm_X6_isWhole : zMe := ((6, 2, 5, zk_X6_isWhole), (yX6_isWhole, cX6_isWhole, (some .boolean)))
set_option maxRecDepth 20000 in
theorem zp_X6_isWhole : zP zm_X6_isWhole := ⟨zkd_X6_isWhole, List.mem_of_getElem? (i := 300) rfl, by decide +kernel, rfl, rfl, by decide +kernel, by decide +kernel⟩
def zk_X6_isLike : zCd := [(8, [(0, .aload_n 0, 1), (1, .getfield 50, 3), (4, .iload_n 1, 1), (5, .iaload, 1), (6, .aload_n 0, 1), (7, .getfield 50, 3)]), (20, [(10, .iload_n 2, 1), (11, .iaload, 1), (12, .if_icmp .ne 47, 3), (15, .aload_n 0, 1), (16, .getfield 53, 3), (19, .iload_n 1, 1)]), (28, [(20, .iaload, 1), (21, .aload_n 0, 1), (22, .getfield 53, 3), (25, .iload_n 2, 1), (26, .iaload, 1), (27, .if_icmp .ne 32, 3)]), (38, [(30, .aload_n 0, 1), (31, .getfield 50, 3), (34, .iload_n 1, 1), (35, .iaload, 1), (36, .iconst 2, 1), (37, .if_icmp .eq 18, 3)]), (48, [(40, .aload_n 0, 1), (41, .getfield 56, 3), (44, .iload_n 1, 1), (45, .iaload, 1), (46, .aload_n 0, 1), (47, .getfield 56, 3)]), (60, [(50, .iload_n 2, 1), (51, .iaload, 1), (52, .if_icmp .ne 7, 3), (55, .iconst 1, 1), (56, .goto 4, 3), (59, .iconst 0, 1)]), (61, [(60, .ireturn, 1)])]
set_option maxRecDepth 20000 in
theorem zkd_X6_isLike : ∀ q ∈ zk_X6_isLike, ∀ e ∈ q.2, decode cX6_isLike e.1 = .ok e.2 ∧ zlo e = true := by decide +kernel
def zm_X6_isLike : zMe := ((6, 2, 3, zk_X6_isLike), (yX6_isLike, cX6_isLike, (some .boolean)))
set_option maxRecDepth 20000 in
theorem zp_X6_isLike : zP zm_X6_isLike := ⟨zkd_X6_isLike, List.mem_of_getElem? (i := 574) rfl, by decide +kernel, rfl, rfl, by decide +kernel, by decide +kernel⟩
def zk_X6_areEqual : zCd := [(14, [(0, .aload_n 0, 1), (1, .iload_n 1, 1), (2, .iload_n 2, 1), (3, .invokevirtual 181, 3), (6, .istore_n 3, 1), (7, .aload_n 0, 1), (8, .iconst 0, 1), (9, .putfield 169, 3), (12, .aload_n 0, 1), (13, .iload_n 1, 1)]), (34, [(14, .iload_n 2, 1), (15, .invokevirtual 172, 3), (18, .iload_n 3, 1), (19, .ifCond .eq 161, 3), (22, .aload_n 0, 1), (23, .getfield 169, 3), (26, .ifCond .le 154, 3), (29, .aload_n 0, 1), (30, .getfield 169, 3), (33, .iconst 1, 1)]), (50, [(34, .isub, 1), (35, .istore 4, 2), (37, .aload_n 0, 1), (38, .getfield 74, 3), (41, .iload 4, 2), (43, .iaload, 1), (44, .aload_n 0, 1), (45, .aload_n 0, 1), (46, .getfield 68, 3), (49, .iload 4, 2)]), (69, [(51, .iaload, 1), (52, .invokevirtual 175, 3), (55, .if_icmp .ne 16, 3), (58, .aload_n 0, 1), (59, .dup, 1), (60, .getfield 169, 3), (63, .iconst 1, 1), (64, .isub, 1), (65, .putfield 169, 3), (68, .goto 109, 3)]), (87, [(71, .aload_n 0, 1), (72, .aload_n 0, 1), (73, .getfield 68, 3), (76, .iload 4, 2), (78, .iaload, 1), (79, .aload_n 0, 1), (80, .getfield 74, 3), (83, .iload 4, 2), (85, .iaload, 1), (86, .invokevirtual 178, 3)]), (106, [(89, .istore 5, 2), (91, .aload_n 0, 1), (92, .aload_n 0, 1), (93, .getfield 71, 3), (96, .iload 4, 2), (98, .iaload, 1), (99, .aload_n 0, 1), (100, .getfield 74, 3), (103, .iload 4, 2), (105, .iaload, 1)]), (122, [(106, .invokevirtual 178, 3), (109, .istore 6, 2), (111, .aload_n 0, 1), (112, .getfield 74, 3), (115, .iload 4, 2), (117, .dup2, 1), (118, .iaload, 1), (119, .iconst 1, 1), (120, .iadd, 1), (121, .iastore, 1)]), (142, [(122, .iload 5, 2), (124, .iload 6, 2), (126, .if_icmp .eq 26, 3), (129, .iload 5, 2), (131, .iconst (-1), 1), (132, .if_icmp .eq 24, 3), (135, .iload 6, 2), (137, .iconst (-1), 1), (138, .if_icmp .eq 18, 3), (141, .aload_n 0, 1)]), (160, [(142, .iload 5, 2), (144, .iload 6, 2), (146, .invokevirtual 181, 3), (149, .ifCond .eq 7, 3), (152, .iconst 1, 1), (153, .goto 4, 3), (156, .iconst 0, 1), (157, .istore_n 3, 1), (158, .iload_n 3, 1), (159, .ifCond .eq 18, 3)]), (182, [(162, .iload 5, 2), (164, .iload 6, 2), (166, .if_icmp .eq 11, 3), (169, .aload_n 0, 1), (170, .iload 5, 2), (172, .iload 6, 2), (174, .invokevirtual 172, 3), (177, .goto (-159), 3), (180, .iload_n 3, 1), (181, .ireturn, 1)])]
set_option maxRecDepth 20000 in
theorem zkd_X6_areEqual : ∀ q ∈ zk_X6_areEqual, ∀ e ∈ q.2, decode cX6_areEqual e.1 = .ok e.2 ∧ zlo e = true := by decide +kernel
def zm_X6_areEqual : zMe := ((6, 2, 7, zk_X6_areEqual), (yX6_areEqual, cX6_areEqual, (some .boolean)))
set_option maxRecDepth 20000 in
theorem zp_X6_areEqual : zP zm_X6_areEqual := ⟨zkd_X6_areEqual, List.mem_of_getElem? (i := 570) rfl, by decide +kernel, rfl, rfl, by decide +kernel, by decide +kernel⟩
def zk_X6_equal : zCd := [(6, [(0, .aload_n 0, 1), (1, .iload_n 1, 1), (2, .invokevirtual 136, 3), (5, .ifCond .eq 11, 3)]), (14, [(8, .aload_n 0, 1), (9, .iload_n 2, 1), (10, .invokevirtual 136, 3), (13, .ifCond .ne 8, 3)]), (23, [(16, .bipush (-2), 2), (18, .goto 17, 3), (21, .aload_n 0, 1), (22, .iload_n 1, 1)]), (31, [(23, .iload_n 2, 1), (24, .invokevirtual 184, 3), (27, .ifCond .eq 7, 3), (30, .iconst 1, 1)]), (36, [(31, .goto 4, 3), (34, .iconst 0, 1), (35, .ireturn, 1)])]
set_option maxRecDepth 20000 in
theorem zkd_X6_equal : ∀ q ∈ zk_X6_equal, ∀ e ∈ q.2, decode cX6_equal e.1 = .ok e.2 ∧ zlo e = true := by decide +kernel
def zm_X6_equal : zMe := ((6, 1, 3, zk_X6_equal), (yX6_equal, cX6_equal, (some .int)))
set_option maxRecDepth 20000 in
theorem zp_X6_equal : zP zm_X6_equal := ⟨zkd_X6_equal, List.mem_of_getElem? (i := 566) rfl, by decide +kernel, rfl, rfl, by decide +kernel, by decide +kernel⟩
def zk_X6_told : zCd := [(12, [(0, .aload_n 0, 1), (1, .iload_n 1, 1), (2, .invokevirtual 136, 3), (5, .ifCond .ne 6, 3), (8, .bipush (-2), 2), (10, .ireturn, 1), (11, .iload_n 2, 1)]), (56, [(12, .tableswitch 108 0 4 #[36, 43, 72, 79, 94], 36), (48, .aload_n 0, 1), (49, .getfield 50, 3), (52, .iload_n 1, 1), (53, .iaload, 1), (54, .ireturn, 1), (55, .aload_n 0, 1)]), (68, [(56, .getfield 50, 3), (59, .iload_n 1, 1), (60, .iaload, 1), (61, .iconst 2, 1), (62, .if_icmp .ne 15, 3), (65, .bipush 10, 2), (67, .aload_n 0, 1)]), (79, [(68, .getfield 53, 3), (71, .iload_n 1, 1), (72, .iaload, 1), (73, .iadd, 1), (74, .goto 9, 3), (77, .aload_n 0, 1), (78, .getfield 53, 3)]), (90, [(81, .iload_n 1, 1), (82, .iaload, 1), (83, .ireturn, 1), (84, .aload_n 0, 1), (85, .getfield 56, 3), (88, .iload_n 1, 1), (89, .iaload, 1)]), (101, [(90, .ireturn, 1), (91, .aload_n 0, 1), (92, .getfield 59, 3), (95, .iload_n 1, 1), (96, .baload, 1), (97, .ifCond .eq 7, 3), (100, .iconst 1, 1)]), (112, [(101, .goto 4, 3), (104, .iconst 0, 1), (105, .ireturn, 1), (106, .aload_n 0, 1), (107, .iload_n 1, 1), (108, .invokevirtual 163, 3), (111, .ifCond .eq 7, 3)]), (123, [(114, .iconst 1, 1), (115, .goto 4, 3), (118, .iconst 0, 1), (119, .ireturn, 1), (120, .bipush (-2), 2), (122, .ireturn, 1)])]
set_option maxRecDepth 20000 in
theorem zkd_X6_told : ∀ q ∈ zk_X6_told, ∀ e ∈ q.2, decode cX6_told e.1 = .ok e.2 ∧ zlo e = true := by decide +kernel
def zm_X6_told : zMe := ((6, 1, 3, zk_X6_told), (yX6_told, cX6_told, (some .int)))
set_option maxRecDepth 20000 in
theorem zp_X6_told : zP zm_X6_told := ⟨zkd_X6_told, List.mem_of_getElem? (i := 528) rfl, by decide +kernel, rfl, rfl, by decide +kernel, by decide +kernel⟩
def zk_X6_part : zCd := [(13, [(0, .aload_n 0, 1), (1, .iload_n 1, 1), (2, .invokevirtual 136, 3), (5, .ifCond .eq 12, 3), (8, .aload_n 0, 1), (9, .getfield 50, 3), (12, .iload_n 1, 1)]), (25, [(13, .iaload, 1), (14, .ifCond .ne 6, 3), (17, .bipush (-2), 2), (19, .ireturn, 1), (20, .aload_n 0, 1), (21, .getfield 50, 3), (24, .iload_n 1, 1)]), (36, [(25, .iaload, 1), (26, .iconst 1, 1), (27, .if_icmp .ne 32, 3), (30, .iload_n 2, 1), (31, .ifCond .lt 26, 3), (34, .iload_n 2, 1), (35, .aload_n 0, 1)]), (49, [(36, .getfield 56, 3), (39, .iload_n 1, 1), (40, .iaload, 1), (41, .if_icmp .ge 16, 3), (44, .aload_n 0, 1), (45, .getfield 62, 3), (48, .iconst 5, 1)]), (58, [(49, .iload_n 1, 1), (50, .imul, 1), (51, .iload_n 2, 1), (52, .iadd, 1), (53, .iaload, 1), (54, .goto 4, 3), (57, .iconst (-1), 1)]), (67, [(58, .ireturn, 1), (59, .aload_n 0, 1), (60, .aload_n 0, 1), (61, .getfield 53, 3), (64, .iload_n 1, 1), (65, .iaload, 1), (66, .iload_n 2, 1)]), (78, [(67, .invokevirtual 106, 3), (70, .istore_n 3, 1), (71, .iload_n 3, 1), (72, .iconst (-1), 1), (73, .if_icmp .ne 7, 3), (76, .iconst (-1), 1), (77, .goto 18, 3)]), (89, [(80, .aload_n 0, 1), (81, .iload_n 1, 1), (82, .iload_n 3, 1), (83, .iconst 5, 1), (84, .aload_n 0, 1), (85, .getfield 53, 3), (88, .iload_n 1, 1)]), (96, [(89, .iaload, 1), (90, .imul, 1), (91, .isub, 1), (92, .invokevirtual 178, 3), (95, .ireturn, 1)])]
set_option maxRecDepth 20000 in
theorem zkd_X6_part : ∀ q ∈ zk_X6_part, ∀ e ∈ q.2, decode cX6_part e.1 = .ok e.2 ∧ zlo e = true := by decide +kernel
def zm_X6_part : zMe := ((6, 1, 4, zk_X6_part), (yX6_part, cX6_part, (some .int)))
set_option maxRecDepth 20000 in
theorem zp_X6_part : zP zm_X6_part := ⟨zkd_X6_part, List.mem_of_getElem? (i := 545) rfl, by decide +kernel, rfl, rfl, by decide +kernel, by decide +kernel⟩
def zk_X6_write : zCd := [(8, [(0, .aload_n 0, 1), (1, .getfield 187, 3), (4, .sipush 2000, 3), (7, .if_icmp .ge 13, 3)]), (16, [(10, .aload_n 0, 1), (11, .getfield 80, 3), (14, .aload_n 0, 1), (15, .getfield 187, 3)]), (22, [(18, .iload_n 1, 1), (19, .iastore, 1), (20, .aload_n 0, 1), (21, .dup, 1)]), (28, [(22, .getfield 187, 3), (25, .iconst 1, 1), (26, .iadd, 1), (27, .putfield 187, 3)]), (31, [(30, .return_, 1)])]
set_option maxRecDepth 20000 in
theorem zkd_X6_write : ∀ q ∈ zk_X6_write, ∀ e ∈ q.2, decode cX6_write e.1 = .ok e.2 ∧ zlo e = true := by decide +kernel
def zm_X6_write : zMe := ((6, 0, 2, zk_X6_write), (yX6_write, cX6_write, none))
set_option maxRecDepth 20000 in
theorem zp_X6_write : zP zm_X6_write := ⟨zkd_X6_write, List.mem_of_getElem? (i := 638) rfl, by decide +kernel, rfl, rfl, by decide +kernel, by decide +kernel⟩
def zk_X6_writeNumber : zCd := [(12, [(0, .iload_n 1, 1), (1, .ifCond .ge 9, 3), (4, .aload_n 0, 1), (5, .bipush 45, 2), (7, .invokevirtual 190, 3), (10, .iload_n 1, 1), (11, .ifCond .ge 9, 3)]), (23, [(14, .iload_n 1, 1), (15, .i2l, 1), (16, .lneg, 1), (17, .goto 5, 3), (20, .iload_n 1, 1), (21, .i2l, 1), (22, .lstore_n 2, 1)]), (34, [(23, .iconst 0, 1), (24, .istore 4, 2), (26, .aload_n 0, 1), (27, .getfield 83, 3), (30, .iload 4, 2), (32, .lload_n 2, 1), (33, .ldc2_w 193, 3)]), (45, [(36, .lrem, 1), (37, .l2i, 1), (38, .iastore, 1), (39, .lload_n 2, 1), (40, .ldc2_w 193, 3), (43, .ldiv, 1), (44, .lstore_n 2, 1)]), (57, [(45, .iinc 4 1, 3), (48, .lload_n 2, 1), (49, .lconst 0, 1), (50, .lcmp, 1), (51, .ifCond .gt (-25), 3), (54, .iload 4, 2), (56, .iconst 1, 1)]), (69, [(57, .isub, 1), (58, .istore 5, 2), (60, .iload 5, 2), (62, .ifCond .lt 23, 3), (65, .aload_n 0, 1), (66, .bipush 48, 2), (68, .aload_n 0, 1)]), (83, [(69, .getfield 83, 3), (72, .iload 5, 2), (74, .iaload, 1), (75, .iadd, 1), (76, .invokevirtual 190, 3), (79, .iinc 5 (-1), 3), (82, .goto (-22), 3)]), (86, [(85, .return_, 1)])]
set_option maxRecDepth 20000 in
theorem zkd_X6_writeNumber : ∀ q ∈ zk_X6_writeNumber, ∀ e ∈ q.2, decode cX6_writeNumber e.1 = .ok e.2 ∧ zlo e = true := by decide +kernel
def zm_X6_writeNumber : zMe := ((6, 0, 6, zk_X6_writeNumber), (yX6_writeNumber, cX6_writeNumber, none))
set_option maxRecDepth 20000 in
theorem zp_X6_writeNumber : zP zm_X6_writeNumber := ⟨zkd_X6_writeNumber, List.mem_of_getElem? (i := 642) rfl, by decide +kernel, rfl, rfl, by decide +kernel, by decide +kernel⟩
def zk_X6_begin : zCd := [(11, [(0, .aload_n 0, 1), (1, .getfield 50, 3), (4, .iload_n 1, 1), (5, .iaload, 1), (6, .iconst 1, 1), (7, .if_icmp .ne 12, 3), (10, .aload_n 0, 1)]), (25, [(11, .bipush 123, 2), (13, .invokevirtual 190, 3), (16, .goto 93, 3), (19, .aload_n 0, 1), (20, .getfield 50, 3), (23, .iload_n 1, 1), (24, .iaload, 1)]), (37, [(25, .iconst 2, 1), (26, .if_icmp .ne 28, 3), (29, .aload_n 0, 1), (30, .bipush 64, 2), (32, .invokevirtual 190, 3), (35, .aload_n 0, 1), (36, .aload_n 0, 1)]), (49, [(37, .getfield 53, 3), (40, .iload_n 1, 1), (41, .iaload, 1), (42, .invokevirtual 195, 3), (45, .aload_n 0, 1), (46, .bipush 40, 2), (48, .invokevirtual 190, 3)]), (64, [(51, .goto 58, 3), (54, .aload_n 0, 1), (55, .getfield 53, 3), (58, .iload_n 1, 1), (59, .iaload, 1), (60, .ifCond .le 39, 3), (63, .aload_n 0, 1)]), (75, [(64, .aload_n 0, 1), (65, .getfield 53, 3), (68, .iload_n 1, 1), (69, .iaload, 1), (70, .iconst 1, 1), (71, .if_icmp .ne 8, 3), (74, .bipush 119, 2)]), (87, [(76, .goto 20, 3), (79, .aload_n 0, 1), (80, .getfield 53, 3), (83, .iload_n 1, 1), (84, .iaload, 1), (85, .iconst 2, 1), (86, .if_icmp .ne 8, 3)]), (102, [(89, .bipush 99, 2), (91, .goto 5, 3), (94, .bipush 116, 2), (96, .invokevirtual 190, 3), (99, .aload_n 0, 1), (100, .aload_n 0, 1), (101, .getfield 56, 3)]), (110, [(104, .iload_n 1, 1), (105, .iaload, 1), (106, .invokevirtual 195, 3), (109, .return_, 1)])]
set_option maxRecDepth 20000 in
theorem zkd_X6_begin : ∀ q ∈ zk_X6_begin, ∀ e ∈ q.2, decode cX6_begin e.1 = .ok e.2 ∧ zlo e = true := by decide +kernel
def zm_X6_begin : zMe := ((6, 0, 2, zk_X6_begin), (yX6_begin, cX6_begin, none))
set_option maxRecDepth 20000 in
theorem zp_X6_begin : zP zm_X6_begin := ⟨zkd_X6_begin, List.mem_of_getElem? (i := 634) rfl, by decide +kernel, rfl, rfl, by decide +kernel, by decide +kernel⟩
def zk_X6_isBehind : zCd := [(4, [(0, .iconst 0, 1), (1, .istore_n 3, 1), (2, .iconst 0, 1), (3, .istore 4, 2)]), (12, [(5, .iload 4, 2), (7, .iload_n 2, 1), (8, .if_icmp .ge 30, 3), (11, .iload_n 3, 1)]), (18, [(12, .ifCond .ne 14, 3), (15, .aload_n 0, 1), (16, .iload_n 1, 1), (17, .iload 4, 2)]), (27, [(19, .invokevirtual 178, 3), (22, .iconst (-1), 1), (23, .if_icmp .eq 7, 3), (26, .iconst 1, 1)]), (33, [(27, .goto 4, 3), (30, .iconst 0, 1), (31, .istore_n 3, 1), (32, .iinc 4 1, 3)]), (40, [(35, .goto (-30), 3), (38, .iload_n 3, 1), (39, .ireturn, 1)])]
set_option maxRecDepth 20000 in
theorem zkd_X6_isBehind : ∀ q ∈ zk_X6_isBehind, ∀ e ∈ q.2, decode cX6_isBehind e.1 = .ok e.2 ∧ zlo e = true := by decide +kernel
def zm_X6_isBehind : zMe := ((6, 2, 5, zk_X6_isBehind), (yX6_isBehind, cX6_isBehind, (some .boolean)))
set_option maxRecDepth 20000 in
theorem zp_X6_isBehind : zP zm_X6_isBehind := ⟨zkd_X6_isBehind, List.mem_of_getElem? (i := 647) rfl, by decide +kernel, rfl, rfl, by decide +kernel, by decide +kernel⟩
def zk_X6_written : zCd := [(19, [(0, .aload_n 0, 1), (1, .iload_n 1, 1), (2, .invokevirtual 136, 3), (5, .ifCond .ne 6, 3), (8, .bipush (-2), 2), (10, .ireturn, 1), (11, .aload_n 0, 1), (12, .iconst 0, 1), (13, .putfield 187, 3), (16, .aload_n 0, 1), (17, .iconst 0, 1), (18, .putfield 169, 3)]), (39, [(21, .aload_n 0, 1), (22, .iload_n 1, 1), (23, .invokevirtual 198, 3), (26, .aload_n 0, 1), (27, .getfield 50, 3), (30, .iload_n 1, 1), (31, .iaload, 1), (32, .ifCond .eq 9, 3), (35, .aload_n 0, 1), (36, .iload_n 1, 1), (37, .iconst (-1), 1), (38, .invokevirtual 172, 3)]), (65, [(41, .aload_n 0, 1), (42, .getfield 169, 3), (45, .ifCond .le 185, 3), (48, .aload_n 0, 1), (49, .getfield 187, 3), (52, .sipush 2000, 3), (55, .if_icmp .gt 175, 3), (58, .aload_n 0, 1), (59, .getfield 169, 3), (62, .iconst 1, 1), (63, .isub, 1), (64, .istore_n 2, 1)]), (83, [(65, .aload_n 0, 1), (66, .getfield 68, 3), (69, .iload_n 2, 1), (70, .iaload, 1), (71, .istore_n 3, 1), (72, .aload_n 0, 1), (73, .getfield 74, 3), (76, .iload_n 2, 1), (77, .iaload, 1), (78, .istore 4, 2), (80, .iload 4, 2), (82, .aload_n 0, 1)]), (104, [(83, .iload_n 3, 1), (84, .invokevirtual 175, 3), (87, .if_icmp .ne 37, 3), (90, .aload_n 0, 1), (91, .aload_n 0, 1), (92, .getfield 50, 3), (95, .iload_n 3, 1), (96, .iaload, 1), (97, .iconst 1, 1), (98, .if_icmp .ne 8, 3), (101, .bipush 125, 2), (103, .goto 5, 3)]), (127, [(106, .bipush 41, 2), (108, .invokevirtual 190, 3), (111, .aload_n 0, 1), (112, .dup, 1), (113, .getfield 169, 3), (116, .iconst 1, 1), (117, .isub, 1), (118, .putfield 169, 3), (121, .goto 106, 3), (124, .aload_n 0, 1), (125, .iload_n 3, 1), (126, .iload 4, 2)]), (146, [(128, .invokevirtual 178, 3), (131, .istore 5, 2), (133, .aload_n 0, 1), (134, .getfield 74, 3), (137, .iload_n 2, 1), (138, .dup2, 1), (139, .iaload, 1), (140, .iconst 1, 1), (141, .iadd, 1), (142, .iastore, 1), (143, .iload 5, 2), (145, .iconst (-1), 1)]), (170, [(146, .if_icmp .eq 81, 3), (149, .aload_n 0, 1), (150, .iload_n 3, 1), (151, .iload 4, 2), (153, .invokevirtual 201, 3), (156, .ifCond .eq 9, 3), (159, .aload_n 0, 1), (160, .bipush 44, 2), (162, .invokevirtual 190, 3), (165, .aload_n 0, 1), (166, .getfield 50, 3), (169, .iload_n 3, 1)]), (189, [(170, .iaload, 1), (171, .iconst 2, 1), (172, .if_icmp .ne 32, 3), (175, .aload_n 0, 1), (176, .bipush 48, 2), (178, .aload_n 0, 1), (179, .getfield 29, 3), (182, .iconst 5, 1), (183, .aload_n 0, 1), (184, .getfield 53, 3), (187, .iload_n 3, 1), (188, .iaload, 1)]), (208, [(189, .imul, 1), (190, .iload 4, 2), (192, .iadd, 1), (193, .iaload, 1), (194, .iadd, 1), (195, .invokevirtual 190, 3), (198, .aload_n 0, 1), (199, .bipush 61, 2), (201, .invokevirtual 190, 3), (204, .aload_n 0, 1), (205, .iload 5, 2), (207, .invokevirtual 198, 3)]), (232, [(210, .aload_n 0, 1), (211, .getfield 50, 3), (214, .iload 5, 2), (216, .iaload, 1), (217, .ifCond .eq 10, 3), (220, .aload_n 0, 1), (221, .iload 5, 2), (223, .iconst (-1), 1), (224, .invokevirtual 172, 3), (227, .goto (-186), 3), (230, .aload_n 0, 1), (231, .getfield 187, 3)]), (255, [(234, .sipush 2000, 3), (237, .if_icmp .le 6, 3), (240, .bipush (-3), 2), (242, .ireturn, 1), (243, .aload_n 0, 1), (244, .aload_n 0, 1), (245, .getfield 187, 3), (248, .putfield 204, 3), (251, .iconst 0, 1), (252, .istore_n 2, 1), (253, .iload_n 2, 1), (254, .aload_n 0, 1)]), (277, [(255, .getfield 204, 3), (258, .if_icmp .ge 21, 3), (261, .aload_n 0, 1), (262, .getfield 77, 3), (265, .iload_n 2, 1), (266, .aload_n 0, 1), (267, .getfield 80, 3), (270, .iload_n 2, 1), (271, .iaload, 1), (272, .iastore, 1), (273, .iinc 2 1, 3), (276, .goto (-23), 3)]), (284, [(279, .aload_n 0, 1), (280, .getfield 204, 3), (283, .ireturn, 1)])]
set_option maxRecDepth 20000 in
theorem zkd_X6_written : ∀ q ∈ zk_X6_written, ∀ e ∈ q.2, decode cX6_written e.1 = .ok e.2 ∧ zlo e = true := by decide +kernel
def zm_X6_written : zMe := ((6, 1, 6, zk_X6_written), (yX6_written, cX6_written, (some .int)))
set_option maxRecDepth 20000 in
theorem zp_X6_written : zP zm_X6_written := ⟨zkd_X6_written, List.mem_of_getElem? (i := 628) rfl, by decide +kernel, rfl, rfl, by decide +kernel, by decide +kernel⟩
def zk_X6_letter : zCd := [(6, [(0, .iload_n 1, 1), (1, .ifCond .lt 20, 3), (4, .iload_n 1, 1), (5, .aload_n 0, 1)]), (14, [(6, .getfield 204, 3), (9, .if_icmp .ge 12, 3), (12, .aload_n 0, 1), (13, .getfield 77, 3)]), (22, [(16, .iload_n 1, 1), (17, .iaload, 1), (18, .goto 4, 3), (21, .iconst (-1), 1)]), (23, [(22, .ireturn, 1)])]
set_option maxRecDepth 20000 in
theorem zkd_X6_letter : ∀ q ∈ zk_X6_letter, ∀ e ∈ q.2, decode cX6_letter e.1 = .ok e.2 ∧ zlo e = true := by decide +kernel
def zm_X6_letter : zMe := ((6, 1, 2, zk_X6_letter), (yX6_letter, cX6_letter, (some .int)))
set_option maxRecDepth 20000 in
theorem zp_X6_letter : zP zm_X6_letter := ⟨zkd_X6_letter, List.mem_of_getElem? (i := 657) rfl, by decide +kernel, rfl, rfl, by decide +kernel, by decide +kernel⟩
def zk_X6_standing : zCd := [(6, [(0, .iconst 0, 1), (1, .istore_n 3, 1), (2, .iconst 0, 1), (3, .istore 4, 2), (5, .iload 4, 2)]), (16, [(7, .aload_n 0, 1), (8, .getfield 117, 3), (11, .if_icmp .ge 44, 3), (14, .iload_n 3, 1), (15, .aload_n 0, 1)]), (24, [(16, .getfield 86, 3), (19, .iload 4, 2), (21, .iaload, 1), (22, .iload_n 1, 1), (23, .if_icmp .ne 23, 3)]), (35, [(26, .aload_n 0, 1), (27, .getfield 53, 3), (30, .aload_n 0, 1), (31, .getfield 89, 3), (34, .iload 4, 2)]), (43, [(36, .iaload, 1), (37, .iaload, 1), (38, .iload_n 2, 1), (39, .if_icmp .ne 7, 3), (42, .iconst 1, 1)]), (50, [(43, .goto 4, 3), (46, .iconst 0, 1), (47, .iadd, 1), (48, .istore_n 3, 1), (49, .iinc 4 1, 3)]), (57, [(52, .goto (-47), 3), (55, .iload_n 3, 1), (56, .ireturn, 1)])]
set_option maxRecDepth 20000 in
theorem zkd_X6_standing : ∀ q ∈ zk_X6_standing, ∀ e ∈ q.2, decode cX6_standing e.1 = .ok e.2 ∧ zlo e = true := by decide +kernel
def zm_X6_standing : zMe := ((6, 1, 5, zk_X6_standing), (yX6_standing, cX6_standing, (some .int)))
set_option maxRecDepth 20000 in
theorem zp_X6_standing : zP zm_X6_standing := ⟨zkd_X6_standing, List.mem_of_getElem? (i := 504) rfl, by decide +kernel, rfl, rfl, by decide +kernel, by decide +kernel⟩
def zk_X6_stander : zCd := [(9, [(0, .iconst 0, 1), (1, .istore 4, 2), (3, .iconst 0, 1), (4, .istore 5, 2), (6, .iload 5, 2), (8, .aload_n 0, 1)]), (22, [(9, .getfield 117, 3), (12, .if_icmp .ge 53, 3), (15, .aload_n 0, 1), (16, .getfield 86, 3), (19, .iload 5, 2), (21, .iaload, 1)]), (32, [(22, .iload_n 1, 1), (23, .if_icmp .ne 36, 3), (26, .aload_n 0, 1), (27, .getfield 53, 3), (30, .aload_n 0, 1), (31, .getfield 89, 3)]), (43, [(34, .iload 5, 2), (36, .iaload, 1), (37, .iaload, 1), (38, .iload_n 2, 1), (39, .if_icmp .ne 20, 3), (42, .iload 4, 2)]), (55, [(44, .iload_n 3, 1), (45, .if_icmp .ne 11, 3), (48, .aload_n 0, 1), (49, .getfield 89, 3), (52, .iload 5, 2), (54, .iaload, 1)]), (67, [(55, .ireturn, 1), (56, .iinc 4 1, 3), (59, .iinc 5 1, 3), (62, .goto (-56), 3), (65, .iconst (-1), 1), (66, .ireturn, 1)])]
set_option maxRecDepth 20000 in
theorem zkd_X6_stander : ∀ q ∈ zk_X6_stander, ∀ e ∈ q.2, decode cX6_stander e.1 = .ok e.2 ∧ zlo e = true := by decide +kernel
def zm_X6_stander : zMe := ((6, 1, 6, zk_X6_stander), (yX6_stander, cX6_stander, (some .int)))
set_option maxRecDepth 20000 in
theorem zp_X6_stander : zP zm_X6_stander := ⟨zkd_X6_stander, List.mem_of_getElem? (i := 699) rfl, by decide +kernel, rfl, rfl, by decide +kernel, by decide +kernel⟩
def zk_X6_mayStand : zCd := [(8, [(0, .aload_n 0, 1), (1, .getfield 44, 3), (4, .iload_n 1, 1), (5, .iaload, 1), (6, .istore_n 3, 1), (7, .iload_n 3, 1)]), (18, [(8, .iconst 2, 1), (9, .if_icmp .ge 7, 3), (12, .iconst 1, 1), (13, .goto 34, 3), (16, .iload_n 3, 1), (17, .iconst 2, 1)]), (29, [(18, .if_icmp .ne 8, 3), (21, .bipush 18, 2), (23, .goto 24, 3), (26, .iload_n 3, 1), (27, .iconst 3, 1), (28, .if_icmp .ne 8, 3)]), (42, [(31, .bipush 20, 2), (33, .goto 14, 3), (36, .iload_n 3, 1), (37, .iconst 4, 1), (38, .if_icmp .ne 7, 3), (41, .iconst 4, 1)]), (54, [(42, .goto 5, 3), (45, .bipush 24, 2), (47, .istore 4, 2), (49, .aload_n 0, 1), (50, .getfield 7, 3), (53, .iload_n 2, 1)]), (63, [(54, .iaload, 1), (55, .iload 4, 2), (57, .iand, 1), (58, .ifCond .eq 7, 3), (61, .iconst 1, 1), (62, .goto 4, 3)]), (67, [(65, .iconst 0, 1), (66, .ireturn, 1)])]
set_option maxRecDepth 20000 in
theorem zkd_X6_mayStand : ∀ q ∈ zk_X6_mayStand, ∀ e ∈ q.2, decode cX6_mayStand e.1 = .ok e.2 ∧ zlo e = true := by decide +kernel
def zm_X6_mayStand : zMe := ((6, 2, 5, zk_X6_mayStand), (yX6_mayStand, cX6_mayStand, (some .boolean)))
set_option maxRecDepth 20000 in
theorem zp_X6_mayStand : zP zm_X6_mayStand := ⟨zkd_X6_mayStand, List.mem_of_getElem? (i := 508) rfl, by decide +kernel, rfl, rfl, by decide +kernel, by decide +kernel⟩
def zk_X6_put : zCd := [(18, [(0, .aload_n 0, 1), (1, .iload_n 1, 1), (2, .invokevirtual 126, 3), (5, .ifCond .eq 12, 3), (8, .aload_n 0, 1), (9, .iload_n 2, 1), (10, .iconst 2, 1), (11, .invokevirtual 146, 3), (14, .ifCond .ne 6, 3), (17, .bipush (-2), 2)]), (34, [(19, .ireturn, 1), (20, .aload_n 0, 1), (21, .getfield 59, 3), (24, .iload_n 2, 1), (25, .baload, 1), (26, .ifCond .eq 6, 3), (29, .bipush (-4), 2), (31, .ireturn, 1), (32, .aload_n 0, 1), (33, .getfield 53, 3)]), (49, [(36, .iload_n 2, 1), (37, .iaload, 1), (38, .istore_n 3, 1), (39, .aload_n 0, 1), (40, .iload_n 1, 1), (41, .iload_n 3, 1), (42, .invokevirtual 207, 3), (45, .istore 4, 2), (47, .aload_n 0, 1), (48, .iload_n 1, 1)]), (68, [(49, .iload_n 3, 1), (50, .invokevirtual 210, 3), (53, .ifCond .ne 6, 3), (56, .bipush (-11), 2), (58, .ireturn, 1), (59, .aload_n 0, 1), (60, .iload_n 2, 1), (61, .invokevirtual 163, 3), (64, .ifCond .ne 6, 3), (67, .bipush (-12), 2)]), (86, [(69, .ireturn, 1), (70, .iload 4, 2), (72, .ifCond .le 16, 3), (75, .aload_n 0, 1), (76, .getfield 20, 3), (79, .iload_n 3, 1), (80, .iaload, 1), (81, .iconst (-1), 1), (82, .if_icmp .ne 6, 3), (85, .bipush (-13), 2)]), (101, [(87, .ireturn, 1), (88, .aload_n 0, 1), (89, .getfield 20, 3), (92, .iload_n 3, 1), (93, .iaload, 1), (94, .iconst (-1), 1), (95, .if_icmp .eq 20, 3), (98, .aload_n 0, 1), (99, .iload_n 1, 1), (100, .aload_n 0, 1)]), (120, [(101, .getfield 20, 3), (104, .iload_n 3, 1), (105, .iaload, 1), (106, .invokevirtual 207, 3), (109, .ifCond .le 6, 3), (112, .bipush (-14), 2), (114, .ireturn, 1), (115, .aload_n 0, 1), (116, .getfield 23, 3), (119, .iload_n 3, 1)]), (134, [(120, .iaload, 1), (121, .iconst (-1), 1), (122, .if_icmp .eq 20, 3), (125, .aload_n 0, 1), (126, .iload_n 1, 1), (127, .aload_n 0, 1), (128, .getfield 23, 3), (131, .iload_n 3, 1), (132, .iaload, 1), (133, .invokevirtual 207, 3)]), (153, [(136, .ifCond .le 6, 3), (139, .bipush (-15), 2), (141, .ireturn, 1), (142, .iload 4, 2), (144, .iconst 4, 1), (145, .if_icmp .ne 6, 3), (148, .bipush (-3), 2), (150, .ireturn, 1), (151, .aload_n 0, 1), (152, .getfield 86, 3)]), (171, [(155, .aload_n 0, 1), (156, .getfield 117, 3), (159, .iload_n 1, 1), (160, .iastore, 1), (161, .aload_n 0, 1), (162, .getfield 89, 3), (165, .aload_n 0, 1), (166, .getfield 117, 3), (169, .iload_n 2, 1), (170, .iastore, 1)]), (187, [(171, .aload_n 0, 1), (172, .dup, 1), (173, .getfield 117, 3), (176, .iconst 1, 1), (177, .iadd, 1), (178, .putfield 117, 3), (181, .aload_n 0, 1), (182, .iload_n 2, 1), (183, .invokevirtual 156, 3), (186, .iload 4, 2)]), (191, [(188, .iconst 1, 1), (189, .iadd, 1), (190, .ireturn, 1)])]
set_option maxRecDepth 20000 in
theorem zkd_X6_put : ∀ q ∈ zk_X6_put, ∀ e ∈ q.2, decode cX6_put e.1 = .ok e.2 ∧ zlo e = true := by decide +kernel
def zm_X6_put : zMe := ((6, 1, 5, zk_X6_put), (yX6_put, cX6_put, (some .int)))
set_option maxRecDepth 20000 in
theorem zp_X6_put : zP zm_X6_put := ⟨zkd_X6_put, List.mem_of_getElem? (i := 500) rfl, by decide +kernel, rfl, rfl, by decide +kernel, by decide +kernel⟩
def zk_X6_own : zCd := [(8, [(0, .aload_n 0, 1), (1, .iload_n 1, 1), (2, .iload_n 2, 1), (3, .invokevirtual 207, 3), (6, .istore_n 3, 1), (7, .iload_n 3, 1)]), (16, [(8, .iconst 1, 1), (9, .if_icmp .ne 11, 3), (12, .aload_n 0, 1), (13, .iload_n 1, 1), (14, .iload_n 2, 1), (15, .iconst 0, 1)]), (26, [(16, .invokevirtual 213, 3), (19, .ireturn, 1), (20, .aload_n 0, 1), (21, .getfield 23, 3), (24, .iload_n 2, 1), (25, .iaload, 1)]), (36, [(26, .istore 4, 2), (28, .iload_n 3, 1), (29, .ifCond .gt 20, 3), (32, .iload 4, 2), (34, .iconst (-1), 1), (35, .if_icmp .eq 14, 3)]), (47, [(38, .aload_n 0, 1), (39, .getfield 13, 3), (42, .iload 4, 2), (44, .iaload, 1), (45, .iconst 2, 1), (46, .if_icmp .eq 7, 3)]), (58, [(49, .iconst 0, 1), (50, .goto 10, 3), (53, .aload_n 0, 1), (54, .iload_n 1, 1), (55, .iload 4, 2), (57, .invokevirtual 207, 3)]), (71, [(60, .istore 5, 2), (62, .iload 5, 2), (64, .iconst 1, 1), (65, .if_icmp .le 11, 3), (68, .bipush (-100), 2), (70, .iload 5, 2)]), (78, [(72, .isub, 1), (73, .goto 4, 3), (76, .iconst (-1), 1), (77, .ireturn, 1)])]
set_option maxRecDepth 20000 in
theorem zkd_X6_own : ∀ q ∈ zk_X6_own, ∀ e ∈ q.2, decode cX6_own e.1 = .ok e.2 ∧ zlo e = true := by decide +kernel
def zm_X6_own : zMe := ((6, 1, 6, zk_X6_own), (yX6_own, cX6_own, (some .int)))
set_option maxRecDepth 20000 in
theorem zp_X6_own : zP zm_X6_own := ⟨zkd_X6_own, List.mem_of_getElem? (i := 695) rfl, by decide +kernel, rfl, rfl, by decide +kernel, by decide +kernel⟩
def zk_X6_goesUp : zCd := [(6, [(0, .aload_n 0, 1), (1, .getfield 16, 3), (4, .iload_n 2, 1), (5, .baload, 1)]), (14, [(6, .ifCond .eq 26, 3), (9, .aload_n 0, 1), (10, .getfield 44, 3), (13, .iload_n 1, 1)]), (20, [(14, .iaload, 1), (15, .ifCond .ne 17, 3), (18, .aload_n 0, 1), (19, .getfield 47, 3)]), (26, [(22, .iload_n 1, 1), (23, .iaload, 1), (24, .iconst (-1), 1), (25, .if_icmp .eq 7, 3)]), (34, [(28, .iconst 1, 1), (29, .goto 4, 3), (32, .iconst 0, 1), (33, .ireturn, 1)])]
set_option maxRecDepth 20000 in
theorem zkd_X6_goesUp : ∀ q ∈ zk_X6_goesUp, ∀ e ∈ q.2, decode cX6_goesUp e.1 = .ok e.2 ∧ zlo e = true := by decide +kernel
def zm_X6_goesUp : zMe := ((6, 2, 3, zk_X6_goesUp), (yX6_goesUp, cX6_goesUp, (some .boolean)))
set_option maxRecDepth 20000 in
theorem zp_X6_goesUp : zP zm_X6_goesUp := ⟨zkd_X6_goesUp, List.mem_of_getElem? (i := 703) rfl, by decide +kernel, rfl, rfl, by decide +kernel, by decide +kernel⟩
def zk_X6_ask : zCd := [(10, [(0, .aload_n 0, 1), (1, .iload_n 1, 1), (2, .invokevirtual 126, 3), (5, .ifCond .eq 11, 3), (8, .aload_n 0, 1), (9, .iload_n 2, 1)]), (21, [(10, .invokevirtual 96, 3), (13, .ifCond .ne 6, 3), (16, .bipush (-2), 2), (18, .ireturn, 1), (19, .aload_n 0, 1), (20, .getfield 13, 3)]), (31, [(23, .iload_n 2, 1), (24, .iaload, 1), (25, .iconst 2, 1), (26, .if_icmp .eq 5, 3), (29, .iconst (-1), 1), (30, .ireturn, 1)]), (39, [(31, .iload_n 1, 1), (32, .istore 4, 2), (34, .aload_n 0, 1), (35, .iload 4, 2), (37, .iload_n 2, 1), (38, .invokevirtual 216, 3)]), (51, [(41, .istore 5, 2), (43, .iload_n 3, 1), (44, .ifCond .eq 40, 3), (47, .iload 5, 2), (49, .iconst (-1), 1), (50, .if_icmp .ne 34, 3)]), (64, [(53, .aload_n 0, 1), (54, .iload 4, 2), (56, .iload_n 2, 1), (57, .invokevirtual 219, 3), (60, .ifCond .eq 24, 3), (63, .aload_n 0, 1)]), (74, [(64, .getfield 47, 3), (67, .iload 4, 2), (69, .iaload, 1), (70, .istore 4, 2), (72, .aload_n 0, 1), (73, .iload 4, 2)]), (87, [(75, .iload_n 2, 1), (76, .invokevirtual 216, 3), (79, .istore 5, 2), (81, .goto (-38), 3), (84, .iload 5, 2), (86, .ireturn, 1)])]
set_option maxRecDepth 20000 in
theorem zkd_X6_ask : ∀ q ∈ zk_X6_ask, ∀ e ∈ q.2, decode cX6_ask e.1 = .ok e.2 ∧ zlo e = true := by decide +kernel
def zm_X6_ask : zMe := ((6, 1, 6, zk_X6_ask), (yX6_ask, cX6_ask, (some .int)))
set_option maxRecDepth 20000 in
theorem zp_X6_ask : zP zm_X6_ask := ⟨zkd_X6_ask, List.mem_of_getElem? (i := 691) rfl, by decide +kernel, rfl, rfl, by decide +kernel, by decide +kernel⟩
def zk_X6_rowAt : zCd := [(7, [(0, .aload_n 0, 1), (1, .getfield 20, 3), (4, .iload_n 2, 1), (5, .iaload, 1), (6, .istore_n 3, 1)]), (14, [(7, .iload_n 3, 1), (8, .iconst (-1), 1), (9, .if_icmp .eq 13, 3), (12, .aload_n 0, 1), (13, .iload_n 1, 1)]), (23, [(14, .iload_n 3, 1), (15, .invokevirtual 207, 3), (18, .iconst 1, 1), (19, .if_icmp .eq 5, 3), (22, .iconst (-1), 1)]), (28, [(23, .ireturn, 1), (24, .aload_n 0, 1), (25, .iload_n 1, 1), (26, .iload_n 3, 1), (27, .iconst 0, 1)]), (37, [(28, .invokevirtual 213, 3), (31, .istore 4, 2), (33, .aload_n 0, 1), (34, .iload 4, 2), (36, .aload_n 0, 1)]), (44, [(37, .iload_n 3, 1), (38, .iconst 0, 1), (39, .invokevirtual 106, 3), (42, .iconst 5, 1), (43, .iload_n 3, 1)]), (50, [(44, .imul, 1), (45, .isub, 1), (46, .invokevirtual 178, 3), (49, .ireturn, 1)])]
set_option maxRecDepth 20000 in
theorem zkd_X6_rowAt : ∀ q ∈ zk_X6_rowAt, ∀ e ∈ q.2, decode cX6_rowAt e.1 = .ok e.2 ∧ zlo e = true := by decide +kernel
def zm_X6_rowAt : zMe := ((6, 1, 5, zk_X6_rowAt), (yX6_rowAt, cX6_rowAt, (some .int)))
set_option maxRecDepth 20000 in
theorem zp_X6_rowAt : zP zm_X6_rowAt := ⟨zkd_X6_rowAt, List.mem_of_getElem? (i := 735) rfl, by decide +kernel, rfl, rfl, by decide +kernel, by decide +kernel⟩
def zk_X6_allAt : zCd := [(4, [(0, .aload_n 0, 1), (1, .iload_n 1, 1), (2, .iload_n 2, 1), (3, .invokevirtual 207, 3)]), (12, [(6, .istore_n 3, 1), (7, .iload_n 3, 1), (8, .ifCond .le 7, 3), (11, .iconst (-1), 1)]), (18, [(12, .goto 9, 3), (15, .aload_n 0, 1), (16, .iload_n 1, 1), (17, .iload_n 2, 1)]), (26, [(18, .invokevirtual 222, 3), (21, .istore 4, 2), (23, .iload 4, 2), (25, .iconst (-1), 1)]), (34, [(26, .if_icmp .ne 7, 3), (29, .iload_n 3, 1), (30, .goto 10, 3), (33, .aload_n 0, 1)]), (41, [(34, .getfield 56, 3), (37, .iload 4, 2), (39, .iaload, 1), (40, .ireturn, 1)])]
set_option maxRecDepth 20000 in
theorem zkd_X6_allAt : ∀ q ∈ zk_X6_allAt, ∀ e ∈ q.2, decode cX6_allAt e.1 = .ok e.2 ∧ zlo e = true := by decide +kernel
def zm_X6_allAt : zMe := ((6, 1, 5, zk_X6_allAt), (yX6_allAt, cX6_allAt, (some .int)))
set_option maxRecDepth 20000 in
theorem zp_X6_allAt : zP zm_X6_allAt := ⟨zkd_X6_allAt, List.mem_of_getElem? (i := 731) rfl, by decide +kernel, rfl, rfl, by decide +kernel, by decide +kernel⟩
def zk_X6_whereAll : zCd := [(4, [(0, .iload_n 1, 1), (1, .istore_n 3, 1), (2, .aload_n 0, 1), (3, .iload_n 3, 1)]), (12, [(4, .iload_n 2, 1), (5, .invokevirtual 225, 3), (8, .ifCond .ne 22, 3), (11, .aload_n 0, 1)]), (18, [(12, .iload_n 3, 1), (13, .iload_n 2, 1), (14, .invokevirtual 219, 3), (17, .ifCond .eq 13, 3)]), (26, [(20, .aload_n 0, 1), (21, .getfield 47, 3), (24, .iload_n 3, 1), (25, .iaload, 1)]), (32, [(26, .istore_n 3, 1), (27, .goto (-25), 3), (30, .iload_n 3, 1), (31, .ireturn, 1)])]
set_option maxRecDepth 20000 in
theorem zkd_X6_whereAll : ∀ q ∈ zk_X6_whereAll, ∀ e ∈ q.2, decode cX6_whereAll e.1 = .ok e.2 ∧ zlo e = true := by decide +kernel
def zm_X6_whereAll : zMe := ((6, 1, 4, zk_X6_whereAll), (yX6_whereAll, cX6_whereAll, (some .int)))
set_option maxRecDepth 20000 in
theorem zp_X6_whereAll : zP zm_X6_whereAll := ⟨zkd_X6_whereAll, List.mem_of_getElem? (i := 727) rfl, by decide +kernel, rfl, rfl, by decide +kernel, by decide +kernel⟩
def zk_X6_all : zCd := [(9, [(0, .aload_n 0, 1), (1, .iload_n 1, 1), (2, .invokevirtual 126, 3), (5, .ifCond .eq 11, 3), (8, .aload_n 0, 1)]), (19, [(9, .iload_n 2, 1), (10, .invokevirtual 96, 3), (13, .ifCond .ne 6, 3), (16, .bipush (-2), 2), (18, .ireturn, 1)]), (26, [(19, .aload_n 0, 1), (20, .getfield 13, 3), (23, .iload_n 2, 1), (24, .iaload, 1), (25, .iconst 2, 1)]), (35, [(26, .if_icmp .eq 7, 3), (29, .iconst 0, 1), (30, .goto 14, 3), (33, .aload_n 0, 1), (34, .aload_n 0, 1)]), (42, [(35, .iload_n 1, 1), (36, .iload_n 2, 1), (37, .invokevirtual 228, 3), (40, .iload_n 2, 1), (41, .invokevirtual 225, 3)]), (45, [(44, .ireturn, 1)])]
set_option maxRecDepth 20000 in
theorem zkd_X6_all : ∀ q ∈ zk_X6_all, ∀ e ∈ q.2, decode cX6_all e.1 = .ok e.2 ∧ zlo e = true := by decide +kernel
def zm_X6_all : zMe := ((6, 1, 3, zk_X6_all), (yX6_all, cX6_all, (some .int)))
set_option maxRecDepth 20000 in
theorem zp_X6_all : zP zm_X6_all := ⟨zkd_X6_all, List.mem_of_getElem? (i := 723) rfl, by decide +kernel, rfl, rfl, by decide +kernel, by decide +kernel⟩
def zk_X6_of : zCd := [(11, [(0, .aload_n 0, 1), (1, .iload_n 1, 1), (2, .invokevirtual 126, 3), (5, .ifCond .eq 11, 3), (8, .aload_n 0, 1), (9, .iload_n 2, 1), (10, .invokevirtual 96, 3)]), (25, [(13, .ifCond .ne 6, 3), (16, .bipush (-2), 2), (18, .ireturn, 1), (19, .aload_n 0, 1), (20, .getfield 13, 3), (23, .iload_n 2, 1), (24, .iaload, 1)]), (34, [(25, .iconst 2, 1), (26, .if_icmp .eq 5, 3), (29, .iconst (-1), 1), (30, .ireturn, 1), (31, .aload_n 0, 1), (32, .iload_n 1, 1), (33, .iload_n 2, 1)]), (46, [(34, .invokevirtual 228, 3), (37, .istore 4, 2), (39, .iload_n 3, 1), (40, .ifCond .lt 14, 3), (43, .iload_n 3, 1), (44, .aload_n 0, 1), (45, .iload 4, 2)]), (58, [(47, .iload_n 2, 1), (48, .invokevirtual 225, 3), (51, .if_icmp .lt 5, 3), (54, .iconst (-1), 1), (55, .ireturn, 1), (56, .aload_n 0, 1), (57, .iload 4, 2)]), (71, [(59, .iload_n 2, 1), (60, .invokevirtual 207, 3), (63, .ifCond .le 14, 3), (66, .aload_n 0, 1), (67, .iload 4, 2), (69, .iload_n 2, 1), (70, .iload_n 3, 1)]), (84, [(71, .invokevirtual 213, 3), (74, .goto 19, 3), (77, .aload_n 0, 1), (78, .getfield 62, 3), (81, .iconst 5, 1), (82, .aload_n 0, 1), (83, .iload 4, 2)]), (94, [(85, .iload_n 2, 1), (86, .invokevirtual 222, 3), (89, .imul, 1), (90, .iload_n 3, 1), (91, .iadd, 1), (92, .iaload, 1), (93, .ireturn, 1)])]
set_option maxRecDepth 20000 in
theorem zkd_X6_of : ∀ q ∈ zk_X6_of, ∀ e ∈ q.2, decode cX6_of e.1 = .ok e.2 ∧ zlo e = true := by decide +kernel
def zm_X6_of : zMe := ((6, 1, 5, zk_X6_of), (yX6_of, cX6_of, (some .int)))
set_option maxRecDepth 20000 in
theorem zp_X6_of : zP zm_X6_of := ⟨zkd_X6_of, List.mem_of_getElem? (i := 743) rfl, by decide +kernel, rfl, rfl, by decide +kernel, by decide +kernel⟩
def zk_X6_stands : zCd := [(9, [(0, .aload_n 0, 1), (1, .iload_n 1, 1), (2, .invokevirtual 126, 3), (5, .ifCond .ne 6, 3), (8, .bipush (-2), 2)]), (15, [(10, .ireturn, 1), (11, .iconst 0, 1), (12, .istore_n 2, 1), (13, .iconst 0, 1), (14, .istore_n 3, 1)]), (24, [(15, .iload_n 3, 1), (16, .aload_n 0, 1), (17, .getfield 117, 3), (20, .if_icmp .ge 27, 3), (23, .iload_n 2, 1)]), (31, [(24, .aload_n 0, 1), (25, .getfield 86, 3), (28, .iload_n 3, 1), (29, .iaload, 1), (30, .iload_n 1, 1)]), (40, [(31, .if_icmp .ne 7, 3), (34, .iconst 1, 1), (35, .goto 4, 3), (38, .iconst 0, 1), (39, .iadd, 1)]), (49, [(40, .istore_n 2, 1), (41, .iinc 3 1, 3), (44, .goto (-29), 3), (47, .iload_n 2, 1), (48, .ireturn, 1)])]
set_option maxRecDepth 20000 in
theorem zkd_X6_stands : ∀ q ∈ zk_X6_stands, ∀ e ∈ q.2, decode cX6_stands e.1 = .ok e.2 ∧ zlo e = true := by decide +kernel
def zm_X6_stands : zMe := ((6, 1, 4, zk_X6_stands), (yX6_stands, cX6_stands, (some .int)))
set_option maxRecDepth 20000 in
theorem zp_X6_stands : zP zm_X6_stands := ⟨zkd_X6_stands, List.mem_of_getElem? (i := 755) rfl, by decide +kernel, rfl, rfl, by decide +kernel, by decide +kernel⟩
def zk_X6_cause : zCd := [(5, [(0, .aload_n 0, 1), (1, .getfield 143, 3), (4, .ireturn, 1)])]
set_option maxRecDepth 20000 in
theorem zkd_X6_cause : ∀ q ∈ zk_X6_cause, ∀ e ∈ q.2, decode cX6_cause e.1 = .ok e.2 ∧ zlo e = true := by decide +kernel
def zm_X6_cause : zMe := ((6, 1, 1, zk_X6_cause), (yX6_cause, cX6_cause, (some .int)))
set_option maxRecDepth 20000 in
theorem zp_X6_cause : zP zm_X6_cause := ⟨zkd_X6_cause, List.mem_of_getElem? (i := 516) rfl, by decide +kernel, rfl, rfl, by decide +kernel, by decide +kernel⟩
def zk_X6_count : zCd := [(79, [(0, .iload_n 1, 1), (1, .tableswitch 101 0 13 #[71, 76, 81, 86, 101, 101, 101, 101, 101, 101, 101, 91, 91, 91], 71), (72, .aload_n 0, 1), (73, .getfield 92, 3), (76, .ireturn, 1), (77, .aload_n 0, 1), (78, .getfield 123, 3)]), (92, [(81, .ireturn, 1), (82, .aload_n 0, 1), (83, .getfield 100, 3), (86, .ireturn, 1), (87, .aload_n 0, 1), (88, .getfield 117, 3), (91, .ireturn, 1)]), (102, [(92, .aload_n 0, 1), (93, .getfield 65, 3), (96, .iload_n 1, 1), (97, .bipush 10, 2), (99, .isub, 1), (100, .iaload, 1), (101, .ireturn, 1)]), (114, [(102, .aload_n 0, 1), (103, .iload_n 1, 1), (104, .bipush 20, 2), (106, .isub, 1), (107, .invokevirtual 96, 3), (110, .ifCond .eq 15, 3), (113, .aload_n 0, 1)]), (126, [(114, .getfield 26, 3), (117, .iload_n 1, 1), (118, .bipush 20, 2), (120, .isub, 1), (121, .iaload, 1), (122, .goto 28, 3), (125, .aload_n 0, 1)]), (138, [(126, .iload_n 1, 1), (127, .bipush 40, 2), (129, .isub, 1), (130, .invokevirtual 96, 3), (133, .ifCond .eq 15, 3), (136, .aload_n 0, 1), (137, .getfield 20, 3)]), (151, [(140, .iload_n 1, 1), (141, .bipush 40, 2), (143, .isub, 1), (144, .iaload, 1), (145, .goto 5, 3), (148, .bipush (-2), 2), (150, .ireturn, 1)])]
set_option maxRecDepth 20000 in
theorem zkd_X6_count : ∀ q ∈ zk_X6_count, ∀ e ∈ q.2, decode cX6_count e.1 = .ok e.2 ∧ zlo e = true := by decide +kernel
def zm_X6_count : zMe := ((6, 1, 2, zk_X6_count), (yX6_count, cX6_count, (some .int)))
set_option maxRecDepth 20000 in
theorem zp_X6_count : zP zm_X6_count := ⟨zkd_X6_count, List.mem_of_getElem? (i := 772) rfl, by decide +kernel, rfl, rfl, by decide +kernel, by decide +kernel⟩
def zk_J7_fill_53178 : zCd := [(4, [(0, .iconst 0, 1), (1, .istore_n 2, 1), (2, .aload_n 0, 1), (3, .arraylength, 1)]), (8, [(4, .istore_n 3, 1), (5, .iload_n 2, 1), (6, .iload_n 3, 1), (7, .if_icmp .ge 13, 3)]), (14, [(10, .aload_n 0, 1), (11, .iload_n 2, 1), (12, .iload_n 1, 1), (13, .iastore, 1)]), (21, [(14, .iinc 2 1, 3), (17, .goto (-12), 3), (20, .return_, 1)])]
set_option maxRecDepth 20000 in
theorem zkd_J7_fill_53178 : ∀ q ∈ zk_J7_fill_53178, ∀ e ∈ q.2, decode cJ7_fill_53178 e.1 = .ok e.2 ∧ zlo e = true := by decide +kernel
def zm_J7_fill_53178 : zMe := ((8, 0, 4, zk_J7_fill_53178), (yJ7_fill_53178, cJ7_fill_53178, none))
set_option maxRecDepth 20000 in
theorem zp_J7_fill_53178 : zP zm_J7_fill_53178 := ⟨zkd_J7_fill_53178, List.mem_of_getElem? (i := 57) rfl, by decide +kernel, rfl, rfl, by decide +kernel, by decide +kernel⟩
def zMs_0 : List zMe := [zm_X0_has, zm_X0_hasKind, zm_X0_add, zm_X0_addElement, zm_X0_positionOf, zm_X0_slotOf, zm_X0_isFixed, zm_X0_leadOf, zm_X0_wouldLeadTooFar, zm_X0_leadingInto, zm_X0_canContain, zm_X0_othersHaveDefaults, zm_X1_has, zm_X1_isType, zm_X1_isClass, zm_X1_isMethod, zm_X1_fits, zm_X1_add, zm_X1_parentOf, zm_X1_fittingTargets]
theorem zMs_ok0 : ∀ e ∈ zMs_0, zP e := List.forall_mem_cons.mpr ⟨zp_X0_has, List.forall_mem_cons.mpr ⟨zp_X0_hasKind, List.forall_mem_cons.mpr ⟨zp_X0_add, List.forall_mem_cons.mpr ⟨zp_X0_addElement, List.forall_mem_cons.mpr ⟨zp_X0_positionOf, List.forall_mem_cons.mpr ⟨zp_X0_slotOf, List.forall_mem_cons.mpr ⟨zp_X0_isFixed, List.forall_mem_cons.mpr ⟨zp_X0_leadOf, List.forall_mem_cons.mpr ⟨zp_X0_wouldLeadTooFar, List.forall_mem_cons.mpr ⟨zp_X0_leadingInto, List.forall_mem_cons.mpr ⟨zp_X0_canContain, List.forall_mem_cons.mpr ⟨zp_X0_othersHaveDefaults, List.forall_mem_cons.mpr ⟨zp_X1_has, List.forall_mem_cons.mpr ⟨zp_X1_isType, List.forall_mem_cons.mpr ⟨zp_X1_isClass, List.forall_mem_cons.mpr ⟨zp_X1_isMethod, List.forall_mem_cons.mpr ⟨zp_X1_fits, List.forall_mem_cons.mpr ⟨zp_X1_add, List.forall_mem_cons.mpr ⟨zp_X1_parentOf, List.forall_mem_cons.mpr ⟨zp_X1_fittingTargets, fun _ h => absurd h List.not_mem_nil⟩⟩⟩⟩⟩⟩⟩⟩⟩⟩⟩⟩⟩⟩⟩⟩⟩⟩⟩⟩
def zMs_1 : List zMe := [zm_X2_add, zm_X2_howManyAt, zm_X2_howMany, zm_X2_nth, zm_X3_has, zm_X3_isSort, zm_X3_isOfKind, zm_X3_isRowOf, zm_X3_markOf, zm_X3_add, zm_X3_addRowOfOne, zm_X3_append, zm_X3_setElement, zm_X3_finish, zm_X3_partAt, zm_X3_inRow, zm_X3_elementAt, zm_X3_elementByName, zm_X3_howManyElements, zm_X3_isWhole]
theorem zMs_ok1 : ∀ e ∈ zMs_1, zP e := List.forall_mem_cons.mpr ⟨zp_X2_add, List.forall_mem_cons.mpr ⟨zp_X2_howManyAt, List.forall_mem_cons.mpr ⟨zp_X2_howMany, List.forall_mem_cons.mpr ⟨zp_X2_nth, List.forall_mem_cons.mpr ⟨zp_X3_has, List.forall_mem_cons.mpr ⟨zp_X3_isSort, List.forall_mem_cons.mpr ⟨zp_X3_isOfKind, List.forall_mem_cons.mpr ⟨zp_X3_isRowOf, List.forall_mem_cons.mpr ⟨zp_X3_markOf, List.forall_mem_cons.mpr ⟨zp_X3_add, List.forall_mem_cons.mpr ⟨zp_X3_addRowOfOne, List.forall_mem_cons.mpr ⟨zp_X3_append, List.forall_mem_cons.mpr ⟨zp_X3_setElement, List.forall_mem_cons.mpr ⟨zp_X3_finish, List.forall_mem_cons.mpr ⟨zp_X3_partAt, List.forall_mem_cons.mpr ⟨zp_X3_inRow, List.forall_mem_cons.mpr ⟨zp_X3_elementAt, List.forall_mem_cons.mpr ⟨zp_X3_elementByName, List.forall_mem_cons.mpr ⟨zp_X3_howManyElements, List.forall_mem_cons.mpr ⟨zp_X3_isWhole, fun _ h => absurd h List.not_mem_nil⟩⟩⟩⟩⟩⟩⟩⟩⟩⟩⟩⟩⟩⟩⟩⟩⟩⟩⟩⟩
def zMs_2 : List zMe := [zm_X3_areAllWhole, zm_X3_hasAllElementsWhole, zm_X3_areEqual, zm_X3_haveEqualElements, zm_X3_haveEqualParts, zm_X4_write, zm_X4_begin, zm_X4_writeByte, zm_X4_writeValue, zm_X4_writeRow, zm_X4_writeInstance, zm_X4_writeSimple, zm_X4_writeDigits, zm_X5_mark, zm_X5_element, zm_X5_fallback, zm_X5_container, zm_X5_place, zm_X5_value, zm_X5_row]
theorem zMs_ok2 : ∀ e ∈ zMs_2, zP e := List.forall_mem_cons.mpr ⟨zp_X3_areAllWhole, List.forall_mem_cons.mpr ⟨zp_X3_hasAllElementsWhole, List.forall_mem_cons.mpr ⟨zp_X3_areEqual, List.forall_mem_cons.mpr ⟨zp_X3_haveEqualElements, List.forall_mem_cons.mpr ⟨zp_X3_haveEqualParts, List.forall_mem_cons.mpr ⟨zp_X4_write, List.forall_mem_cons.mpr ⟨zp_X4_begin, List.forall_mem_cons.mpr ⟨zp_X4_writeByte, List.forall_mem_cons.mpr ⟨zp_X4_writeValue, List.forall_mem_cons.mpr ⟨zp_X4_writeRow, List.forall_mem_cons.mpr ⟨zp_X4_writeInstance, List.forall_mem_cons.mpr ⟨zp_X4_writeSimple, List.forall_mem_cons.mpr ⟨zp_X4_writeDigits, List.forall_mem_cons.mpr ⟨zp_X5_mark, List.forall_mem_cons.mpr ⟨zp_X5_element, List.forall_mem_cons.mpr ⟨zp_X5_fallback, List.forall_mem_cons.mpr ⟨zp_X5_container, List.forall_mem_cons.mpr ⟨zp_X5_place, List.forall_mem_cons.mpr ⟨zp_X5_value, List.forall_mem_cons.mpr ⟨zp_X5_row, fun _ h => absurd h List.not_mem_nil⟩⟩⟩⟩⟩⟩⟩⟩⟩⟩⟩⟩⟩⟩⟩⟩⟩⟩⟩⟩
def zMs_3 : List zMe := [zm_X5_push, zm_X5_instance, zm_X5_give, zm_X5_put, zm_X5_cause, zm_X5_told, zm_X5_part, zm_X5_equal, zm_X5_written, zm_X5_letter, zm_X5_ask, zm_X5_all, zm_X5_of, zm_X5_stands, zm_X5_count, zm_X5_countOfMark, zm_X5_asNumber, zm_X5_isValueOrNone, zm_X5_isDoneOrSame, zm_X5_isSimple]
theorem zMs_ok3 : ∀ e ∈ zMs_3, zP e := List.forall_mem_cons.mpr ⟨zp_X5_push, List.forall_mem_cons.mpr ⟨zp_X5_instance, List.forall_mem_cons.mpr ⟨zp_X5_give, List.forall_mem_cons.mpr ⟨zp_X5_put, List.forall_mem_cons.mpr ⟨zp_X5_cause, List.forall_mem_cons.mpr ⟨zp_X5_told, List.forall_mem_cons.mpr ⟨zp_X5_part, List.forall_mem_cons.mpr ⟨zp_X5_equal, List.forall_mem_cons.mpr ⟨zp_X5_written, List.forall_mem_cons.mpr ⟨zp_X5_letter, List.forall_mem_cons.mpr ⟨zp_X5_ask, List.forall_mem_cons.mpr ⟨zp_X5_all, List.forall_mem_cons.mpr ⟨zp_X5_of, List.forall_mem_cons.mpr ⟨zp_X5_stands, List.forall_mem_cons.mpr ⟨zp_X5_count, List.forall_mem_cons.mpr ⟨zp_X5_countOfMark, List.forall_mem_cons.mpr ⟨zp_X5_asNumber, List.forall_mem_cons.mpr ⟨zp_X5_isValueOrNone, List.forall_mem_cons.mpr ⟨zp_X5_isDoneOrSame, List.forall_mem_cons.mpr ⟨zp_X5_isSimple, fun _ h => absurd h List.not_mem_nil⟩⟩⟩⟩⟩⟩⟩⟩⟩⟩⟩⟩⟩⟩⟩⟩⟩⟩⟩⟩
def zMs_4 : List zMe := [zm_X5_fail, zm_X5_takeFor, zm_X5_brokenRule, zm_X5_ownAt, zm_X5_gatheredAt, zm_X5_foundAt, zm_X5_inheritsFrom, zm_X5_sourceOfAll, zm_X5_howManyHere, zm_X5_containerRowAt, zm_X6_isMark, zm_X6_mark, zm_X6_isKind, zm_X6_elementOf, zm_X6_isFixed, zm_X6_mayLead, zm_X6_element, zm_X6_isContainer, zm_X6_container, zm_X6_isPlace]
theorem zMs_ok4 : ∀ e ∈ zMs_4, zP e := List.forall_mem_cons.mpr ⟨zp_X5_fail, List.forall_mem_cons.mpr ⟨zp_X5_takeFor, List.forall_mem_cons.mpr ⟨zp_X5_brokenRule, List.forall_mem_cons.mpr ⟨zp_X5_ownAt, List.forall_mem_cons.mpr ⟨zp_X5_gatheredAt, List.forall_mem_cons.mpr ⟨zp_X5_foundAt, List.forall_mem_cons.mpr ⟨zp_X5_inheritsFrom, List.forall_mem_cons.mpr ⟨zp_X5_sourceOfAll, List.forall_mem_cons.mpr ⟨zp_X5_howManyHere, List.forall_mem_cons.mpr ⟨zp_X5_containerRowAt, List.forall_mem_cons.mpr ⟨zp_X6_isMark, List.forall_mem_cons.mpr ⟨zp_X6_mark, List.forall_mem_cons.mpr ⟨zp_X6_isKind, List.forall_mem_cons.mpr ⟨zp_X6_elementOf, List.forall_mem_cons.mpr ⟨zp_X6_isFixed, List.forall_mem_cons.mpr ⟨zp_X6_mayLead, List.forall_mem_cons.mpr ⟨zp_X6_element, List.forall_mem_cons.mpr ⟨zp_X6_isContainer, List.forall_mem_cons.mpr ⟨zp_X6_container, List.forall_mem_cons.mpr ⟨zp_X6_isPlace, fun _ h => absurd h List.not_mem_nil⟩⟩⟩⟩⟩⟩⟩⟩⟩⟩⟩⟩⟩⟩⟩⟩⟩⟩⟩⟩
def zMs_5 : List zMe := [zm_X6_isAmong, zm_X6_isType, zm_X6_place, zm_X6_isValue, zm_X6_isSort, zm_X6_added, zm_X6_value, zm_X6_row, zm_X6_instance, zm_X6_failed, zm_X6_good, zm_X6_isOfKind, zm_X6_done, zm_X6_push, zm_X6_given, zm_X6_fallback, zm_X6_give, zm_X6_within, zm_X6_inner, zm_X6_pile]
theorem zMs_ok5 : ∀ e ∈ zMs_5, zP e := List.forall_mem_cons.mpr ⟨zp_X6_isAmong, List.forall_mem_cons.mpr ⟨zp_X6_isType, List.forall_mem_cons.mpr ⟨zp_X6_place, List.forall_mem_cons.mpr ⟨zp_X6_isValue, List.forall_mem_cons.mpr ⟨zp_X6_isSort, List.forall_mem_cons.mpr ⟨zp_X6_added, List.forall_mem_cons.mpr ⟨zp_X6_value, List.forall_mem_cons.mpr ⟨zp_X6_row, List.forall_mem_cons.mpr ⟨zp_X6_instance, List.forall_mem_cons.mpr ⟨zp_X6_failed, List.forall_mem_cons.mpr ⟨zp_X6_good, List.forall_mem_cons.mpr ⟨zp_X6_isOfKind, List.forall_mem_cons.mpr ⟨zp_X6_done, List.forall_mem_cons.mpr ⟨zp_X6_push, List.forall_mem_cons.mpr ⟨zp_X6_given, List.forall_mem_cons.mpr ⟨zp_X6_fallback, List.forall_mem_cons.mpr ⟨zp_X6_give, List.forall_mem_cons.mpr ⟨zp_X6_within, List.forall_mem_cons.mpr ⟨zp_X6_inner, List.forall_mem_cons.mpr ⟨zp_X6_pile, fun _ h => absurd h List.not_mem_nil⟩⟩⟩⟩⟩⟩⟩⟩⟩⟩⟩⟩⟩⟩⟩⟩⟩⟩⟩⟩
def zMs_6 : List zMe := [zm_X6_isWhole, zm_X6_isLike, zm_X6_areEqual, zm_X6_equal, zm_X6_told, zm_X6_part, zm_X6_write, zm_X6_writeNumber, zm_X6_begin, zm_X6_isBehind, zm_X6_written, zm_X6_letter, zm_X6_standing, zm_X6_stander, zm_X6_mayStand, zm_X6_put, zm_X6_own, zm_X6_goesUp, zm_X6_ask, zm_X6_rowAt]
theorem zMs_ok6 : ∀ e ∈ zMs_6, zP e := List.forall_mem_cons.mpr ⟨zp_X6_isWhole, List.forall_mem_cons.mpr ⟨zp_X6_isLike, List.forall_mem_cons.mpr ⟨zp_X6_areEqual, List.forall_mem_cons.mpr ⟨zp_X6_equal, List.forall_mem_cons.mpr ⟨zp_X6_told, List.forall_mem_cons.mpr ⟨zp_X6_part, List.forall_mem_cons.mpr ⟨zp_X6_write, List.forall_mem_cons.mpr ⟨zp_X6_writeNumber, List.forall_mem_cons.mpr ⟨zp_X6_begin, List.forall_mem_cons.mpr ⟨zp_X6_isBehind, List.forall_mem_cons.mpr ⟨zp_X6_written, List.forall_mem_cons.mpr ⟨zp_X6_letter, List.forall_mem_cons.mpr ⟨zp_X6_standing, List.forall_mem_cons.mpr ⟨zp_X6_stander, List.forall_mem_cons.mpr ⟨zp_X6_mayStand, List.forall_mem_cons.mpr ⟨zp_X6_put, List.forall_mem_cons.mpr ⟨zp_X6_own, List.forall_mem_cons.mpr ⟨zp_X6_goesUp, List.forall_mem_cons.mpr ⟨zp_X6_ask, List.forall_mem_cons.mpr ⟨zp_X6_rowAt, fun _ h => absurd h List.not_mem_nil⟩⟩⟩⟩⟩⟩⟩⟩⟩⟩⟩⟩⟩⟩⟩⟩⟩⟩⟩⟩
def zMs_7 : List zMe := [zm_X6_allAt, zm_X6_whereAll, zm_X6_all, zm_X6_of, zm_X6_stands, zm_X6_cause, zm_X6_count, zm_J7_fill_53178]
theorem zMs_ok7 : ∀ e ∈ zMs_7, zP e := List.forall_mem_cons.mpr ⟨zp_X6_allAt, List.forall_mem_cons.mpr ⟨zp_X6_whereAll, List.forall_mem_cons.mpr ⟨zp_X6_all, List.forall_mem_cons.mpr ⟨zp_X6_of, List.forall_mem_cons.mpr ⟨zp_X6_stands, List.forall_mem_cons.mpr ⟨zp_X6_cause, List.forall_mem_cons.mpr ⟨zp_X6_count, List.forall_mem_cons.mpr ⟨zp_J7_fill_53178, fun _ h => absurd h List.not_mem_nil⟩⟩⟩⟩⟩⟩⟩⟩
def zMs : List zMe := zMs_0 ++ (zMs_1 ++ (zMs_2 ++ (zMs_3 ++ (zMs_4 ++ (zMs_5 ++ (zMs_6 ++ (zMs_7)))))))
theorem zMs_ok : ∀ e ∈ zMs, zP e := fun e => fun h => (List.mem_append.mp h).elim (zMs_ok0 e) (fun h => (List.mem_append.mp h).elim (zMs_ok1 e) (fun h => (List.mem_append.mp h).elim (zMs_ok2 e) (fun h => (List.mem_append.mp h).elim (zMs_ok3 e) (fun h => (List.mem_append.mp h).elim (zMs_ok4 e) (fun h => (List.mem_append.mp h).elim (zMs_ok5 e) (fun h => (List.mem_append.mp h).elim (zMs_ok6 e) (fun h => zMs_ok7 e h)))))))
abbrev n_X0_has : Nat := 0
abbrev n_X0_hasKind : Nat := 1
abbrev n_X0_add : Nat := 2
abbrev n_X0_addElement : Nat := 3
abbrev n_X0_positionOf : Nat := 4
abbrev n_X0_slotOf : Nat := 5
abbrev n_X0_isFixed : Nat := 6
abbrev n_X0_leadOf : Nat := 7
abbrev n_X0_wouldLeadTooFar : Nat := 8
abbrev n_X0_leadingInto : Nat := 9
abbrev n_X0_canContain : Nat := 10
abbrev n_X0_othersHaveDefaults : Nat := 11
abbrev n_X1_has : Nat := 12
abbrev n_X1_isType : Nat := 13
abbrev n_X1_isClass : Nat := 14
abbrev n_X1_isMethod : Nat := 15
abbrev n_X1_fits : Nat := 16
abbrev n_X1_add : Nat := 17
abbrev n_X1_parentOf : Nat := 18
abbrev n_X1_fittingTargets : Nat := 19
abbrev n_X2_add : Nat := 20
abbrev n_X2_howManyAt : Nat := 21
abbrev n_X2_howMany : Nat := 22
abbrev n_X2_nth : Nat := 23
abbrev n_X3_has : Nat := 24
abbrev n_X3_isSort : Nat := 25
abbrev n_X3_isOfKind : Nat := 26
abbrev n_X3_isRowOf : Nat := 27
abbrev n_X3_markOf : Nat := 28
abbrev n_X3_add : Nat := 29
abbrev n_X3_addRowOfOne : Nat := 30
abbrev n_X3_append : Nat := 31
abbrev n_X3_setElement : Nat := 32
abbrev n_X3_finish : Nat := 33
abbrev n_X3_partAt : Nat := 34
abbrev n_X3_inRow : Nat := 35
abbrev n_X3_elementAt : Nat := 36
abbrev n_X3_elementByName : Nat := 37
abbrev n_X3_howManyElements : Nat := 38
abbrev n_X3_isWhole : Nat := 39
abbrev n_X3_areAllWhole : Nat := 40
abbrev n_X3_hasAllElementsWhole : Nat := 41
abbrev n_X3_areEqual : Nat := 42
abbrev n_X3_haveEqualElements : Nat := 43
abbrev n_X3_haveEqualParts : Nat := 44
abbrev n_X4_write : Nat := 45
abbrev n_X4_begin : Nat := 46
abbrev n_X4_writeByte : Nat := 47
abbrev n_X4_writeValue : Nat := 48
abbrev n_X4_writeRow : Nat := 49
abbrev n_X4_writeInstance : Nat := 50
abbrev n_X4_writeSimple : Nat := 51
abbrev n_X4_writeDigits : Nat := 52
abbrev n_X5_mark : Nat := 53
abbrev n_X5_element : Nat := 54
abbrev n_X5_fallback : Nat := 55
abbrev n_X5_container : Nat := 56
abbrev n_X5_place : Nat := 57
abbrev n_X5_value : Nat := 58
abbrev n_X5_row : Nat := 59
abbrev n_X5_push : Nat := 60
abbrev n_X5_instance : Nat := 61
abbrev n_X5_give : Nat := 62
abbrev n_X5_put : Nat := 63
abbrev n_X5_cause : Nat := 64
abbrev n_X5_told : Nat := 65
abbrev n_X5_part : Nat := 66
abbrev n_X5_equal : Nat := 67
abbrev n_X5_written : Nat := 68
abbrev n_X5_letter : Nat := 69
abbrev n_X5_ask : Nat := 70
abbrev n_X5_all : Nat := 71
abbrev n_X5_of : Nat := 72
abbrev n_X5_stands : Nat := 73
abbrev n_X5_count : Nat := 74
abbrev n_X5_countOfMark : Nat := 75
abbrev n_X5_asNumber : Nat := 76
abbrev n_X5_isValueOrNone : Nat := 77
abbrev n_X5_isDoneOrSame : Nat := 78
abbrev n_X5_isSimple : Nat := 79
abbrev n_X5_fail : Nat := 80
abbrev n_X5_takeFor : Nat := 81
abbrev n_X5_brokenRule : Nat := 82
abbrev n_X5_ownAt : Nat := 83
abbrev n_X5_gatheredAt : Nat := 84
abbrev n_X5_foundAt : Nat := 85
abbrev n_X5_inheritsFrom : Nat := 86
abbrev n_X5_sourceOfAll : Nat := 87
abbrev n_X5_howManyHere : Nat := 88
abbrev n_X5_containerRowAt : Nat := 89
abbrev n_X6_isMark : Nat := 90
abbrev n_X6_mark : Nat := 91
abbrev n_X6_isKind : Nat := 92
abbrev n_X6_elementOf : Nat := 93
abbrev n_X6_isFixed : Nat := 94
abbrev n_X6_mayLead : Nat := 95
abbrev n_X6_element : Nat := 96
abbrev n_X6_isContainer : Nat := 97
abbrev n_X6_container : Nat := 98
abbrev n_X6_isPlace : Nat := 99
abbrev n_X6_isAmong : Nat := 100
abbrev n_X6_isType : Nat := 101
abbrev n_X6_place : Nat := 102
abbrev n_X6_isValue : Nat := 103
abbrev n_X6_isSort : Nat := 104
abbrev n_X6_added : Nat := 105
abbrev n_X6_value : Nat := 106
abbrev n_X6_row : Nat := 107
abbrev n_X6_instance : Nat := 108
abbrev n_X6_failed : Nat := 109
abbrev n_X6_good : Nat := 110
abbrev n_X6_isOfKind : Nat := 111
abbrev n_X6_done : Nat := 112
abbrev n_X6_push : Nat := 113
abbrev n_X6_given : Nat := 114
abbrev n_X6_fallback : Nat := 115
abbrev n_X6_give : Nat := 116
abbrev n_X6_within : Nat := 117
abbrev n_X6_inner : Nat := 118
abbrev n_X6_pile : Nat := 119
abbrev n_X6_isWhole : Nat := 120
abbrev n_X6_isLike : Nat := 121
abbrev n_X6_areEqual : Nat := 122
abbrev n_X6_equal : Nat := 123
abbrev n_X6_told : Nat := 124
abbrev n_X6_part : Nat := 125
abbrev n_X6_write : Nat := 126
abbrev n_X6_writeNumber : Nat := 127
abbrev n_X6_begin : Nat := 128
abbrev n_X6_isBehind : Nat := 129
abbrev n_X6_written : Nat := 130
abbrev n_X6_letter : Nat := 131
abbrev n_X6_standing : Nat := 132
abbrev n_X6_stander : Nat := 133
abbrev n_X6_mayStand : Nat := 134
abbrev n_X6_put : Nat := 135
abbrev n_X6_own : Nat := 136
abbrev n_X6_goesUp : Nat := 137
abbrev n_X6_ask : Nat := 138
abbrev n_X6_rowAt : Nat := 139
abbrev n_X6_allAt : Nat := 140
abbrev n_X6_whereAll : Nat := 141
abbrev n_X6_all : Nat := 142
abbrev n_X6_of : Nat := 143
abbrev n_X6_stands : Nat := 144
abbrev n_X6_cause : Nat := 145
abbrev n_X6_count : Nat := 146
abbrev n_J7_fill_53178 : Nat := 147
def zfT : Nat → List (Nat × Nat × Nat × Nat × Nat)
  | 0 => [(9, 0, 0, 0, 39), (15, 0, 1, 2, 40), (19, 0, 2, 2, 41), (22, 0, 3, 2, 43), (26, 0, 4, 2, 44), (29, 0, 5, 2, 45), (32, 0, 6, 2, 46), (35, 0, 7, 2, 47), (38, 0, 8, 2, 48), (44, 0, 10, 2, 50), (47, 0, 11, 2, 51), (50, 0, 12, 2, 52), (53, 0, 13, 2, 53)]
  | 1 => [(9, 1, 0, 0, 73), (15, 1, 1, 2, 74), (19, 1, 2, 2, 75)]
  | 2 => [(9, 2, 0, 0, 79), (15, 2, 1, 2, 80), (19, 2, 2, 2, 81), (22, 2, 3, 2, 82)]
  | 3 => [(9, 3, 1, 0, 62), (15, 3, 2, 2, 63), (19, 3, 3, 2, 64), (22, 3, 4, 2, 65), (25, 3, 5, 2, 66), (29, 3, 6, 2, 67), (32, 3, 0, 2, 68), (80, 0, 4, 2, 240), (65, 0, 13, 2, 249)]
  | 4 => [(9, 4, 2, 2, 88), (15, 4, 3, 0, 89), (19, 4, 4, 2, 90), (23, 4, 5, 0, 91), (26, 4, 6, 1, 92), (30, 4, 0, 2, 93), (34, 4, 1, 2, 94), (52, 3, 2, 2, 591), (61, 3, 3, 2, 592), (64, 3, 4, 2, 593), (85, 0, 4, 2, 619), (93, 0, 10, 2, 620)]
  | 5 => [(15, 5, 0, 2, 18), (21, 5, 2, 2, 19), (28, 5, 1, 2, 23), (35, 5, 3, 2, 27), (44, 5, 4, 2, 31), (48, 5, 5, 2, 33), (52, 5, 6, 0, 34), (85, 3, 5, 2, 208), (95, 0, 13, 2, 209), (232, 0, 11, 2, 254), (233, 0, 12, 2, 255), (98, 0, 6, 2, 343), (101, 0, 9, 2, 344), (107, 0, 7, 2, 345), (127, 3, 4, 2, 435), (134, 3, 3, 2, 436), (143, 0, 8, 2, 455), (246, 0, 1, 2, 484), (169, 3, 2, 2, 521), (189, 4, 3, 0, 652), (192, 4, 2, 2, 653), (252, 0, 2, 2, 670), (261, 0, 3, 2, 683), (217, 0, 0, 0, 760), (220, 1, 0, 0, 761), (221, 3, 1, 0, 762), (222, 2, 0, 0, 763), (226, 0, 4, 2, 768)]
  | 6 => [(7, 6, 1, 2, 99), (13, 6, 2, 2, 100), (16, 6, 3, 2, 101), (20, 6, 4, 2, 102), (23, 6, 5, 2, 103), (26, 6, 6, 2, 104), (29, 6, 7, 2, 105), (32, 6, 8, 2, 106), (35, 6, 9, 2, 107), (38, 6, 10, 2, 108), (41, 6, 11, 2, 109), (44, 6, 13, 2, 110), (47, 6, 14, 2, 111), (50, 6, 16, 2, 112), (53, 6, 17, 2, 113), (56, 6, 18, 2, 114), (59, 6, 19, 2, 115), (62, 6, 20, 2, 116), (65, 6, 22, 2, 117), (68, 6, 24, 2, 118), (71, 6, 25, 2, 119), (74, 6, 26, 2, 120), (77, 6, 28, 2, 121), (80, 6, 30, 2, 122), (83, 6, 31, 2, 123), (86, 6, 33, 2, 124), (89, 6, 34, 2, 125), (92, 6, 0, 0, 138), (100, 6, 15, 0, 199), (169, 6, 23, 0, 301), (143, 6, 21, 0, 326), (117, 6, 32, 0, 359), (123, 6, 12, 0, 396), (187, 6, 29, 0, 629), (204, 6, 27, 0, 630)]
  | _ => []
def zvT : Nat → List (Nat × Nat × Nat × Nat × Nat × Nat × Nat × Nat)
  | 0 => [(62, 0, 1, 0, 151, 144, 145, 14), (70, 4, 2, 0, 156, 157, 158, 14), (74, 9, 1, 0, 171, 172, 173, 14), (77, 5, 2, 0, 350, 153, 154, 14), (80, 11, 1, 0, 351, 352, 353, 14)]
  | 1 => [(26, 14, 1, 1, 372, 373, 374, 22), (22, 12, 1, 1, 376, 377, 378, 22), (29, 13, 1, 1, 380, 381, 382, 22), (32, 15, 1, 1, 384, 385, 386, 22)]
  | 3 => [(42, 24, 1, 3, 222, 215, 216, 17), (83, 40, 2, 3, 223, 224, 225, 17), (86, 41, 2, 3, 226, 227, 228, 17), (62, 34, 2, 3, 230, 231, 232, 17), (89, 39, 2, 3, 234, 219, 220, 17), (92, 38, 1, 3, 236, 237, 238, 17), (70, 28, 1, 3, 241, 242, 243, 17), (77, 36, 2, 3, 245, 246, 247, 17), (46, 25, 2, 3, 268, 269, 270, 17), (50, 29, 3, 3, 276, 277, 278, 17), (54, 31, 2, 3, 280, 281, 282, 17), (58, 33, 1, 3, 284, 285, 286, 17), (74, 4, 2, 0, 541, 157, 158, 14), (95, 43, 3, 3, 554, 555, 556, 17), (99, 44, 3, 3, 557, 558, 559, 17), (102, 42, 3, 3, 561, 551, 552, 17)]
  | 4 => [(38, 46, 1, 4, 583, 584, 585, 30), (42, 48, 2, 4, 587, 588, 589, 30), (46, 24, 1, 3, 594, 215, 216, 17), (55, 49, 2, 4, 595, 596, 597, 30), (58, 50, 2, 4, 598, 599, 600, 30), (67, 51, 2, 4, 601, 602, 603, 30), (70, 47, 1, 4, 605, 606, 607, 30), (82, 52, 1, 4, 609, 610, 611, 30), (78, 28, 1, 3, 621, 242, 243, 17), (90, 36, 2, 3, 622, 246, 247, 17), (74, 34, 2, 3, 624, 231, 232, 17)]
  | 5 => [(56, 2, 3, 0, 130, 131, 132, 14), (60, 0, 1, 0, 143, 144, 145, 14), (64, 1, 1, 0, 147, 148, 149, 14), (67, 5, 2, 0, 152, 153, 154, 14), (71, 6, 1, 0, 160, 161, 162, 14), (74, 8, 2, 0, 164, 165, 166, 14), (78, 3, 4, 0, 175, 176, 177, 14), (82, 77, 1, 5, 210, 211, 212, 2), (168, 24, 1, 3, 214, 215, 216, 17), (89, 39, 2, 3, 218, 219, 220, 17), (92, 81, 2, 5, 250, 251, 252, 2), (130, 80, 1, 5, 256, 257, 258, 2), (137, 26, 2, 3, 260, 261, 262, 17), (236, 27, 2, 3, 264, 265, 266, 17), (239, 30, 2, 3, 272, 273, 274, 17), (242, 33, 1, 3, 288, 285, 286, 17), (104, 10, 2, 0, 346, 347, 348, 14), (110, 16, 2, 1, 368, 369, 370, 22), (113, 17, 2, 1, 388, 389, 390, 22), (115, 79, 2, 5, 413, 414, 415, 2), (229, 13, 1, 1, 417, 381, 382, 22), (118, 29, 3, 3, 418, 277, 278, 17), (121, 25, 2, 3, 437, 269, 270, 17), (124, 78, 2, 5, 438, 439, 440, 2), (140, 31, 2, 3, 442, 281, 282, 17), (146, 28, 1, 3, 464, 242, 243, 17), (149, 4, 2, 0, 465, 157, 158, 14), (152, 34, 2, 3, 466, 231, 232, 17), (155, 32, 3, 3, 467, 468, 469, 17), (159, 12, 1, 1, 479, 377, 378, 22), (160, 82, 2, 5, 480, 481, 482, 2), (249, 19, 1, 1, 485, 486, 487, 22), (163, 22, 2, 2, 489, 490, 491, 26), (166, 20, 3, 2, 493, 494, 495, 26), (176, 35, 2, 3, 533, 534, 535, 17), (179, 37, 2, 3, 537, 538, 539, 17), (182, 42, 3, 3, 550, 551, 552, 17), (186, 45, 1, 4, 579, 580, 581, 30), (196, 85, 2, 5, 662, 663, 664, 2), (199, 83, 2, 5, 666, 667, 668, 2), (255, 84, 2, 5, 671, 672, 673, 2), (208, 23, 3, 2, 675, 676, 677, 26), (258, 86, 2, 5, 679, 680, 681, 2), (264, 18, 1, 1, 684, 685, 686, 22), (202, 87, 2, 5, 708, 709, 710, 2), (205, 88, 2, 5, 712, 713, 714, 2), (211, 89, 2, 5, 716, 717, 718, 2), (214, 21, 1, 2, 748, 749, 750, 26), (223, 75, 1, 5, 764, 765, 766, 2)]
  | 6 => [(96, 90, 1, 6, 183, 184, 185, 5), (103, 92, 1, 6, 187, 188, 189, 5), (106, 93, 2, 6, 191, 192, 193, 5), (110, 94, 1, 6, 195, 196, 197, 5), (113, 95, 2, 6, 200, 201, 202, 5), (136, 103, 1, 6, 293, 294, 295, 5), (163, 120, 1, 6, 297, 298, 299, 5), (172, 119, 2, 6, 302, 303, 304, 5), (175, 117, 1, 6, 306, 307, 308, 5), (178, 118, 2, 6, 310, 311, 312, 5), (166, 114, 2, 6, 314, 315, 316, 5), (153, 111, 2, 6, 318, 319, 320, 5), (149, 109, 1, 6, 322, 323, 324, 5), (139, 105, 3, 6, 327, 328, 329, 5), (156, 112, 1, 6, 331, 332, 333, 5), (160, 110, 1, 6, 335, 336, 337, 5), (120, 97, 2, 6, 360, 361, 362, 5), (129, 100, 3, 6, 397, 398, 399, 5), (126, 99, 1, 6, 401, 402, 403, 5), (133, 101, 1, 6, 405, 406, 407, 5), (146, 104, 2, 6, 447, 448, 449, 5), (207, 132, 2, 6, 501, 502, 503, 5), (210, 134, 2, 6, 505, 506, 507, 5), (184, 122, 2, 6, 567, 568, 569, 5), (181, 121, 2, 6, 571, 572, 573, 5), (198, 128, 1, 6, 631, 632, 633, 5), (190, 126, 1, 6, 635, 636, 637, 5), (195, 127, 1, 6, 639, 640, 641, 5), (201, 129, 2, 6, 644, 645, 646, 5), (216, 136, 2, 6, 692, 693, 694, 5), (213, 133, 3, 6, 696, 697, 698, 5), (219, 137, 2, 6, 700, 701, 702, 5), (228, 141, 2, 6, 724, 725, 726, 5), (225, 140, 2, 6, 728, 729, 730, 5), (222, 139, 2, 6, 732, 733, 734, 5)]
  | 7 => [(13, 53, 3, 5, 126, 127, 128, 2), (17, 91, 3, 6, 134, 135, 136, 5), (18, 54, 4, 5, 139, 140, 141, 2), (22, 96, 4, 6, 179, 180, 181, 5), (23, 55, 3, 5, 204, 205, 206, 2), (27, 115, 3, 6, 289, 290, 291, 5), (28, 56, 2, 5, 339, 340, 341, 2), (32, 98, 2, 6, 355, 356, 357, 5), (33, 57, 2, 5, 364, 365, 366, 2), (36, 102, 2, 6, 392, 393, 394, 5), (37, 58, 2, 5, 409, 410, 411, 2), (40, 106, 2, 6, 419, 420, 421, 5), (41, 59, 1, 5, 423, 424, 425, 2), (45, 107, 1, 6, 427, 428, 429, 5), (46, 60, 2, 5, 431, 432, 433, 2), (49, 113, 2, 6, 443, 444, 445, 5), (50, 61, 1, 5, 451, 452, 453, 2), (53, 108, 1, 6, 456, 457, 458, 5), (54, 62, 3, 5, 460, 461, 462, 2), (57, 116, 3, 6, 471, 472, 473, 5), (58, 63, 2, 5, 475, 476, 477, 2), (61, 135, 2, 6, 497, 498, 499, 5), (62, 64, 0, 5, 509, 510, 511, 2), (66, 145, 0, 6, 513, 514, 515, 5), (67, 65, 2, 5, 517, 518, 519, 2), (70, 124, 2, 6, 525, 526, 527, 5), (71, 66, 2, 5, 529, 530, 531, 2), (74, 125, 2, 6, 542, 543, 544, 5), (75, 67, 2, 5, 546, 547, 548, 2), (78, 123, 2, 6, 563, 564, 565, 5), (79, 68, 1, 5, 575, 576, 577, 2), (82, 130, 1, 6, 625, 626, 627, 5), (83, 69, 1, 5, 648, 649, 650, 2), (86, 131, 1, 6, 654, 655, 656, 5), (87, 70, 3, 5, 658, 659, 660, 2), (90, 138, 3, 6, 688, 689, 690, 5), (91, 71, 2, 5, 704, 705, 706, 2), (94, 142, 2, 6, 720, 721, 722, 5), (95, 72, 3, 5, 736, 737, 738, 2), (98, 143, 3, 6, 740, 741, 742, 5), (99, 73, 1, 5, 744, 745, 746, 2), (102, 144, 1, 6, 752, 753, 754, 5), (103, 74, 1, 5, 756, 757, 758, 2), (106, 146, 1, 6, 769, 770, 771, 5)]
  | _ => []
def zsT : Nat → List (Nat × Nat × Nat × Nat × Nat × Nat)
  | 0 => [(66, 7, 1, 168, 169, 14)]
  | 5 => [(172, 76, 1, 522, 523, 2)]
  | _ => []
def zaT : Nat → List (Nat × Nat)
  | 4 => [(96, 613)]
  | _ => []
def zlT : Nat → List (Nat × Int64 × Nat)
  | 4 => [(102, 10, 617)]
  | 6 => [(193, 10, 643)]
  | _ => []
def zfok (own : Nat) (e : Nat × Nat × Nat × Nat × Nat) : Bool := match vwCl[e.2.1]? with
  | some (C, T, N) => decide (e.2.2.1 < N) && decide (wsL_law[e.2.2.2.2]? = some (.fieldLink (zR own) e.1 C (T e.2.2.1).2.1 (T e.2.2.1).2.2.1)) && decide ((T e.2.2.1).1 = C) && (decide (e.2.2.2.1 = 2) || (decide ((T e.2.2.1).2.2.2 = false) && ((decide (e.2.2.2.1 = 0) && decide ((T e.2.2.1).2.2.1 = "I")) || (decide (e.2.2.2.1 = 1) && decide ((T e.2.2.1).2.2.1 = "Z")))))
  | none => false
def zvok (own : Nat) (e : Nat × Nat × Nat × Nat × Nat × Nat × Nat × Nat) : Bool := match zMs[e.2.1]? with
  | some m => decide (wsL_law[e.2.2.2.2.1]? = some (.methodLink (zR own) e.1 m.2.1)) && decide (wsL_law[e.2.2.2.2.2.1]? = some (.instanceMethod m.2.1)) && decide (wsL_law[e.2.2.2.2.2.2.1]? = some (.selects (zR e.2.2.2.1) m.2.1 m.2.1)) && decide (wsL_law[e.2.2.2.2.2.2.2]? = some (.initialized (zR e.2.2.2.1))) && decide (m.1.1 = e.2.2.2.1) && decide ((parseMethodDescriptor m.2.1.desc).map (fun d => d.parameters.length) = some e.2.2.1) && decide (e.2.2.2.1 < 7)
  | none => false
def zsok (own : Nat) (e : Nat × Nat × Nat × Nat × Nat × Nat) : Bool := match zMs[e.2.1]? with
  | some m => decide (wsL_law[e.2.2.2.1]? = some (.methodLink (zR own) e.1 m.2.1)) && decide (wsL_law[e.2.2.2.2.1]? = some (.static m.2.1)) && decide (wsL_law[e.2.2.2.2.2]? = some (.initialized m.2.1.cls)) && decide ((parseMethodDescriptor m.2.1.desc).map (fun d => d.parameters.length) = some e.2.2.1)
  | none => false
def zaok (own : Nat) (e : Nat × Nat) : Bool := decide (wsL_law[e.2]? = some (.methodLink (zR own) e.1 Lib.MathLoose.abs_long.x))
def zlok (own : Nat) (e : Nat × Int64 × Nat) : Bool := decide (wsL_law[e.2.2]? = some (.constantLong (zR own) e.1 e.2.1))
set_option maxRecDepth 20000 in
theorem zfT_0 : ∀ e ∈ zfT 0, zfok 0 e = true := by decide +kernel
set_option maxRecDepth 20000 in
theorem zfT_1 : ∀ e ∈ zfT 1, zfok 1 e = true := by decide +kernel
set_option maxRecDepth 20000 in
theorem zfT_2 : ∀ e ∈ zfT 2, zfok 2 e = true := by decide +kernel
set_option maxRecDepth 20000 in
theorem zfT_3 : ∀ e ∈ zfT 3, zfok 3 e = true := by decide +kernel
set_option maxRecDepth 20000 in
theorem zfT_4 : ∀ e ∈ zfT 4, zfok 4 e = true := by decide +kernel
set_option maxRecDepth 20000 in
theorem zfT_5 : ∀ e ∈ zfT 5, zfok 5 e = true := by decide +kernel
set_option maxRecDepth 20000 in
theorem zfT_6 : ∀ e ∈ zfT 6, zfok 6 e = true := by decide +kernel
theorem zfT_ok : ∀ (own : Nat) e, e ∈ zfT own → zfok own e = true
  | 0, e, h => zfT_0 e h
  | 1, e, h => zfT_1 e h
  | 2, e, h => zfT_2 e h
  | 3, e, h => zfT_3 e h
  | 4, e, h => zfT_4 e h
  | 5, e, h => zfT_5 e h
  | 6, e, h => zfT_6 e h
  | 7, e, h => absurd h List.not_mem_nil
  | 8, e, h => absurd h List.not_mem_nil
  | _ + 9, e, h => absurd h List.not_mem_nil
set_option maxRecDepth 20000 in
theorem zvT_0 : ∀ e ∈ zvT 0, zvok 0 e = true := by decide +kernel
set_option maxRecDepth 20000 in
theorem zvT_1 : ∀ e ∈ zvT 1, zvok 1 e = true := by decide +kernel
set_option maxRecDepth 20000 in
theorem zvT_3 : ∀ e ∈ zvT 3, zvok 3 e = true := by decide +kernel
set_option maxRecDepth 20000 in
theorem zvT_4 : ∀ e ∈ zvT 4, zvok 4 e = true := by decide +kernel
set_option maxRecDepth 20000 in
theorem zvT_5 : ∀ e ∈ zvT 5, zvok 5 e = true := by decide +kernel
set_option maxRecDepth 20000 in
theorem zvT_6 : ∀ e ∈ zvT 6, zvok 6 e = true := by decide +kernel
set_option maxRecDepth 20000 in
theorem zvT_7 : ∀ e ∈ zvT 7, zvok 7 e = true := by decide +kernel
theorem zvT_ok : ∀ (own : Nat) e, e ∈ zvT own → zvok own e = true
  | 0, e, h => zvT_0 e h
  | 1, e, h => zvT_1 e h
  | 2, e, h => absurd h List.not_mem_nil
  | 3, e, h => zvT_3 e h
  | 4, e, h => zvT_4 e h
  | 5, e, h => zvT_5 e h
  | 6, e, h => zvT_6 e h
  | 7, e, h => zvT_7 e h
  | 8, e, h => absurd h List.not_mem_nil
  | _ + 9, e, h => absurd h List.not_mem_nil
set_option maxRecDepth 20000 in
theorem zsT_0 : ∀ e ∈ zsT 0, zsok 0 e = true := by decide +kernel
set_option maxRecDepth 20000 in
theorem zsT_5 : ∀ e ∈ zsT 5, zsok 5 e = true := by decide +kernel
theorem zsT_ok : ∀ (own : Nat) e, e ∈ zsT own → zsok own e = true
  | 0, e, h => zsT_0 e h
  | 1, e, h => absurd h List.not_mem_nil
  | 2, e, h => absurd h List.not_mem_nil
  | 3, e, h => absurd h List.not_mem_nil
  | 4, e, h => absurd h List.not_mem_nil
  | 5, e, h => zsT_5 e h
  | 6, e, h => absurd h List.not_mem_nil
  | 7, e, h => absurd h List.not_mem_nil
  | 8, e, h => absurd h List.not_mem_nil
  | _ + 9, e, h => absurd h List.not_mem_nil
set_option maxRecDepth 20000 in
theorem zaT_4 : ∀ e ∈ zaT 4, zaok 4 e = true := by decide +kernel
theorem zaT_ok : ∀ (own : Nat) e, e ∈ zaT own → zaok own e = true
  | 0, e, h => absurd h List.not_mem_nil
  | 1, e, h => absurd h List.not_mem_nil
  | 2, e, h => absurd h List.not_mem_nil
  | 3, e, h => absurd h List.not_mem_nil
  | 4, e, h => zaT_4 e h
  | 5, e, h => absurd h List.not_mem_nil
  | 6, e, h => absurd h List.not_mem_nil
  | 7, e, h => absurd h List.not_mem_nil
  | 8, e, h => absurd h List.not_mem_nil
  | _ + 9, e, h => absurd h List.not_mem_nil
set_option maxRecDepth 20000 in
theorem zlT_4 : ∀ e ∈ zlT 4, zlok 4 e = true := by decide +kernel
set_option maxRecDepth 20000 in
theorem zlT_6 : ∀ e ∈ zlT 6, zlok 6 e = true := by decide +kernel
theorem zlT_ok : ∀ (own : Nat) e, e ∈ zlT own → zlok own e = true
  | 0, e, h => absurd h List.not_mem_nil
  | 1, e, h => absurd h List.not_mem_nil
  | 2, e, h => absurd h List.not_mem_nil
  | 3, e, h => absurd h List.not_mem_nil
  | 4, e, h => zlT_4 e h
  | 5, e, h => absurd h List.not_mem_nil
  | 6, e, h => zlT_6 e h
  | 7, e, h => absurd h List.not_mem_nil
  | 8, e, h => absurd h List.not_mem_nil
  | _ + 9, e, h => absurd h List.not_mem_nil
set_option maxRecDepth 20000 in
theorem zabs_s : Cond.static Lib.MathLoose.abs_long.x ∈ wsL_law := List.mem_of_getElem? (i := 614) rfl
set_option maxRecDepth 20000 in
theorem zabs_i : Cond.initialized "java/lang/Math" ∈ wsL_law := List.mem_of_getElem? (i := 615) rfl
set_option maxRecDepth 20000 in
theorem zabs_c : Cond.code Lib.MathLoose.abs_long.x Lib.MathLoose.abs_long.code 2 (some .long) ∈ wsL_law := List.mem_of_getElem? (i := 616) rfl
end
section
/-! THE RUN of the small machine. -/
def zload (i len pc : Nat) (lv st : List Value) (h : zH) : zT4 := match lv[i]? with
  | some (.int x) => some (pc + len, lv, .int x :: st, h)
  | _ => none
def zloadl (i len pc : Nat) (lv st : List Value) (h : zH) : zT4 := match lv[i]? with
  | some (.long x) => some (pc + len, lv, .long x :: st, h)
  | _ => none
def zloada (i len pc : Nat) (lv st : List Value) (h : zH) : zT4 := match lv[i]? with
  | some (.ref x) => some (pc + len, lv, .ref x :: st, h)
  | _ => none
def zstore (i len pc : Nat) (lv st : List Value) (h : zH) : zT4 := match st with
  | .int x :: r => (zst1 lv i (.int x)).bind fun lv' => some (pc + len, lv', r, h)
  | _ => none
def zstorel (i len pc : Nat) (lv st : List Value) (h : zH) : zT4 := match st with
  | .long x :: r => (zst2 lv i (.long x)).bind fun lv' => some (pc + len, lv', r, h)
  | _ => none
def zbin (f : Int32 → Int32 → Int32) (len pc : Nat) (lv st : List Value) (h : zH) : zT4 := match st with
  | .int y :: .int x :: r => some (pc + len, lv, .int (f x y) :: r, h)
  | _ => none
def zun (f : Int32 → Int32) (len pc : Nat) (lv st : List Value) (h : zH) : zT4 := match st with
  | .int x :: r => some (pc + len, lv, .int (f x) :: r, h)
  | _ => none
def zbinl (f : Int64 → Int64 → Int64) (len pc : Nat) (lv st : List Value) (h : zH) : zT4 := match st with
  | .long y :: .long x :: r => if y = 0 then none else some (pc + len, lv, .long (f x y) :: r, h)
  | _ => none
/-- behind a call: what came back stands on the stack -/
def zback (pc : Nat) (lv r : List Value) (o : zO) : zT4 := match o with
  | some (v, h) => some (pc, lv, v.toList ++ r, h)
  | none => none
def zinv (cal : zCal) (own idx len pc : Nat) (lv st : List Value) (h : zH) : zT4 := match zlook (zvT own) idx with
  | some (m, n, ci, _) => match st.drop n with
    | .ref k :: r => match zobj h k ci with
      | some _ => if (decide ((st.take n).length = n) && decide (zsum r ≤ 8) && decide (k < 1000)) = true then zback (pc + len) lv r (cal m (.ref k :: (st.take n).reverse) h) else none
      | none => none
    | _ => none
  | none => none
def zins (cal : zCal) (own idx len pc : Nat) (lv st : List Value) (h : zH) : zT4 := match zlook (zaT own) idx with
  | some _ => match st with
    | .long x :: r => if decide (zsum r ≤ 8) = true then some (pc + len, lv, .long (if 0 < x then x else -x) :: r, h) else none
    | _ => none
  | none => match zlook (zsT own) idx with
    | some (m, n, _) => if (decide ((st.take n).length = n) && decide (zsum (st.drop n) ≤ 8)) = true then zback (pc + len) lv (st.drop n) (cal m ((st.take n).reverse) h) else none
    | none => none
abbrev zTb : Type := Nat → Option (Nat × (Nat → Int32))
def zgetf (own idx len pc : Nat) (lv st : List Value) (h : zH) : zT4 := match st with
  | .ref k :: r => match zlook (zfT own) idx with
    | some (ci, j, _) => match zobj h k ci with
      | some fs => match fs[j]? with
        | some v => some (pc + len, lv, v :: r, h)
        | none => none
      | none => none
    | none => none
  | _ => none
def zputf (own idx len pc : Nat) (lv st : List Value) (h : zH) : zT4 := match st with
  | .int x :: .ref k :: r => match zlook (zfT own) idx with
    | some (ci, j, ty, _) => match zobj h k ci with
      | some fs => if (zfit ty x && decide (j < fs.length)) = true then some (pc + len, lv, r, h.set k (.inr (ci, fs.set j (.int x)))) else none
      | none => none
    | none => none
  | _ => none
def zial (tb : zTb) (len pc : Nat) (lv st : List Value) (h : zH) : zT4 := match st with
  | .int i :: .ref k :: r => match zrd tb h k with
    | some (n, f) => if zin i n = true then some (pc + len, lv, .int (f i.toNatClampNeg) :: r, h) else none
    | none => none
  | _ => none
def zbal (len pc : Nat) (lv st : List Value) (h : zH) : zT4 := match st with
  | .int i :: .ref k :: r => match zbar h k with
    | some (_, n, f) => if zin i n = true then some (pc + len, lv, .int (f i.toNatClampNeg) :: r, h) else none
    | none => none
  | _ => none
def zias (len pc : Nat) (lv st : List Value) (h : zH) : zT4 := match st with
  | .int x :: .int i :: .ref k :: r => match zarr h k 0 with
    | some (n, f) => if zin i n = true then some (pc + len, lv, r, h.set k (.inl (0, n, .inl (upd f i.toNatClampNeg x)))) else none
    | none => none
  | _ => none
def zbas (len pc : Nat) (lv st : List Value) (h : zH) : zT4 := match st with
  | .int x :: .int i :: .ref k :: r => match zbar h k with
    | some (t, n, f) => if zin i n = true then some (pc + len, lv, r, h.set k (.inl (t, n, .inl (upd f i.toNatClampNeg (zbn t x))))) else none
    | none => none
  | _ => none
def zstep (tb : zTb) (cal : zCal) (own : Nat) (i : zI) (len pc : Nat) (lv st : List Value) (h : zH) : zT4 := match i with
  | .iconst n => some (pc + len, lv, .int (zki n) :: st, h)
  | .bipush n => some (pc + len, lv, .int (zkb n) :: st, h)
  | .sipush n => some (pc + len, lv, .int (zks n) :: st, h)
  | .lconst n => some (pc + len, lv, .long (Int64.ofNat (n : Nat)) :: st, h)
  | .ldc2_w idx => match zlook (zlT own) idx with
    | some (v, _) => some (pc + len, lv, .long v :: st, h)
    | none => none
  | .iload_n k => zload k len pc lv st h
  | .iload k => zload k len pc lv st h
  | .lload_n k => zloadl k len pc lv st h
  | .aload_n k => zloada k len pc lv st h
  | .istore_n k => zstore k len pc lv st h
  | .istore k => zstore k len pc lv st h
  | .lstore_n k => zstorel k len pc lv st h
  | .iinc k n => match lv[k]? with
    | some (.int x) => match zst1 lv k (.int (x + zki n)) with
      | some lv' => some (pc + len, lv', st, h)
      | none => none
    | _ => none
  | .iadd => zbin (fun x y => x + y) len pc lv st h
  | .isub => zbin (fun x y => x - y) len pc lv st h
  | .imul => zbin (fun x y => x * y) len pc lv st h
  | .iand => zbin (fun x y => x &&& y) len pc lv st h
  | .ior => zbin (fun x y => x ||| y) len pc lv st h
  | .ixor => zbin (fun x y => x ^^^ y) len pc lv st h
  | .ishl => zbin (fun x y => x <<< (y &&& 31)) len pc lv st h
  | .ldiv => zbinl (fun x y => x / y) len pc lv st h
  | .lrem => zbinl (fun x y => x - x / y * y) len pc lv st h
  | .lneg => match st with
    | .long x :: r => some (pc + len, lv, .long (-x) :: r, h)
    | _ => none
  | .lcmp => match st with
    | .long y :: .long x :: r => some (pc + len, lv, .int (lg_cmp x y) :: r, h)
    | _ => none
  | .i2l => match st with
    | .int x :: r => some (pc + len, lv, .long x.toInt64 :: r, h)
    | _ => none
  | .l2i => match st with
    | .long x :: r => some (pc + len, lv, .int x.toInt32 :: r, h)
    | _ => none
  | .i2b => zun (fun x => x.toInt8.toInt32) len pc lv st h
  | .dup => match st with
    | v :: r => if zc2 v = true then none else some (pc + len, lv, v :: v :: r, h)
    | _ => none
  | .dup2 => match st with
    | v :: w :: r => if (zc2 v || zc2 w) = true then none else some (pc + len, lv, v :: w :: v :: w :: r, h)
    | _ => none
  | .pop => match st with
    | v :: r => if zc2 v = true then none else some (pc + len, lv, r, h)
    | _ => none
  | .goto off => some (zto pc off, lv, st, h)
  | .ifCond c off => match st with
    | .int x :: r => some (zcmp c x 0 (zto pc off) (pc + len), lv, r, h)
    | _ => none
  | .if_icmp c off => match st with
    | .int y :: .int x :: r => some (zcmp c x y (zto pc off) (pc + len), lv, r, h)
    | _ => none
  | .tableswitch d lo _ offs => match st with
    | .int x :: r => some (zsw pc (ztp lo offs.toList) d x, lv, r, h)
    | _ => none
  | .lookupswitch d ps => match st with
    | .int x :: r => some (zsw pc ps.toList d x, lv, r, h)
    | _ => none
  | .getfield idx => zgetf own idx len pc lv st h
  | .putfield idx => zputf own idx len pc lv st h
  | .getstatic idx => if (decide (own = 1) && decide (idx = 35)) = true then some (pc + len, lv, .ref 1000 :: st, h) else none
  | .iaload => zial tb len pc lv st h
  | .baload => zbal len pc lv st h
  | .iastore => zias len pc lv st h
  | .bastore => zbas len pc lv st h
  | .arraylength => match st with
    | .ref k :: r => match zlenA tb h k with
      | some n => some (pc + len, lv, .int (Int32.ofNat n) :: r, h)
      | none => none
    | _ => none
  | .invokevirtual idx => zinv cal own idx len pc lv st h
  | .invokestatic idx => zins cal own idx len pc lv st h
  | _ => none
/-- the method's end -/
def zend (rt : Nat) (i : zI) (st : List Value) : Option (Option Value) := match i with
  | .return_ => if (decide (rt = 0) && st.isEmpty) = true then some none else none
  | .ireturn => match st with
    | [.int v] => if rt = 1 then some (some (.int v)) else if rt = 2 then (if v &&& 1 = v then some (some (.int v)) else none) else none
    | _ => none
  | _ => none
def zex (tb : zTb) (cal : zCal) (own rt : Nat) (cd : zCd) : Nat → Nat → List Value → List Value → zH → zO
  | 0, _, _, _, _ => none
  | n + 1, pc, lv, st, h => match zfe cd pc with
    | none => none
    | some (i, len) => match zend rt i st with
      | some v => some (v, h)
      | none => match zstep tb cal own i len pc lv st h with
        | none => none
        | some (pc', lv', st', h') => zex tb cal own rt cd n pc' lv' st' h'
theorem zex_mono {tb : zTb} {cal : zCal} {own rt : Nat} {cd : zCd} : ∀ {n pc : Nat} {lv st : List Value} {h : zH} {r : Option Value × zH}, zex tb cal own rt cd n pc lv st h = some r → ∀ k, zex tb cal own rt cd (n + k) pc lv st h = some r := by
  intro n
  induction n with
  | zero => intro pc lv st h r q; cases q
  | succ n ih =>
    intro pc lv st h r q k
    rw [show n + 1 + k = (n + k) + 1 by omega]
    unfold zex at q ⊢
    cases h1 : zfe cd pc with
    | none => rw [h1] at q; cases q
    | some e =>
      obtain ⟨i, len⟩ := e
      rw [h1] at q
      simp only at q ⊢
      cases h2 : zend rt i st with
      | some v => rw [h2] at q; exact q
      | none =>
        rw [h2] at q
        simp only at q ⊢
        cases h3 : zstep tb cal own i len pc lv st h with
        | none => rw [h3] at q; cases q
        | some w =>
          obtain ⟨pc', lv', st', h'⟩ := w
          rw [h3] at q
          exact ih q k
/-- a run's answer, if it has one -/
noncomputable def zrun (f : Nat → zO) : zO := @dite _ (∃ n, ∃ r, f n = some r) (Classical.propDecidable _) (fun h => f (Classical.choose h)) (fun _ => none)
theorem zrun_ex {f : Nat → zO} {r : Option Value × zH} (h : zrun f = some r) : ∃ n, f n = some r := by
  unfold zrun at h
  split at h
  · exact ⟨_, h⟩
  · cases h
theorem zrun_of {f : Nat → zO} (hm : ∀ n r, f n = some r → ∀ k, f (n + k) = some r) {n : Nat} {r : Option Value × zH} (h : f n = some r) : zrun f = some r := by
  have hx : ∃ n, ∃ r, f n = some r := ⟨n, r, h⟩
  unfold zrun
  rw [dif_pos hx]
  obtain ⟨r', h'⟩ := Classical.choose_spec hx
  have a := hm n r h (Classical.choose hx)
  have b := hm (Classical.choose hx) r' h' n
  rw [Nat.add_comm] at b
  rw [h', ← b, a]
/-- the locals at a method's entry -/
def zent (av : List Value) (m : Nat) : List Value := av ++ List.replicate (m - av.length) (.retAddr 0)
def zavok (av : List Value) (m : Nat) : Bool := decide (av.length ≤ m) && av.all (fun v => !(zc2 v) && zkn v)
noncomputable def zcall (tb : zTb) : Nat → zCal
  | 0 => fun _ _ _ => none
  | d + 1 => fun q av h => match zMs[q]? with
    | some e => if zavok av e.1.2.2.1 = true then zrun (fun n => zex tb (zcall tb d) e.1.1 e.1.2.1 e.1.2.2.2 n 0 (zent av e.1.2.2.1) [] h) else none
    | none => none
theorem zcall_of {tb : zTb} {d q : Nat} {av : List Value} {h : zH} {e : zMe} {n : Nat} {r : Option Value × zH} (he : zMs[q]? = some e) (ha : zavok av e.1.2.2.1 = true) (hr : zex tb (zcall tb d) e.1.1 e.1.2.1 e.1.2.2.2 n 0 (zent av e.1.2.2.1) [] h = some r) : zcall tb (d + 1) q av h = some r := by
  show (match zMs[q]? with
    | some e => if zavok av e.1.2.2.1 = true then zrun (fun n => zex tb (zcall tb d) e.1.1 e.1.2.1 e.1.2.2.2 n 0 (zent av e.1.2.2.1) [] h) else none
    | none => none) = some r
  rw [he]
  show (if zavok av e.1.2.2.1 = true then _ else _) = _
  rw [if_pos ha]
  exact zrun_of (f := fun n => zex tb (zcall tb d) e.1.1 e.1.2.1 e.1.2.2.2 n 0 (zent av e.1.2.2.1) [] h) (fun n r q k => zex_mono q k) hr
theorem zcall_ex {tb : zTb} {d q : Nat} {av : List Value} {h : zH} {r : Option Value × zH} (hc : zcall tb (d + 1) q av h = some r) : ∃ e, zMs[q]? = some e ∧ zavok av e.1.2.2.1 = true ∧ ∃ n, zex tb (zcall tb d) e.1.1 e.1.2.1 e.1.2.2.2 n 0 (zent av e.1.2.2.1) [] h = some r := by
  have hc : (match zMs[q]? with
    | some e => if zavok av e.1.2.2.1 = true then zrun (fun n => zex tb (zcall tb d) e.1.1 e.1.2.1 e.1.2.2.2 n 0 (zent av e.1.2.2.1) [] h) else none
    | none => none) = some r := hc
  cases he : zMs[q]? with
  | none => rw [he] at hc; cases hc
  | some e =>
    rw [he] at hc
    have hc : (if zavok av e.1.2.2.1 = true then zrun (fun n => zex tb (zcall tb d) e.1.1 e.1.2.1 e.1.2.2.2 n 0 (zent av e.1.2.2.1) [] h) else none) = some r := hc
    by_cases ha : zavok av e.1.2.2.1 = true
    · rw [if_pos ha] at hc
      exact ⟨e, rfl, ha, zrun_ex hc⟩
    · rw [if_neg ha] at hc
      cases hc
/-! more callees, more answers -/
theorem zstep_cal {tb : zTb} {cal cal' : zCal} (hc : ∀ q av h r, cal q av h = some r → cal' q av h = some r) {own : Nat} {i : zI} {len pc : Nat} {lv st : List Value} {h : zH} {w : Nat × List Value × List Value × zH} (hz : zstep tb cal own i len pc lv st h = some w) : zstep tb cal' own i len pc lv st h = some w := by
  cases i
  case invokevirtual idx =>
    show zinv cal' own idx len pc lv st h = some w
    have hz : zinv cal own idx len pc lv st h = some w := hz
    unfold zinv at hz ⊢
    split at hz
    · split at hz
      · split at hz
        · split at hz
          · rename_i hk
            simp only [*] at hz ⊢
            unfold zback at hz ⊢
            split at hz
            · rename_i hv
              rw [hc _ _ _ _ hv]
              simpa using hz
            · cases hz
          · cases hz
        · cases hz
      · cases hz
    · cases hz
  case invokestatic idx =>
    show zins cal' own idx len pc lv st h = some w
    have hz : zins cal own idx len pc lv st h = some w := hz
    unfold zins at hz ⊢
    split at hz
    · simp only [*] at hz ⊢
    · split at hz
      · split at hz
        · simp only [*] at hz ⊢
          unfold zback at hz ⊢
          split at hz
          · rename_i hv
            rw [hc _ _ _ _ hv]
            simpa using hz
          · cases hz
        · cases hz
      · cases hz
  all_goals exact hz
theorem zex_cal {tb : zTb} {cal cal' : zCal} (hc : ∀ q av h r, cal q av h = some r → cal' q av h = some r) {own rt : Nat} {cd : zCd} : ∀ {n pc : Nat} {lv st : List Value} {h : zH} {r : Option Value × zH}, zex tb cal own rt cd n pc lv st h = some r → zex tb cal' own rt cd n pc lv st h = some r := by
  intro n
  induction n with
  | zero => intro pc lv st h r q; cases q
  | succ n ih =>
    intro pc lv st h r q
    unfold zex at q ⊢
    cases h1 : zfe cd pc with
    | none => rw [h1] at q; cases q
    | some e =>
      obtain ⟨i, len⟩ := e
      rw [h1] at q
      simp only at q ⊢
      cases h2 : zend rt i st with
      | some v => rw [h2] at q; exact q
      | none =>
        rw [h2] at q
        simp only at q ⊢
        cases h3 : zstep tb cal own i len pc lv st h with
        | none => rw [h3] at q; cases q
        | some w =>
          rw [zstep_cal hc h3]
          obtain ⟨pc', lv', st', h'⟩ := w
          rw [h3] at q
          exact ih q
theorem zcall_s {tb : zTb} : ∀ (d : Nat) {q : Nat} {av : List Value} {h : zH} {r : Option Value × zH}, zcall tb d q av h = some r → zcall tb (d + 1) q av h = some r := by
  intro d
  induction d with
  | zero => intro q av h r hc; cases hc
  | succ d ih =>
    intro q av h r hc
    obtain ⟨e, he, ha, n, hn⟩ := zcall_ex hc
    exact zcall_of he ha (zex_cal (fun _ _ _ _ z => ih z) hn)
theorem zcall_le {tb : zTb} {d d' q : Nat} {av : List Value} {h : zH} {r : Option Value × zH} (hc : zcall tb d q av h = some r) (hd : d ≤ d') : zcall tb d' q av h = some r := by
  obtain ⟨k, rfl⟩ := Nat.exists_eq_add_of_le hd
  induction k with
  | zero => exact hc
  | succ k ih => exact zcall_s (d + k) (ih (by omega))
end
section
/-! WHAT THE SMALL MACHINE ANSWERS, THE JAVA MACHINE ANSWERS. -/
def zv (a : Nat → Nat) : Value → Value
  | .ref k => .ref (a k)
  | v => v
def zce (a : Nat → Nat) (cA : Nat → ClassId) : zE → va_E
  | .inl x => .inl (cA x.1, x.2)
  | .inr o => .inr (o.1, o.2.map (zv a))
def zw (a : Nat → Nat) (cA : Nat → ClassId) (h : zH) : va_W := h.mapIdx (fun k e => (a k, zce a cA e))
def zty (cA : Nat → ClassId) : List (ClassId × FieldType) := [(cA 0, .int), (cA 1, .boolean), (cA 2, .byte)]
theorem zw_at {a : Nat → Nat} {cA : Nat → ClassId} {h : zH} {k : Nat} {e : zE} (hk : h[k]? = some e) : (zw a cA h)[k]? = some (a k, zce a cA e) := by
  simp [zw, hk]
theorem zw_set {a : Nat → Nat} {cA : Nat → ClassId} {h : zH} {k : Nat} {e : zE} : zw a cA (h.set k e) = (zw a cA h).set k (a k, zce a cA e) := by
  apply List.ext_getElem?
  intro i
  simp only [zw, List.getElem?_mapIdx, List.getElem?_set, List.length_mapIdx]
  by_cases hi : k = i
  · subst hi
    by_cases hl : k < h.length
    · simp [hl]
    · simp [hl]
  · simp [hi]
theorem zv_cat (a : Nat → Nat) (v : Value) : (zv a v).category = v.category := by cases v <;> rfl
theorem zc2_cat {v : Value} (h : zc2 v = false) : v.category = 1 := by cases v <;> first | rfl | cases h
theorem zsum_map (a : Nat → Nat) (l : List Value) : ((l.map (zv a)).map fun v => v.category).sum = zsum l := by
  unfold zsum
  rw [List.map_map]
  congr 1
  apply List.map_congr_left
  intro v _
  exact zv_cat a v
/-- the locals hold what is known of them -/
def zls (a : Nat → Nat) (ls : Array Slot) (lv : List Value) : Prop := ls.size = lv.length ∧ lv_wf ls ∧ ∀ (i : Nat) (v : Value), lv[i]? = some v → zkn v = true → ls[i]? = some (.val (zv a v))
def zkl (a : Nat → Nat) (lv : List Value) : List (Nat × Value) := (lv.mapIdx (fun i v => (i, v))).filterMap (fun q => if zkn q.2 = true then some (q.1, zv a q.2) else none)
theorem zkl_mem {a : Nat → Nat} {lv : List Value} {q : Nat × Value} : q ∈ zkl a lv ↔ ∃ v, lv[q.1]? = some v ∧ zkn v = true ∧ q.2 = zv a v := by
  unfold zkl
  rw [List.mem_filterMap]
  constructor
  · rintro ⟨x, hx, hq⟩
    obtain ⟨i, hi⟩ := List.getElem?_of_mem hx
    rw [List.getElem?_mapIdx] at hi
    cases hv : lv[i]? with
    | none => rw [hv] at hi; cases hi
    | some v =>
      rw [hv] at hi
      cases hi
      by_cases hk : zkn v = true
      · rw [if_pos hk] at hq
        cases hq
        exact ⟨v, hv, hk, rfl⟩
      · rw [if_neg hk] at hq
        cases hq
  · rintro ⟨v, hv, hk, hq⟩
    refine ⟨(q.1, v), ?_, ?_⟩
    · apply List.mem_of_getElem? (i := q.1)
      rw [List.getElem?_mapIdx, hv]
      rfl
    · simp only [hk, if_true]
      rw [← hq]
theorem zls_has {a : Nat → Nat} {ls : Array Slot} {lv : List Value} (h : zls a ls lv) : lv_has ls lv.length (zkl a lv) :=
  ⟨h.1, h.2.1, fun q hq => by
    obtain ⟨v, h1, h2, h3⟩ := zkl_mem.mp hq
    rw [h.2.2 q.1 v h1 h2, h3]⟩
theorem zls_st1 {a : Nat → Nat} {ls : Array Slot} {lv lv' : List Value} {i : Nat} {v : Value} (hz : zst1 lv i v = some lv') (h : lv_has ls lv.length ((i, zv a v) :: (zkl a lv).filter (fun q => !(q.1 == i) && !(q.1 + 1 == i && q.2.category == 2)))) : zls a ls lv' ∧ lv'.length = lv.length := by
  unfold zst1 at hz
  by_cases hc : (zfree lv i && decide (i < lv.length)) = true
  · rw [if_pos hc] at hz
    cases hz
    simp only [Bool.and_eq_true, decide_eq_true_eq] at hc
    refine ⟨⟨by rw [List.length_set]; exact h.1, h.2.1, fun j w hj hw => ?_⟩, List.length_set⟩
    by_cases hji : i = j
    · subst hji
      rw [List.getElem?_set_self hc.2] at hj
      cases hj
      exact h.2.2 _ List.mem_cons_self
    · rw [List.getElem?_set_ne hji] at hj
      have hm : (j, zv a w) ∈ zkl a lv := zkl_mem.mpr ⟨w, hj, hw, rfl⟩
      refine h.2.2 (j, zv a w) (List.mem_cons_of_mem _ (List.mem_filter.mpr ⟨hm, ?_⟩))
      simp only [Bool.and_eq_true, Bool.not_eq_true', beq_eq_false_iff_ne, ne_eq, Bool.and_eq_false_iff]
      refine ⟨fun q => hji q.symm, ?_⟩
      by_cases hj1 : j + 1 = i
      · right
        subst hj1
        have hf := hc.1
        simp only [zfree, hj, Bool.not_eq_true'] at hf
        rw [zv_cat, zc2_cat hf]
        decide
      · left
        exact hj1
  · rw [if_neg hc] at hz
    cases hz
theorem zls_st2 {a : Nat → Nat} {ls : Array Slot} {lv lv' : List Value} {i : Nat} {v : Value} (hz : zst2 lv i v = some lv') (h : lv_has ls lv.length ((i, zv a v) :: (zkl a lv).filter (fun q => !(q.1 == i) && (!(q.1 == i + 1) && !(q.1 + 1 == i && q.2.category == 2))))) : zls a ls lv' ∧ lv'.length = lv.length := by
  unfold zst2 at hz
  by_cases hc : (zfree lv i && decide (i + 1 < lv.length)) = true
  · rw [if_pos hc] at hz
    cases hz
    simp only [Bool.and_eq_true, decide_eq_true_eq] at hc
    refine ⟨⟨by rw [List.length_set, List.length_set]; exact h.1, h.2.1, fun j w hj hw => ?_⟩, by rw [List.length_set, List.length_set]⟩
    by_cases hj2 : i + 1 = j
    · subst hj2
      rw [List.getElem?_set_self (by rw [List.length_set]; exact hc.2)] at hj
      cases hj
      cases hw
    · rw [List.getElem?_set_ne hj2] at hj
      by_cases hji : i = j
      · subst hji
        rw [List.getElem?_set_self (by omega)] at hj
        cases hj
        exact h.2.2 _ List.mem_cons_self
      · rw [List.getElem?_set_ne hji] at hj
        have hm : (j, zv a w) ∈ zkl a lv := zkl_mem.mpr ⟨w, hj, hw, rfl⟩
        refine h.2.2 (j, zv a w) (List.mem_cons_of_mem _ (List.mem_filter.mpr ⟨hm, ?_⟩))
        simp only [Bool.and_eq_true, Bool.not_eq_true', beq_eq_false_iff_ne, ne_eq, Bool.and_eq_false_iff]
        refine ⟨fun q => hji q.symm, fun q => hj2 q.symm, ?_⟩
        by_cases hj1 : j + 1 = i
        · right
          subst hj1
          have hf := hc.1
          simp only [zfree, hj, Bool.not_eq_true'] at hf
          rw [zv_cat, zc2_cat hf]
          decide
        · left
          exact hj1
  · rw [if_neg hc] at hz
    cases hz
theorem zst1_lt {lv lv' : List Value} {i : Nat} {v : Value} (hz : zst1 lv i v = some lv') : i < lv.length := by
  unfold zst1 at hz
  by_cases hc : (zfree lv i && decide (i < lv.length)) = true
  · simp only [Bool.and_eq_true, decide_eq_true_eq] at hc
    exact hc.2
  · rw [if_neg hc] at hz; cases hz
theorem zst2_lt {lv lv' : List Value} {i : Nat} {v : Value} (hz : zst2 lv i v = some lv') : i + 1 < lv.length := by
  unfold zst2 at hz
  by_cases hc : (zfree lv i && decide (i + 1 < lv.length)) = true
  · simp only [Bool.and_eq_true, decide_eq_true_eq] at hc
    exact hc.2
  · rw [if_neg hc] at hz; cases hz
end
section
/-! Step by step. -/
/-- what holds of the tables throughout: the classes, the tables that nobody writes, the one static field, the one link across the nest -/
def zG (D : va_G) (a : Nat → Nat) (cA : Nat → ClassId) (tb : zTb) (A : Nat → Prop) (U : State) (H : Heap) : Prop :=
  va_K D vwCl (zty cA) U ∧ (∀ (t n : Nat) (f : Nat → Int32), tb t = some (n, f) → va_T .int (a (1000 + t)) n (fun j => .int (f j)) A U H) ∧ va_Z RX5 "FITTING_TARGETS" "[I" (.ref (a 1000)) A U H ∧ va_Nw (.fieldLinkNest RX1 35 RX5 "FITTING_TARGETS" "[I" RX5) U
def zIv (D : va_G) (a : Nat → Nat) (cA : Nat → ClassId) (A : Nat → Prop) (s : State) (h : zH) (H : Heap) (locs : List Loc) : Prop := va_P D vwCl (zw a cA h) H ∧ va_D A (zw a cA h) ∧ va_S A s.heap H locs
/-- the ground on which a body is walked -/
def zCx (p : Program) (R : Room) (s : State) (m : MethodId) (args : Array Value) (c : Code) (cells slots : Nat) (D : va_G) (a : Nat → Nat) (cA : Nat → ClassId) (tb : zTb) (A : Nat → Prop) (own d nL : Nat) (cc : ByteArray) : Prop :=
  p.tables.exec = Jvm.exec ∧ c.code = cc ∧ c.maxLocals = nL ∧ s.vm.findClass (zR own) = some m.cls ∧ (∀ w ∈ wsL_law, w.before args s = true) ∧ (∀ q : Nat, s.heap.size ≤ q → A q) ∧ zG D a cA tb A s s.heap ∧ (cells ≤ R.cells ∧ slots ≤ R.slots) ∧ d + 1 ≤ R.frames ∧ 40 * (d + 1) ≤ R.locals
theorem zcls_in {ci : Nat} {q : vw_C} (h : vwCl[ci]? = some q) : ∀ w ∈ u_ws q.1 q.2.1 q.2.2, w ∈ wsL_law := by
  match ci, h with
  | 0, h => cases h; exact inlX0
  | 1, h => cases h; exact inlX1
  | 2, h => cases h; exact inlX2
  | 3, h => cases h; exact inlX3
  | 4, h => cases h; exact inlX4
  | 5, h => cases h; exact inlX5
  | 6, h => cases h; exact inlX6
  | n + 7, h => simp [vwCl] at h
theorem zcls_ty {ci : Nat} {q : vw_C} (h : vwCl[ci]? = some q) : ∃ ty : Nat → FieldType, (∀ k, k < q.2.2 → parseFieldDescriptor (q.2.1 k).2.2.1 = some (ty k)) ∧ ∀ a, a < q.2.2 → ∀ b, b < q.2.2 → a ≠ b → (q.2.1 a).2.1 ≠ (q.2.1 b).2.1 := by
  match ci, h with
  | 0, h => cases h; exact ⟨tyX0, tyX0_ok, nmX0⟩
  | 1, h => cases h; exact ⟨tyX1, tyX1_ok, nmX1⟩
  | 2, h => cases h; exact ⟨tyX2, tyX2_ok, nmX2⟩
  | 3, h => cases h; exact ⟨tyX3, tyX3_ok, nmX3⟩
  | 4, h => cases h; exact ⟨tyX4, tyX4_ok, nmX4⟩
  | 5, h => cases h; exact ⟨tyX5, tyX5_ok, nmX5⟩
  | 6, h => cases h; exact ⟨tyX6, tyX6_ok, nmX6⟩
  | n + 7, h => simp [vwCl] at h
theorem zcls_R {ci : Nat} (hc : ci < 7) : ∃ q : vw_C, vwCl[ci]? = some q ∧ q.1 = zR ci := by
  match ci, hc with
  | 0, _ => exact ⟨_, rfl, rfl⟩
  | 1, _ => exact ⟨_, rfl, rfl⟩
  | 2, _ => exact ⟨_, rfl, rfl⟩
  | 3, _ => exact ⟨_, rfl, rfl⟩
  | 4, _ => exact ⟨_, rfl, rfl⟩
  | 5, _ => exact ⟨_, rfl, rfl⟩
  | 6, _ => exact ⟨_, rfl, rfl⟩
/-- a contract: the method with these arguments on this heap gives r and leaves h' -/
def zPre (D : va_G) (a : Nat → Nat) (cA : Nat → ClassId) (tb : zTb) (av : List Value) (h : zH) (sz : Nat) : Array Value → State → Prop :=
  va_Pc (av.map (zv a)) (fun U => U.heap.size = sz ∧ va_P D vwCl (zw a cA h) U.heap ∧ va_D (fun _ => True) (zw a cA h) ∧ zG D a cA tb (va_A (zw a cA h) sz) U U.heap)
def zPost (D : va_G) (a : Nat → Nat) (cA : Nat → ClassId) (h : zH) (sz : Nat) (r : Option Value) (h' : zH) : Array Value → State → Outcome → State → Prop := fun _ st oc t =>
  (oc = .returned (r.map (zv a)) ∧ va_P D vwCl (zw a cA h') t.heap ∧ va_D (va_A (zw a cA h) sz) (zw a cA h')) ∧ va_F (va_A (zw a cA h) sz) st t
def zws (e : zMe) : List Cond := .code e.2.1 e.2.2.1 e.1.2.2.1 e.2.2.2 :: wsL_law
def zrm (d : Nat) : Room := { frames := d, cells := 0, slots := 0, locals := 40 * d }
def zCon (l : Launch) (tb : zTb) (d q : Nat) (av : List Value) (h : zH) (r : Option Value) (h' : zH) : Prop :=
  ∀ e, zMs[q]? = some e → ∀ (D : va_G) (a : Nat → Nat) (cA : Nat → ClassId) (sz : Nat), Met l e.2.1 (zws e) (zrm d) (zPre D a cA tb av h sz) (zPost D a cA h sz r h') 0 0 (va_A (zw a cA h) sz)
theorem zG_moved {D : va_G} {a : Nat → Nat} {cA : Nat → ClassId} {tb : zTb} {A B : Nat → Prop} {u U : State} {H H1 : Heap} (hW : u.WarmedH U.vm) (hq : ∀ x : Nat, x < H.size → ¬ A x → H1[x]? = H[x]?) (hAB : ∀ x, B x → A x) (h : zG D a cA tb A u H) : zG D a cA tb B U H1 :=
  ⟨va_K.moved hW.alike h.1, fun t n f ht => (((h.2.1 t n f ht).moved hW.alike).kept hq).narrow hAB, ((h.2.2.1.moved hW.alike).kept hq).narrow hAB, va_Nw.warmF hW h.2.2.2⟩
theorem zPre_blind {D : va_G} {a : Nat → Nat} {cA : Nat → ClassId} {tb : zTb} {av : List Value} {h : zH} {sz : Nat} : FrameBlind (zPre D a cA tb av h sz) := by
  intro b U g mk q
  obtain ⟨q0, q1, q2, q3, q4, q5, q6, q7⟩ := q
  exact ⟨q0, q1, q2, q3, va_K.moved (u := U) (U := U.calling g mk b) (Vm.Alike.refl U.vm) q4, fun t n f ht => (q5 t n f ht).moved (u := U) (U := U.calling g mk b) (Vm.Alike.refl U.vm), q6.moved (u := U) (U := U.calling g mk b) (Vm.Alike.refl U.vm), va_Nw.same rfl (u := U) (U := U.calling g mk b) rfl q7⟩
theorem zgoodIn {ws : List Cond} (h : ∀ w ∈ ws, w ∈ wsL_law) : GoodIn wsL_law ws := fun w hw => ⟨h w hw, (zT_good w (h w hw)).2⟩
section ZS
variable {p : Program} {l : Launch} {e : Env} {R : Room} {s : State} {m : MethodId} {args : Array Value} {below : List Frame} {meth : Method} {c : Code} {H : Heap} {locs : List Loc} {cells slots : Nat} {Q : State → Prop}
variable {D : va_G} {a : Nat → Nat} {cA : Nat → ClassId} {tb : zTb} {A : Nat → Prop} {own d nL : Nat} {cc : ByteArray} {ls : Array Slot} {lv st : List Value} {h : zH}
theorem za_call {pc sz : Nat} {st0 rest : List Value} {r : Option Value} {h' : zH} {av : Array Value} {free : Nat → Prop} (hr : va_Run p l e R s m args below meth c H locs cells slots 0 0 (F0 m pc ls st0) rest (zPost D a cA h sz r h' av) free) (hS : va_S A s.heap H locs) (hF : ∀ q, va_A (zw a cA h) sz q → A q) (hf : ∀ q, free q → A q)
    (kk : ∀ (H1 : Heap) (locs1 : List Loc), zIv D a cA A s h' H1 locs1 → W p l e R s m args below meth c H1 locs1 cells slots Q (F0 m (pc + 3) ls ((r.map (zv a)).toList ++ rest))) : W p l e R s m args below meth c H locs cells slots Q (F0 m pc ls st0) := by
  intro T hT X
  obtain ⟨v, st₀, t, T', L, h0, X', hL, e1, e2, ⟨⟨hv, hp, hd⟩, hz, hk⟩, st⟩ := hr T hT X
  cases hv
  rw [h0] at hz hk
  obtain ⟨t2, a1, b1⟩ := kk T'.heap (locs ++ L) ⟨by rw [e1]; exact hp, hd.weaken (fun _ _ _ z => hF _ z), Nat.le_trans hS.1 (by rw [e1]; exact hz), fun q h1 h2 => by rw [e1, hk q (Nat.lt_of_lt_of_le h1 hS.1) (fun z => h2 (hF q z))]; exact hS.2.1 q h1 h2, fun q hq => by
      rcases List.mem_append.mp hq with h | h
      · exact hS.2.2 q h
      · exact hf _ (hL q h)⟩ T' rfl X'
  exact ⟨t2, st t2 a1, b1⟩
theorem za_free (hI : zIv D a cA A s h H locs) (hA : ∀ q : Nat, s.heap.size ≤ q → A q) : ∀ q, va_A (zw a cA h) H.size q → A q := by
  intro q hq
  rcases hq with ⟨k, x, hk⟩ | hq
  · exact hI.2.1.2 k (q, x) hk
  · exact hA q (Nat.le_trans hI.2.2.1 hq)
theorem za_pre {av : List Value} (C0 : zCx p R s m args c cells slots D a cA tb A own d nL cc) (hI : zIv D a cA A s h H locs) : ∀ U : State, U.heap = H → s.WarmedH U.vm → zPre D a cA tb av h H.size (av.map (zv a)).toArray U := by
  obtain ⟨-, -, -, -, -, hA, hg, -⟩ := C0
  intro U hU hW
  refine ⟨rfl, by rw [hU], by rw [hU]; exact hI.1, hI.2.1.weaken (fun _ _ _ _ => trivial), ?_⟩
  rw [hU]
  exact zG_moved hW (fun x h1 h2 => hI.2.2.2.1 x h1 h2) (za_free hI hA) hg
end ZS
end
section
/-! One step. -/
theorem zload_ok {i len pc pc' : Nat} {lv st lv' st' : List Value} {h h' : zH} (q : zload i len pc lv st h = some (pc', lv', st', h')) : ∃ x, lv[i]? = some (.int x) ∧ pc' = pc + len ∧ lv' = lv ∧ st' = .int x :: st ∧ h' = h := by
  unfold zload at q
  split at q
  · cases q; exact ⟨_, by assumption, rfl, rfl, rfl, rfl⟩
  · cases q
theorem zloadl_ok {i len pc pc' : Nat} {lv st lv' st' : List Value} {h h' : zH} (q : zloadl i len pc lv st h = some (pc', lv', st', h')) : ∃ x, lv[i]? = some (.long x) ∧ pc' = pc + len ∧ lv' = lv ∧ st' = .long x :: st ∧ h' = h := by
  unfold zloadl at q
  split at q
  · cases q; exact ⟨_, by assumption, rfl, rfl, rfl, rfl⟩
  · cases q
theorem zloada_ok {i len pc pc' : Nat} {lv st lv' st' : List Value} {h h' : zH} (q : zloada i len pc lv st h = some (pc', lv', st', h')) : ∃ x, lv[i]? = some (.ref x) ∧ pc' = pc + len ∧ lv' = lv ∧ st' = .ref x :: st ∧ h' = h := by
  unfold zloada at q
  split at q
  · cases q; exact ⟨_, by assumption, rfl, rfl, rfl, rfl⟩
  · cases q
theorem zstore_ok {i len pc pc' : Nat} {lv st lv' st' : List Value} {h h' : zH} (q : zstore i len pc lv st h = some (pc', lv', st', h')) : ∃ x, st = .int x :: st' ∧ zst1 lv i (.int x) = some lv' ∧ pc' = pc + len ∧ h' = h := by
  unfold zstore at q
  split at q
  · obtain ⟨w, h1, h2⟩ := Option.bind_eq_some_iff.mp q
    cases h2; exact ⟨_, rfl, h1, rfl, rfl⟩
  · cases q
theorem zstorel_ok {i len pc pc' : Nat} {lv st lv' st' : List Value} {h h' : zH} (q : zstorel i len pc lv st h = some (pc', lv', st', h')) : ∃ x, st = .long x :: st' ∧ zst2 lv i (.long x) = some lv' ∧ pc' = pc + len ∧ h' = h := by
  unfold zstorel at q
  split at q
  · obtain ⟨w, h1, h2⟩ := Option.bind_eq_some_iff.mp q
    cases h2; exact ⟨_, rfl, h1, rfl, rfl⟩
  · cases q
theorem zbin_ok {f : Int32 → Int32 → Int32} {len pc pc' : Nat} {lv st lv' st' : List Value} {h h' : zH} (q : zbin f len pc lv st h = some (pc', lv', st', h')) : ∃ x y r, st = .int y :: .int x :: r ∧ pc' = pc + len ∧ lv' = lv ∧ st' = .int (f x y) :: r ∧ h' = h := by
  unfold zbin at q
  split at q
  · cases q; exact ⟨_, _, _, rfl, rfl, rfl, rfl, rfl⟩
  · cases q
theorem zun_ok {f : Int32 → Int32} {len pc pc' : Nat} {lv st lv' st' : List Value} {h h' : zH} (q : zun f len pc lv st h = some (pc', lv', st', h')) : ∃ x r, st = .int x :: r ∧ pc' = pc + len ∧ lv' = lv ∧ st' = .int (f x) :: r ∧ h' = h := by
  unfold zun at q
  split at q
  · cases q; exact ⟨_, _, rfl, rfl, rfl, rfl, rfl⟩
  · cases q
theorem zbinl_ok {f : Int64 → Int64 → Int64} {len pc pc' : Nat} {lv st lv' st' : List Value} {h h' : zH} (q : zbinl f len pc lv st h = some (pc', lv', st', h')) : ∃ x y r, st = .long y :: .long x :: r ∧ ¬ y = 0 ∧ pc' = pc + len ∧ lv' = lv ∧ st' = .long (f x y) :: r ∧ h' = h := by
  unfold zbinl at q
  split at q
  · split at q
    · cases q
    · cases q; exact ⟨_, _, _, rfl, by assumption, rfl, rfl, rfl, rfl⟩
  · cases q
theorem zgetf_ok {own idx len pc pc' : Nat} {lv st lv' st' : List Value} {h h' : zH} (q : zgetf own idx len pc lv st h = some (pc', lv', st', h')) : ∃ k r ci j x fs v, st = .ref k :: r ∧ zlook (zfT own) idx = some (ci, j, x) ∧ zobj h k ci = some fs ∧ fs[j]? = some v ∧ pc' = pc + len ∧ lv' = lv ∧ st' = v :: r ∧ h' = h := by
  unfold zgetf at q
  split at q
  · split at q
    · split at q
      · split at q
        · cases q; exact ⟨_, _, _, _, _, _, _, rfl, by assumption, by assumption, by assumption, rfl, rfl, rfl, rfl⟩
        · cases q
      · cases q
    · cases q
  · cases q
theorem zputf_ok {own idx len pc pc' : Nat} {lv st lv' st' : List Value} {h h' : zH} (q : zputf own idx len pc lv st h = some (pc', lv', st', h')) : ∃ x k ci j ty y fs, st = .int x :: .ref k :: st' ∧ zlook (zfT own) idx = some (ci, j, ty, y) ∧ zobj h k ci = some fs ∧ zfit ty x = true ∧ j < fs.length ∧ pc' = pc + len ∧ lv' = lv ∧ h' = h.set k (.inr (ci, fs.set j (.int x))) := by
  unfold zputf at q
  split at q
  · split at q
    · split at q
      · split at q
        · rename_i hc
          simp only [Bool.and_eq_true, decide_eq_true_eq] at hc
          cases q; exact ⟨_, _, _, _, _, _, _, rfl, by assumption, by assumption, hc.1, hc.2, rfl, rfl, rfl⟩
        · cases q
      · cases q
    · cases q
  · cases q
theorem zial_ok {tb : zTb} {len pc pc' : Nat} {lv st lv' st' : List Value} {h h' : zH} (q : zial tb len pc lv st h = some (pc', lv', st', h')) : ∃ i k r n f, st = .int i :: .ref k :: r ∧ zrd tb h k = some (n, f) ∧ zin i n = true ∧ pc' = pc + len ∧ lv' = lv ∧ st' = .int (f i.toNatClampNeg) :: r ∧ h' = h := by
  unfold zial at q
  split at q
  · split at q
    · split at q
      · cases q; exact ⟨_, _, _, _, _, rfl, by assumption, by assumption, rfl, rfl, rfl, rfl⟩
      · cases q
    · cases q
  · cases q
theorem zbal_ok {len pc pc' : Nat} {lv st lv' st' : List Value} {h h' : zH} (q : zbal len pc lv st h = some (pc', lv', st', h')) : ∃ i k r t n f, st = .int i :: .ref k :: r ∧ zbar h k = some (t, n, f) ∧ zin i n = true ∧ pc' = pc + len ∧ lv' = lv ∧ st' = .int (f i.toNatClampNeg) :: r ∧ h' = h := by
  unfold zbal at q
  split at q
  · split at q
    · split at q
      · cases q; exact ⟨_, _, _, _, _, _, rfl, by assumption, by assumption, rfl, rfl, rfl, rfl⟩
      · cases q
    · cases q
  · cases q
theorem zias_ok {len pc pc' : Nat} {lv st lv' st' : List Value} {h h' : zH} (q : zias len pc lv st h = some (pc', lv', st', h')) : ∃ x i k n f, st = .int x :: .int i :: .ref k :: st' ∧ zarr h k 0 = some (n, f) ∧ zin i n = true ∧ pc' = pc + len ∧ lv' = lv ∧ h' = h.set k (.inl (0, n, .inl (upd f i.toNatClampNeg x))) := by
  unfold zias at q
  split at q
  · split at q
    · split at q
      · cases q; exact ⟨_, _, _, _, _, rfl, by assumption, by assumption, rfl, rfl, rfl⟩
      · cases q
    · cases q
  · cases q
theorem zbas_ok {len pc pc' : Nat} {lv st lv' st' : List Value} {h h' : zH} (q : zbas len pc lv st h = some (pc', lv', st', h')) : ∃ x i k t n f, st = .int x :: .int i :: .ref k :: st' ∧ zbar h k = some (t, n, f) ∧ zin i n = true ∧ pc' = pc + len ∧ lv' = lv ∧ h' = h.set k (.inl (t, n, .inl (upd f i.toNatClampNeg (zbn t x)))) := by
  unfold zbas at q
  split at q
  · split at q
    · split at q
      · cases q; exact ⟨_, _, _, _, _, _, rfl, by assumption, by assumption, rfl, rfl, rfl⟩
      · cases q
    · cases q
  · cases q
theorem zbar_ok {h : zH} {k t n : Nat} {f : Nat → Int32} (q : zbar h k = some (t, n, f)) : (t = 1 ∧ zarr h k 1 = some (n, f)) ∨ (t = 2 ∧ zarr h k 2 = some (n, f)) := by
  unfold zbar at q
  cases h1 : zarr h k 1 with
  | some nf => rw [h1] at q; cases q; exact Or.inl ⟨rfl, rfl⟩
  | none =>
    rw [h1] at q
    cases h2 : zarr h k 2 with
    | some nf => rw [h2] at q; cases q; exact Or.inr ⟨rfl, rfl⟩
    | none => rw [h2] at q; cases q
theorem zback_ok {pc pc' : Nat} {lv r lv' st' : List Value} {o : zO} {h' : zH} (q : zback pc lv r o = some (pc', lv', st', h')) : ∃ v, o = some (v, h') ∧ pc' = pc ∧ lv' = lv ∧ st' = v.toList ++ r := by
  unfold zback at q
  split at q
  · cases q; exact ⟨_, rfl, rfl, rfl, rfl⟩
  · cases q
theorem zinv_ok {cal : zCal} {own idx len pc pc' : Nat} {lv st lv' st' : List Value} {h h' : zH} (q : zinv cal own idx len pc lv st h = some (pc', lv', st', h')) : ∃ m n ci x k r fs v, zlook (zvT own) idx = some (m, n, ci, x) ∧ st.drop n = .ref k :: r ∧ zobj h k ci = some fs ∧ (st.take n).length = n ∧ zsum r ≤ 8 ∧ cal m (.ref k :: (st.take n).reverse) h = some (v, h') ∧ pc' = pc + len ∧ lv' = lv ∧ st' = v.toList ++ r := by
  unfold zinv at q
  split at q
  · split at q
    · split at q
      · split at q
        · rename_i hc
          simp only [Bool.and_eq_true, decide_eq_true_eq] at hc
          obtain ⟨v, h1, h2, h3, h4⟩ := zback_ok q
          exact ⟨_, _, _, _, _, _, _, v, by assumption, by assumption, by assumption, hc.1.1, hc.1.2, h1, h2, h3, h4⟩
        · cases q
      · cases q
    · cases q
  · cases q
theorem zins_ok {cal : zCal} {own idx len pc pc' : Nat} {lv st lv' st' : List Value} {h h' : zH} (q : zins cal own idx len pc lv st h = some (pc', lv', st', h')) : (∃ x y r, zlook (zaT own) idx = some y ∧ st = .long x :: r ∧ zsum r ≤ 8 ∧ pc' = pc + len ∧ lv' = lv ∧ st' = .long (if 0 < x then x else -x) :: r ∧ h' = h) ∨ ∃ m n x v, zlook (zsT own) idx = some (m, n, x) ∧ (st.take n).length = n ∧ zsum (st.drop n) ≤ 8 ∧ cal m ((st.take n).reverse) h = some (v, h') ∧ pc' = pc + len ∧ lv' = lv ∧ st' = v.toList ++ st.drop n := by
  unfold zins at q
  split at q
  · split at q
    · split at q
      · rename_i hc
        simp only [decide_eq_true_eq] at hc
        cases q
        exact Or.inl ⟨_, _, _, by assumption, rfl, hc, rfl, rfl, rfl, rfl⟩
      · cases q
    · cases q
  · split at q
    · split at q
      · rename_i hc
        simp only [Bool.and_eq_true, decide_eq_true_eq] at hc
        obtain ⟨v, h1, h2, h3, h4⟩ := zback_ok q
        exact Or.inr ⟨_, _, _, v, by assumption, hc.1, hc.2, h1, h2, h3, h4⟩
      · cases q
    · cases q
theorem zkl_at {a : Nat → Nat} {ls : Array Slot} {lv : List Value} {i : Nat} {v : Value} (hl : zls a ls lv) (hv : lv[i]? = some v) (hk : zkn v = true) : ls[i]? = some (.val (zv a v)) := hl.2.2 i v hv hk
theorem zcmp_t {c : Jvm.ClassFile.Cond} {x y : Int32} {t f : Nat} : zcmp c x y t f = t ∨ zcmp c x y t f = f := by
  cases c <;> simp only [zcmp] <;> split <;> simp
end
section
section ZT
variable {p : Program} {l : Launch} {e : Env} {R : Room} {s : State} {m : MethodId} {args : Array Value} {below : List Frame} {meth : Method} {c : Code} {H : Heap} {locs : List Loc} {cells slots : Nat} {Q : State → Prop}
variable {D : va_G} {a : Nat → Nat} {cA : Nat → ClassId} {tb : zTb} {A : Nat → Prop} {own d nL : Nat} {cc : ByteArray} {ls : Array Slot} {lv st : List Value} {h : zH}
theorem zcmp_W {cd : Jvm.ClassFile.Cond} {off : Int} {pc : Nat} {x y : Int32} {rest : List Value} (hx : p.tables.exec = Jvm.exec) (hb : c.code = cc) (hd : decode cc pc = .ok (.if_icmp cd off, 3)) (ht : ztok pc off = true)
    (k : W p l e R s m args below meth c H locs cells slots Q (F0 m (zcmp cd x y (zto pc off) (pc + 3)) ls rest)) : W p l e R s m args below meth c H locs cells slots Q (F0 m pc ls (.int y :: .int x :: rest)) := by
  have h0 := zto_ok ht
  cases cd with
  | eq => exact lv_icmp_eq hx hb hd h0 (fun q => by simpa only [zcmp, if_pos q] using k) (fun q => by simpa only [zcmp, if_neg q] using k)
  | ne => exact lv_icmp_ne hx hb hd h0 (fun q => by simpa only [zcmp, if_neg q] using k) (fun q => by simpa only [zcmp, if_pos q] using k)
  | lt => exact lv_icmp_lt hx hb hd h0 (fun q => by simpa only [zcmp, if_pos q] using k) (fun q => by simpa only [zcmp, if_neg q] using k)
  | ge => exact lv_icmp_ge hx hb hd h0 (fun q => by simpa only [zcmp, if_neg (Int32.not_lt.mpr q)] using k) (fun q => by simpa only [zcmp, if_pos (Int32.not_le.mp q)] using k)
  | gt => exact lv_icmp_gt hx hb hd h0 (fun q => by simpa only [zcmp, if_pos q] using k) (fun q => by simpa only [zcmp, if_neg q] using k)
  | le => exact lv_icmp_le hx hb hd h0 (fun q => by simpa only [zcmp, if_neg (Int32.not_lt.mpr q)] using k) (fun q => by simpa only [zcmp, if_pos (Int32.not_le.mp q)] using k)
theorem zcm0_W {cd : Jvm.ClassFile.Cond} {off : Int} {pc : Nat} {x : Int32} {rest : List Value} (hx : p.tables.exec = Jvm.exec) (hb : c.code = cc) (hd : decode cc pc = .ok (.ifCond cd off, 3)) (ht : ztok pc off = true)
    (k : W p l e R s m args below meth c H locs cells slots Q (F0 m (zcmp cd x 0 (zto pc off) (pc + 3)) ls rest)) : W p l e R s m args below meth c H locs cells slots Q (F0 m pc ls (.int x :: rest)) := by
  have h0 := zto_ok ht
  cases cd with
  | eq => exact lv_if_eq hx hb hd h0 (fun q => by simpa only [zcmp, if_pos q] using k) (fun q => by simpa only [zcmp, if_neg q] using k)
  | ne => exact lv_if_ne hx hb hd h0 (fun q => by simpa only [zcmp, if_neg q] using k) (fun q => by simpa only [zcmp, if_pos q] using k)
  | lt => exact lv_if_lt hx hb hd h0 (fun q => by simpa only [zcmp, if_pos q] using k) (fun q => by simpa only [zcmp, if_neg q] using k)
  | ge => exact lv_if_ge hx hb hd h0 (fun q => by simpa only [zcmp, if_neg (Int32.not_lt.mpr q)] using k) (fun q => by simpa only [zcmp, if_pos (Int32.not_le.mp q)] using k)
  | gt => exact lv_if_gt hx hb hd h0 (fun q => by simpa only [zcmp, if_pos q] using k) (fun q => by simpa only [zcmp, if_neg q] using k)
  | le => exact lv_if_le hx hb hd h0 (fun q => by simpa only [zcmp, if_neg (Int32.not_lt.mpr q)] using k) (fun q => by simpa only [zcmp, if_pos (Int32.not_le.mp q)] using k)
theorem zki_int {k : Int} (h1 : -1000 ≤ k) (h2 : k ≤ 1000) : (zki k).toInt = k := by
  unfold zki
  exact Int32.toInt_ofInt_of_le (by omega) (by omega)
theorem zsw_lk {pc : Nat} {d : Int} {x : Int32} : ∀ (ps : List (Int × Int)), ps.all (fun q => ztok pc q.2 && decide (-1000 ≤ q.1) && decide (q.1 ≤ 1000)) = true → ztok pc d = true → (pc : Int) + Op.lookupswitch.offset ps d x.toInt = (zsw pc ps d x : Int)
  | [], _, hd => zto_ok hd
  | (k, o) :: r, hp, hd => by
    simp only [List.all_cons, Bool.and_eq_true, decide_eq_true_eq] at hp
    obtain ⟨⟨⟨h1, h2⟩, h3⟩, h4⟩ := hp
    have hk := zki_int h2 h3
    by_cases hx : x = zki k
    · have e1 : zsw pc ((k, o) :: r) d x = zto pc o := by simp only [zsw, if_pos hx]
      have e2 : Op.lookupswitch.offset ((k, o) :: r) d x.toInt = o := by
        rw [hx, hk]
        simp [Op.lookupswitch.offset]
      rw [e1, e2]
      exact zto_ok h1
    · have e1 : zsw pc ((k, o) :: r) d x = zsw pc r d x := by simp only [zsw, if_neg hx]
      rw [e1, lv_osw hx hk]
      exact zsw_lk r (by simpa only [Bool.and_eq_true, decide_eq_true_eq] using h4) hd
theorem zsw_tb {pc : Nat} {d : Int} {x : Int32} : ∀ (offs : List Int) (lo : Int), offs.all (ztok pc) = true → ztok pc d = true → -1000 ≤ lo → lo + offs.length ≤ 1001 →
    ((x.toInt < lo ∨ lo + offs.length ≤ x.toInt) → (pc : Int) + d = (zsw pc (ztp lo offs) d x : Int)) ∧ (∀ off, lo ≤ x.toInt → offs[(x.toInt - lo).toNat]? = some off → (pc : Int) + off = (zsw pc (ztp lo offs) d x : Int))
  | [], lo, _, hd, _, _ => ⟨fun _ => zto_ok hd, fun off _ h => by simp at h⟩
  | o :: r, lo, hp, hd, h1, h2 => by
    simp only [List.all_cons, Bool.and_eq_true] at hp
    simp only [List.length_cons] at h2
    have hk : (zki lo).toInt = lo := zki_int h1 (by omega)
    obtain ⟨ih1, ih2⟩ := zsw_tb r (lo + 1) hp.2 hd (by omega) (by push_cast at h2 ⊢; omega)
    by_cases hx : x = zki lo
    · have e1 : zsw pc (ztp lo (o :: r)) d x = zto pc o := by simp only [ztp, zsw, if_pos hx]
      have ex : x.toInt = lo := by rw [hx, hk]
      refine ⟨fun h => ?_, fun off h3 h4 => ?_⟩
      · rw [ex] at h
        simp only [List.length_cons] at h
        omega
      · rw [ex, Int.sub_self] at h4
        have h4 : some o = some off := h4
        cases h4
        rw [e1]
        exact zto_ok hp.1
    · have e1 : zsw pc (ztp lo (o :: r)) d x = zsw pc (ztp (lo + 1) r) d x := by simp only [ztp, zsw, if_neg hx]
      have ex : ¬ x.toInt = lo := lv_neT hx hk
      rw [e1]
      refine ⟨fun h => ih1 ?_, fun off h3 h4 => ih2 off (by omega) ?_⟩
      · simp only [List.length_cons] at h
        omega
      · rw [show (x.toInt - lo).toNat = (x.toInt - (lo + 1)).toNat + 1 by omega] at h4
        exact h4
end ZT
end
section
section ZU
variable {p : Program} {l : Launch} {e : Env} {R : Room} {s : State} {m : MethodId} {args : Array Value} {below : List Frame} {meth : Method} {c : Code} {H : Heap} {locs : List Loc} {cells slots : Nat} {Q : State → Prop}
variable {D : va_G} {a : Nat → Nat} {cA : Nat → ClassId} {tb : zTb} {A : Nat → Prop} {own d nL : Nat} {cc : ByteArray} {ls : Array Slot} {lv st : List Value} {h : zH}
/-- what a step goes on to -/
abbrev zK (p : Program) (l : Launch) (e : Env) (R : Room) (s : State) (m : MethodId) (args : Array Value) (below : List Frame) (meth : Method) (c : Code) (cells slots : Nat) (Q : State → Prop) (D : va_G) (a : Nat → Nat) (cA : Nat → ClassId) (A : Nat → Prop) (nL pc : Nat) (lv st : List Value) (h : zH) : Prop :=
  ∀ (H1 : Heap) (locs1 : List Loc) (ls1 : Array Slot), zIv D a cA A s h H1 locs1 → zls a ls1 lv → lv.length = nL → W p l e R s m args below meth c H1 locs1 cells slots Q (F0 m pc ls1 (st.map (zv a)))
theorem zs_getf {idx pc pc' : Nat} {lv' st' : List Value} {h' : zH} (C0 : zCx p R s m args c cells slots D a cA tb A own d nL cc) (hd : decode cc pc = .ok (.getfield idx, 3)) (hz : zgetf own idx 3 pc lv st h = some (pc', lv', st', h')) (hln : lv.length = nL) (hI : zIv D a cA A s h H locs) (hl : zls a ls lv)
    (k : zK p l e R s m args below meth c cells slots Q D a cA A nL pc' lv' st' h') : W p l e R s m args below meth c H locs cells slots Q (F0 m pc ls (st.map (zv a))) := by
  obtain ⟨hx, hb, hml, hown, hts, hA, hg, hcs, hfr, hlc⟩ := C0
  obtain ⟨q, r, ci, j, x, fs, v, rfl, h1, h2, h3, rfl, rfl, rfl, rfl⟩ := zgetf_ok hz
  have hf := zfT_ok own _ (zlook_mem h1)
  unfold zfok at hf
  simp only at hf
  cases hc : vwCl[ci]? with
  | none => rw [hc] at hf; cases hf
  | some qc =>
    obtain ⟨C, T, N⟩ := qc
    rw [hc] at hf
    simp only [Bool.and_eq_true, decide_eq_true_eq] at hf
    obtain ⟨⟨⟨f1, f2⟩, f3⟩, -⟩ := hf
    exact va_get (D := D) (ci := ci) (v := zv a v) (C := C) (T := T) (N := N) (ref := C) hx hb hts (zcls_in hc) hown hg.1 hI.1 q (zw_at (zobj_ok h2)) hc j f1 (hts _ (List.mem_of_getElem? f2)) (fun _ h9 => by rw [f3] at h9; exact h9) (by rw [List.getElem?_map, h3]; rfl) hd (k H locs ls hI hl hln)
theorem zs_putf {idx pc pc' : Nat} {lv' st' : List Value} {h' : zH} (C0 : zCx p R s m args c cells slots D a cA tb A own d nL cc) (hd : decode cc pc = .ok (.putfield idx, 3)) (hz : zputf own idx 3 pc lv st h = some (pc', lv', st', h')) (hln : lv.length = nL) (hI : zIv D a cA A s h H locs) (hl : zls a ls lv)
    (k : zK p l e R s m args below meth c cells slots Q D a cA A nL pc' lv' st' h') : W p l e R s m args below meth c H locs cells slots Q (F0 m pc ls (st.map (zv a))) := by
  obtain ⟨hx, hb, hml, hown, hts, hA, hg, hcs, hfr, hlc⟩ := C0
  obtain ⟨x, q, ci, j, ty, y, fs, rfl, h1, h2, h3, h4, rfl, rfl, rfl⟩ := zputf_ok hz
  have hf := zfT_ok own _ (zlook_mem h1)
  unfold zfok at hf
  simp only at hf
  cases hc : vwCl[ci]? with
  | none => rw [hc] at hf; cases hf
  | some qc =>
    obtain ⟨C, T, N⟩ := qc
    rw [hc] at hf
    simp only [Bool.and_eq_true, Bool.or_eq_true, decide_eq_true_eq] at hf
    obtain ⟨⟨⟨f1, f2⟩, f3⟩, f4⟩ := hf
    obtain ⟨tys, t1, t2⟩ := zcls_ty hc
    have hwd := zw_at (a := a) (cA := cA) (zobj_ok h2)
    have key : (T j).2.2.2 = false ∧ ∃ ty : FieldType, parseFieldDescriptor (T j).2.2.1 = some ty ∧ narrow ty (.int x) = .int x ∧ fits ty (.int x) = true := by
      rcases f4 with f4 | ⟨f5, f6⟩
      · rw [f4] at h3
        simp [zfit] at h3
      · refine ⟨f5, ?_⟩
        rcases f6 with ⟨g1, g2⟩ | ⟨g1, g2⟩
        · rw [g2]
          exact ⟨.int, by decide +kernel, rfl, rfl⟩
        · rw [g2]
          rw [g1] at h3
          have h3 : x = 0 ∨ x = 1 := by simpa [zfit] using h3
          exact ⟨.boolean, by decide +kernel, by rcases h3 with rfl | rfl <;> rfl, by rcases h3 with rfl | rfl <;> rfl⟩
    obtain ⟨k1, fty, k2, k3, k4⟩ := key
    refine va_put (D := D) (ci := ci) (v := .int x) (ty := fty) (C := C) (T := T) (N := N) (ref := C) hx hb hts (zcls_in hc) tys t1 t2 hown hg.1 hI.1 hI.2.1 hI.2.2 q hwd hc j f1 (hts _ (List.mem_of_getElem? f2)) (fun _ h9 => by rw [f3] at h9; exact h9) k1 k2 k3 k4 (by rw [List.length_map]; exact h4) hd (fun H1 locs1 hP hD hS => ?_)
    have e1 : (zw a cA h).set q (a q, .inr (ci, (fs.map (zv a)).set j (.int x))) = zw a cA (h.set q (.inr (ci, fs.set j (.int x)))) := by
      rw [zw_set]
      simp only [zce, List.map_set, zv]
    rw [e1] at hP hD
    exact k H1 locs1 ls ⟨hP, hD, hS⟩ hl hln
theorem zs_ial {pc pc' : Nat} {lv' st' : List Value} {h' : zH} (C0 : zCx p R s m args c cells slots D a cA tb A own d nL cc) (hd : decode cc pc = .ok (.iaload, 1)) (hz : zial tb 1 pc lv st h = some (pc', lv', st', h')) (hln : lv.length = nL) (hI : zIv D a cA A s h H locs) (hl : zls a ls lv)
    (k : zK p l e R s m args below meth c cells slots Q D a cA A nL pc' lv' st' h') : W p l e R s m args below meth c H locs cells slots Q (F0 m pc ls (st.map (zv a))) := by
  obtain ⟨hx, hb, hml, hown, hts, hA, hg, hcs, hfr, hlc⟩ := C0
  obtain ⟨i, q, r, n, f, rfl, h1, h2, rfl, rfl, rfl, rfl⟩ := zial_ok hz
  unfold zrd at h1
  by_cases hq : q < 1000
  · rw [if_pos hq] at h1
    exact va_iald hx hb hg.1 hI.1 q 0 (zw_at (zarr_ok h1)) rfl (zin_vp h2) hd (k H locs ls hI hl hln)
  · rw [if_neg hq] at h1
    have hT := hg.2.1 _ _ _ h1
    rw [Nat.add_sub_of_le (Nat.not_lt.mp hq)] at hT
    exact va_ti hx hb hT hI.2.2 (zin_vp h2) rfl hd (k H locs ls hI hl hln)
theorem zs_bal {pc pc' : Nat} {lv' st' : List Value} {h' : zH} (C0 : zCx p R s m args c cells slots D a cA tb A own d nL cc) (hd : decode cc pc = .ok (.baload, 1)) (hz : zbal 1 pc lv st h = some (pc', lv', st', h')) (hln : lv.length = nL) (hI : zIv D a cA A s h H locs) (hl : zls a ls lv)
    (k : zK p l e R s m args below meth c cells slots Q D a cA A nL pc' lv' st' h') : W p l e R s m args below meth c H locs cells slots Q (F0 m pc ls (st.map (zv a))) := by
  obtain ⟨hx, hb, hml, hown, hts, hA, hg, hcs, hfr, hlc⟩ := C0
  obtain ⟨i, q, r, t, n, f, rfl, h1, h2, rfl, rfl, rfl, rfl⟩ := zbal_ok hz
  rcases zbar_ok h1 with ⟨rfl, g1⟩ | ⟨rfl, g1⟩
  · exact va_zald hx hb hg.1 hI.1 q 1 (zw_at (zarr_ok g1)) rfl (zin_vp h2) hd (k H locs ls hI hl hln)
  · exact va_bald hx hb hg.1 hI.1 q 2 (zw_at (zarr_ok g1)) rfl (zin_vp h2) hd (k H locs ls hI hl hln)
theorem zs_ias {pc pc' : Nat} {lv' st' : List Value} {h' : zH} (C0 : zCx p R s m args c cells slots D a cA tb A own d nL cc) (hd : decode cc pc = .ok (.iastore, 1)) (hz : zias 1 pc lv st h = some (pc', lv', st', h')) (hln : lv.length = nL) (hI : zIv D a cA A s h H locs) (hl : zls a ls lv)
    (k : zK p l e R s m args below meth c cells slots Q D a cA A nL pc' lv' st' h') : W p l e R s m args below meth c H locs cells slots Q (F0 m pc ls (st.map (zv a))) := by
  obtain ⟨hx, hb, hml, hown, hts, hA, hg, hcs, hfr, hlc⟩ := C0
  obtain ⟨x, i, q, n, f, rfl, h1, h2, rfl, rfl, rfl⟩ := zias_ok hz
  refine va_iast hx hb hg.1 hI.1 hI.2.1 hI.2.2 q 0 (zw_at (zarr_ok h1)) rfl (zin_vp h2) hd (fun H1 locs1 hP hD hS => ?_)
  have e1 : (zw a cA h).set q (a q, .inl (cA 0, n, .inl (upd f i.toNatClampNeg x))) = zw a cA (h.set q (.inl (0, n, .inl (upd f i.toNatClampNeg x)))) := by
    rw [zw_set]
    rfl
  exact k H1 locs1 ls ⟨e1 ▸ hP, e1 ▸ hD, hS⟩ hl hln
theorem zs_bas {pc pc' : Nat} {lv' st' : List Value} {h' : zH} (C0 : zCx p R s m args c cells slots D a cA tb A own d nL cc) (hd : decode cc pc = .ok (.bastore, 1)) (hz : zbas 1 pc lv st h = some (pc', lv', st', h')) (hln : lv.length = nL) (hI : zIv D a cA A s h H locs) (hl : zls a ls lv)
    (k : zK p l e R s m args below meth c cells slots Q D a cA A nL pc' lv' st' h') : W p l e R s m args below meth c H locs cells slots Q (F0 m pc ls (st.map (zv a))) := by
  obtain ⟨hx, hb, hml, hown, hts, hA, hg, hcs, hfr, hlc⟩ := C0
  obtain ⟨x, i, q, t, n, f, rfl, h1, h2, rfl, rfl, rfl⟩ := zbas_ok hz
  rcases zbar_ok h1 with ⟨rfl, g1⟩ | ⟨rfl, g1⟩
  · refine va_zast hx hb hg.1 hI.1 hI.2.1 hI.2.2 q 1 (zw_at (zarr_ok g1)) rfl (zin_vp h2) hd (fun H1 locs1 hP hD hS => ?_)
    have e1 : (zw a cA h).set q (a q, .inl (cA 1, n, .inl (upd f i.toNatClampNeg (vp_nar .boolean x)))) = zw a cA (h.set q (.inl (1, n, .inl (upd f i.toNatClampNeg (zbn 1 x))))) := by
      rw [zw_set]
      rfl
    exact k H1 locs1 ls ⟨e1 ▸ hP, e1 ▸ hD, hS⟩ hl hln
  · refine va_bast hx hb hg.1 hI.1 hI.2.1 hI.2.2 q 2 (zw_at (zarr_ok g1)) rfl (zin_vp h2) hd (fun H1 locs1 hP hD hS => ?_)
    have e1 : (zw a cA h).set q (a q, .inl (cA 2, n, .inl (upd f i.toNatClampNeg (vp_nar .byte x)))) = zw a cA (h.set q (.inl (2, n, .inl (upd f i.toNatClampNeg (zbn 2 x))))) := by
      rw [zw_set]
      rfl
    exact k H1 locs1 ls ⟨e1 ▸ hP, e1 ▸ hD, hS⟩ hl hln
theorem zs_inv {cal : zCal} {idx pc pc' : Nat} {lv' st' : List Value} {h' : zH} (C0 : zCx p R s m args c cells slots D a cA tb A own d nL cc) (hcal : ∀ q av h r h', cal q av h = some (r, h') → zCon l tb d q av h r h') (hd : decode cc pc = .ok (.invokevirtual idx, 3)) (hz : zinv cal own idx 3 pc lv st h = some (pc', lv', st', h')) (hln : lv.length = nL) (hI : zIv D a cA A s h H locs) (hl : zls a ls lv)
    (k : zK p l e R s m args below meth c cells slots Q D a cA A nL pc' lv' st' h') : W p l e R s m args below meth c H locs cells slots Q (F0 m pc ls (st.map (zv a))) := by
  obtain ⟨hx, hb, hml, hown, hts, hA, hg, hcs, hfr, hlc⟩ := id C0
  obtain ⟨mm, n, ci, x, q, r, fs, v, h1, h2, h3, h4, h5, h6, rfl, rfl, rfl⟩ := zinv_ok hz
  have hf := zvT_ok own _ (zlook_mem h1)
  unfold zvok at hf
  simp only at hf
  cases hm : zMs[mm]? with
  | none => rw [hm] at hf; cases hf
  | some em =>
    rw [hm] at hf
    simp only [Bool.and_eq_true, decide_eq_true_eq] at hf
    obtain ⟨⟨⟨⟨⟨⟨f1, f2⟩, f3⟩, f4⟩, f5⟩, f6⟩, f7⟩ := hf
    obtain ⟨p1, p2, p3, p4, p5, p6, p7⟩ := zMs_ok em (List.mem_of_getElem? hm)
    obtain ⟨qc, hc1, hc2⟩ := zcls_R f7
    have hM := hcal _ _ _ _ _ h6 em hm D a cA H.size
    have hcl : em.2.1.cls = zR ci := by rw [p5, f5]
    have hgood : GoodIn wsL_law (wsV (zR own) idx (zR ci) em.2.1 (zws em)) := zgoodIn fun w hw => by
      unfold wsV at hw
      rcases List.mem_append.mp hw with hw | hw
      · simp only [List.mem_cons, List.not_mem_nil, or_false] at hw
        rcases hw with rfl | rfl | rfl | rfl
        · exact List.mem_of_getElem? f1
        · exact List.mem_of_getElem? f2
        · exact List.mem_of_getElem? f3
        · exact List.mem_of_getElem? f4
      · unfold zws at hw
        rcases List.mem_cons.mp hw with rfl | hw
        · exact p2
        · exact hw
    have hst : st = st.take n ++ .ref q :: r := by rw [← h2, List.take_append_drop]
    have hrun := va_runV (l := l) (e := e) (R := R) (below := below) (meth := meth) (locs := locs) (cells := cells) (slots := slots) (g := F0 m pc ls (st.map (zv a))) (As := ((st.take n).reverse.map (zv a))) (b := a q) (rest := r.map (zv a)) (C := zR ci) ⟨hx, hb, hml, hown, hts⟩ hM (cwV n hts hgood rfl rfl rfl ⟨hcl, p6.1, p6.2, f6⟩ ⟨hfr, by
        show 8 + (em.1.2.2.1 + 11) + 40 * d ≤ R.locals
        omega⟩) ⟨zPre_blind, by rw [← hc2]; exact va_recv hg.1 hI.1 hc1 (zw_at (zobj_ok h3)), fun U hU hW => za_pre C0 hI U hU hW⟩ rfl (by rw [List.length_map, List.length_reverse]; exact h4) (by rw [hl.1]; exact hln) (by
        show st.map (zv a) = _
        conv => lhs; rw [hst]
        rw [List.map_append, ← List.map_reverse, List.reverse_reverse]
        rfl) (lv_room (by rw [zsum_map]; exact h5)) hd ⟨hcs.1, hcs.2⟩
    refine za_call hrun hI.2.2 (za_free hI hA) (za_free hI hA) (fun H1 locs1 hI1 => ?_)
    have := k H1 locs1 ls hI1 hl hln
    rw [List.map_append] at this
    cases v with
    | none => exact this
    | some v => exact this
theorem zs_ins {cal : zCal} {idx pc pc' : Nat} {lv' st' : List Value} {h' : zH} (C0 : zCx p R s m args c cells slots D a cA tb A own d nL cc) (hcal : ∀ q av h r h', cal q av h = some (r, h') → zCon l tb d q av h r h') (hd : decode cc pc = .ok (.invokestatic idx, 3)) (hz : zins cal own idx 3 pc lv st h = some (pc', lv', st', h')) (hln : lv.length = nL) (hI : zIv D a cA A s h H locs) (hl : zls a ls lv)
    (k : zK p l e R s m args below meth c cells slots Q D a cA A nL pc' lv' st' h') : W p l e R s m args below meth c H locs cells slots Q (F0 m pc ls (st.map (zv a))) := by
  obtain ⟨hx, hb, hml, hown, hts, hA, hg, hcs, hfr, hlc⟩ := id C0
  rcases zins_ok hz with ⟨x, y, r, h1, rfl, h2, rfl, rfl, rfl, rfl⟩ | ⟨mm, n, x, v, h1, h4, h5, h6, rfl, rfl, rfl⟩
  · have hf := zaT_ok own _ (zlook_mem h1)
    unfold zaok at hf
    simp only [decide_eq_true_eq] at hf
    exact va_mabs_long hx hb (by rw [hml, hl.1]; exact hln.symm) hown (hts _ (List.mem_of_getElem? hf)) (hts _ zabs_s) (hts _ zabs_i) (hts _ zabs_c) (by omega) (by rw [zsum_map]; omega) hcs.1 hcs.2 hd (k H locs ls hI hl hln)
  · have hf := zsT_ok own _ (zlook_mem h1)
    unfold zsok at hf
    simp only at hf
    cases hm : zMs[mm]? with
    | none => rw [hm] at hf; cases hf
    | some em =>
      rw [hm] at hf
      simp only [Bool.and_eq_true, decide_eq_true_eq] at hf
      obtain ⟨⟨⟨f1, f2⟩, f3⟩, f6⟩ := hf
      obtain ⟨p1, p2, p3, p4, p5, p6, p7⟩ := zMs_ok em (List.mem_of_getElem? hm)
      have hM := hcal _ _ _ _ _ h6 em hm D a cA H.size
      have hgood : GoodIn wsL_law (va_wsS (zR own) idx em.2.1 (zws em)) := zgoodIn fun w hw => by
        unfold va_wsS at hw
        rcases List.mem_append.mp hw with hw | hw
        · simp only [List.mem_cons, List.not_mem_nil, or_false] at hw
          rcases hw with rfl | rfl | rfl
          · exact List.mem_of_getElem? f1
          · exact List.mem_of_getElem? f2
          · exact List.mem_of_getElem? f3
        · unfold zws at hw
          rcases List.mem_cons.mp hw with rfl | hw
          · exact p2
          · exact hw
      have hrun := va_runS (l := l) (e := e) (R := R) (below := below) (meth := meth) (locs := locs) (cells := cells) (slots := slots) (g := F0 m pc ls (st.map (zv a))) (As := ((st.take n).reverse.map (zv a))) (rest := (st.drop n).map (zv a)) ⟨hx, hb, hml, hown, hts⟩ hM (va_cwS n hts hgood rfl rfl rfl ⟨p6.1, p6.2, f6⟩ ⟨hfr, by
          show 8 + (em.1.2.2.1 + 11) + 40 * d ≤ R.locals
          omega⟩) ⟨zPre_blind, fun U hU hW => za_pre C0 hI U hU hW⟩ rfl (by rw [List.length_map, List.length_reverse]; exact h4) (by rw [hl.1]; exact hln) (by
          show st.map (zv a) = _
          rw [← List.map_reverse, List.reverse_reverse, ← List.map_append, List.take_append_drop]) (lv_room (by rw [zsum_map]; exact h5)) hd ⟨hcs.1, hcs.2⟩
      refine za_call hrun hI.2.2 (za_free hI hA) (za_free hI hA) (fun H1 locs1 hI1 => ?_)
      have := k H1 locs1 ls hI1 hl hln
      rw [List.map_append] at this
      cases v with
      | none => exact this
      | some v => exact this
end ZU
end
section
section ZX
variable {p : Program} {l : Launch} {e : Env} {R : Room} {s : State} {m : MethodId} {args : Array Value} {below : List Frame} {meth : Method} {c : Code} {cells slots : Nat} {Q : State → Prop}
variable {D : va_G} {a : Nat → Nat} {cA : Nat → ClassId} {tb : zTb} {A : Nat → Prop} {own d nL : Nat} {cc : ByteArray}
theorem zs_st1 {H : Heap} {locs : List Loc} {ls : Array Slot} {lv lv' r : List Value} {i pc len : Nat} {x : Int32} {h : zH} {ins : zI} (hrow : ∀ {lw : List (Nat × Value)}, lv_has ls nL lw → i < nL → (∀ ls' : Array Slot, lv_has ls' nL ((i, Value.int x) :: lw.filter (fun q => !(q.1 == i) && !(q.1 + 1 == i && q.2.category == 2))) → W p l e R s m args below meth c H locs cells slots Q (F0 m (pc + len) ls' (r.map (zv a)))) → W p l e R s m args below meth c H locs cells slots Q (F0 m pc ls (.int x :: r.map (zv a))))
    (hz : zst1 lv i (.int x) = some lv') (hln : lv.length = nL) (hI : zIv D a cA A s h H locs) (hl : zls a ls lv) (k : zK p l e R s m args below meth c cells slots Q D a cA A nL (pc + len) lv' r h) : W p l e R s m args below meth c H locs cells slots Q (F0 m pc ls (.int x :: r.map (zv a))) := by
  subst hln
  refine hrow (zls_has hl) (zst1_lt hz) (fun ls' hl' => ?_)
  obtain ⟨g1, g2⟩ := zls_st1 (a := a) hz hl'
  exact k H locs ls' hI g1 g2
set_option maxHeartbeats 4000000 in
theorem zstep_W {cal : zCal} {i : zI} {len pc pc' : Nat} {lv st lv' st' : List Value} {h h' : zH} {H : Heap} {locs : List Loc} {ls : Array Slot} (C0 : zCx p R s m args c cells slots D a cA tb A own d nL cc) (hcal : ∀ q av h r h', cal q av h = some (r, h') → zCon l tb d q av h r h') (hd : decode cc pc = .ok (i, len)) (hlo : zlo (pc, i, len) = true) (hz : zstep tb cal own i len pc lv st h = some (pc', lv', st', h')) (hln : lv.length = nL) (hI : zIv D a cA A s h H locs) (hl : zls a ls lv)
    (k : zK p l e R s m args below meth c cells slots Q D a cA A nL pc' lv' st' h') : W p l e R s m args below meth c H locs cells slots Q (F0 m pc ls (st.map (zv a))) := by
  obtain ⟨hx, hb, hml, hown, hts, hA, hg, hcs, hfr, hlc⟩ := id C0
  cases i
  case iconst n =>
    obtain rfl : len = 1 := of_decide_eq_true hlo
    cases hz
    exact lv_iconst hx hb hd rfl (k H locs ls hI hl hln)
  case bipush n =>
    obtain rfl : len = 2 := of_decide_eq_true hlo
    cases hz
    exact lv_bipush hx hb hd rfl (k H locs ls hI hl hln)
  case sipush n =>
    obtain rfl : len = 3 := of_decide_eq_true hlo
    cases hz
    exact lv_sipush hx hb hd rfl (k H locs ls hI hl hln)
  case lconst n =>
    obtain rfl : len = 1 := of_decide_eq_true hlo
    cases hz
    exact lv_lconst hx hb hd rfl (k H locs ls hI hl hln)
  case ldc2_w idx =>
    obtain rfl : len = 3 := of_decide_eq_true hlo
    simp only [zstep] at hz
    split at hz
    · rename_i v y hv
      cases hz
      have hf := zlT_ok own _ (zlook_mem hv)
      unfold zlok at hf
      simp only [decide_eq_true_eq] at hf
      exact lv_ldc2 hx hb hown (hts _ (List.mem_of_getElem? hf)) hd (k H locs ls hI hl hln)
    · cases hz
  case iload_n n =>
    obtain rfl : len = 1 := of_decide_eq_true hlo
    obtain ⟨x, h1, rfl, rfl, rfl, rfl⟩ := zload_ok hz
    exact lv_iload_n hx hb hd rfl (zkl_at hl h1 rfl) (k H locs ls hI hl hln)
  case iload n =>
    obtain rfl : len = 2 := of_decide_eq_true hlo
    obtain ⟨x, h1, rfl, rfl, rfl, rfl⟩ := zload_ok hz
    exact lv_iload hx hb hd (zkl_at hl h1 rfl) (k H locs ls hI hl hln)
  case lload_n n =>
    obtain rfl : len = 1 := of_decide_eq_true hlo
    obtain ⟨x, h1, rfl, rfl, rfl, rfl⟩ := zloadl_ok hz
    exact lv_lload_n hx hb hd rfl (zkl_at hl h1 rfl) (k H locs ls hI hl hln)
  case aload_n n =>
    obtain rfl : len = 1 := of_decide_eq_true hlo
    obtain ⟨x, h1, rfl, rfl, rfl, rfl⟩ := zloada_ok hz
    exact lv_aload_n hx hb hd rfl (zkl_at hl h1 rfl) (k H locs ls hI hl hln)
  case istore_n n =>
    obtain rfl : len = 1 := of_decide_eq_true hlo
    obtain ⟨x, rfl, h1, rfl, rfl⟩ := zstore_ok hz
    subst hln
    refine lv_istore_n hx hb hd rfl (zls_has hl) (zst1_lt h1) rfl (fun ls' hl' => ?_)
    obtain ⟨g1, g2⟩ := zls_st1 (a := a) h1 hl'
    exact k H locs ls' hI g1 g2
  case istore n =>
    obtain rfl : len = 2 := of_decide_eq_true hlo
    obtain ⟨x, rfl, h1, rfl, rfl⟩ := zstore_ok hz
    subst hln
    refine lv_istore hx hb hd (zls_has hl) (zst1_lt h1) rfl (fun ls' hl' => ?_)
    obtain ⟨g1, g2⟩ := zls_st1 (a := a) h1 hl'
    exact k H locs ls' hI g1 g2
  case lstore_n n =>
    obtain rfl : len = 1 := of_decide_eq_true hlo
    obtain ⟨x, rfl, h1, rfl, rfl⟩ := zstorel_ok hz
    subst hln
    refine lv_lstore_n hx hb hd rfl (zls_has hl) (zst2_lt h1) rfl (fun ls' hl' => ?_)
    obtain ⟨g1, g2⟩ := zls_st2 (a := a) h1 hl'
    exact k H locs ls' hI g1 g2
  case iinc n v =>
    obtain rfl : len = 3 := of_decide_eq_true hlo
    simp only [zstep] at hz
    split at hz
    · rename_i x hv
      split at hz
      · rename_i lv2 h1
        cases hz
        subst hln
        obtain ⟨kk, hk⟩ := List.getElem?_of_mem (zkl_mem (a := a) (q := (n, zv a (.int x))).mpr ⟨_, hv, rfl, rfl⟩)
        refine lv_iinc hx hb hd (zls_has hl) hk rfl (zst1_lt h1) rfl (fun ls' hl' => ?_)
        obtain ⟨g1, g2⟩ := zls_st1 (a := a) h1 hl'
        exact k H locs ls' hI g1 g2
      · cases hz
    · cases hz
  case iadd =>
    obtain rfl : len = 1 := of_decide_eq_true hlo
    obtain ⟨x, y, r, rfl, rfl, rfl, rfl, rfl⟩ := zbin_ok hz
    exact lv_iadd hx hb hd (k H locs ls hI hl hln)
  case isub =>
    obtain rfl : len = 1 := of_decide_eq_true hlo
    obtain ⟨x, y, r, rfl, rfl, rfl, rfl, rfl⟩ := zbin_ok hz
    exact lv_isub hx hb hd (k H locs ls hI hl hln)
  case imul =>
    obtain rfl : len = 1 := of_decide_eq_true hlo
    obtain ⟨x, y, r, rfl, rfl, rfl, rfl, rfl⟩ := zbin_ok hz
    exact lv_imul hx hb hd (k H locs ls hI hl hln)
  case iand =>
    obtain rfl : len = 1 := of_decide_eq_true hlo
    obtain ⟨x, y, r, rfl, rfl, rfl, rfl, rfl⟩ := zbin_ok hz
    exact lv_iand hx hb hd (k H locs ls hI hl hln)
  case ior =>
    obtain rfl : len = 1 := of_decide_eq_true hlo
    obtain ⟨x, y, r, rfl, rfl, rfl, rfl, rfl⟩ := zbin_ok hz
    exact lv_ior hx hb hd (k H locs ls hI hl hln)
  case ixor =>
    obtain rfl : len = 1 := of_decide_eq_true hlo
    obtain ⟨x, y, r, rfl, rfl, rfl, rfl, rfl⟩ := zbin_ok hz
    exact lv_ixor hx hb hd (k H locs ls hI hl hln)
  case ishl =>
    obtain rfl : len = 1 := of_decide_eq_true hlo
    obtain ⟨x, y, r, rfl, rfl, rfl, rfl, rfl⟩ := zbin_ok hz
    exact lv_ishl hx hb hd (k H locs ls hI hl hln)
  case ldiv =>
    obtain rfl : len = 1 := of_decide_eq_true hlo
    obtain ⟨x, y, r, rfl, hne, rfl, rfl, rfl, rfl⟩ := zbinl_ok hz
    exact lv_ldiv hx hb hd hne (k H locs ls hI hl hln)
  case lrem =>
    obtain rfl : len = 1 := of_decide_eq_true hlo
    obtain ⟨x, y, r, rfl, hne, rfl, rfl, rfl, rfl⟩ := zbinl_ok hz
    exact lv_lrem hx hb hd hne (k H locs ls hI hl hln)
  case lneg =>
    obtain rfl : len = 1 := of_decide_eq_true hlo
    simp only [zstep] at hz
    split at hz
    · cases hz
      exact lv_lneg hx hb hd (k H locs ls hI hl hln)
    · cases hz
  case lcmp =>
    obtain rfl : len = 1 := of_decide_eq_true hlo
    simp only [zstep] at hz
    split at hz
    · cases hz
      exact W.lcmp hx hb hd (k H locs ls hI hl hln)
    · cases hz
  case i2l =>
    obtain rfl : len = 1 := of_decide_eq_true hlo
    simp only [zstep] at hz
    split at hz
    · cases hz
      exact lv_i2l hx hb hd rfl (k H locs ls hI hl hln)
    · cases hz
  case l2i =>
    obtain rfl : len = 1 := of_decide_eq_true hlo
    simp only [zstep] at hz
    split at hz
    · cases hz
      exact lv_l2i hx hb hd rfl (k H locs ls hI hl hln)
    · cases hz
  case i2b =>
    obtain rfl : len = 1 := of_decide_eq_true hlo
    obtain ⟨x, r, rfl, rfl, rfl, rfl, rfl⟩ := zun_ok hz
    exact lv_i2b hx hb hd rfl (k H locs ls hI hl hln)
  case dup =>
    obtain rfl : len = 1 := of_decide_eq_true hlo
    simp only [zstep] at hz
    split at hz
    · split at hz
      · cases hz
      · rename_i hc
        cases hz
        exact lv_dup hx hb hd (by rw [zv_cat]; exact zc2_cat (by simpa using hc)) (k H locs ls hI hl hln)
    · cases hz
  case dup2 =>
    obtain rfl : len = 1 := of_decide_eq_true hlo
    simp only [zstep] at hz
    split at hz
    · split at hz
      · cases hz
      · rename_i hc
        cases hz
        have hc := Bool.or_eq_false_iff.mp (Bool.not_eq_true _ ▸ hc)
        exact lv_dup2_11 hx hb hd (by rw [zv_cat]; exact zc2_cat hc.1) (by rw [zv_cat]; exact zc2_cat hc.2) (k H locs ls hI hl hln)
    · cases hz
  case pop =>
    obtain rfl : len = 1 := of_decide_eq_true hlo
    simp only [zstep] at hz
    split at hz
    · split at hz
      · cases hz
      · rename_i hc
        cases hz
        exact lv_pop hx hb hd (by rw [zv_cat]; exact zc2_cat (by simpa using hc)) (k H locs ls hI hl hln)
    · cases hz
  case goto off =>
    have hlo2 : (decide (len = 3) && ztok pc off) = true := hlo
    simp only [Bool.and_eq_true, decide_eq_true_eq] at hlo2
    obtain ⟨rfl, ht⟩ := hlo2
    cases hz
    exact lv_goto hx hb hd (zto_ok ht) (k H locs ls hI hl hln)
  case ifCond cd off =>
    have hlo2 : (decide (len = 3) && ztok pc off) = true := hlo
    simp only [Bool.and_eq_true, decide_eq_true_eq] at hlo2
    obtain ⟨rfl, ht⟩ := hlo2
    simp only [zstep] at hz
    split at hz
    · cases hz
      exact zcm0_W hx hb hd ht (k H locs ls hI hl hln)
    · cases hz
  case if_icmp cd off =>
    have hlo2 : (decide (len = 3) && ztok pc off) = true := hlo
    simp only [Bool.and_eq_true, decide_eq_true_eq] at hlo2
    obtain ⟨rfl, ht⟩ := hlo2
    simp only [zstep] at hz
    split at hz
    · cases hz
      exact zcmp_W hx hb hd ht (k H locs ls hI hl hln)
    · cases hz
  case tableswitch dd lo hi offs =>
    have hlo2 : (ztok pc dd && offs.toList.all (ztok pc) && decide (hi = lo + offs.toList.length - 1) && decide (-1000 ≤ lo) && decide (hi ≤ 1000)) = true := hlo
    simp only [Bool.and_eq_true, decide_eq_true_eq] at hlo2
    obtain ⟨⟨⟨⟨t1, t2⟩, t3⟩, t4⟩, t5⟩ := hlo2
    simp only [zstep] at hz
    split at hz
    · rename_i x r
      cases hz
      obtain ⟨g1, g2⟩ := zsw_tb (pc := pc) (d := dd) (x := x) offs.toList lo t2 t1 t4 (by omega)
      by_cases c1 : x.toInt < lo
      · exact lv_tableOut hx hb hd (Or.inl c1) (g1 (Or.inl c1)) (k H locs ls hI hl hln)
      · by_cases c2 : hi < x.toInt
        · exact lv_tableOut hx hb hd (Or.inr c2) (g1 (Or.inr (by omega))) (k H locs ls hI hl hln)
        · have hin : (x.toInt - lo).toNat < offs.size := by
            have : offs.toList.length = offs.size := Array.length_toList
            omega
          exact lv_tableIn hx hb hd c1 c2 (Array.getElem?_eq_getElem hin) (g2 _ (by omega) (by rw [Array.getElem?_toList]; exact Array.getElem?_eq_getElem hin)) (k H locs ls hI hl hln)
    · cases hz
  case lookupswitch dd ps =>
    have hlo2 : (ztok pc dd && ps.toList.all (fun q => ztok pc q.2 && decide (-1000 ≤ q.1) && decide (q.1 ≤ 1000)) && (ps.toList.zip (ps.toList.drop 1)).all (fun (a, next) => a.1 < next.1)) = true := hlo
    rw [Bool.and_eq_true, Bool.and_eq_true] at hlo2
    obtain ⟨⟨t1, t2⟩, t3⟩ := hlo2
    simp only [zstep] at hz
    split at hz
    · rename_i x r
      cases hz
      exact lv_lookup hx hb hd t3 rfl (zsw_lk _ t2 t1) (k H locs ls hI hl hln)
    · cases hz
  case getfield idx =>
    obtain rfl : len = 3 := of_decide_eq_true hlo
    exact zs_getf C0 hd hz hln hI hl k
  case putfield idx =>
    obtain rfl : len = 3 := of_decide_eq_true hlo
    exact zs_putf C0 hd hz hln hI hl k
  case getstatic idx =>
    obtain rfl : len = 3 := of_decide_eq_true hlo
    simp only [zstep] at hz
    split at hz
    · rename_i hc
      simp only [Bool.and_eq_true, decide_eq_true_eq] at hc
      obtain ⟨rfl, rfl⟩ := hc
      cases hz
      exact va_getsN (v := .ref (a 1000)) hx hb hg.2.2.1 hI.2.2 hown (va_Nw.use rfl hg.2.2.2) (fun _ h9 => h9) hd (k H locs ls hI hl hln)
    · cases hz
  case iaload =>
    obtain rfl : len = 1 := of_decide_eq_true hlo
    exact zs_ial C0 hd hz hln hI hl k
  case baload =>
    obtain rfl : len = 1 := of_decide_eq_true hlo
    exact zs_bal C0 hd hz hln hI hl k
  case iastore =>
    obtain rfl : len = 1 := of_decide_eq_true hlo
    exact zs_ias C0 hd hz hln hI hl k
  case bastore =>
    obtain rfl : len = 1 := of_decide_eq_true hlo
    exact zs_bas C0 hd hz hln hI hl k
  case arraylength =>
    obtain rfl : len = 1 := of_decide_eq_true hlo
    simp only [zstep] at hz
    split at hz
    · rename_i q r
      split at hz
      · rename_i n hn
        cases hz
        unfold zlenA at hn
        by_cases hq : q < 1000
        · rw [if_pos hq] at hn
          split at hn
          · rename_i t n' f hq2
            split at hn
            · rename_i ht
              cases hn
              have hw := zw_at (a := a) (cA := cA) hq2
              match t, ht, hw with
              | 0, _, hw => exact va_alen hx hb hg.1 hI.1 q 0 hw rfl rfl hd (k H locs ls hI hl hln)
              | 1, _, hw => exact va_alen hx hb hg.1 hI.1 q 1 hw rfl rfl hd (k H locs ls hI hl hln)
              | 2, _, hw => exact va_alen hx hb hg.1 hI.1 q 2 hw rfl rfl hd (k H locs ls hI hl hln)
            · cases hn
          · cases hn
        · rw [if_neg hq] at hn
          cases h1 : tb (q - 1000) with
          | none => rw [h1] at hn; cases hn
          | some nf =>
            rw [h1] at hn
            cases hn
            have hT := hg.2.1 _ _ _ h1
            rw [Nat.add_sub_of_le (Nat.not_lt.mp hq)] at hT
            exact va_tlen hx hb hT hI.2.2 rfl hd (k H locs ls hI hl hln)
      · cases hz
    · cases hz
  case invokevirtual idx =>
    obtain rfl : len = 3 := of_decide_eq_true hlo
    exact zs_inv C0 hcal hd hz hln hI hl k
  case invokestatic idx =>
    obtain rfl : len = 3 := of_decide_eq_true hlo
    exact zs_ins C0 hcal hd hz hln hI hl k
  all_goals first | cases hz | cases hlo
theorem zex_W {cal : zCal} {rt : Nat} {cd : zCd} {r : Option Value} {h' : zH} (C0 : zCx p R s m args c cells slots D a cA tb A own d nL cc) (hcal : ∀ q av h r h', cal q av h = some (r, h') → zCon l tb d q av h r h') (hcd : ∀ q ∈ cd, ∀ x ∈ q.2, decode cc x.1 = .ok x.2 ∧ zlo x = true)
    (hend : ∀ (pc len : Nat) (i : zI) (st : List Value) (H : Heap) (locs : List Loc) (ls : Array Slot), decode cc pc = .ok (i, len) → zlo (pc, i, len) = true → zend rt i st = some r → zIv D a cA A s h' H locs → W p l e R s m args below meth c H locs cells slots Q (F0 m pc ls (st.map (zv a)))) :
    ∀ (n pc : Nat) (lv st : List Value) (h : zH), zex tb cal own rt cd n pc lv st h = some (r, h') → lv.length = nL → ∀ (H : Heap) (locs : List Loc) (ls : Array Slot), zIv D a cA A s h H locs → zls a ls lv → W p l e R s m args below meth c H locs cells slots Q (F0 m pc ls (st.map (zv a))) := by
  intro n
  induction n with
  | zero => intro pc lv st h q; cases q
  | succ n ih =>
    intro pc lv st h q hln H locs ls hI hl
    unfold zex at q
    cases h1 : zfe cd pc with
    | none => rw [h1] at q; cases q
    | some e1 =>
      obtain ⟨i, len⟩ := e1
      obtain ⟨qz, hz1, hz2⟩ := zfe_mem h1
      obtain ⟨hd, hlo⟩ := hcd qz hz1 _ hz2
      rw [h1] at q
      simp only at q
      cases h2 : zend rt i st with
      | some v =>
        rw [h2] at q
        cases q
        exact hend pc len i st H locs ls hd hlo h2 hI
      | none =>
        rw [h2] at q
        simp only at q
        cases h3 : zstep tb cal own i len pc lv st h with
        | none => rw [h3] at q; cases q
        | some w =>
          obtain ⟨pc', lv', st', h2'⟩ := w
          rw [h3] at q
          exact zstep_W C0 hcal hd hlo h3 hln hI hl (fun H1 locs1 ls1 hI1 hl1 hln1 => ih pc' lv' st' h2' q hln1 H1 locs1 ls1 hI1 hl1)
end ZX
end
section
/-! A method's contract out of the small machine's call. -/
theorem zsl_len {a : Nat → Nat} : ∀ {av : List Value}, av.all (fun v => !(zc2 v) && zkn v) = true → (lg_sl (av.map (zv a))).length = av.length
  | [], _ => rfl
  | v :: r, h => by
    simp only [List.all_cons, Bool.and_eq_true, Bool.not_eq_true'] at h
    have hc : ¬ (zv a v).category = 2 := by rw [zv_cat, zc2_cat h.1.1]; decide
    have ih := zsl_len (a := a) (av := r) (by simpa only [Bool.and_eq_true, Bool.not_eq_true'] using h.2)
    unfold lg_sl at ih ⊢
    rw [List.map_cons, List.flatMap_cons, List.length_append, ih, if_neg hc]
    simp only [List.length_cons, List.length_nil]
    omega
theorem zla_mem {a : Nat → Nat} : ∀ {av : List Value} {j i : Nat} {v : Value}, av.all (fun v => !(zc2 v) && zkn v) = true → av[j]? = some v → (i + j, zv a v) ∈ lv_args i (av.map (zv a))
  | [], j, i, v, _, h => by simp at h
  | w :: r, 0, i, v, h, hv => by
    have hv : some w = some v := hv
    cases hv
    simp only [List.map_cons, lv_args]
    exact List.mem_cons_self
  | w :: r, j + 1, i, v, h, hv => by
    simp only [List.all_cons, Bool.and_eq_true, Bool.not_eq_true'] at h
    have hc : ¬ (zv a w).category = 2 := by rw [zv_cat, zc2_cat h.1.1]; decide
    rw [List.getElem?_cons_succ] at hv
    have ih := zla_mem (a := a) (av := r) (j := j) (i := i + 1) (by simpa only [Bool.and_eq_true, Bool.not_eq_true'] using h.2) hv
    simp only [List.map_cons, lv_args, if_neg hc]
    rw [show i + (j + 1) = i + 1 + j by omega]
    exact List.mem_cons_of_mem _ ih
theorem zent_len {av : List Value} {n : Nat} (h : av.length ≤ n) : (zent av n).length = n := by
  unfold zent
  rw [List.length_append, List.length_replicate]
  omega
theorem zls_ent {a : Nat → Nat} {av : List Value} {n : Nat} {ls : Array Slot} (ha : zavok av n = true) (hl : lv_has ls n (lv_args 0 (av.map (zv a)))) : zls a ls (zent av n) := by
  unfold zavok at ha
  simp only [Bool.and_eq_true, decide_eq_true_eq] at ha
  refine ⟨by rw [zent_len ha.1]; exact hl.1, hl.2.1, fun i v hv hk => ?_⟩
  unfold zent at hv
  by_cases hi : i < av.length
  · rw [List.getElem?_append_left hi] at hv
    have := hl.2.2 _ (zla_mem (a := a) (i := 0) (j := i) (v := v) (by simpa only [Bool.and_eq_true, Bool.not_eq_true'] using ha.2) hv)
    rw [Nat.zero_add] at this
    exact this
  · rw [List.getElem?_append_right (by omega), List.getElem?_replicate] at hv
    split at hv
    · cases hv; cases hk
    · cases hv
set_option maxHeartbeats 4000000 in
theorem zcall_W (l : Launch) (tb : zTb) : ∀ (d q : Nat) (av : List Value) (h : zH) (r : Option Value) (h' : zH), zcall tb d q av h = some (r, h') → zCon l tb d q av h r h' := by
  intro d
  induction d with
  | zero => intro q av h r h' hc; cases hc
  | succ d ih =>
    intro q av h r h' hc e he D a cA sz
    obtain ⟨e', he', ha, n, hn⟩ := zcall_ex hc
    cases he.symm.trans he'
    obtain ⟨p1, p2, p3, p4, p5, p6, p7⟩ := zMs_ok e (List.mem_of_getElem? he)
    refine Met.ofW (cc := e.2.2.1) (maxL := e.1.2.2.1) (ret := e.2.2.2) p3 rfl ?_
    intro p env s m args below meth c s₁ B hml hv
    obtain ⟨rfl, hsz, hP, hD0, hG⟩ := hv
    subst hsz
    have hts := atoms_spec (ws := zws e) B.pre
    have hown : s.vm.findClass (zR e.1.1) = some m.cls := by rw [← p5]; exact findClass_of_methodNamed B.named
    have hlocks := B.notSynchronized
    have hr := B.returns
    rw [p4] at hr
    have ha0 := ha
    unfold zavok at ha0
    simp only [Bool.and_eq_true, decide_eq_true_eq] at ha0
    have hall : av.all (fun v => !(zc2 v) && zkn v) = true := by simpa only [Bool.and_eq_true, Bool.not_eq_true'] using ha0.2
    have hlen := zsl_len (a := a) hall
    have hl := lv_entry (av.map (zv a)) (n := e.1.2.2.1) (by rw [hlen]; exact ha0.1)
    rw [lg_entry_eq]
    generalize (lg_sl (av.map (zv a)) ++ List.replicate (e.1.2.2.1 - (lg_sl (av.map (zv a))).length) Slot.unset).toArray = ls at hl ⊢
    have C0 : zCx p (headSpec (zws e) (zrm (d + 1))).room s m (av.map (zv a)).toArray c 0 0 D a cA tb (va_A (zw a cA h) s.heap.size) e.1.1 d e.1.2.2.1 e.2.2.1 :=
      ⟨B.exec, B.bytes, hml, hown, fun w hw => hts w (List.mem_cons_of_mem _ hw), fun q h => Or.inr h, hG, ⟨Nat.zero_le _, Nat.zero_le _⟩, Nat.le_refl _, Nat.le_refl _⟩
    refine zex_W (Q := MQ below (zPost D a cA h s.heap.size r h') (av.map (zv a)).toArray s 0 0 (va_A (zw a cA h) s.heap.size)) C0 ih p1 ?_ n 0 (zent av e.1.2.2.1) [] h hn (zent_len ha0.1) s.heap [] ls ⟨hP, hD0.self, va_S.rf⟩ (zls_ent ha hl)
    intro pc len i st H locs ls hd hlo hz hI
    unfold zend at hz
    split at hz
    · split at hz
      · rename_i hc2
        simp only [Bool.and_eq_true, decide_eq_true_eq, List.isEmpty_iff] at hc2
        cases hz
        obtain ⟨hc2, rfl⟩ := hc2
        rw [hc2] at hr
        obtain rfl : len = 1 := of_decide_eq_true hlo
        exact W.vret B.exec B.bytes hr (fun t ht hW => ⟨⟨rfl, by rw [ht]; exact hI.1, hI.2.1⟩, hI.2.2.F ht⟩) hI.2.2.2.2 hd
      · cases hz
    · split at hz
      · rename_i v
        obtain rfl : len = 1 := of_decide_eq_true hlo
        split at hz
        · rename_i hc2
          cases hz
          rw [hc2] at hr
          exact W.iret (v := v) B.exec B.bytes hr (fun t ht hW => ⟨⟨rfl, by rw [ht]; exact hI.1, hI.2.1⟩, hI.2.2.F ht⟩) hI.2.2.2.2 hd
        · split at hz
          · rename_i hc2
            split at hz
            · rename_i hc3
              cases hz
              rw [hc2] at hr
              exact W.zret (v := v) (ty := .boolean) B.exec B.bytes hr (by show Value.int (v &&& 1) = _; rw [hc3]) (fun t ht hW => ⟨⟨rfl, by rw [ht]; exact hI.1, hI.2.1⟩, hI.2.2.F ht⟩) hI.2.2.2.2 hd
            · cases hz
          · cases hz
      · cases hz
    · cases hz
end
section
/-! Walking the small machine: what it comes to. -/
def zX (tb : zTb) (cal : zCal) (own rt : Nat) (cd : zCd) (pc : Nat) (lv st : List Value) (h : zH) (r : Option Value × zH) : Prop := ∃ n, zex tb cal own rt cd n pc lv st h = some r
/-- c steps at once -/
def zgo (tb : zTb) (cal : zCal) (own rt : Nat) (cd : zCd) : Nat → Nat → List Value → List Value → zH → zT4
  | 0, pc, lv, st, h => some (pc, lv, st, h)
  | c + 1, pc, lv, st, h => match zfe cd pc with
    | none => none
    | some (i, len) => match zend rt i st with
      | some _ => none
      | none => match zstep tb cal own i len pc lv st h with
        | none => none
        | some (pc', lv', st', h') => zgo tb cal own rt cd c pc' lv' st' h'
abbrev zS : Type := Nat → Nat → Int32
def zup (s : zS) (r j : Nat) (v : Int32) : zS := fun r' => if r' = r then upd (s r) j v else s r'
def zq {α : Type} (b : Bool) (o : Option α) : Option α := if b = true then o else none
theorem zq_ok {α : Type} {b : Bool} {o : Option α} {r : α} (h : zq b o = some r) : b = true ∧ o = some r := by
  unfold zq at h
  split at h
  · exact ⟨by assumption, h⟩
  · cases h
def zbd {α β : Type} (o : Option α) (f : α → Option β) : Option β := match o with
  | some a => f a
  | none => none
theorem zbd_ok {α β : Type} {o : Option α} {f : α → Option β} {r : β} (h : zbd o f = some r) : ∃ a, o = some a ∧ f a = some r := by
  cases o with
  | none => cases h
  | some a => exact ⟨a, rfl, h⟩
section ZW
variable {tb : zTb} {cal : zCal} {own rt : Nat} {cd : zCd} {pc : Nat} {lv st : List Value} {h : zH} {r : Option Value × zH}
theorem zX_go {c pc' : Nat} {lv' st' : List Value} {h' : zH} : ∀ {pc : Nat} {lv st : List Value} {h : zH}, zgo tb cal own rt cd c pc lv st h = some (pc', lv', st', h') → zX tb cal own rt cd pc' lv' st' h' r → zX tb cal own rt cd pc lv st h r := by
  induction c with
  | zero => intro pc lv st h q k; cases q; exact k
  | succ c ih =>
    intro pc lv st h q k
    unfold zgo at q
    cases h1 : zfe cd pc with
    | none => rw [h1] at q; cases q
    | some e =>
      obtain ⟨i, len⟩ := e
      rw [h1] at q
      simp only at q
      cases h2 : zend rt i st with
      | some v => rw [h2] at q; cases q
      | none =>
        rw [h2] at q
        simp only at q
        cases h3 : zstep tb cal own i len pc lv st h with
        | none => rw [h3] at q; cases q
        | some w =>
          obtain ⟨pc2, lv2, st2, h2'⟩ := w
          rw [h3] at q
          obtain ⟨n, hn⟩ := ih q k
          refine ⟨n + 1, ?_⟩
          unfold zex
          simp only [h1, h2, h3]
          exact hn
theorem zX_step {i : zI} {len pc' : Nat} {lv' st' : List Value} {h' : zH} (h1 : zfe cd pc = some (i, len)) (h2 : zend rt i st = none) (h3 : zstep tb cal own i len pc lv st h = some (pc', lv', st', h')) (k : zX tb cal own rt cd pc' lv' st' h' r) : zX tb cal own rt cd pc lv st h r := by
  obtain ⟨n, hn⟩ := k
  refine ⟨n + 1, ?_⟩
  unfold zex
  simp only [h1, h2, h3]
  exact hn
theorem zX_ret {i : zI} {len : Nat} {v : Option Value} (h1 : zfe cd pc = some (i, len)) (h2 : zend rt i st = some v) : zX tb cal own rt cd pc lv st h (v, h) := by
  refine ⟨1, ?_⟩
  unfold zex
  simp only [h1, h2]
theorem zX_reti {len : Nat} {v : Int32} (h1 : zfe cd pc = some (.ireturn, len)) : zX tb cal own 1 cd pc lv [.int v] h (some (.int v), h) := zX_ret h1 rfl
theorem zX_retz {len : Nat} {v : Int32} (h1 : zfe cd pc = some (.ireturn, len)) (hv : v &&& 1 = v) : zX tb cal own 2 cd pc lv [.int v] h (some (.int v), h) := zX_ret h1 (by
  show (if (2 : Nat) = 1 then some (some (Value.int v)) else if (2 : Nat) = 2 then (if v &&& 1 = v then some (some (.int v)) else none) else none) = some (some (.int v))
  rw [if_neg (by decide), if_pos rfl, if_pos hv])
theorem zX_retv {len : Nat} (h1 : zfe cd pc = some (.return_, len)) : zX tb cal own 0 cd pc lv [] h (none, h) := zX_ret h1 rfl
theorem zX_ite {α : Type} {c : Prop} [Decidable c] {A B : Option α} {R : α} {p1 p2 : Nat} (hF : (if c then A else B) = some R) (k1 : c → A = some R → zX tb cal own rt cd p1 lv st h r) (k2 : ¬ c → B = some R → zX tb cal own rt cd p2 lv st h r) : zX tb cal own rt cd (if c then p1 else p2) lv st h r := by
  by_cases hc : c
  · rw [if_pos hc] at hF ⊢
    exact k1 hc hF
  · rw [if_neg hc] at hF ⊢
    exact k2 hc hF
theorem zX_ial {α : Type} {A : Option α} {R : α} {len n k : Nat} {f : Nat → Int32} {i : Int32} (h1 : zfe cd pc = some (.iaload, len)) (h2 : zrd tb h k = some (n, f)) (hF : zq (zin i n) A = some R) (kk : A = some R → zX tb cal own rt cd (pc + len) lv (.int (f i.toNatClampNeg) :: st) h r) : zX tb cal own rt cd pc lv (.int i :: .ref k :: st) h r := by
  obtain ⟨hz, hA⟩ := zq_ok hF
  exact zX_step h1 rfl (by
    show zial tb len pc lv (.int i :: .ref k :: st) h = _
    unfold zial
    simp only [h2, hz, if_true]) (kk hA)
theorem zX_bal {α : Type} {A : Option α} {R : α} {len t n k : Nat} {f : Nat → Int32} {i : Int32} (h1 : zfe cd pc = some (.baload, len)) (h2 : zbar h k = some (t, n, f)) (hF : zq (zin i n) A = some R) (kk : A = some R → zX tb cal own rt cd (pc + len) lv (.int (f i.toNatClampNeg) :: st) h r) : zX tb cal own rt cd pc lv (.int i :: .ref k :: st) h r := by
  obtain ⟨hz, hA⟩ := zq_ok hF
  exact zX_step h1 rfl (by
    show zbal len pc lv (.int i :: .ref k :: st) h = _
    unfold zbal
    simp only [h2, hz, if_true]) (kk hA)
theorem zX_ias {α : Type} {A : Option α} {R : α} {len n k : Nat} {f : Nat → Int32} {i x : Int32} {h' : zH} (h1 : zfe cd pc = some (.iastore, len)) (h2 : zarr h k 0 = some (n, f)) (h3 : h.set k (.inl (0, n, .inl (upd f i.toNatClampNeg x))) = h') (hF : zq (zin i n) A = some R) (kk : A = some R → zX tb cal own rt cd (pc + len) lv st h' r) : zX tb cal own rt cd pc lv (.int x :: .int i :: .ref k :: st) h r := by
  obtain ⟨hz, hA⟩ := zq_ok hF
  subst h3
  exact zX_step h1 rfl (by
    show zias len pc lv (.int x :: .int i :: .ref k :: st) h = _
    unfold zias
    simp only [h2, hz, if_true]) (kk hA)
theorem zX_bas {α : Type} {A : Option α} {R : α} {len t n k : Nat} {f : Nat → Int32} {i x : Int32} {h' : zH} (h1 : zfe cd pc = some (.bastore, len)) (h2 : zbar h k = some (t, n, f)) (h3 : h.set k (.inl (t, n, .inl (upd f i.toNatClampNeg (zbn t x)))) = h') (hF : zq (zin i n) A = some R) (kk : A = some R → zX tb cal own rt cd (pc + len) lv st h' r) : zX tb cal own rt cd pc lv (.int x :: .int i :: .ref k :: st) h r := by
  obtain ⟨hz, hA⟩ := zq_ok hF
  subst h3
  exact zX_step h1 rfl (by
    show zbas len pc lv (.int x :: .int i :: .ref k :: st) h = _
    unfold zbas
    simp only [h2, hz, if_true]) (kk hA)
theorem zX_inv {idx len mm nn ci k : Nat} {x : Nat × Nat × Nat × Nat} {st0 : List Value} {fs : List Value} {v : Option Value} {h' : zH} {av : List Value} (h1 : zfe cd pc = some (.invokevirtual idx, len)) (h2 : zlook (zvT own) idx = some (mm, nn, ci, x)) (h3 : st0.drop nn = .ref k :: st) (h4 : zobj h k ci = some fs) (h5 : (decide ((st0.take nn).length = nn) && decide (zsum st ≤ 8) && decide (k < 1000)) = true) (h6 : Value.ref k :: (st0.take nn).reverse = av) (hc : cal mm av h = some (v, h')) (kk : zX tb cal own rt cd (pc + len) lv (v.toList ++ st) h' r) : zX tb cal own rt cd pc lv st0 h r := by
  subst h6
  exact zX_step h1 rfl (by
    show zinv cal own idx len pc lv st0 h = _
    unfold zinv
    simp only [h2, h3, h4, h5, if_true, hc, zback]) kk
theorem zX_ins {idx len mm nn : Nat} {x : Nat × Nat × Nat} {st0 : List Value} {v : Option Value} {h' : zH} {av : List Value} (h1 : zfe cd pc = some (.invokestatic idx, len)) (h0 : zlook (zaT own) idx = none) (h2 : zlook (zsT own) idx = some (mm, nn, x)) (h3 : st0.drop nn = st) (h5 : (decide ((st0.take nn).length = nn) && decide (zsum (st0.drop nn) ≤ 8)) = true) (h6 : (st0.take nn).reverse = av) (hc : cal mm av h = some (v, h')) (kk : zX tb cal own rt cd (pc + len) lv (v.toList ++ st) h' r) : zX tb cal own rt cd pc lv st0 h r := by
  subst h6
  subst h3
  exact zX_step h1 rfl (by
    show zins cal own idx len pc lv st0 h = _
    unfold zins
    simp only [h0, h2, h5, if_true, hc, zback]) kk
theorem zcall_X {d q : Nat} {av : List Value} {e : zMe} (he : zMs[q]? = some e) (ha : zavok av e.1.2.2.1 = true) (hr : zX tb (zcall tb d) e.1.1 e.1.2.1 e.1.2.2.2 0 (zent av e.1.2.2.1) [] h r) : zcall tb (d + 1) q av h = some r := by
  obtain ⟨n, hn⟩ := hr
  exact zcall_of he ha hn
theorem zX_ldi {α : Type} {A : Option α} {R : α} {len : Nat} {x y : Int64} (h1 : zfe cd pc = some (.ldiv, len)) (hF : zq (!(y == 0)) A = some R) (kk : A = some R → zX tb cal own rt cd (pc + len) lv (.long (x / y) :: st) h r) : zX tb cal own rt cd pc lv (.long y :: .long x :: st) h r := by
  obtain ⟨hz, hA⟩ := zq_ok hF
  have hy : ¬ y = 0 := by simpa using hz
  exact zX_step h1 rfl (by
    show zbinl (fun x y => x / y) len pc lv (.long y :: .long x :: st) h = _
    unfold zbinl
    simp only [if_neg hy]) (kk hA)
theorem zX_lre {α : Type} {A : Option α} {R : α} {len : Nat} {x y : Int64} (h1 : zfe cd pc = some (.lrem, len)) (hF : zq (!(y == 0)) A = some R) (kk : A = some R → zX tb cal own rt cd (pc + len) lv (.long (x - x / y * y) :: st) h r) : zX tb cal own rt cd pc lv (.long y :: .long x :: st) h r := by
  obtain ⟨hz, hA⟩ := zq_ok hF
  have hy : ¬ y = 0 := by simpa using hz
  exact zX_step h1 rfl (by
    show zbinl (fun x y => x - x / y * y) len pc lv (.long y :: .long x :: st) h = _
    unfold zbinl
    simp only [if_neg hy]) (kk hA)
end ZW
end
section
/-! The cells of the class and of the reference: their arrays' and numbers' rows are s (the class) and t (the reference). By program (gen2.py). -/
def zHp (s t : zS) : zH := [
  .inr (5, [.ref 1, .ref 2, .ref 3, .ref 4, .ref 5, .ref 7, .int (s 1 0)]),
  .inr (0, [.int (s 2 0), .ref 8, .ref 9, .ref 10, .ref 11, .ref 12, .ref 13, .ref 14, .ref 15, .ref 16, .ref 17, .ref 18, .ref 19, .ref 20]),
  .inr (1, [.int (s 16 0), .ref 21, .ref 22]),
  .inr (3, [.ref 1, .int (s 19 0), .ref 23, .ref 24, .ref 25, .ref 26, .ref 27]),
  .inr (2, [.int (s 25 0), .ref 28, .ref 29, .ref 30]),
  .inr (4, [.ref 1, .ref 3, .ref 31, .int (s 30 0), .ref 32, .int (s 32 0), .int (s 33 0)]),
  .inr (6, [.int (t 0 0), .ref 33, .ref 34, .ref 35, .ref 36, .ref 37, .ref 38, .ref 39, .ref 40, .ref 41, .ref 42, .ref 43, .int (t 12 0), .ref 44, .ref 45, .int (t 15 0), .ref 46, .ref 47, .ref 48, .ref 49, .ref 50, .int (t 21 0), .ref 51, .int (t 23 0), .ref 52, .ref 53, .ref 54, .int (t 27 0), .ref 55, .int (t 29 0), .ref 56, .ref 57, .int (t 32 0), .ref 58, .ref 59]),
  .inl (0, 4, .inl (s 0)),
  .inl (0, 12, .inl (s 3)),
  .inl (0, 12, .inl (s 4)),
  .inl (1, 12, .inl (s 5)),
  .inl (0, 12, .inl (s 6)),
  .inl (0, 12, .inl (s 7)),
  .inl (0, 12, .inl (s 8)),
  .inl (0, 12, .inl (s 9)),
  .inl (1, 12, .inl (s 10)),
  .inl (1, 12, .inl (s 11)),
  .inl (0, 60, .inl (s 12)),
  .inl (0, 60, .inl (s 13)),
  .inl (1, 60, .inl (s 14)),
  .inl (0, 60, .inl (s 15)),
  .inl (0, 40, .inl (s 17)),
  .inl (0, 40, .inl (s 18)),
  .inl (0, 100, .inl (s 20)),
  .inl (0, 100, .inl (s 21)),
  .inl (0, 100, .inl (s 22)),
  .inl (1, 100, .inl (s 23)),
  .inl (0, 500, .inl (s 24)),
  .inl (0, 100, .inl (s 26)),
  .inl (0, 100, .inl (s 27)),
  .inl (0, 100, .inl (s 28)),
  .inl (2, 2000, .inl (s 29)),
  .inl (0, 10, .inl (s 31)),
  .inl (0, 12, .inl (t 1)),
  .inl (0, 12, .inl (t 2)),
  .inl (1, 12, .inl (t 3)),
  .inl (0, 12, .inl (t 4)),
  .inl (0, 12, .inl (t 5)),
  .inl (0, 12, .inl (t 6)),
  .inl (0, 60, .inl (t 7)),
  .inl (0, 60, .inl (t 8)),
  .inl (1, 60, .inl (t 9)),
  .inl (0, 60, .inl (t 10)),
  .inl (0, 12, .inl (t 11)),
  .inl (0, 40, .inl (t 13)),
  .inl (0, 40, .inl (t 14)),
  .inl (0, 100, .inl (t 16)),
  .inl (0, 100, .inl (t 17)),
  .inl (0, 100, .inl (t 18)),
  .inl (1, 100, .inl (t 19)),
  .inl (0, 500, .inl (t 20)),
  .inl (0, 4, .inl (t 22)),
  .inl (0, 64, .inl (t 24)),
  .inl (0, 64, .inl (t 25)),
  .inl (0, 64, .inl (t 26)),
  .inl (0, 2000, .inl (t 28)),
  .inl (0, 2000, .inl (t 30)),
  .inl (0, 10, .inl (t 31)),
  .inl (0, 100, .inl (t 33)),
  .inl (0, 100, .inl (t 34))]
/-- the static table of the targets that fit -/
def zft (j : Nat) : Int32 := match j with
  | 0 => 1
  | 1 => 1
  | 2 => 18
  | 3 => 20
  | 4 => 4
  | _ => 24
def ztb (L : Nat) (xs : Nat → Int32) : zTb := fun t => match t with
  | 0 => some (6, zft)
  | 1 => some (L, xs)
  | _ => none
theorem zst_0_6 (s t : zS) (v : Int32) : (zHp s t).set 0 (.inr (5, [.ref 1, .ref 2, .ref 3, .ref 4, .ref 5, .ref 7, .int (s 1 0)].set 6 (.int v))) = zHp (zup s 1 0 v) t := rfl
theorem zst_1_0 (s t : zS) (v : Int32) : (zHp s t).set 1 (.inr (0, [.int (s 2 0), .ref 8, .ref 9, .ref 10, .ref 11, .ref 12, .ref 13, .ref 14, .ref 15, .ref 16, .ref 17, .ref 18, .ref 19, .ref 20].set 0 (.int v))) = zHp (zup s 2 0 v) t := rfl
theorem zst_2_0 (s t : zS) (v : Int32) : (zHp s t).set 2 (.inr (1, [.int (s 16 0), .ref 21, .ref 22].set 0 (.int v))) = zHp (zup s 16 0 v) t := rfl
theorem zst_3_1 (s t : zS) (v : Int32) : (zHp s t).set 3 (.inr (3, [.ref 1, .int (s 19 0), .ref 23, .ref 24, .ref 25, .ref 26, .ref 27].set 1 (.int v))) = zHp (zup s 19 0 v) t := rfl
theorem zst_4_0 (s t : zS) (v : Int32) : (zHp s t).set 4 (.inr (2, [.int (s 25 0), .ref 28, .ref 29, .ref 30].set 0 (.int v))) = zHp (zup s 25 0 v) t := rfl
theorem zst_5_3 (s t : zS) (v : Int32) : (zHp s t).set 5 (.inr (4, [.ref 1, .ref 3, .ref 31, .int (s 30 0), .ref 32, .int (s 32 0), .int (s 33 0)].set 3 (.int v))) = zHp (zup s 30 0 v) t := rfl
theorem zst_5_5 (s t : zS) (v : Int32) : (zHp s t).set 5 (.inr (4, [.ref 1, .ref 3, .ref 31, .int (s 30 0), .ref 32, .int (s 32 0), .int (s 33 0)].set 5 (.int v))) = zHp (zup s 32 0 v) t := rfl
theorem zst_5_6 (s t : zS) (v : Int32) : (zHp s t).set 5 (.inr (4, [.ref 1, .ref 3, .ref 31, .int (s 30 0), .ref 32, .int (s 32 0), .int (s 33 0)].set 6 (.int v))) = zHp (zup s 33 0 v) t := rfl
theorem zst_6_0 (s t : zS) (v : Int32) : (zHp s t).set 6 (.inr (6, [.int (t 0 0), .ref 33, .ref 34, .ref 35, .ref 36, .ref 37, .ref 38, .ref 39, .ref 40, .ref 41, .ref 42, .ref 43, .int (t 12 0), .ref 44, .ref 45, .int (t 15 0), .ref 46, .ref 47, .ref 48, .ref 49, .ref 50, .int (t 21 0), .ref 51, .int (t 23 0), .ref 52, .ref 53, .ref 54, .int (t 27 0), .ref 55, .int (t 29 0), .ref 56, .ref 57, .int (t 32 0), .ref 58, .ref 59].set 0 (.int v))) = zHp s (zup t 0 0 v) := rfl
theorem zst_6_12 (s t : zS) (v : Int32) : (zHp s t).set 6 (.inr (6, [.int (t 0 0), .ref 33, .ref 34, .ref 35, .ref 36, .ref 37, .ref 38, .ref 39, .ref 40, .ref 41, .ref 42, .ref 43, .int (t 12 0), .ref 44, .ref 45, .int (t 15 0), .ref 46, .ref 47, .ref 48, .ref 49, .ref 50, .int (t 21 0), .ref 51, .int (t 23 0), .ref 52, .ref 53, .ref 54, .int (t 27 0), .ref 55, .int (t 29 0), .ref 56, .ref 57, .int (t 32 0), .ref 58, .ref 59].set 12 (.int v))) = zHp s (zup t 12 0 v) := rfl
theorem zst_6_15 (s t : zS) (v : Int32) : (zHp s t).set 6 (.inr (6, [.int (t 0 0), .ref 33, .ref 34, .ref 35, .ref 36, .ref 37, .ref 38, .ref 39, .ref 40, .ref 41, .ref 42, .ref 43, .int (t 12 0), .ref 44, .ref 45, .int (t 15 0), .ref 46, .ref 47, .ref 48, .ref 49, .ref 50, .int (t 21 0), .ref 51, .int (t 23 0), .ref 52, .ref 53, .ref 54, .int (t 27 0), .ref 55, .int (t 29 0), .ref 56, .ref 57, .int (t 32 0), .ref 58, .ref 59].set 15 (.int v))) = zHp s (zup t 15 0 v) := rfl
theorem zst_6_21 (s t : zS) (v : Int32) : (zHp s t).set 6 (.inr (6, [.int (t 0 0), .ref 33, .ref 34, .ref 35, .ref 36, .ref 37, .ref 38, .ref 39, .ref 40, .ref 41, .ref 42, .ref 43, .int (t 12 0), .ref 44, .ref 45, .int (t 15 0), .ref 46, .ref 47, .ref 48, .ref 49, .ref 50, .int (t 21 0), .ref 51, .int (t 23 0), .ref 52, .ref 53, .ref 54, .int (t 27 0), .ref 55, .int (t 29 0), .ref 56, .ref 57, .int (t 32 0), .ref 58, .ref 59].set 21 (.int v))) = zHp s (zup t 21 0 v) := rfl
theorem zst_6_23 (s t : zS) (v : Int32) : (zHp s t).set 6 (.inr (6, [.int (t 0 0), .ref 33, .ref 34, .ref 35, .ref 36, .ref 37, .ref 38, .ref 39, .ref 40, .ref 41, .ref 42, .ref 43, .int (t 12 0), .ref 44, .ref 45, .int (t 15 0), .ref 46, .ref 47, .ref 48, .ref 49, .ref 50, .int (t 21 0), .ref 51, .int (t 23 0), .ref 52, .ref 53, .ref 54, .int (t 27 0), .ref 55, .int (t 29 0), .ref 56, .ref 57, .int (t 32 0), .ref 58, .ref 59].set 23 (.int v))) = zHp s (zup t 23 0 v) := rfl
theorem zst_6_27 (s t : zS) (v : Int32) : (zHp s t).set 6 (.inr (6, [.int (t 0 0), .ref 33, .ref 34, .ref 35, .ref 36, .ref 37, .ref 38, .ref 39, .ref 40, .ref 41, .ref 42, .ref 43, .int (t 12 0), .ref 44, .ref 45, .int (t 15 0), .ref 46, .ref 47, .ref 48, .ref 49, .ref 50, .int (t 21 0), .ref 51, .int (t 23 0), .ref 52, .ref 53, .ref 54, .int (t 27 0), .ref 55, .int (t 29 0), .ref 56, .ref 57, .int (t 32 0), .ref 58, .ref 59].set 27 (.int v))) = zHp s (zup t 27 0 v) := rfl
theorem zst_6_29 (s t : zS) (v : Int32) : (zHp s t).set 6 (.inr (6, [.int (t 0 0), .ref 33, .ref 34, .ref 35, .ref 36, .ref 37, .ref 38, .ref 39, .ref 40, .ref 41, .ref 42, .ref 43, .int (t 12 0), .ref 44, .ref 45, .int (t 15 0), .ref 46, .ref 47, .ref 48, .ref 49, .ref 50, .int (t 21 0), .ref 51, .int (t 23 0), .ref 52, .ref 53, .ref 54, .int (t 27 0), .ref 55, .int (t 29 0), .ref 56, .ref 57, .int (t 32 0), .ref 58, .ref 59].set 29 (.int v))) = zHp s (zup t 29 0 v) := rfl
theorem zst_6_32 (s t : zS) (v : Int32) : (zHp s t).set 6 (.inr (6, [.int (t 0 0), .ref 33, .ref 34, .ref 35, .ref 36, .ref 37, .ref 38, .ref 39, .ref 40, .ref 41, .ref 42, .ref 43, .int (t 12 0), .ref 44, .ref 45, .int (t 15 0), .ref 46, .ref 47, .ref 48, .ref 49, .ref 50, .int (t 21 0), .ref 51, .int (t 23 0), .ref 52, .ref 53, .ref 54, .int (t 27 0), .ref 55, .int (t 29 0), .ref 56, .ref 57, .int (t 32 0), .ref 58, .ref 59].set 32 (.int v))) = zHp s (zup t 32 0 v) := rfl
theorem zst_7 (s t : zS) (j : Nat) (v : Int32) : (zHp s t).set 7 (.inl (0, 4, .inl (upd (s 0) j v))) = zHp (zup s 0 j v) t := rfl
theorem zst_8 (s t : zS) (j : Nat) (v : Int32) : (zHp s t).set 8 (.inl (0, 12, .inl (upd (s 3) j v))) = zHp (zup s 3 j v) t := rfl
theorem zst_9 (s t : zS) (j : Nat) (v : Int32) : (zHp s t).set 9 (.inl (0, 12, .inl (upd (s 4) j v))) = zHp (zup s 4 j v) t := rfl
theorem zst_10 (s t : zS) (j : Nat) (v : Int32) : (zHp s t).set 10 (.inl (1, 12, .inl (upd (s 5) j v))) = zHp (zup s 5 j v) t := rfl
theorem zst_11 (s t : zS) (j : Nat) (v : Int32) : (zHp s t).set 11 (.inl (0, 12, .inl (upd (s 6) j v))) = zHp (zup s 6 j v) t := rfl
theorem zst_12 (s t : zS) (j : Nat) (v : Int32) : (zHp s t).set 12 (.inl (0, 12, .inl (upd (s 7) j v))) = zHp (zup s 7 j v) t := rfl
theorem zst_13 (s t : zS) (j : Nat) (v : Int32) : (zHp s t).set 13 (.inl (0, 12, .inl (upd (s 8) j v))) = zHp (zup s 8 j v) t := rfl
theorem zst_14 (s t : zS) (j : Nat) (v : Int32) : (zHp s t).set 14 (.inl (0, 12, .inl (upd (s 9) j v))) = zHp (zup s 9 j v) t := rfl
theorem zst_15 (s t : zS) (j : Nat) (v : Int32) : (zHp s t).set 15 (.inl (1, 12, .inl (upd (s 10) j v))) = zHp (zup s 10 j v) t := rfl
theorem zst_16 (s t : zS) (j : Nat) (v : Int32) : (zHp s t).set 16 (.inl (1, 12, .inl (upd (s 11) j v))) = zHp (zup s 11 j v) t := rfl
theorem zst_17 (s t : zS) (j : Nat) (v : Int32) : (zHp s t).set 17 (.inl (0, 60, .inl (upd (s 12) j v))) = zHp (zup s 12 j v) t := rfl
theorem zst_18 (s t : zS) (j : Nat) (v : Int32) : (zHp s t).set 18 (.inl (0, 60, .inl (upd (s 13) j v))) = zHp (zup s 13 j v) t := rfl
theorem zst_19 (s t : zS) (j : Nat) (v : Int32) : (zHp s t).set 19 (.inl (1, 60, .inl (upd (s 14) j v))) = zHp (zup s 14 j v) t := rfl
theorem zst_20 (s t : zS) (j : Nat) (v : Int32) : (zHp s t).set 20 (.inl (0, 60, .inl (upd (s 15) j v))) = zHp (zup s 15 j v) t := rfl
theorem zst_21 (s t : zS) (j : Nat) (v : Int32) : (zHp s t).set 21 (.inl (0, 40, .inl (upd (s 17) j v))) = zHp (zup s 17 j v) t := rfl
theorem zst_22 (s t : zS) (j : Nat) (v : Int32) : (zHp s t).set 22 (.inl (0, 40, .inl (upd (s 18) j v))) = zHp (zup s 18 j v) t := rfl
theorem zst_23 (s t : zS) (j : Nat) (v : Int32) : (zHp s t).set 23 (.inl (0, 100, .inl (upd (s 20) j v))) = zHp (zup s 20 j v) t := rfl
theorem zst_24 (s t : zS) (j : Nat) (v : Int32) : (zHp s t).set 24 (.inl (0, 100, .inl (upd (s 21) j v))) = zHp (zup s 21 j v) t := rfl
theorem zst_25 (s t : zS) (j : Nat) (v : Int32) : (zHp s t).set 25 (.inl (0, 100, .inl (upd (s 22) j v))) = zHp (zup s 22 j v) t := rfl
theorem zst_26 (s t : zS) (j : Nat) (v : Int32) : (zHp s t).set 26 (.inl (1, 100, .inl (upd (s 23) j v))) = zHp (zup s 23 j v) t := rfl
theorem zst_27 (s t : zS) (j : Nat) (v : Int32) : (zHp s t).set 27 (.inl (0, 500, .inl (upd (s 24) j v))) = zHp (zup s 24 j v) t := rfl
theorem zst_28 (s t : zS) (j : Nat) (v : Int32) : (zHp s t).set 28 (.inl (0, 100, .inl (upd (s 26) j v))) = zHp (zup s 26 j v) t := rfl
theorem zst_29 (s t : zS) (j : Nat) (v : Int32) : (zHp s t).set 29 (.inl (0, 100, .inl (upd (s 27) j v))) = zHp (zup s 27 j v) t := rfl
theorem zst_30 (s t : zS) (j : Nat) (v : Int32) : (zHp s t).set 30 (.inl (0, 100, .inl (upd (s 28) j v))) = zHp (zup s 28 j v) t := rfl
theorem zst_31 (s t : zS) (j : Nat) (v : Int32) : (zHp s t).set 31 (.inl (2, 2000, .inl (upd (s 29) j v))) = zHp (zup s 29 j v) t := rfl
theorem zst_32 (s t : zS) (j : Nat) (v : Int32) : (zHp s t).set 32 (.inl (0, 10, .inl (upd (s 31) j v))) = zHp (zup s 31 j v) t := rfl
theorem zst_33 (s t : zS) (j : Nat) (v : Int32) : (zHp s t).set 33 (.inl (0, 12, .inl (upd (t 1) j v))) = zHp s (zup t 1 j v) := rfl
theorem zst_34 (s t : zS) (j : Nat) (v : Int32) : (zHp s t).set 34 (.inl (0, 12, .inl (upd (t 2) j v))) = zHp s (zup t 2 j v) := rfl
theorem zst_35 (s t : zS) (j : Nat) (v : Int32) : (zHp s t).set 35 (.inl (1, 12, .inl (upd (t 3) j v))) = zHp s (zup t 3 j v) := rfl
theorem zst_36 (s t : zS) (j : Nat) (v : Int32) : (zHp s t).set 36 (.inl (0, 12, .inl (upd (t 4) j v))) = zHp s (zup t 4 j v) := rfl
theorem zst_37 (s t : zS) (j : Nat) (v : Int32) : (zHp s t).set 37 (.inl (0, 12, .inl (upd (t 5) j v))) = zHp s (zup t 5 j v) := rfl
theorem zst_38 (s t : zS) (j : Nat) (v : Int32) : (zHp s t).set 38 (.inl (0, 12, .inl (upd (t 6) j v))) = zHp s (zup t 6 j v) := rfl
theorem zst_39 (s t : zS) (j : Nat) (v : Int32) : (zHp s t).set 39 (.inl (0, 60, .inl (upd (t 7) j v))) = zHp s (zup t 7 j v) := rfl
theorem zst_40 (s t : zS) (j : Nat) (v : Int32) : (zHp s t).set 40 (.inl (0, 60, .inl (upd (t 8) j v))) = zHp s (zup t 8 j v) := rfl
theorem zst_41 (s t : zS) (j : Nat) (v : Int32) : (zHp s t).set 41 (.inl (1, 60, .inl (upd (t 9) j v))) = zHp s (zup t 9 j v) := rfl
theorem zst_42 (s t : zS) (j : Nat) (v : Int32) : (zHp s t).set 42 (.inl (0, 60, .inl (upd (t 10) j v))) = zHp s (zup t 10 j v) := rfl
theorem zst_43 (s t : zS) (j : Nat) (v : Int32) : (zHp s t).set 43 (.inl (0, 12, .inl (upd (t 11) j v))) = zHp s (zup t 11 j v) := rfl
theorem zst_44 (s t : zS) (j : Nat) (v : Int32) : (zHp s t).set 44 (.inl (0, 40, .inl (upd (t 13) j v))) = zHp s (zup t 13 j v) := rfl
theorem zst_45 (s t : zS) (j : Nat) (v : Int32) : (zHp s t).set 45 (.inl (0, 40, .inl (upd (t 14) j v))) = zHp s (zup t 14 j v) := rfl
theorem zst_46 (s t : zS) (j : Nat) (v : Int32) : (zHp s t).set 46 (.inl (0, 100, .inl (upd (t 16) j v))) = zHp s (zup t 16 j v) := rfl
theorem zst_47 (s t : zS) (j : Nat) (v : Int32) : (zHp s t).set 47 (.inl (0, 100, .inl (upd (t 17) j v))) = zHp s (zup t 17 j v) := rfl
theorem zst_48 (s t : zS) (j : Nat) (v : Int32) : (zHp s t).set 48 (.inl (0, 100, .inl (upd (t 18) j v))) = zHp s (zup t 18 j v) := rfl
theorem zst_49 (s t : zS) (j : Nat) (v : Int32) : (zHp s t).set 49 (.inl (1, 100, .inl (upd (t 19) j v))) = zHp s (zup t 19 j v) := rfl
theorem zst_50 (s t : zS) (j : Nat) (v : Int32) : (zHp s t).set 50 (.inl (0, 500, .inl (upd (t 20) j v))) = zHp s (zup t 20 j v) := rfl
theorem zst_51 (s t : zS) (j : Nat) (v : Int32) : (zHp s t).set 51 (.inl (0, 4, .inl (upd (t 22) j v))) = zHp s (zup t 22 j v) := rfl
theorem zst_52 (s t : zS) (j : Nat) (v : Int32) : (zHp s t).set 52 (.inl (0, 64, .inl (upd (t 24) j v))) = zHp s (zup t 24 j v) := rfl
theorem zst_53 (s t : zS) (j : Nat) (v : Int32) : (zHp s t).set 53 (.inl (0, 64, .inl (upd (t 25) j v))) = zHp s (zup t 25 j v) := rfl
theorem zst_54 (s t : zS) (j : Nat) (v : Int32) : (zHp s t).set 54 (.inl (0, 64, .inl (upd (t 26) j v))) = zHp s (zup t 26 j v) := rfl
theorem zst_55 (s t : zS) (j : Nat) (v : Int32) : (zHp s t).set 55 (.inl (0, 2000, .inl (upd (t 28) j v))) = zHp s (zup t 28 j v) := rfl
theorem zst_56 (s t : zS) (j : Nat) (v : Int32) : (zHp s t).set 56 (.inl (0, 2000, .inl (upd (t 30) j v))) = zHp s (zup t 30 j v) := rfl
theorem zst_57 (s t : zS) (j : Nat) (v : Int32) : (zHp s t).set 57 (.inl (0, 10, .inl (upd (t 31) j v))) = zHp s (zup t 31 j v) := rfl
theorem zst_58 (s t : zS) (j : Nat) (v : Int32) : (zHp s t).set 58 (.inl (0, 100, .inl (upd (t 33) j v))) = zHp s (zup t 33 j v) := rfl
theorem zst_59 (s t : zS) (j : Nat) (v : Int32) : (zHp s t).set 59 (.inl (0, 100, .inl (upd (t 34) j v))) = zHp s (zup t 34 j v) := rfl
theorem zX_pfi {tb : zTb} {cal : zCal} {own rt : Nat} {cd : zCd} {pc : Nat} {lv st : List Value} {h : zH} {r : Option Value × zH} {idx len k ci j : Nat} {y : Nat} {fs : List Value} {x : Int32} {h' : zH} (h1 : zfe cd pc = some (.putfield idx, len)) (h2 : zlook (zfT own) idx = some (ci, j, 0, y)) (h3 : zobj h k ci = some fs) (h4 : decide (j < fs.length) = true) (h5 : h.set k (.inr (ci, fs.set j (.int x))) = h') (kk : zX tb cal own rt cd (pc + len) lv st h' r) : zX tb cal own rt cd pc lv (.int x :: .ref k :: st) h r := by
  subst h5
  exact zX_step h1 rfl (by
    show zputf own idx len pc lv (.int x :: .ref k :: st) h = _
    unfold zputf
    have hc : (zfit 0 x && decide (j < fs.length)) = true := by rw [h4]; simp [zfit]
    simp only [h2, h3, hc, if_true]) kk
theorem zX_pfz {α : Type} {A : Option α} {R : α} {tb : zTb} {cal : zCal} {own rt : Nat} {cd : zCd} {pc : Nat} {lv st : List Value} {h : zH} {r : Option Value × zH} {idx len k ci j : Nat} {y : Nat} {fs : List Value} {x : Int32} {h' : zH} (h1 : zfe cd pc = some (.putfield idx, len)) (h2 : zlook (zfT own) idx = some (ci, j, 1, y)) (h3 : zobj h k ci = some fs) (h4 : decide (j < fs.length) = true) (h5 : h.set k (.inr (ci, fs.set j (.int x))) = h') (hF : zq (x == 0 || x == 1) A = some R) (kk : A = some R → zX tb cal own rt cd (pc + len) lv st h' r) : zX tb cal own rt cd pc lv (.int x :: .ref k :: st) h r := by
  obtain ⟨hz, hA⟩ := zq_ok hF
  subst h5
  exact zX_step h1 rfl (by
    show zputf own idx len pc lv (.int x :: .ref k :: st) h = _
    unfold zputf
    have hc : (zfit 1 x && decide (j < fs.length)) = true := by rw [h4]; simpa [zfit] using hz
    simp only [h2, h3, hc, if_true]) (kk hA)
end
section
/-! What the methods answer, and that the small machine answers so: by program (gen2.py). -/
def f_X0_has (M : Nat) (s : zS) (x1 : Int32) : Option (Int32) :=
  if x1 < 0 then
   some (zki 0)
  else
   if x1 < (s 2 0) then
    some (zki 1)
   else
    some (zki 0)
set_option maxRecDepth 100000 in
set_option maxHeartbeats 4000000 in
theorem t_X0_has {L : Nat} {xs : Nat → Int32} (M : Nat) (s t : zS) (x1 : Int32) (R : Int32) (hF : f_X0_has M s x1 = some R) : zcall (ztb L xs) 1 0 [.ref 1, .int x1] (zHp s t) = some (some (.int R), zHp s t) := by
  unfold f_X0_has at hF
  refine zcall_X (d := 0) (e := zm_X0_has) rfl rfl ?_
  show zX (ztb L xs) (zcall (ztb L xs) 0) 0 2 zk_X0_has 0 [.ref 1, .int x1] [] (zHp s t) _
  refine zX_go (c := 2) (pc' := if x1 < 0 then 16 else 4) (lv' := [.ref 1, .int x1]) (st' := []) (h' := zHp s t) rfl ?_
  refine zX_ite hF (fun c0 hF => ?_) (fun c0 hF => ?_)
  · refine zX_go (c := 1) (pc' := 17) (lv' := [.ref 1, .int x1]) (st' := [.int (zki 0)]) (h' := zHp s t) rfl ?_
    cases hF
    exact zX_retz rfl (by decide)
  · refine zX_go (c := 4) (pc' := if x1 < (s 2 0) then 12 else 16) (lv' := [.ref 1, .int x1]) (st' := []) (h' := zHp s t) rfl ?_
    refine zX_ite hF (fun c0 hF => ?_) (fun c0 hF => ?_)
    · refine zX_go (c := 2) (pc' := 17) (lv' := [.ref 1, .int x1]) (st' := [.int (zki 1)]) (h' := zHp s t) rfl ?_
      cases hF
      exact zX_retz rfl (by decide)
    · refine zX_go (c := 1) (pc' := 17) (lv' := [.ref 1, .int x1]) (st' := [.int (zki 0)]) (h' := zHp s t) rfl ?_
      cases hF
      exact zX_retz rfl (by decide)
def f_X0_hasKind (M : Nat) (s : zS) (x1 : Int32) : Option (Int32) :=
  if x1 < 0 then
   zbd (f_X0_has M s (x1 - (zkb 10))) (fun q1 =>
    if q1 = 0 then
     some (zki 0)
    else
     some (zki 1))
  else
   if (zki 3) < x1 then
    zbd (f_X0_has M s (x1 - (zkb 10))) (fun q2 =>
     if q2 = 0 then
      some (zki 0)
     else
      some (zki 1))
   else
    some (zki 1)
set_option maxRecDepth 100000 in
set_option maxHeartbeats 4000000 in
theorem t_X0_hasKind {L : Nat} {xs : Nat → Int32} (M : Nat) (s t : zS) (x1 : Int32) (R : Int32) (hF : f_X0_hasKind M s x1 = some R) : zcall (ztb L xs) 2 1 [.ref 1, .int x1] (zHp s t) = some (some (.int R), zHp s t) := by
  unfold f_X0_hasKind at hF
  refine zcall_X (d := 1) (e := zm_X0_hasKind) rfl rfl ?_
  show zX (ztb L xs) (zcall (ztb L xs) 1) 0 2 zk_X0_hasKind 0 [.ref 1, .int x1] [] (zHp s t) _
  refine zX_go (c := 2) (pc' := if x1 < 0 then 9 else 4) (lv' := [.ref 1, .int x1]) (st' := []) (h' := zHp s t) rfl ?_
  refine zX_ite hF (fun c0 hF => ?_) (fun c0 hF => ?_)
  · refine zX_go (c := 4) (pc' := 14) (lv' := [.ref 1, .int x1]) (st' := [.int (x1 - (zkb 10)), .ref 1]) (h' := zHp s t) rfl ?_
    obtain ⟨q1, hq, hF⟩ := zbd_ok hF
    refine zX_inv (av := [.ref 1, .int (x1 - (zkb 10))]) (st := []) (h' := zHp s t) rfl rfl rfl rfl rfl rfl (zcall_le (t_X0_has M _ _ _ _ hq) (by decide)) ?_
    refine zX_go (c := 1) (pc' := if q1 = 0 then 24 else 20) (lv' := [.ref 1, .int x1]) (st' := []) (h' := zHp s t) rfl ?_
    refine zX_ite hF (fun c0 hF => ?_) (fun c0 hF => ?_)
    · refine zX_go (c := 1) (pc' := 25) (lv' := [.ref 1, .int x1]) (st' := [.int (zki 0)]) (h' := zHp s t) rfl ?_
      cases hF
      exact zX_retz rfl (by decide)
    · refine zX_go (c := 2) (pc' := 25) (lv' := [.ref 1, .int x1]) (st' := [.int (zki 1)]) (h' := zHp s t) rfl ?_
      cases hF
      exact zX_retz rfl (by decide)
  · refine zX_go (c := 3) (pc' := if (zki 3) < x1 then 9 else 20) (lv' := [.ref 1, .int x1]) (st' := []) (h' := zHp s t) rfl ?_
    refine zX_ite hF (fun c0 hF => ?_) (fun c0 hF => ?_)
    · refine zX_go (c := 4) (pc' := 14) (lv' := [.ref 1, .int x1]) (st' := [.int (x1 - (zkb 10)), .ref 1]) (h' := zHp s t) rfl ?_
      obtain ⟨q2, hq, hF⟩ := zbd_ok hF
      refine zX_inv (av := [.ref 1, .int (x1 - (zkb 10))]) (st := []) (h' := zHp s t) rfl rfl rfl rfl rfl rfl (zcall_le (t_X0_has M _ _ _ _ hq) (by decide)) ?_
      refine zX_go (c := 1) (pc' := if q2 = 0 then 24 else 20) (lv' := [.ref 1, .int x1]) (st' := []) (h' := zHp s t) rfl ?_
      refine zX_ite hF (fun c0 hF => ?_) (fun c0 hF => ?_)
      · refine zX_go (c := 1) (pc' := 25) (lv' := [.ref 1, .int x1]) (st' := [.int (zki 0)]) (h' := zHp s t) rfl ?_
        cases hF
        exact zX_retz rfl (by decide)
      · refine zX_go (c := 2) (pc' := 25) (lv' := [.ref 1, .int x1]) (st' := [.int (zki 1)]) (h' := zHp s t) rfl ?_
        cases hF
        exact zX_retz rfl (by decide)
    · refine zX_go (c := 2) (pc' := 25) (lv' := [.ref 1, .int x1]) (st' := [.int (zki 1)]) (h' := zHp s t) rfl ?_
      cases hF
      exact zX_retz rfl (by decide)
def f_X0_add (M : Nat) (s : zS) (x1 x2 x3 : Int32) : Option (Int32 × zS) :=
  if (s 2 0) < (zkb 12) then
   zq (zin (s 2 0) 12) <|
   zq (zin ((zup s 3 (s 2 0).toNatClampNeg x1) 2 0) 12) <|
   zq (zin ((zup (zup s 3 (s 2 0).toNatClampNeg x1) 4 ((zup s 3 (s 2 0).toNatClampNeg x1) 2 0).toNatClampNeg x2) 2 0) 12) <|
   some (((zup (zup (zup (zup s 3 (s 2 0).toNatClampNeg x1) 4 ((zup s 3 (s 2 0).toNatClampNeg x1) 2 0).toNatClampNeg x2) 5 ((zup (zup s 3 (s 2 0).toNatClampNeg x1) 4 ((zup s 3 (s 2 0).toNatClampNeg x1) 2 0).toNatClampNeg x2) 2 0).toNatClampNeg (zbn 1 x3)) 2 0 (((zup (zup (zup s 3 (s 2 0).toNatClampNeg x1) 4 ((zup s 3 (s 2 0).toNatClampNeg x1) 2 0).toNatClampNeg x2) 5 ((zup (zup s 3 (s 2 0).toNatClampNeg x1) 4 ((zup s 3 (s 2 0).toNatClampNeg x1) 2 0).toNatClampNeg x2) 2 0).toNatClampNeg (zbn 1 x3)) 2 0) + (zki 1))) 2 0) - (zki 1), zup (zup (zup (zup s 3 (s 2 0).toNatClampNeg x1) 4 ((zup s 3 (s 2 0).toNatClampNeg x1) 2 0).toNatClampNeg x2) 5 ((zup (zup s 3 (s 2 0).toNatClampNeg x1) 4 ((zup s 3 (s 2 0).toNatClampNeg x1) 2 0).toNatClampNeg x2) 2 0).toNatClampNeg (zbn 1 x3)) 2 0 (((zup (zup (zup s 3 (s 2 0).toNatClampNeg x1) 4 ((zup s 3 (s 2 0).toNatClampNeg x1) 2 0).toNatClampNeg x2) 5 ((zup (zup s 3 (s 2 0).toNatClampNeg x1) 4 ((zup s 3 (s 2 0).toNatClampNeg x1) 2 0).toNatClampNeg x2) 2 0).toNatClampNeg (zbn 1 x3)) 2 0) + (zki 1)))
  else
   some (zkb (-3), s)
set_option maxRecDepth 100000 in
set_option maxHeartbeats 4000000 in
theorem t_X0_add {L : Nat} {xs : Nat → Int32} (M : Nat) (s t : zS) (x1 x2 x3 : Int32) (R : Int32 × zS) (hF : f_X0_add M s x1 x2 x3 = some R) : zcall (ztb L xs) 1 2 [.ref 1, .int x1, .int x2, .int x3] (zHp s t) = some (some (.int R.1), zHp R.2 t) := by
  unfold f_X0_add at hF
  refine zcall_X (d := 0) (e := zm_X0_add) rfl rfl ?_
  show zX (ztb L xs) (zcall (ztb L xs) 0) 0 1 zk_X0_add 0 [.ref 1, .int x1, .int x2, .int x3] [] (zHp s t) _
  refine zX_go (c := 4) (pc' := if (s 2 0) < (zkb 12) then 12 else 9) (lv' := [.ref 1, .int x1, .int x2, .int x3]) (st' := []) (h' := zHp s t) rfl ?_
  refine zX_ite hF (fun c0 hF => ?_) (fun c0 hF => ?_)
  · refine zX_go (c := 5) (pc' := 21) (lv' := [.ref 1, .int x1, .int x2, .int x3]) (st' := [.int x1, .int (s 2 0), .ref 8]) (h' := zHp s t) rfl ?_
    refine zX_ias (n := 12) (h' := zHp (zup s 3 (s 2 0).toNatClampNeg x1) t) rfl rfl (zst_8 _ _ _ _) hF (fun hF => ?_)
    refine zX_go (c := 5) (pc' := 31) (lv' := [.ref 1, .int x1, .int x2, .int x3]) (st' := [.int x2, .int ((zup s 3 (s 2 0).toNatClampNeg x1) 2 0), .ref 9]) (h' := zHp (zup s 3 (s 2 0).toNatClampNeg x1) t) rfl ?_
    refine zX_ias (n := 12) (h' := zHp (zup (zup s 3 (s 2 0).toNatClampNeg x1) 4 ((zup s 3 (s 2 0).toNatClampNeg x1) 2 0).toNatClampNeg x2) t) rfl rfl (zst_9 _ _ _ _) hF (fun hF => ?_)
    refine zX_go (c := 5) (pc' := 41) (lv' := [.ref 1, .int x1, .int x2, .int x3]) (st' := [.int x3, .int ((zup (zup s 3 (s 2 0).toNatClampNeg x1) 4 ((zup s 3 (s 2 0).toNatClampNeg x1) 2 0).toNatClampNeg x2) 2 0), .ref 10]) (h' := zHp (zup (zup s 3 (s 2 0).toNatClampNeg x1) 4 ((zup s 3 (s 2 0).toNatClampNeg x1) 2 0).toNatClampNeg x2) t) rfl ?_
    refine zX_bas (n := 12) (h' := zHp (zup (zup (zup s 3 (s 2 0).toNatClampNeg x1) 4 ((zup s 3 (s 2 0).toNatClampNeg x1) 2 0).toNatClampNeg x2) 5 ((zup (zup s 3 (s 2 0).toNatClampNeg x1) 4 ((zup s 3 (s 2 0).toNatClampNeg x1) 2 0).toNatClampNeg x2) 2 0).toNatClampNeg (zbn 1 x3)) t) rfl rfl (zst_10 _ _ _ _) hF (fun hF => ?_)
    refine zX_go (c := 5) (pc' := 49) (lv' := [.ref 1, .int x1, .int x2, .int x3]) (st' := [.int (((zup (zup (zup s 3 (s 2 0).toNatClampNeg x1) 4 ((zup s 3 (s 2 0).toNatClampNeg x1) 2 0).toNatClampNeg x2) 5 ((zup (zup s 3 (s 2 0).toNatClampNeg x1) 4 ((zup s 3 (s 2 0).toNatClampNeg x1) 2 0).toNatClampNeg x2) 2 0).toNatClampNeg (zbn 1 x3)) 2 0) + (zki 1)), .ref 1]) (h' := zHp (zup (zup (zup s 3 (s 2 0).toNatClampNeg x1) 4 ((zup s 3 (s 2 0).toNatClampNeg x1) 2 0).toNatClampNeg x2) 5 ((zup (zup s 3 (s 2 0).toNatClampNeg x1) 4 ((zup s 3 (s 2 0).toNatClampNeg x1) 2 0).toNatClampNeg x2) 2 0).toNatClampNeg (zbn 1 x3)) t) rfl ?_
    refine zX_pfi (h' := zHp (zup (zup (zup (zup s 3 (s 2 0).toNatClampNeg x1) 4 ((zup s 3 (s 2 0).toNatClampNeg x1) 2 0).toNatClampNeg x2) 5 ((zup (zup s 3 (s 2 0).toNatClampNeg x1) 4 ((zup s 3 (s 2 0).toNatClampNeg x1) 2 0).toNatClampNeg x2) 2 0).toNatClampNeg (zbn 1 x3)) 2 0 (((zup (zup (zup s 3 (s 2 0).toNatClampNeg x1) 4 ((zup s 3 (s 2 0).toNatClampNeg x1) 2 0).toNatClampNeg x2) 5 ((zup (zup s 3 (s 2 0).toNatClampNeg x1) 4 ((zup s 3 (s 2 0).toNatClampNeg x1) 2 0).toNatClampNeg x2) 2 0).toNatClampNeg (zbn 1 x3)) 2 0) + (zki 1))) t) rfl rfl rfl rfl (zst_1_0 _ _ _) ?_
    refine zX_go (c := 4) (pc' := 58) (lv' := [.ref 1, .int x1, .int x2, .int x3]) (st' := [.int (((zup (zup (zup (zup s 3 (s 2 0).toNatClampNeg x1) 4 ((zup s 3 (s 2 0).toNatClampNeg x1) 2 0).toNatClampNeg x2) 5 ((zup (zup s 3 (s 2 0).toNatClampNeg x1) 4 ((zup s 3 (s 2 0).toNatClampNeg x1) 2 0).toNatClampNeg x2) 2 0).toNatClampNeg (zbn 1 x3)) 2 0 (((zup (zup (zup s 3 (s 2 0).toNatClampNeg x1) 4 ((zup s 3 (s 2 0).toNatClampNeg x1) 2 0).toNatClampNeg x2) 5 ((zup (zup s 3 (s 2 0).toNatClampNeg x1) 4 ((zup s 3 (s 2 0).toNatClampNeg x1) 2 0).toNatClampNeg x2) 2 0).toNatClampNeg (zbn 1 x3)) 2 0) + (zki 1))) 2 0) - (zki 1))]) (h' := zHp (zup (zup (zup (zup s 3 (s 2 0).toNatClampNeg x1) 4 ((zup s 3 (s 2 0).toNatClampNeg x1) 2 0).toNatClampNeg x2) 5 ((zup (zup s 3 (s 2 0).toNatClampNeg x1) 4 ((zup s 3 (s 2 0).toNatClampNeg x1) 2 0).toNatClampNeg x2) 2 0).toNatClampNeg (zbn 1 x3)) 2 0 (((zup (zup (zup s 3 (s 2 0).toNatClampNeg x1) 4 ((zup s 3 (s 2 0).toNatClampNeg x1) 2 0).toNatClampNeg x2) 5 ((zup (zup s 3 (s 2 0).toNatClampNeg x1) 4 ((zup s 3 (s 2 0).toNatClampNeg x1) 2 0).toNatClampNeg x2) 2 0).toNatClampNeg (zbn 1 x3)) 2 0) + (zki 1))) t) rfl ?_
    cases hF
    exact zX_reti rfl
  · refine zX_go (c := 1) (pc' := 11) (lv' := [.ref 1, .int x1, .int x2, .int x3]) (st' := [.int (zkb (-3))]) (h' := zHp s t) rfl ?_
    cases hF
    exact zX_reti rfl
def f_X0_leadOf (M : Nat) (s : zS) (x1 : Int32) : Option (Int32) :=
  if x1 < (zkb 10) then
   some (zki 0)
  else
   some ((zki 1) <<< ((x1 - (zkb 10)) &&& 31))
set_option maxRecDepth 100000 in
set_option maxHeartbeats 4000000 in
theorem t_X0_leadOf {L : Nat} {xs : Nat → Int32} (M : Nat) (s t : zS) (x1 : Int32) (R : Int32) (hF : f_X0_leadOf M s x1 = some R) : zcall (ztb L xs) 1 7 [.int x1] (zHp s t) = some (some (.int R), zHp s t) := by
  unfold f_X0_leadOf at hF
  refine zcall_X (d := 0) (e := zm_X0_leadOf) rfl rfl ?_
  show zX (ztb L xs) (zcall (ztb L xs) 0) 0 1 zk_X0_leadOf 0 [.int x1] [] (zHp s t) _
  refine zX_go (c := 3) (pc' := if x1 < (zkb 10) then 15 else 6) (lv' := [.int x1]) (st' := []) (h' := zHp s t) rfl ?_
  refine zX_ite hF (fun c0 hF => ?_) (fun c0 hF => ?_)
  · refine zX_go (c := 1) (pc' := 16) (lv' := [.int x1]) (st' := [.int (zki 0)]) (h' := zHp s t) rfl ?_
    cases hF
    exact zX_reti rfl
  · refine zX_go (c := 6) (pc' := 16) (lv' := [.int x1]) (st' := [.int ((zki 1) <<< ((x1 - (zkb 10)) &&& 31))]) (h' := zHp s t) rfl ?_
    cases hF
    exact zX_reti rfl
def f_X0_addElement (M : Nat) (s : zS) (x1 x2 x3 x4 : Int32) : Option (Int32 × zS) :=
  zq (zin x1 12) <|
  if (s 6 x1.toNatClampNeg) < (zki 5) then
   zq (zin x1 12) <|
   zq (zin ((x1 * (zki 5)) + (s 6 x1.toNatClampNeg)) 60) <|
   zq (zin ((x1 * (zki 5)) + (s 6 x1.toNatClampNeg)) 60) <|
   zq (zin ((x1 * (zki 5)) + (s 6 x1.toNatClampNeg)) 60) <|
   zq (zin x1 12) <|
   zbd (f_X0_leadOf M (zup (zup (zup s 12 ((x1 * (zki 5)) + (s 6 x1.toNatClampNeg)).toNatClampNeg x2) 13 ((x1 * (zki 5)) + (s 6 x1.toNatClampNeg)).toNatClampNeg x3) 14 ((x1 * (zki 5)) + (s 6 x1.toNatClampNeg)).toNatClampNeg (zbn 1 x4)) x3) (fun q1 =>
    zq (zin x1 12) <|
    zq (zin x1 12) <|
    zq (zin x1 12) <|
    zq (zin x1 12) <|
    some ((zup (zup (zup (zup (zup s 12 ((x1 * (zki 5)) + (s 6 x1.toNatClampNeg)).toNatClampNeg x2) 13 ((x1 * (zki 5)) + (s 6 x1.toNatClampNeg)).toNatClampNeg x3) 14 ((x1 * (zki 5)) + (s 6 x1.toNatClampNeg)).toNatClampNeg (zbn 1 x4)) 7 x1.toNatClampNeg (((zup (zup (zup s 12 ((x1 * (zki 5)) + (s 6 x1.toNatClampNeg)).toNatClampNeg x2) 13 ((x1 * (zki 5)) + (s 6 x1.toNatClampNeg)).toNatClampNeg x3) 14 ((x1 * (zki 5)) + (s 6 x1.toNatClampNeg)).toNatClampNeg (zbn 1 x4)) 7 x1.toNatClampNeg) ||| q1)) 6 x1.toNatClampNeg (((zup (zup (zup (zup s 12 ((x1 * (zki 5)) + (s 6 x1.toNatClampNeg)).toNatClampNeg x2) 13 ((x1 * (zki 5)) + (s 6 x1.toNatClampNeg)).toNatClampNeg x3) 14 ((x1 * (zki 5)) + (s 6 x1.toNatClampNeg)).toNatClampNeg (zbn 1 x4)) 7 x1.toNatClampNeg (((zup (zup (zup s 12 ((x1 * (zki 5)) + (s 6 x1.toNatClampNeg)).toNatClampNeg x2) 13 ((x1 * (zki 5)) + (s 6 x1.toNatClampNeg)).toNatClampNeg x3) 14 ((x1 * (zki 5)) + (s 6 x1.toNatClampNeg)).toNatClampNeg (zbn 1 x4)) 7 x1.toNatClampNeg) ||| q1)) 6 x1.toNatClampNeg) + (zki 1))) 6 x1.toNatClampNeg, zup (zup (zup (zup (zup s 12 ((x1 * (zki 5)) + (s 6 x1.toNatClampNeg)).toNatClampNeg x2) 13 ((x1 * (zki 5)) + (s 6 x1.toNatClampNeg)).toNatClampNeg x3) 14 ((x1 * (zki 5)) + (s 6 x1.toNatClampNeg)).toNatClampNeg (zbn 1 x4)) 7 x1.toNatClampNeg (((zup (zup (zup s 12 ((x1 * (zki 5)) + (s 6 x1.toNatClampNeg)).toNatClampNeg x2) 13 ((x1 * (zki 5)) + (s 6 x1.toNatClampNeg)).toNatClampNeg x3) 14 ((x1 * (zki 5)) + (s 6 x1.toNatClampNeg)).toNatClampNeg (zbn 1 x4)) 7 x1.toNatClampNeg) ||| q1)) 6 x1.toNatClampNeg (((zup (zup (zup (zup s 12 ((x1 * (zki 5)) + (s 6 x1.toNatClampNeg)).toNatClampNeg x2) 13 ((x1 * (zki 5)) + (s 6 x1.toNatClampNeg)).toNatClampNeg x3) 14 ((x1 * (zki 5)) + (s 6 x1.toNatClampNeg)).toNatClampNeg (zbn 1 x4)) 7 x1.toNatClampNeg (((zup (zup (zup s 12 ((x1 * (zki 5)) + (s 6 x1.toNatClampNeg)).toNatClampNeg x2) 13 ((x1 * (zki 5)) + (s 6 x1.toNatClampNeg)).toNatClampNeg x3) 14 ((x1 * (zki 5)) + (s 6 x1.toNatClampNeg)).toNatClampNeg (zbn 1 x4)) 7 x1.toNatClampNeg) ||| q1)) 6 x1.toNatClampNeg) + (zki 1))))
  else
   some (zkb (-3), s)
set_option maxRecDepth 100000 in
set_option maxHeartbeats 4000000 in
theorem t_X0_addElement {L : Nat} {xs : Nat → Int32} (M : Nat) (s t : zS) (x1 x2 x3 x4 : Int32) (R : Int32 × zS) (hF : f_X0_addElement M s x1 x2 x3 x4 = some R) : zcall (ztb L xs) 2 3 [.ref 1, .int x1, .int x2, .int x3, .int x4] (zHp s t) = some (some (.int R.1), zHp R.2 t) := by
  unfold f_X0_addElement at hF
  refine zcall_X (d := 1) (e := zm_X0_addElement) rfl rfl ?_
  show zX (ztb L xs) (zcall (ztb L xs) 1) 0 1 zk_X0_addElement 0 [.ref 1, .int x1, .int x2, .int x3, .int x4, .retAddr 0] [] (zHp s t) _
  refine zX_go (c := 3) (pc' := 5) (lv' := [.ref 1, .int x1, .int x2, .int x3, .int x4, .retAddr 0]) (st' := [.int x1, .ref 11]) (h' := zHp s t) rfl ?_
  refine zX_ial (n := 12) rfl rfl hF (fun hF => ?_)
  refine zX_go (c := 2) (pc' := if (s 6 x1.toNatClampNeg) < (zki 5) then 13 else 10) (lv' := [.ref 1, .int x1, .int x2, .int x3, .int x4, .retAddr 0]) (st' := []) (h' := zHp s t) rfl ?_
  refine zX_ite hF (fun c0 hF => ?_) (fun c0 hF => ?_)
  · refine zX_go (c := 6) (pc' := 21) (lv' := [.ref 1, .int x1, .int x2, .int x3, .int x4, .retAddr 0]) (st' := [.int x1, .ref 11, .int (x1 * (zki 5))]) (h' := zHp s t) rfl ?_
    refine zX_ial (n := 12) rfl rfl hF (fun hF => ?_)
    refine zX_go (c := 6) (pc' := 32) (lv' := [.ref 1, .int x1, .int x2, .int x3, .int x4, .int ((x1 * (zki 5)) + (s 6 x1.toNatClampNeg))]) (st' := [.int x2, .int ((x1 * (zki 5)) + (s 6 x1.toNatClampNeg)), .ref 17]) (h' := zHp s t) rfl ?_
    refine zX_ias (n := 60) (h' := zHp (zup s 12 ((x1 * (zki 5)) + (s 6 x1.toNatClampNeg)).toNatClampNeg x2) t) rfl rfl (zst_17 _ _ _ _) hF (fun hF => ?_)
    refine zX_go (c := 4) (pc' := 40) (lv' := [.ref 1, .int x1, .int x2, .int x3, .int x4, .int ((x1 * (zki 5)) + (s 6 x1.toNatClampNeg))]) (st' := [.int x3, .int ((x1 * (zki 5)) + (s 6 x1.toNatClampNeg)), .ref 18]) (h' := zHp (zup s 12 ((x1 * (zki 5)) + (s 6 x1.toNatClampNeg)).toNatClampNeg x2) t) rfl ?_
    refine zX_ias (n := 60) (h' := zHp (zup (zup s 12 ((x1 * (zki 5)) + (s 6 x1.toNatClampNeg)).toNatClampNeg x2) 13 ((x1 * (zki 5)) + (s 6 x1.toNatClampNeg)).toNatClampNeg x3) t) rfl rfl (zst_18 _ _ _ _) hF (fun hF => ?_)
    refine zX_go (c := 4) (pc' := 49) (lv' := [.ref 1, .int x1, .int x2, .int x3, .int x4, .int ((x1 * (zki 5)) + (s 6 x1.toNatClampNeg))]) (st' := [.int x4, .int ((x1 * (zki 5)) + (s 6 x1.toNatClampNeg)), .ref 19]) (h' := zHp (zup (zup s 12 ((x1 * (zki 5)) + (s 6 x1.toNatClampNeg)).toNatClampNeg x2) 13 ((x1 * (zki 5)) + (s 6 x1.toNatClampNeg)).toNatClampNeg x3) t) rfl ?_
    refine zX_bas (n := 60) (h' := zHp (zup (zup (zup s 12 ((x1 * (zki 5)) + (s 6 x1.toNatClampNeg)).toNatClampNeg x2) 13 ((x1 * (zki 5)) + (s 6 x1.toNatClampNeg)).toNatClampNeg x3) 14 ((x1 * (zki 5)) + (s 6 x1.toNatClampNeg)).toNatClampNeg (zbn 1 x4)) t) rfl rfl (zst_19 _ _ _ _) hF (fun hF => ?_)
    refine zX_go (c := 4) (pc' := 56) (lv' := [.ref 1, .int x1, .int x2, .int x3, .int x4, .int ((x1 * (zki 5)) + (s 6 x1.toNatClampNeg))]) (st' := [.int x1, .ref 12, .int x1, .ref 12]) (h' := zHp (zup (zup (zup s 12 ((x1 * (zki 5)) + (s 6 x1.toNatClampNeg)).toNatClampNeg x2) 13 ((x1 * (zki 5)) + (s 6 x1.toNatClampNeg)).toNatClampNeg x3) 14 ((x1 * (zki 5)) + (s 6 x1.toNatClampNeg)).toNatClampNeg (zbn 1 x4)) t) rfl ?_
    refine zX_ial (n := 12) rfl rfl hF (fun hF => ?_)
    refine zX_go (c := 1) (pc' := 58) (lv' := [.ref 1, .int x1, .int x2, .int x3, .int x4, .int ((x1 * (zki 5)) + (s 6 x1.toNatClampNeg))]) (st' := [.int x3, .int ((zup (zup (zup s 12 ((x1 * (zki 5)) + (s 6 x1.toNatClampNeg)).toNatClampNeg x2) 13 ((x1 * (zki 5)) + (s 6 x1.toNatClampNeg)).toNatClampNeg x3) 14 ((x1 * (zki 5)) + (s 6 x1.toNatClampNeg)).toNatClampNeg (zbn 1 x4)) 7 x1.toNatClampNeg), .int x1, .ref 12]) (h' := zHp (zup (zup (zup s 12 ((x1 * (zki 5)) + (s 6 x1.toNatClampNeg)).toNatClampNeg x2) 13 ((x1 * (zki 5)) + (s 6 x1.toNatClampNeg)).toNatClampNeg x3) 14 ((x1 * (zki 5)) + (s 6 x1.toNatClampNeg)).toNatClampNeg (zbn 1 x4)) t) rfl ?_
    obtain ⟨q1, hq, hF⟩ := zbd_ok hF
    refine zX_ins (av := [.int x3]) (st := [.int ((zup (zup (zup s 12 ((x1 * (zki 5)) + (s 6 x1.toNatClampNeg)).toNatClampNeg x2) 13 ((x1 * (zki 5)) + (s 6 x1.toNatClampNeg)).toNatClampNeg x3) 14 ((x1 * (zki 5)) + (s 6 x1.toNatClampNeg)).toNatClampNeg (zbn 1 x4)) 7 x1.toNatClampNeg), .int x1, .ref 12]) (h' := zHp (zup (zup (zup s 12 ((x1 * (zki 5)) + (s 6 x1.toNatClampNeg)).toNatClampNeg x2) 13 ((x1 * (zki 5)) + (s 6 x1.toNatClampNeg)).toNatClampNeg x3) 14 ((x1 * (zki 5)) + (s 6 x1.toNatClampNeg)).toNatClampNeg (zbn 1 x4)) t) rfl rfl rfl rfl rfl rfl (zcall_le (t_X0_leadOf M _ _ _ _ hq) (by decide)) ?_
    refine zX_go (c := 1) (pc' := 62) (lv' := [.ref 1, .int x1, .int x2, .int x3, .int x4, .int ((x1 * (zki 5)) + (s 6 x1.toNatClampNeg))]) (st' := [.int (((zup (zup (zup s 12 ((x1 * (zki 5)) + (s 6 x1.toNatClampNeg)).toNatClampNeg x2) 13 ((x1 * (zki 5)) + (s 6 x1.toNatClampNeg)).toNatClampNeg x3) 14 ((x1 * (zki 5)) + (s 6 x1.toNatClampNeg)).toNatClampNeg (zbn 1 x4)) 7 x1.toNatClampNeg) ||| q1), .int x1, .ref 12]) (h' := zHp (zup (zup (zup s 12 ((x1 * (zki 5)) + (s 6 x1.toNatClampNeg)).toNatClampNeg x2) 13 ((x1 * (zki 5)) + (s 6 x1.toNatClampNeg)).toNatClampNeg x3) 14 ((x1 * (zki 5)) + (s 6 x1.toNatClampNeg)).toNatClampNeg (zbn 1 x4)) t) rfl ?_
    refine zX_ias (n := 12) (h' := zHp (zup (zup (zup (zup s 12 ((x1 * (zki 5)) + (s 6 x1.toNatClampNeg)).toNatClampNeg x2) 13 ((x1 * (zki 5)) + (s 6 x1.toNatClampNeg)).toNatClampNeg x3) 14 ((x1 * (zki 5)) + (s 6 x1.toNatClampNeg)).toNatClampNeg (zbn 1 x4)) 7 x1.toNatClampNeg (((zup (zup (zup s 12 ((x1 * (zki 5)) + (s 6 x1.toNatClampNeg)).toNatClampNeg x2) 13 ((x1 * (zki 5)) + (s 6 x1.toNatClampNeg)).toNatClampNeg x3) 14 ((x1 * (zki 5)) + (s 6 x1.toNatClampNeg)).toNatClampNeg (zbn 1 x4)) 7 x1.toNatClampNeg) ||| q1)) t) rfl rfl (zst_12 _ _ _ _) hF (fun hF => ?_)
    refine zX_go (c := 4) (pc' := 69) (lv' := [.ref 1, .int x1, .int x2, .int x3, .int x4, .int ((x1 * (zki 5)) + (s 6 x1.toNatClampNeg))]) (st' := [.int x1, .ref 11, .int x1, .ref 11]) (h' := zHp (zup (zup (zup (zup s 12 ((x1 * (zki 5)) + (s 6 x1.toNatClampNeg)).toNatClampNeg x2) 13 ((x1 * (zki 5)) + (s 6 x1.toNatClampNeg)).toNatClampNeg x3) 14 ((x1 * (zki 5)) + (s 6 x1.toNatClampNeg)).toNatClampNeg (zbn 1 x4)) 7 x1.toNatClampNeg (((zup (zup (zup s 12 ((x1 * (zki 5)) + (s 6 x1.toNatClampNeg)).toNatClampNeg x2) 13 ((x1 * (zki 5)) + (s 6 x1.toNatClampNeg)).toNatClampNeg x3) 14 ((x1 * (zki 5)) + (s 6 x1.toNatClampNeg)).toNatClampNeg (zbn 1 x4)) 7 x1.toNatClampNeg) ||| q1)) t) rfl ?_
    refine zX_ial (n := 12) rfl rfl hF (fun hF => ?_)
    refine zX_go (c := 2) (pc' := 72) (lv' := [.ref 1, .int x1, .int x2, .int x3, .int x4, .int ((x1 * (zki 5)) + (s 6 x1.toNatClampNeg))]) (st' := [.int (((zup (zup (zup (zup s 12 ((x1 * (zki 5)) + (s 6 x1.toNatClampNeg)).toNatClampNeg x2) 13 ((x1 * (zki 5)) + (s 6 x1.toNatClampNeg)).toNatClampNeg x3) 14 ((x1 * (zki 5)) + (s 6 x1.toNatClampNeg)).toNatClampNeg (zbn 1 x4)) 7 x1.toNatClampNeg (((zup (zup (zup s 12 ((x1 * (zki 5)) + (s 6 x1.toNatClampNeg)).toNatClampNeg x2) 13 ((x1 * (zki 5)) + (s 6 x1.toNatClampNeg)).toNatClampNeg x3) 14 ((x1 * (zki 5)) + (s 6 x1.toNatClampNeg)).toNatClampNeg (zbn 1 x4)) 7 x1.toNatClampNeg) ||| q1)) 6 x1.toNatClampNeg) + (zki 1)), .int x1, .ref 11]) (h' := zHp (zup (zup (zup (zup s 12 ((x1 * (zki 5)) + (s 6 x1.toNatClampNeg)).toNatClampNeg x2) 13 ((x1 * (zki 5)) + (s 6 x1.toNatClampNeg)).toNatClampNeg x3) 14 ((x1 * (zki 5)) + (s 6 x1.toNatClampNeg)).toNatClampNeg (zbn 1 x4)) 7 x1.toNatClampNeg (((zup (zup (zup s 12 ((x1 * (zki 5)) + (s 6 x1.toNatClampNeg)).toNatClampNeg x2) 13 ((x1 * (zki 5)) + (s 6 x1.toNatClampNeg)).toNatClampNeg x3) 14 ((x1 * (zki 5)) + (s 6 x1.toNatClampNeg)).toNatClampNeg (zbn 1 x4)) 7 x1.toNatClampNeg) ||| q1)) t) rfl ?_
    refine zX_ias (n := 12) (h' := zHp (zup (zup (zup (zup (zup s 12 ((x1 * (zki 5)) + (s 6 x1.toNatClampNeg)).toNatClampNeg x2) 13 ((x1 * (zki 5)) + (s 6 x1.toNatClampNeg)).toNatClampNeg x3) 14 ((x1 * (zki 5)) + (s 6 x1.toNatClampNeg)).toNatClampNeg (zbn 1 x4)) 7 x1.toNatClampNeg (((zup (zup (zup s 12 ((x1 * (zki 5)) + (s 6 x1.toNatClampNeg)).toNatClampNeg x2) 13 ((x1 * (zki 5)) + (s 6 x1.toNatClampNeg)).toNatClampNeg x3) 14 ((x1 * (zki 5)) + (s 6 x1.toNatClampNeg)).toNatClampNeg (zbn 1 x4)) 7 x1.toNatClampNeg) ||| q1)) 6 x1.toNatClampNeg (((zup (zup (zup (zup s 12 ((x1 * (zki 5)) + (s 6 x1.toNatClampNeg)).toNatClampNeg x2) 13 ((x1 * (zki 5)) + (s 6 x1.toNatClampNeg)).toNatClampNeg x3) 14 ((x1 * (zki 5)) + (s 6 x1.toNatClampNeg)).toNatClampNeg (zbn 1 x4)) 7 x1.toNatClampNeg (((zup (zup (zup s 12 ((x1 * (zki 5)) + (s 6 x1.toNatClampNeg)).toNatClampNeg x2) 13 ((x1 * (zki 5)) + (s 6 x1.toNatClampNeg)).toNatClampNeg x3) 14 ((x1 * (zki 5)) + (s 6 x1.toNatClampNeg)).toNatClampNeg (zbn 1 x4)) 7 x1.toNatClampNeg) ||| q1)) 6 x1.toNatClampNeg) + (zki 1))) t) rfl rfl (zst_11 _ _ _ _) hF (fun hF => ?_)
    refine zX_go (c := 3) (pc' := 78) (lv' := [.ref 1, .int x1, .int x2, .int x3, .int x4, .int ((x1 * (zki 5)) + (s 6 x1.toNatClampNeg))]) (st' := [.int x1, .ref 11]) (h' := zHp (zup (zup (zup (zup (zup s 12 ((x1 * (zki 5)) + (s 6 x1.toNatClampNeg)).toNatClampNeg x2) 13 ((x1 * (zki 5)) + (s 6 x1.toNatClampNeg)).toNatClampNeg x3) 14 ((x1 * (zki 5)) + (s 6 x1.toNatClampNeg)).toNatClampNeg (zbn 1 x4)) 7 x1.toNatClampNeg (((zup (zup (zup s 12 ((x1 * (zki 5)) + (s 6 x1.toNatClampNeg)).toNatClampNeg x2) 13 ((x1 * (zki 5)) + (s 6 x1.toNatClampNeg)).toNatClampNeg x3) 14 ((x1 * (zki 5)) + (s 6 x1.toNatClampNeg)).toNatClampNeg (zbn 1 x4)) 7 x1.toNatClampNeg) ||| q1)) 6 x1.toNatClampNeg (((zup (zup (zup (zup s 12 ((x1 * (zki 5)) + (s 6 x1.toNatClampNeg)).toNatClampNeg x2) 13 ((x1 * (zki 5)) + (s 6 x1.toNatClampNeg)).toNatClampNeg x3) 14 ((x1 * (zki 5)) + (s 6 x1.toNatClampNeg)).toNatClampNeg (zbn 1 x4)) 7 x1.toNatClampNeg (((zup (zup (zup s 12 ((x1 * (zki 5)) + (s 6 x1.toNatClampNeg)).toNatClampNeg x2) 13 ((x1 * (zki 5)) + (s 6 x1.toNatClampNeg)).toNatClampNeg x3) 14 ((x1 * (zki 5)) + (s 6 x1.toNatClampNeg)).toNatClampNeg (zbn 1 x4)) 7 x1.toNatClampNeg) ||| q1)) 6 x1.toNatClampNeg) + (zki 1))) t) rfl ?_
    refine zX_ial (n := 12) rfl rfl hF (fun hF => ?_)
    cases hF
    exact zX_reti rfl
  · refine zX_go (c := 1) (pc' := 12) (lv' := [.ref 1, .int x1, .int x2, .int x3, .int x4, .retAddr 0]) (st' := [.int (zkb (-3))]) (h' := zHp s t) rfl ?_
    cases hF
    exact zX_reti rfl
def l_X0_positionOf (M : Nat) : Nat → zS → Int32 → Int32 → Int32 → Option (Int32)
  | 0, _, _, _, _ => none
  | N + 1, s, y1, y2, y3 =>
    zq (zin y1 12) <|
    if y3 < (s 6 y1.toNatClampNeg) then
     zq (zin ((y1 * (zki 5)) + y3) 60) <|
     if (s 12 ((y1 * (zki 5)) + y3).toNatClampNeg) = y2 then
      some y3
     else
      l_X0_positionOf M N s y1 y2 (y3 + zki 1)
    else
     some (zki (-1))
set_option maxRecDepth 100000 in
set_option maxHeartbeats 4000000 in
theorem tl_X0_positionOf {L : Nat} {xs : Nat → Int32} (M : Nat) (t : zS) : ∀ (N : Nat) (s : zS) (y1 : Int32) (y2 : Int32) (y3 : Int32) (R : Int32) (hF : l_X0_positionOf M N s y1 y2 y3 = some R), zX (ztb L xs) (zcall (ztb L xs) 1) 0 1 zk_X0_positionOf 12 [.ref 1, .int y1, .int y2, .int y3] [] (zHp s t) (some (.int R), zHp s t) := by
  intro N
  induction N with
  | zero => intro s y1 y2 y3 R hF; cases hF
  | succ N ih =>
    intro s y1 y2 y3 R hF
    unfold l_X0_positionOf at hF
    refine zX_go (c := 4) (pc' := 18) (lv' := [.ref 1, .int y1, .int y2, .int y3]) (st' := [.int y1, .ref 11, .int y3]) (h' := zHp s t) rfl ?_
    refine zX_ial (n := 12) rfl rfl hF (fun hF => ?_)
    refine zX_go (c := 1) (pc' := if y3 < (s 6 y1.toNatClampNeg) then 22 else 44) (lv' := [.ref 1, .int y1, .int y2, .int y3]) (st' := []) (h' := zHp s t) rfl ?_
    refine zX_ite hF (fun c0 hF => ?_) (fun c0 hF => ?_)
    · refine zX_go (c := 7) (pc' := 31) (lv' := [.ref 1, .int y1, .int y2, .int y3]) (st' := [.int ((y1 * (zki 5)) + y3), .ref 17]) (h' := zHp s t) rfl ?_
      refine zX_ial (n := 60) rfl rfl hF (fun hF => ?_)
      refine zX_go (c := 2) (pc' := if (s 12 ((y1 * (zki 5)) + y3).toNatClampNeg) = y2 then 36 else 38) (lv' := [.ref 1, .int y1, .int y2, .int y3]) (st' := []) (h' := zHp s t) rfl ?_
      refine zX_ite hF (fun c0 hF => ?_) (fun c0 hF => ?_)
      · refine zX_go (c := 1) (pc' := 37) (lv' := [.ref 1, .int y1, .int y2, .int y3]) (st' := [.int y3]) (h' := zHp s t) rfl ?_
        cases hF
        exact zX_reti rfl
      · refine zX_go (c := 2) (pc' := 12) (lv' := [.ref 1, .int y1, .int y2, .int (y3 + zki 1)]) (st' := []) (h' := zHp s t) rfl ?_
        exact ih s y1 y2 (y3 + zki 1) _ hF
    · refine zX_go (c := 1) (pc' := 45) (lv' := [.ref 1, .int y1, .int y2, .int y3]) (st' := [.int (zki (-1))]) (h' := zHp s t) rfl ?_
      cases hF
      exact zX_reti rfl
def f_X0_positionOf (M : Nat) (s : zS) (x1 x2 : Int32) : Option (Int32) :=
  zbd (f_X0_has M s x1) (fun q1 =>
   if q1 = 0 then
    some (zki (-1))
   else
    l_X0_positionOf M M s x1 x2 (zki 0))
set_option maxRecDepth 100000 in
set_option maxHeartbeats 4000000 in
theorem t_X0_positionOf {L : Nat} {xs : Nat → Int32} (M : Nat) (s t : zS) (x1 x2 : Int32) (R : Int32) (hF : f_X0_positionOf M s x1 x2 = some R) : zcall (ztb L xs) 2 4 [.ref 1, .int x1, .int x2] (zHp s t) = some (some (.int R), zHp s t) := by
  unfold f_X0_positionOf at hF
  refine zcall_X (d := 1) (e := zm_X0_positionOf) rfl rfl ?_
  show zX (ztb L xs) (zcall (ztb L xs) 1) 0 1 zk_X0_positionOf 0 [.ref 1, .int x1, .int x2, .retAddr 0] [] (zHp s t) _
  refine zX_go (c := 2) (pc' := 2) (lv' := [.ref 1, .int x1, .int x2, .retAddr 0]) (st' := [.int x1, .ref 1]) (h' := zHp s t) rfl ?_
  obtain ⟨q1, hq, hF⟩ := zbd_ok hF
  refine zX_inv (av := [.ref 1, .int x1]) (st := []) (h' := zHp s t) rfl rfl rfl rfl rfl rfl (zcall_le (t_X0_has M _ _ _ _ hq) (by decide)) ?_
  refine zX_go (c := 1) (pc' := if q1 = 0 then 8 else 10) (lv' := [.ref 1, .int x1, .int x2, .retAddr 0]) (st' := []) (h' := zHp s t) rfl ?_
  refine zX_ite hF (fun c0 hF => ?_) (fun c0 hF => ?_)
  · refine zX_go (c := 1) (pc' := 9) (lv' := [.ref 1, .int x1, .int x2, .retAddr 0]) (st' := [.int (zki (-1))]) (h' := zHp s t) rfl ?_
    cases hF
    exact zX_reti rfl
  · refine zX_go (c := 2) (pc' := 12) (lv' := [.ref 1, .int x1, .int x2, .int (zki 0)]) (st' := []) (h' := zHp s t) rfl ?_
    exact tl_X0_positionOf M t M s x1 x2 (zki 0) _ hF
def f_X0_slotOf (M : Nat) (s : zS) (x1 x2 : Int32) : Option (Int32) :=
  zbd (f_X0_positionOf M s x1 x2) (fun q1 =>
   if q1 = (zki (-1)) then
    some (zki (-1))
   else
    some ((x1 * (zki 5)) + q1))
set_option maxRecDepth 100000 in
set_option maxHeartbeats 4000000 in
theorem t_X0_slotOf {L : Nat} {xs : Nat → Int32} (M : Nat) (s t : zS) (x1 x2 : Int32) (R : Int32) (hF : f_X0_slotOf M s x1 x2 = some R) : zcall (ztb L xs) 3 5 [.ref 1, .int x1, .int x2] (zHp s t) = some (some (.int R), zHp s t) := by
  unfold f_X0_slotOf at hF
  refine zcall_X (d := 2) (e := zm_X0_slotOf) rfl rfl ?_
  show zX (ztb L xs) (zcall (ztb L xs) 2) 0 1 zk_X0_slotOf 0 [.ref 1, .int x1, .int x2, .retAddr 0] [] (zHp s t) _
  refine zX_go (c := 3) (pc' := 3) (lv' := [.ref 1, .int x1, .int x2, .retAddr 0]) (st' := [.int x2, .int x1, .ref 1]) (h' := zHp s t) rfl ?_
  obtain ⟨q1, hq, hF⟩ := zbd_ok hF
  refine zX_inv (av := [.ref 1, .int x1, .int x2]) (st := []) (h' := zHp s t) rfl rfl rfl rfl rfl rfl (zcall_le (t_X0_positionOf M _ _ _ _ _ hq) (by decide)) ?_
  refine zX_go (c := 4) (pc' := if q1 = (zki (-1)) then 12 else 16) (lv' := [.ref 1, .int x1, .int x2, .int q1]) (st' := []) (h' := zHp s t) rfl ?_
  refine zX_ite hF (fun c0 hF => ?_) (fun c0 hF => ?_)
  · refine zX_go (c := 2) (pc' := 21) (lv' := [.ref 1, .int x1, .int x2, .int q1]) (st' := [.int (zki (-1))]) (h' := zHp s t) rfl ?_
    cases hF
    exact zX_reti rfl
  · refine zX_go (c := 5) (pc' := 21) (lv' := [.ref 1, .int x1, .int x2, .int q1]) (st' := [.int ((x1 * (zki 5)) + q1)]) (h' := zHp s t) rfl ?_
    cases hF
    exact zX_reti rfl
def f_X0_isFixed (M : Nat) (s : zS) (x1 : Int32) : Option (Int32) :=
  zq (zin x1 12) <|
  if (s 10 x1.toNatClampNeg) = 0 then
   zq (zin x1 12) <|
   if (s 8 x1.toNatClampNeg) = (zki (-1)) then
    zq (zin x1 12) <|
    if (s 9 x1.toNatClampNeg) = (zki (-1)) then
     some (zki 0)
    else
     some (zki 1)
   else
    some (zki 1)
  else
   some (zki 1)
set_option maxRecDepth 100000 in
set_option maxHeartbeats 4000000 in
theorem t_X0_isFixed {L : Nat} {xs : Nat → Int32} (M : Nat) (s t : zS) (x1 : Int32) (R : Int32) (hF : f_X0_isFixed M s x1 = some R) : zcall (ztb L xs) 1 6 [.ref 1, .int x1] (zHp s t) = some (some (.int R), zHp s t) := by
  unfold f_X0_isFixed at hF
  refine zcall_X (d := 0) (e := zm_X0_isFixed) rfl rfl ?_
  show zX (ztb L xs) (zcall (ztb L xs) 0) 0 2 zk_X0_isFixed 0 [.ref 1, .int x1] [] (zHp s t) _
  refine zX_go (c := 3) (pc' := 5) (lv' := [.ref 1, .int x1]) (st' := [.int x1, .ref 15]) (h' := zHp s t) rfl ?_
  refine zX_bal (n := 12) rfl rfl hF (fun hF => ?_)
  refine zX_go (c := 1) (pc' := if (s 10 x1.toNatClampNeg) = 0 then 9 else 29) (lv' := [.ref 1, .int x1]) (st' := []) (h' := zHp s t) rfl ?_
  refine zX_ite hF (fun c0 hF => ?_) (fun c0 hF => ?_)
  · refine zX_go (c := 3) (pc' := 14) (lv' := [.ref 1, .int x1]) (st' := [.int x1, .ref 13]) (h' := zHp s t) rfl ?_
    refine zX_ial (n := 12) rfl rfl hF (fun hF => ?_)
    refine zX_go (c := 2) (pc' := if (s 8 x1.toNatClampNeg) = (zki (-1)) then 19 else 29) (lv' := [.ref 1, .int x1]) (st' := []) (h' := zHp s t) rfl ?_
    refine zX_ite hF (fun c0 hF => ?_) (fun c0 hF => ?_)
    · refine zX_go (c := 3) (pc' := 24) (lv' := [.ref 1, .int x1]) (st' := [.int x1, .ref 14]) (h' := zHp s t) rfl ?_
      refine zX_ial (n := 12) rfl rfl hF (fun hF => ?_)
      refine zX_go (c := 2) (pc' := if (s 9 x1.toNatClampNeg) = (zki (-1)) then 33 else 29) (lv' := [.ref 1, .int x1]) (st' := []) (h' := zHp s t) rfl ?_
      refine zX_ite hF (fun c0 hF => ?_) (fun c0 hF => ?_)
      · refine zX_go (c := 1) (pc' := 34) (lv' := [.ref 1, .int x1]) (st' := [.int (zki 0)]) (h' := zHp s t) rfl ?_
        cases hF
        exact zX_retz rfl (by decide)
      · refine zX_go (c := 2) (pc' := 34) (lv' := [.ref 1, .int x1]) (st' := [.int (zki 1)]) (h' := zHp s t) rfl ?_
        cases hF
        exact zX_retz rfl (by decide)
    · refine zX_go (c := 2) (pc' := 34) (lv' := [.ref 1, .int x1]) (st' := [.int (zki 1)]) (h' := zHp s t) rfl ?_
      cases hF
      exact zX_retz rfl (by decide)
  · refine zX_go (c := 2) (pc' := 34) (lv' := [.ref 1, .int x1]) (st' := [.int (zki 1)]) (h' := zHp s t) rfl ?_
    cases hF
    exact zX_retz rfl (by decide)
def l_X0_leadingInto (M : Nat) : Nat → zS → Int32 → Int32 → Int32 → Option (Int32)
  | 0, _, _, _, _ => none
  | N + 1, s, y1, y2, y3 =>
    if y3 < (s 2 0) then
     zq (zin y3 12) <|
     if ((s 7 y3.toNatClampNeg) &&& y1) = 0 then
      l_X0_leadingInto M N s y1 y2 (y3 + zki 1)
     else
      l_X0_leadingInto M N s y1 (y2 ||| ((zki 1) <<< (y3 &&& 31))) (y3 + zki 1)
    else
     some y2
set_option maxRecDepth 100000 in
set_option maxHeartbeats 4000000 in
theorem tl_X0_leadingInto {L : Nat} {xs : Nat → Int32} (M : Nat) (t : zS) : ∀ (N : Nat) (s : zS) (y1 : Int32) (y2 : Int32) (y3 : Int32) (R : Int32) (hF : l_X0_leadingInto M N s y1 y2 y3 = some R), zX (ztb L xs) (zcall (ztb L xs) 0) 0 1 zk_X0_leadingInto 4 [.ref 1, .int y1, .int y2, .int y3] [] (zHp s t) (some (.int R), zHp s t) := by
  intro N
  induction N with
  | zero => intro s y1 y2 y3 R hF; cases hF
  | succ N ih =>
    intro s y1 y2 y3 R hF
    unfold l_X0_leadingInto at hF
    refine zX_go (c := 4) (pc' := if y3 < (s 2 0) then 12 else 35) (lv' := [.ref 1, .int y1, .int y2, .int y3]) (st' := []) (h' := zHp s t) rfl ?_
    refine zX_ite hF (fun c0 hF => ?_) (fun c0 hF => ?_)
    · refine zX_go (c := 3) (pc' := 17) (lv' := [.ref 1, .int y1, .int y2, .int y3]) (st' := [.int y3, .ref 12]) (h' := zHp s t) rfl ?_
      refine zX_ial (n := 12) rfl rfl hF (fun hF => ?_)
      refine zX_go (c := 3) (pc' := if ((s 7 y3.toNatClampNeg) &&& y1) = 0 then 29 else 23) (lv' := [.ref 1, .int y1, .int y2, .int y3]) (st' := []) (h' := zHp s t) rfl ?_
      refine zX_ite hF (fun c0 hF => ?_) (fun c0 hF => ?_)
      · refine zX_go (c := 2) (pc' := 4) (lv' := [.ref 1, .int y1, .int y2, .int (y3 + zki 1)]) (st' := []) (h' := zHp s t) rfl ?_
        exact ih s y1 y2 (y3 + zki 1) _ hF
      · refine zX_go (c := 8) (pc' := 4) (lv' := [.ref 1, .int y1, .int (y2 ||| ((zki 1) <<< (y3 &&& 31))), .int (y3 + zki 1)]) (st' := []) (h' := zHp s t) rfl ?_
        exact ih s y1 (y2 ||| ((zki 1) <<< (y3 &&& 31))) (y3 + zki 1) _ hF
    · refine zX_go (c := 1) (pc' := 36) (lv' := [.ref 1, .int y1, .int y2, .int y3]) (st' := [.int y2]) (h' := zHp s t) rfl ?_
      cases hF
      exact zX_reti rfl
def f_X0_leadingInto (M : Nat) (s : zS) (x1 : Int32) : Option (Int32) :=
  l_X0_leadingInto M M s x1 (zki 0) (zki 0)
set_option maxRecDepth 100000 in
set_option maxHeartbeats 4000000 in
theorem t_X0_leadingInto {L : Nat} {xs : Nat → Int32} (M : Nat) (s t : zS) (x1 : Int32) (R : Int32) (hF : f_X0_leadingInto M s x1 = some R) : zcall (ztb L xs) 1 9 [.ref 1, .int x1] (zHp s t) = some (some (.int R), zHp s t) := by
  unfold f_X0_leadingInto at hF
  refine zcall_X (d := 0) (e := zm_X0_leadingInto) rfl rfl ?_
  show zX (ztb L xs) (zcall (ztb L xs) 0) 0 1 zk_X0_leadingInto 0 [.ref 1, .int x1, .retAddr 0, .retAddr 0] [] (zHp s t) _
  refine zX_go (c := 4) (pc' := 4) (lv' := [.ref 1, .int x1, .int (zki 0), .int (zki 0)]) (st' := []) (h' := zHp s t) rfl ?_
  exact tl_X0_leadingInto M t M s x1 (zki 0) (zki 0) _ hF
def l_X0_wouldLeadTooFar (M : Nat) : Nat → zS → Int32 → Int32 → Int32 → Int32 → Option (Int32 × zS)
  | 0, _, _, _, _, _ => none
  | N + 1, s, y1, y3, y4, y5 =>
    if (zki 2) < y5 then
     zq (zin y1 12) <|
     if y4 = 0 then
      some (zki 0, zup s 7 y1.toNatClampNeg y3)
     else
      some (zki 1, zup s 7 y1.toNatClampNeg y3)
    else
     zbd (f_X0_leadingInto M s y4) (fun q1 =>
      l_X0_wouldLeadTooFar M N s y1 y3 q1 (y5 + zki 1))
set_option maxRecDepth 100000 in
set_option maxHeartbeats 4000000 in
theorem tl_X0_wouldLeadTooFar {L : Nat} {xs : Nat → Int32} (M : Nat) (t : zS) : ∀ (N : Nat) (s : zS) (y1 : Int32) (y3 : Int32) (y4 : Int32) (y5 : Int32) (R : Int32 × zS) (u2 : Value) (hF : l_X0_wouldLeadTooFar M N s y1 y3 y4 y5 = some R), zX (ztb L xs) (zcall (ztb L xs) 1) 0 2 zk_X0_wouldLeadTooFar 33 [.ref 1, .int y1, u2, .int y3, .int y4, .int y5] [] (zHp s t) (some (.int R.1), zHp R.2 t) := by
  intro N
  induction N with
  | zero => intro s y1 y3 y4 y5 R u2 hF; cases hF
  | succ N ih =>
    intro s y1 y3 y4 y5 R u2 hF
    unfold l_X0_wouldLeadTooFar at hF
    refine zX_go (c := 3) (pc' := if (zki 2) < y5 then 53 else 39) (lv' := [.ref 1, .int y1, u2, .int y3, .int y4, .int y5]) (st' := []) (h' := zHp s t) rfl ?_
    refine zX_ite hF (fun c0 hF => ?_) (fun c0 hF => ?_)
    · refine zX_go (c := 4) (pc' := 59) (lv' := [.ref 1, .int y1, u2, .int y3, .int y4, .int y5]) (st' := [.int y3, .int y1, .ref 12]) (h' := zHp s t) rfl ?_
      refine zX_ias (n := 12) (h' := zHp (zup s 7 y1.toNatClampNeg y3) t) rfl rfl (zst_12 _ _ _ _) hF (fun hF => ?_)
      refine zX_go (c := 2) (pc' := if y4 = 0 then 69 else 65) (lv' := [.ref 1, .int y1, u2, .int y3, .int y4, .int y5]) (st' := []) (h' := zHp (zup s 7 y1.toNatClampNeg y3) t) rfl ?_
      refine zX_ite hF (fun c0 hF => ?_) (fun c0 hF => ?_)
      · refine zX_go (c := 1) (pc' := 70) (lv' := [.ref 1, .int y1, u2, .int y3, .int y4, .int y5]) (st' := [.int (zki 0)]) (h' := zHp (zup s 7 y1.toNatClampNeg y3) t) rfl ?_
        cases hF
        exact zX_retz rfl (by decide)
      · refine zX_go (c := 2) (pc' := 70) (lv' := [.ref 1, .int y1, u2, .int y3, .int y4, .int y5]) (st' := [.int (zki 1)]) (h' := zHp (zup s 7 y1.toNatClampNeg y3) t) rfl ?_
        cases hF
        exact zX_retz rfl (by decide)
    · refine zX_go (c := 2) (pc' := 42) (lv' := [.ref 1, .int y1, u2, .int y3, .int y4, .int y5]) (st' := [.int y4, .ref 1]) (h' := zHp s t) rfl ?_
      obtain ⟨q1, hq, hF⟩ := zbd_ok hF
      refine zX_inv (av := [.ref 1, .int y4]) (st := []) (h' := zHp s t) rfl rfl rfl rfl rfl rfl (zcall_le (t_X0_leadingInto M _ _ _ _ hq) (by decide)) ?_
      refine zX_go (c := 3) (pc' := 33) (lv' := [.ref 1, .int y1, u2, .int y3, .int q1, .int (y5 + zki 1)]) (st' := []) (h' := zHp s t) rfl ?_
      exact ih s y1 y3 q1 (y5 + zki 1) _ u2 hF
def f_X0_wouldLeadTooFar (M : Nat) (s : zS) (x1 x2 : Int32) : Option (Int32 × zS) :=
  zq (zin x1 12) <|
  zq (zin x1 12) <|
  zbd (f_X0_leadOf M s x2) (fun q1 =>
   zq (zin x1 12) <|
   l_X0_wouldLeadTooFar M M (zup s 7 x1.toNatClampNeg ((s 7 x1.toNatClampNeg) ||| q1)) x1 (s 7 x1.toNatClampNeg) (((zki 1) <<< (((zup s 7 x1.toNatClampNeg ((s 7 x1.toNatClampNeg) ||| q1)) 2 0) &&& 31)) - (zki 1)) (zki 0))
set_option maxRecDepth 100000 in
set_option maxHeartbeats 4000000 in
theorem t_X0_wouldLeadTooFar {L : Nat} {xs : Nat → Int32} (M : Nat) (s t : zS) (x1 x2 : Int32) (R : Int32 × zS) (hF : f_X0_wouldLeadTooFar M s x1 x2 = some R) : zcall (ztb L xs) 2 8 [.ref 1, .int x1, .int x2] (zHp s t) = some (some (.int R.1), zHp R.2 t) := by
  unfold f_X0_wouldLeadTooFar at hF
  refine zcall_X (d := 1) (e := zm_X0_wouldLeadTooFar) rfl rfl ?_
  show zX (ztb L xs) (zcall (ztb L xs) 1) 0 2 zk_X0_wouldLeadTooFar 0 [.ref 1, .int x1, .int x2, .retAddr 0, .retAddr 0, .retAddr 0] [] (zHp s t) _
  refine zX_go (c := 3) (pc' := 5) (lv' := [.ref 1, .int x1, .int x2, .retAddr 0, .retAddr 0, .retAddr 0]) (st' := [.int x1, .ref 12]) (h' := zHp s t) rfl ?_
  refine zX_ial (n := 12) rfl rfl hF (fun hF => ?_)
  refine zX_go (c := 5) (pc' := 13) (lv' := [.ref 1, .int x1, .int x2, .int (s 7 x1.toNatClampNeg), .retAddr 0, .retAddr 0]) (st' := [.int x1, .ref 12, .int x1, .ref 12]) (h' := zHp s t) rfl ?_
  refine zX_ial (n := 12) rfl rfl hF (fun hF => ?_)
  refine zX_go (c := 1) (pc' := 15) (lv' := [.ref 1, .int x1, .int x2, .int (s 7 x1.toNatClampNeg), .retAddr 0, .retAddr 0]) (st' := [.int x2, .int (s 7 x1.toNatClampNeg), .int x1, .ref 12]) (h' := zHp s t) rfl ?_
  obtain ⟨q1, hq, hF⟩ := zbd_ok hF
  refine zX_ins (av := [.int x2]) (st := [.int (s 7 x1.toNatClampNeg), .int x1, .ref 12]) (h' := zHp s t) rfl rfl rfl rfl rfl rfl (zcall_le (t_X0_leadOf M _ _ _ _ hq) (by decide)) ?_
  refine zX_go (c := 1) (pc' := 19) (lv' := [.ref 1, .int x1, .int x2, .int (s 7 x1.toNatClampNeg), .retAddr 0, .retAddr 0]) (st' := [.int ((s 7 x1.toNatClampNeg) ||| q1), .int x1, .ref 12]) (h' := zHp s t) rfl ?_
  refine zX_ias (n := 12) (h' := zHp (zup s 7 x1.toNatClampNeg ((s 7 x1.toNatClampNeg) ||| q1)) t) rfl rfl (zst_12 _ _ _ _) hF (fun hF => ?_)
  refine zX_go (c := 9) (pc' := 33) (lv' := [.ref 1, .int x1, .int x2, .int (s 7 x1.toNatClampNeg), .int (((zki 1) <<< (((zup s 7 x1.toNatClampNeg ((s 7 x1.toNatClampNeg) ||| q1)) 2 0) &&& 31)) - (zki 1)), .int (zki 0)]) (st' := []) (h' := zHp (zup s 7 x1.toNatClampNeg ((s 7 x1.toNatClampNeg) ||| q1)) t) rfl ?_
  exact tl_X0_wouldLeadTooFar M t M (zup s 7 x1.toNatClampNeg ((s 7 x1.toNatClampNeg) ||| q1)) x1 (s 7 x1.toNatClampNeg) (((zki 1) <<< (((zup s 7 x1.toNatClampNeg ((s 7 x1.toNatClampNeg) ||| q1)) 2 0) &&& 31)) - (zki 1)) (zki 0) _ (.int x2) hF
def l_X0_othersHaveDefaults (M : Nat) : Nat → zS → Int32 → Int32 → Option (Int32)
  | 0, _, _, _ => none
  | N + 1, s, y1, y2 =>
    zq (zin y1 12) <|
    if y2 < (s 6 y1.toNatClampNeg) then
     zq (zin ((y1 * (zki 5)) + y2) 60) <|
     if (s 12 ((y1 * (zki 5)) + y2).toNatClampNeg) = 0 then
      l_X0_othersHaveDefaults M N s y1 (y2 + zki 1)
     else
      zq (zin ((y1 * (zki 5)) + y2) 60) <|
      if (s 15 ((y1 * (zki 5)) + y2).toNatClampNeg) = (zki (-1)) then
       some (zki 0)
      else
       l_X0_othersHaveDefaults M N s y1 (y2 + zki 1)
    else
     some (zki 1)
set_option maxRecDepth 100000 in
set_option maxHeartbeats 4000000 in
theorem tl_X0_othersHaveDefaults {L : Nat} {xs : Nat → Int32} (M : Nat) (t : zS) : ∀ (N : Nat) (s : zS) (y1 : Int32) (y2 : Int32) (R : Int32) (u3 : Value) (hF : l_X0_othersHaveDefaults M N s y1 y2 = some R), zX (ztb L xs) (zcall (ztb L xs) 0) 0 2 zk_X0_othersHaveDefaults 2 [.ref 1, .int y1, .int y2, u3] [] (zHp s t) (some (.int R), zHp s t) := by
  intro N
  induction N with
  | zero => intro s y1 y2 R u3 hF; cases hF
  | succ N ih =>
    intro s y1 y2 R u3 hF
    unfold l_X0_othersHaveDefaults at hF
    refine zX_go (c := 4) (pc' := 8) (lv' := [.ref 1, .int y1, .int y2, u3]) (st' := [.int y1, .ref 11, .int y2]) (h' := zHp s t) rfl ?_
    refine zX_ial (n := 12) rfl rfl hF (fun hF => ?_)
    refine zX_go (c := 1) (pc' := if y2 < (s 6 y1.toNatClampNeg) then 12 else 45) (lv' := [.ref 1, .int y1, .int y2, u3]) (st' := []) (h' := zHp s t) rfl ?_
    refine zX_ite hF (fun c0 hF => ?_) (fun c0 hF => ?_)
    · refine zX_go (c := 9) (pc' := 23) (lv' := [.ref 1, .int y1, .int y2, .int ((y1 * (zki 5)) + y2)]) (st' := [.int ((y1 * (zki 5)) + y2), .ref 17]) (h' := zHp s t) rfl ?_
      refine zX_ial (n := 60) rfl rfl hF (fun hF => ?_)
      refine zX_go (c := 1) (pc' := if (s 12 ((y1 * (zki 5)) + y2).toNatClampNeg) = 0 then 39 else 27) (lv' := [.ref 1, .int y1, .int y2, .int ((y1 * (zki 5)) + y2)]) (st' := []) (h' := zHp s t) rfl ?_
      refine zX_ite hF (fun c0 hF => ?_) (fun c0 hF => ?_)
      · refine zX_go (c := 2) (pc' := 2) (lv' := [.ref 1, .int y1, .int (y2 + zki 1), .int ((y1 * (zki 5)) + y2)]) (st' := []) (h' := zHp s t) rfl ?_
        exact ih s y1 (y2 + zki 1) _ (.int ((y1 * (zki 5)) + y2)) hF
      · refine zX_go (c := 3) (pc' := 32) (lv' := [.ref 1, .int y1, .int y2, .int ((y1 * (zki 5)) + y2)]) (st' := [.int ((y1 * (zki 5)) + y2), .ref 20]) (h' := zHp s t) rfl ?_
        refine zX_ial (n := 60) rfl rfl hF (fun hF => ?_)
        refine zX_go (c := 2) (pc' := if (s 15 ((y1 * (zki 5)) + y2).toNatClampNeg) = (zki (-1)) then 37 else 39) (lv' := [.ref 1, .int y1, .int y2, .int ((y1 * (zki 5)) + y2)]) (st' := []) (h' := zHp s t) rfl ?_
        refine zX_ite hF (fun c0 hF => ?_) (fun c0 hF => ?_)
        · refine zX_go (c := 1) (pc' := 38) (lv' := [.ref 1, .int y1, .int y2, .int ((y1 * (zki 5)) + y2)]) (st' := [.int (zki 0)]) (h' := zHp s t) rfl ?_
          cases hF
          exact zX_retz rfl (by decide)
        · refine zX_go (c := 2) (pc' := 2) (lv' := [.ref 1, .int y1, .int (y2 + zki 1), .int ((y1 * (zki 5)) + y2)]) (st' := []) (h' := zHp s t) rfl ?_
          exact ih s y1 (y2 + zki 1) _ (.int ((y1 * (zki 5)) + y2)) hF
    · refine zX_go (c := 1) (pc' := 46) (lv' := [.ref 1, .int y1, .int y2, u3]) (st' := [.int (zki 1)]) (h' := zHp s t) rfl ?_
      cases hF
      exact zX_retz rfl (by decide)
def f_X0_othersHaveDefaults (M : Nat) (s : zS) (x1 : Int32) : Option (Int32) :=
  l_X0_othersHaveDefaults M M s x1 (zki 0)
set_option maxRecDepth 100000 in
set_option maxHeartbeats 4000000 in
theorem t_X0_othersHaveDefaults {L : Nat} {xs : Nat → Int32} (M : Nat) (s t : zS) (x1 : Int32) (R : Int32) (hF : f_X0_othersHaveDefaults M s x1 = some R) : zcall (ztb L xs) 1 11 [.ref 1, .int x1] (zHp s t) = some (some (.int R), zHp s t) := by
  unfold f_X0_othersHaveDefaults at hF
  refine zcall_X (d := 0) (e := zm_X0_othersHaveDefaults) rfl rfl ?_
  show zX (ztb L xs) (zcall (ztb L xs) 0) 0 2 zk_X0_othersHaveDefaults 0 [.ref 1, .int x1, .retAddr 0, .retAddr 0] [] (zHp s t) _
  refine zX_go (c := 2) (pc' := 2) (lv' := [.ref 1, .int x1, .int (zki 0), .retAddr 0]) (st' := []) (h' := zHp s t) rfl ?_
  exact tl_X0_othersHaveDefaults M t M s x1 (zki 0) _ (.retAddr 0) hF
def f_X0_canContain (M : Nat) (s : zS) (x1 x2 : Int32) : Option (Int32) :=
  zbd (f_X0_slotOf M s x1 (zki 0)) (fun q1 =>
   if q1 = (zki (-1)) then
    some (zki 0)
   else
    zq (zin q1 60) <|
    if (s 14 q1.toNatClampNeg) = 0 then
     some (zki 0)
    else
     zq (zin q1 60) <|
     if (s 13 q1.toNatClampNeg) = ((zkb 10) + x2) then
      zq (zin x1 12) <|
      zq (zin x2 12) <|
      if (s 4 x1.toNatClampNeg) < (s 4 x2.toNatClampNeg) then
       some (zki 0)
      else
       zq (zin x1 12) <|
       zq (zin x2 12) <|
       if ((s 3 x1.toNatClampNeg) &&& ((s 3 x2.toNatClampNeg) ^^^ (zki (-1)))) = 0 then
        zq (zin x1 12) <|
        if (s 5 x1.toNatClampNeg) = 0 then
         zq (zin x2 12) <|
         if (s 5 x2.toNatClampNeg) = 0 then
          zbd (f_X0_othersHaveDefaults M s x1) (fun q2 =>
           if q2 = 0 then
            some (zki 0)
           else
            some (zki 1))
         else
          some (zki 0)
        else
         zbd (f_X0_othersHaveDefaults M s x1) (fun q3 =>
          if q3 = 0 then
           some (zki 0)
          else
           some (zki 1))
       else
        some (zki 0)
     else
      some (zki 0))
set_option maxRecDepth 100000 in
set_option maxHeartbeats 4000000 in
theorem t_X0_canContain {L : Nat} {xs : Nat → Int32} (M : Nat) (s t : zS) (x1 x2 : Int32) (R : Int32) (hF : f_X0_canContain M s x1 x2 = some R) : zcall (ztb L xs) 4 10 [.ref 1, .int x1, .int x2] (zHp s t) = some (some (.int R), zHp s t) := by
  unfold f_X0_canContain at hF
  refine zcall_X (d := 3) (e := zm_X0_canContain) rfl rfl ?_
  show zX (ztb L xs) (zcall (ztb L xs) 3) 0 2 zk_X0_canContain 0 [.ref 1, .int x1, .int x2, .retAddr 0] [] (zHp s t) _
  refine zX_go (c := 3) (pc' := 3) (lv' := [.ref 1, .int x1, .int x2, .retAddr 0]) (st' := [.int (zki 0), .int x1, .ref 1]) (h' := zHp s t) rfl ?_
  obtain ⟨q1, hq, hF⟩ := zbd_ok hF
  refine zX_inv (av := [.ref 1, .int x1, .int (zki 0)]) (st := []) (h' := zHp s t) rfl rfl rfl rfl rfl rfl (zcall_le (t_X0_slotOf M _ _ _ _ _ hq) (by decide)) ?_
  refine zX_go (c := 4) (pc' := if q1 = (zki (-1)) then 34 else 12) (lv' := [.ref 1, .int x1, .int x2, .int q1]) (st' := []) (h' := zHp s t) rfl ?_
  refine zX_ite hF (fun c0 hF => ?_) (fun c0 hF => ?_)
  · refine zX_go (c := 1) (pc' := 35) (lv' := [.ref 1, .int x1, .int x2, .int q1]) (st' := [.int (zki 0)]) (h' := zHp s t) rfl ?_
    cases hF
    exact zX_retz rfl (by decide)
  · refine zX_go (c := 3) (pc' := 17) (lv' := [.ref 1, .int x1, .int x2, .int q1]) (st' := [.int q1, .ref 19]) (h' := zHp s t) rfl ?_
    refine zX_bal (n := 60) rfl rfl hF (fun hF => ?_)
    refine zX_go (c := 1) (pc' := if (s 14 q1.toNatClampNeg) = 0 then 34 else 21) (lv' := [.ref 1, .int x1, .int x2, .int q1]) (st' := []) (h' := zHp s t) rfl ?_
    refine zX_ite hF (fun c0 hF => ?_) (fun c0 hF => ?_)
    · refine zX_go (c := 1) (pc' := 35) (lv' := [.ref 1, .int x1, .int x2, .int q1]) (st' := [.int (zki 0)]) (h' := zHp s t) rfl ?_
      cases hF
      exact zX_retz rfl (by decide)
    · refine zX_go (c := 3) (pc' := 26) (lv' := [.ref 1, .int x1, .int x2, .int q1]) (st' := [.int q1, .ref 18]) (h' := zHp s t) rfl ?_
      refine zX_ial (n := 60) rfl rfl hF (fun hF => ?_)
      refine zX_go (c := 4) (pc' := if (s 13 q1.toNatClampNeg) = ((zkb 10) + x2) then 36 else 34) (lv' := [.ref 1, .int x1, .int x2, .int q1]) (st' := []) (h' := zHp s t) rfl ?_
      refine zX_ite hF (fun c0 hF => ?_) (fun c0 hF => ?_)
      · refine zX_go (c := 3) (pc' := 41) (lv' := [.ref 1, .int x1, .int x2, .int q1]) (st' := [.int x1, .ref 9]) (h' := zHp s t) rfl ?_
        refine zX_ial (n := 12) rfl rfl hF (fun hF => ?_)
        refine zX_go (c := 3) (pc' := 47) (lv' := [.ref 1, .int x1, .int x2, .int q1]) (st' := [.int x2, .ref 9, .int (s 4 x1.toNatClampNeg)]) (h' := zHp s t) rfl ?_
        refine zX_ial (n := 12) rfl rfl hF (fun hF => ?_)
        refine zX_go (c := 1) (pc' := if (s 4 x1.toNatClampNeg) < (s 4 x2.toNatClampNeg) then 99 else 51) (lv' := [.ref 1, .int x1, .int x2, .int q1]) (st' := []) (h' := zHp s t) rfl ?_
        refine zX_ite hF (fun c0 hF => ?_) (fun c0 hF => ?_)
        · refine zX_go (c := 1) (pc' := 100) (lv' := [.ref 1, .int x1, .int x2, .int q1]) (st' := [.int (zki 0)]) (h' := zHp s t) rfl ?_
          cases hF
          exact zX_retz rfl (by decide)
        · refine zX_go (c := 3) (pc' := 56) (lv' := [.ref 1, .int x1, .int x2, .int q1]) (st' := [.int x1, .ref 8]) (h' := zHp s t) rfl ?_
          refine zX_ial (n := 12) rfl rfl hF (fun hF => ?_)
          refine zX_go (c := 3) (pc' := 62) (lv' := [.ref 1, .int x1, .int x2, .int q1]) (st' := [.int x2, .ref 8, .int (s 3 x1.toNatClampNeg)]) (h' := zHp s t) rfl ?_
          refine zX_ial (n := 12) rfl rfl hF (fun hF => ?_)
          refine zX_go (c := 4) (pc' := if ((s 3 x1.toNatClampNeg) &&& ((s 3 x2.toNatClampNeg) ^^^ (zki (-1)))) = 0 then 69 else 99) (lv' := [.ref 1, .int x1, .int x2, .int q1]) (st' := []) (h' := zHp s t) rfl ?_
          refine zX_ite hF (fun c0 hF => ?_) (fun c0 hF => ?_)
          · refine zX_go (c := 3) (pc' := 74) (lv' := [.ref 1, .int x1, .int x2, .int q1]) (st' := [.int x1, .ref 10]) (h' := zHp s t) rfl ?_
            refine zX_bal (n := 12) rfl rfl hF (fun hF => ?_)
            refine zX_go (c := 1) (pc' := if (s 5 x1.toNatClampNeg) = 0 then 78 else 87) (lv' := [.ref 1, .int x1, .int x2, .int q1]) (st' := []) (h' := zHp s t) rfl ?_
            refine zX_ite hF (fun c0 hF => ?_) (fun c0 hF => ?_)
            · refine zX_go (c := 3) (pc' := 83) (lv' := [.ref 1, .int x1, .int x2, .int q1]) (st' := [.int x2, .ref 10]) (h' := zHp s t) rfl ?_
              refine zX_bal (n := 12) rfl rfl hF (fun hF => ?_)
              refine zX_go (c := 1) (pc' := if (s 5 x2.toNatClampNeg) = 0 then 87 else 99) (lv' := [.ref 1, .int x1, .int x2, .int q1]) (st' := []) (h' := zHp s t) rfl ?_
              refine zX_ite hF (fun c0 hF => ?_) (fun c0 hF => ?_)
              · refine zX_go (c := 2) (pc' := 89) (lv' := [.ref 1, .int x1, .int x2, .int q1]) (st' := [.int x1, .ref 1]) (h' := zHp s t) rfl ?_
                obtain ⟨q2, hq, hF⟩ := zbd_ok hF
                refine zX_inv (av := [.ref 1, .int x1]) (st := []) (h' := zHp s t) rfl rfl rfl rfl rfl rfl (zcall_le (t_X0_othersHaveDefaults M _ _ _ _ hq) (by decide)) ?_
                refine zX_go (c := 1) (pc' := if q2 = 0 then 99 else 95) (lv' := [.ref 1, .int x1, .int x2, .int q1]) (st' := []) (h' := zHp s t) rfl ?_
                refine zX_ite hF (fun c0 hF => ?_) (fun c0 hF => ?_)
                · refine zX_go (c := 1) (pc' := 100) (lv' := [.ref 1, .int x1, .int x2, .int q1]) (st' := [.int (zki 0)]) (h' := zHp s t) rfl ?_
                  cases hF
                  exact zX_retz rfl (by decide)
                · refine zX_go (c := 2) (pc' := 100) (lv' := [.ref 1, .int x1, .int x2, .int q1]) (st' := [.int (zki 1)]) (h' := zHp s t) rfl ?_
                  cases hF
                  exact zX_retz rfl (by decide)
              · refine zX_go (c := 1) (pc' := 100) (lv' := [.ref 1, .int x1, .int x2, .int q1]) (st' := [.int (zki 0)]) (h' := zHp s t) rfl ?_
                cases hF
                exact zX_retz rfl (by decide)
            · refine zX_go (c := 2) (pc' := 89) (lv' := [.ref 1, .int x1, .int x2, .int q1]) (st' := [.int x1, .ref 1]) (h' := zHp s t) rfl ?_
              obtain ⟨q3, hq, hF⟩ := zbd_ok hF
              refine zX_inv (av := [.ref 1, .int x1]) (st := []) (h' := zHp s t) rfl rfl rfl rfl rfl rfl (zcall_le (t_X0_othersHaveDefaults M _ _ _ _ hq) (by decide)) ?_
              refine zX_go (c := 1) (pc' := if q3 = 0 then 99 else 95) (lv' := [.ref 1, .int x1, .int x2, .int q1]) (st' := []) (h' := zHp s t) rfl ?_
              refine zX_ite hF (fun c0 hF => ?_) (fun c0 hF => ?_)
              · refine zX_go (c := 1) (pc' := 100) (lv' := [.ref 1, .int x1, .int x2, .int q1]) (st' := [.int (zki 0)]) (h' := zHp s t) rfl ?_
                cases hF
                exact zX_retz rfl (by decide)
              · refine zX_go (c := 2) (pc' := 100) (lv' := [.ref 1, .int x1, .int x2, .int q1]) (st' := [.int (zki 1)]) (h' := zHp s t) rfl ?_
                cases hF
                exact zX_retz rfl (by decide)
          · refine zX_go (c := 1) (pc' := 100) (lv' := [.ref 1, .int x1, .int x2, .int q1]) (st' := [.int (zki 0)]) (h' := zHp s t) rfl ?_
            cases hF
            exact zX_retz rfl (by decide)
      · refine zX_go (c := 1) (pc' := 35) (lv' := [.ref 1, .int x1, .int x2, .int q1]) (st' := [.int (zki 0)]) (h' := zHp s t) rfl ?_
        cases hF
        exact zX_retz rfl (by decide)
end
