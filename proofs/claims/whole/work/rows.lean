section
-- ===== PART A: goes FIRST, ahead of the names: the tables' words, and 'selects' of the private methods out of them =====
/-- a private method of a class that the tables say can be made, by its rows of tables_1 -/
def lw_okq (q : MethodName × Nat) : Prop := (q.1.cls ≠ "java/lang/invoke/MethodHandle" ∧ q.1.cls ≠ "java/lang/invoke/VarHandle") ∧ Cond.instantiable q.1.cls q.2 ∈ tables_1 ∧ Cond.privateMethod q.1 ∈ tables_1 ∧ Cond.instanceMethod q.1 ∈ tables_1
theorem lw_p0 : lw_okq (⟨"RowForms$Pad", "isFull", "()Z"⟩, 2) := ⟨⟨by decide +kernel, by decide +kernel⟩, List.mem_of_getElem? (i := 18) (by decide +kernel), List.mem_of_getElem? (i := 100) (by decide +kernel), List.mem_of_getElem? (i := 101) (by decide +kernel)⟩
theorem lw_p1 : lw_okq (⟨"RowForms$Pad", "add", "(I)I"⟩, 2) := ⟨⟨by decide +kernel, by decide +kernel⟩, List.mem_of_getElem? (i := 18) (by decide +kernel), List.mem_of_getElem? (i := 104) (by decide +kernel), List.mem_of_getElem? (i := 105) (by decide +kernel)⟩
theorem lw_p2 : lw_okq (⟨"RowForms$Pad", "empty", "()I"⟩, 2) := ⟨⟨by decide +kernel, by decide +kernel⟩, List.mem_of_getElem? (i := 18) (by decide +kernel), List.mem_of_getElem? (i := 113) (by decide +kernel), List.mem_of_getElem? (i := 114) (by decide +kernel)⟩
theorem lw_p3 : lw_okq (⟨"RowForms$Pad", "rowFault", "(Z)I"⟩, 2) := ⟨⟨by decide +kernel, by decide +kernel⟩, List.mem_of_getElem? (i := 18) (by decide +kernel), List.mem_of_getElem? (i := 121) (by decide +kernel), List.mem_of_getElem? (i := 122) (by decide +kernel)⟩
theorem lw_p4 : lw_okq (⟨"RowForms$Pad", "signAt", "(I)I"⟩, 2) := ⟨⟨by decide +kernel, by decide +kernel⟩, List.mem_of_getElem? (i := 18) (by decide +kernel), List.mem_of_getElem? (i := 125) (by decide +kernel), List.mem_of_getElem? (i := 126) (by decide +kernel)⟩
theorem lw_p5 : lw_okq (⟨"RowForms$Pad", "formFault", "()I"⟩, 2) := ⟨⟨by decide +kernel, by decide +kernel⟩, List.mem_of_getElem? (i := 18) (by decide +kernel), List.mem_of_getElem? (i := 132) (by decide +kernel), List.mem_of_getElem? (i := 133) (by decide +kernel)⟩
theorem lw_p6 : lw_okq (⟨"RowForms$Pad", "kindSigns", "()I"⟩, 2) := ⟨⟨by decide +kernel, by decide +kernel⟩, List.mem_of_getElem? (i := 18) (by decide +kernel), List.mem_of_getElem? (i := 136) (by decide +kernel), List.mem_of_getElem? (i := 137) (by decide +kernel)⟩
theorem lw_p7 : lw_okq (⟨"RowForms$Pad", "copyTones", "([I)V"⟩, 2) := ⟨⟨by decide +kernel, by decide +kernel⟩, List.mem_of_getElem? (i := 18) (by decide +kernel), List.mem_of_getElem? (i := 147) (by decide +kernel), List.mem_of_getElem? (i := 148) (by decide +kernel)⟩
theorem lw_p8 : lw_okq (⟨"RowForms$Pad", "formNumber", "()I"⟩, 2) := ⟨⟨by decide +kernel, by decide +kernel⟩, List.mem_of_getElem? (i := 18) (by decide +kernel), List.mem_of_getElem? (i := 162) (by decide +kernel), List.mem_of_getElem? (i := 163) (by decide +kernel)⟩
theorem lw_p9 : lw_okq (⟨"RowForms$Segments", "gather", "([II)V"⟩, 6) := ⟨⟨by decide +kernel, by decide +kernel⟩, List.mem_of_getElem? (i := 55) (by decide +kernel), List.mem_of_getElem? (i := 270) (by decide +kernel), List.mem_of_getElem? (i := 271) (by decide +kernel)⟩
theorem lw_p10 : lw_okq (⟨"RowForms$Segments", "insert", "(II)V"⟩, 6) := ⟨⟨by decide +kernel, by decide +kernel⟩, List.mem_of_getElem? (i := 55) (by decide +kernel), List.mem_of_getElem? (i := 276) (by decide +kernel), List.mem_of_getElem? (i := 277) (by decide +kernel)⟩
theorem lw_p11 : lw_okq (⟨"RowForms$Segments", "countRows", "()I"⟩, 6) := ⟨⟨by decide +kernel, by decide +kernel⟩, List.mem_of_getElem? (i := 55) (by decide +kernel), List.mem_of_getElem? (i := 280) (by decide +kernel), List.mem_of_getElem? (i := 281) (by decide +kernel)⟩
theorem lw_p12 : lw_okq (⟨"RowForms$Segments", "toneOfRow", "(II)I"⟩, 6) := ⟨⟨by decide +kernel, by decide +kernel⟩, List.mem_of_getElem? (i := 55) (by decide +kernel), List.mem_of_getElem? (i := 287) (by decide +kernel), List.mem_of_getElem? (i := 288) (by decide +kernel)⟩
theorem lw_p13 : lw_okq (⟨"RowForms$Store", "copyFrom", "(LRowForms$Store;)V"⟩, 3) := ⟨⟨by decide +kernel, by decide +kernel⟩, List.mem_of_getElem? (i := 33) (by decide +kernel), List.mem_of_getElem? (i := 344) (by decide +kernel), List.mem_of_getElem? (i := 345) (by decide +kernel)⟩
theorem lw_p14 : lw_okq (⟨"RowForms", "leastAlike", "(I)I"⟩, 5) := ⟨⟨by decide +kernel, by decide +kernel⟩, List.mem_of_getElem? (i := 10) (by decide +kernel), List.mem_of_getElem? (i := 357) (by decide +kernel), List.mem_of_getElem? (i := 358) (by decide +kernel)⟩
theorem lw_p15 : lw_okq (⟨"RowFormsModel", "faultOfTones", "(Z)I"⟩, 14) := ⟨⟨by decide +kernel, by decide +kernel⟩, List.mem_of_getElem? (i := 361) (by decide +kernel), List.mem_of_getElem? (i := 428) (by decide +kernel), List.mem_of_getElem? (i := 429) (by decide +kernel)⟩
def lw_privs_1 : List (MethodName × Nat) := [(⟨"RowForms$Pad", "isFull", "()Z"⟩, 2), (⟨"RowForms$Pad", "add", "(I)I"⟩, 2), (⟨"RowForms$Pad", "empty", "()I"⟩, 2), (⟨"RowForms$Pad", "rowFault", "(Z)I"⟩, 2), (⟨"RowForms$Pad", "signAt", "(I)I"⟩, 2), (⟨"RowForms$Pad", "formFault", "()I"⟩, 2), (⟨"RowForms$Pad", "kindSigns", "()I"⟩, 2), (⟨"RowForms$Pad", "copyTones", "([I)V"⟩, 2), (⟨"RowForms$Pad", "formNumber", "()I"⟩, 2), (⟨"RowForms$Segments", "gather", "([II)V"⟩, 6), (⟨"RowForms$Segments", "insert", "(II)V"⟩, 6), (⟨"RowForms$Segments", "countRows", "()I"⟩, 6), (⟨"RowForms$Segments", "toneOfRow", "(II)I"⟩, 6), (⟨"RowForms$Store", "copyFrom", "(LRowForms$Store;)V"⟩, 3), (⟨"RowForms", "leastAlike", "(I)I"⟩, 5), (⟨"RowFormsModel", "faultOfTones", "(Z)I"⟩, 14)]
theorem lw_r1 : ∀ q ∈ lw_privs_1, lw_okq q := List.forall_mem_cons.mpr ⟨lw_p0, List.forall_mem_cons.mpr ⟨lw_p1, List.forall_mem_cons.mpr ⟨lw_p2, List.forall_mem_cons.mpr ⟨lw_p3, List.forall_mem_cons.mpr ⟨lw_p4, List.forall_mem_cons.mpr ⟨lw_p5, List.forall_mem_cons.mpr ⟨lw_p6, List.forall_mem_cons.mpr ⟨lw_p7, List.forall_mem_cons.mpr ⟨lw_p8, List.forall_mem_cons.mpr ⟨lw_p9, List.forall_mem_cons.mpr ⟨lw_p10, List.forall_mem_cons.mpr ⟨lw_p11, List.forall_mem_cons.mpr ⟨lw_p12, List.forall_mem_cons.mpr ⟨lw_p13, List.forall_mem_cons.mpr ⟨lw_p14, List.forall_mem_cons.mpr ⟨lw_p15, fun _ h => absurd h List.not_mem_nil⟩⟩⟩⟩⟩⟩⟩⟩⟩⟩⟩⟩⟩⟩⟩⟩
theorem lw_p16 : lw_okq (⟨"RowFormsModel", "faultOfForm", "()I"⟩, 14) := ⟨⟨by decide +kernel, by decide +kernel⟩, List.mem_of_getElem? (i := 361) (by decide +kernel), List.mem_of_getElem? (i := 437) (by decide +kernel), List.mem_of_getElem? (i := 438) (by decide +kernel)⟩
theorem lw_p17 : lw_okq (⟨"RowFormsModel", "isSign", "(II)Z"⟩, 14) := ⟨⟨by decide +kernel, by decide +kernel⟩, List.mem_of_getElem? (i := 361) (by decide +kernel), List.mem_of_getElem? (i := 441) (by decide +kernel), List.mem_of_getElem? (i := 442) (by decide +kernel)⟩
theorem lw_p18 : lw_okq (⟨"RowFormsModel", "holesNow", "()I"⟩, 14) := ⟨⟨by decide +kernel, by decide +kernel⟩, List.mem_of_getElem? (i := 361) (by decide +kernel), List.mem_of_getElem? (i := 457) (by decide +kernel), List.mem_of_getElem? (i := 458) (by decide +kernel)⟩
theorem lw_p19 : lw_okq (⟨"RowFormsModel", "toneAt", "(II)I"⟩, 14) := ⟨⟨by decide +kernel, by decide +kernel⟩, List.mem_of_getElem? (i := 361) (by decide +kernel), List.mem_of_getElem? (i := 473) (by decide +kernel), List.mem_of_getElem? (i := 474) (by decide +kernel)⟩
theorem lw_p20 : lw_okq (⟨"RowFormsModel", "formAt", "(III)I"⟩, 14) := ⟨⟨by decide +kernel, by decide +kernel⟩, List.mem_of_getElem? (i := 361) (by decide +kernel), List.mem_of_getElem? (i := 485) (by decide +kernel), List.mem_of_getElem? (i := 486) (by decide +kernel)⟩
theorem lw_p21 : lw_okq (⟨"RowFormsModel", "canonForm", "(I)I"⟩, 14) := ⟨⟨by decide +kernel, by decide +kernel⟩, List.mem_of_getElem? (i := 361) (by decide +kernel), List.mem_of_getElem? (i := 511) (by decide +kernel), List.mem_of_getElem? (i := 512) (by decide +kernel)⟩
theorem lw_p22 : lw_okq (⟨"RowFormsModel", "compared", "(III)I"⟩, 14) := ⟨⟨by decide +kernel, by decide +kernel⟩, List.mem_of_getElem? (i := 361) (by decide +kernel), List.mem_of_getElem? (i := 515) (by decide +kernel), List.mem_of_getElem? (i := 516) (by decide +kernel)⟩
theorem lw_p23 : lw_okq (⟨"RowFormsModel", "sizeOf", "(I)I"⟩, 14) := ⟨⟨by decide +kernel, by decide +kernel⟩, List.mem_of_getElem? (i := 361) (by decide +kernel), List.mem_of_getElem? (i := 519) (by decide +kernel), List.mem_of_getElem? (i := 520) (by decide +kernel)⟩
theorem lw_p24 : lw_okq (⟨"RowFormsModel", "isLeading", "(III)Z"⟩, 14) := ⟨⟨by decide +kernel, by decide +kernel⟩, List.mem_of_getElem? (i := 361) (by decide +kernel), List.mem_of_getElem? (i := 527) (by decide +kernel), List.mem_of_getElem? (i := 528) (by decide +kernel)⟩
theorem lw_p25 : lw_okq (⟨"RowFormsModel", "unlikeSteps", "(I)I"⟩, 14) := ⟨⟨by decide +kernel, by decide +kernel⟩, List.mem_of_getElem? (i := 361) (by decide +kernel), List.mem_of_getElem? (i := 535) (by decide +kernel), List.mem_of_getElem? (i := 536) (by decide +kernel)⟩
theorem lw_p26 : lw_okq (⟨"RowFormsModel", "stepAt", "(II)I"⟩, 14) := ⟨⟨by decide +kernel, by decide +kernel⟩, List.mem_of_getElem? (i := 361) (by decide +kernel), List.mem_of_getElem? (i := 539) (by decide +kernel), List.mem_of_getElem? (i := 540) (by decide +kernel)⟩
theorem lw_p27 : lw_okq (⟨"RowFormsModel", "setAt", "(IIII)I"⟩, 14) := ⟨⟨by decide +kernel, by decide +kernel⟩, List.mem_of_getElem? (i := 361) (by decide +kernel), List.mem_of_getElem? (i := 549) (by decide +kernel), List.mem_of_getElem? (i := 550) (by decide +kernel)⟩
theorem lw_p28 : lw_okq (⟨"RowFormsModel", "isGroup", "(III)Z"⟩, 14) := ⟨⟨by decide +kernel, by decide +kernel⟩, List.mem_of_getElem? (i := 361) (by decide +kernel), List.mem_of_getElem? (i := 561) (by decide +kernel), List.mem_of_getElem? (i := 562) (by decide +kernel)⟩
theorem lw_p29 : lw_okq (⟨"RowFormsModel", "groupAt", "(IIII)I"⟩, 14) := ⟨⟨by decide +kernel, by decide +kernel⟩, List.mem_of_getElem? (i := 361) (by decide +kernel), List.mem_of_getElem? (i := 565) (by decide +kernel), List.mem_of_getElem? (i := 566) (by decide +kernel)⟩
theorem lw_p30 : lw_okq (⟨"RowFormsModel", "isFirst", "(III)Z"⟩, 14) := ⟨⟨by decide +kernel, by decide +kernel⟩, List.mem_of_getElem? (i := 361) (by decide +kernel), List.mem_of_getElem? (i := 574) (by decide +kernel), List.mem_of_getElem? (i := 575) (by decide +kernel)⟩
theorem lw_p31 : lw_okq (⟨"RowFormsModel", "addGroup", "(III)V"⟩, 14) := ⟨⟨by decide +kernel, by decide +kernel⟩, List.mem_of_getElem? (i := 361) (by decide +kernel), List.mem_of_getElem? (i := 578) (by decide +kernel), List.mem_of_getElem? (i := 579) (by decide +kernel)⟩
def lw_privs_2 : List (MethodName × Nat) := [(⟨"RowFormsModel", "faultOfForm", "()I"⟩, 14), (⟨"RowFormsModel", "isSign", "(II)Z"⟩, 14), (⟨"RowFormsModel", "holesNow", "()I"⟩, 14), (⟨"RowFormsModel", "toneAt", "(II)I"⟩, 14), (⟨"RowFormsModel", "formAt", "(III)I"⟩, 14), (⟨"RowFormsModel", "canonForm", "(I)I"⟩, 14), (⟨"RowFormsModel", "compared", "(III)I"⟩, 14), (⟨"RowFormsModel", "sizeOf", "(I)I"⟩, 14), (⟨"RowFormsModel", "isLeading", "(III)Z"⟩, 14), (⟨"RowFormsModel", "unlikeSteps", "(I)I"⟩, 14), (⟨"RowFormsModel", "stepAt", "(II)I"⟩, 14), (⟨"RowFormsModel", "setAt", "(IIII)I"⟩, 14), (⟨"RowFormsModel", "isGroup", "(III)Z"⟩, 14), (⟨"RowFormsModel", "groupAt", "(IIII)I"⟩, 14), (⟨"RowFormsModel", "isFirst", "(III)Z"⟩, 14), (⟨"RowFormsModel", "addGroup", "(III)V"⟩, 14)]
theorem lw_r2 : ∀ q ∈ lw_privs_2, lw_okq q := List.forall_mem_cons.mpr ⟨lw_p16, List.forall_mem_cons.mpr ⟨lw_p17, List.forall_mem_cons.mpr ⟨lw_p18, List.forall_mem_cons.mpr ⟨lw_p19, List.forall_mem_cons.mpr ⟨lw_p20, List.forall_mem_cons.mpr ⟨lw_p21, List.forall_mem_cons.mpr ⟨lw_p22, List.forall_mem_cons.mpr ⟨lw_p23, List.forall_mem_cons.mpr ⟨lw_p24, List.forall_mem_cons.mpr ⟨lw_p25, List.forall_mem_cons.mpr ⟨lw_p26, List.forall_mem_cons.mpr ⟨lw_p27, List.forall_mem_cons.mpr ⟨lw_p28, List.forall_mem_cons.mpr ⟨lw_p29, List.forall_mem_cons.mpr ⟨lw_p30, List.forall_mem_cons.mpr ⟨lw_p31, fun _ h => absurd h List.not_mem_nil⟩⟩⟩⟩⟩⟩⟩⟩⟩⟩⟩⟩⟩⟩⟩⟩
theorem lw_p32 : lw_okq (⟨"RowFormsModel", "comparedGroups", "(IIII)I"⟩, 14) := ⟨⟨by decide +kernel, by decide +kernel⟩, List.mem_of_getElem? (i := 361) (by decide +kernel), List.mem_of_getElem? (i := 582) (by decide +kernel), List.mem_of_getElem? (i := 583) (by decide +kernel)⟩
theorem lw_p33 : lw_okq (⟨"RowFormsModel", "fits", "(III)Z"⟩, 14) := ⟨⟨by decide +kernel, by decide +kernel⟩, List.mem_of_getElem? (i := 361) (by decide +kernel), List.mem_of_getElem? (i := 586) (by decide +kernel), List.mem_of_getElem? (i := 587) (by decide +kernel)⟩
theorem lw_p34 : lw_okq (⟨"RowFormsModel", "firstSet", "(II)I"⟩, 14) := ⟨⟨by decide +kernel, by decide +kernel⟩, List.mem_of_getElem? (i := 361) (by decide +kernel), List.mem_of_getElem? (i := 590) (by decide +kernel), List.mem_of_getElem? (i := 591) (by decide +kernel)⟩
theorem lw_p35 : lw_okq (⟨"RowFormsModel", "isNext", "(III)Z"⟩, 14) := ⟨⟨by decide +kernel, by decide +kernel⟩, List.mem_of_getElem? (i := 361) (by decide +kernel), List.mem_of_getElem? (i := 594) (by decide +kernel), List.mem_of_getElem? (i := 595) (by decide +kernel)⟩
theorem lw_p36 : lw_okq (⟨"RowFormsModel", "isWell", "(I)Z"⟩, 14) := ⟨⟨by decide +kernel, by decide +kernel⟩, List.mem_of_getElem? (i := 361) (by decide +kernel), List.mem_of_getElem? (i := 602) (by decide +kernel), List.mem_of_getElem? (i := 603) (by decide +kernel)⟩
theorem lw_p37 : lw_okq (⟨"RowFormsModel", "placeOf", "(I)I"⟩, 14) := ⟨⟨by decide +kernel, by decide +kernel⟩, List.mem_of_getElem? (i := 361) (by decide +kernel), List.mem_of_getElem? (i := 612) (by decide +kernel), List.mem_of_getElem? (i := 613) (by decide +kernel)⟩
theorem lw_p38 : lw_okq (⟨"RowFormsModel", "fill", "(I)V"⟩, 14) := ⟨⟨by decide +kernel, by decide +kernel⟩, List.mem_of_getElem? (i := 361) (by decide +kernel), List.mem_of_getElem? (i := 620) (by decide +kernel), List.mem_of_getElem? (i := 621) (by decide +kernel)⟩
theorem lw_p39 : lw_okq (⟨"RowFormsModel", "leastFree", "(I)I"⟩, 14) := ⟨⟨by decide +kernel, by decide +kernel⟩, List.mem_of_getElem? (i := 361) (by decide +kernel), List.mem_of_getElem? (i := 624) (by decide +kernel), List.mem_of_getElem? (i := 625) (by decide +kernel)⟩
theorem lw_p40 : lw_okq (⟨"RowFormsModel", "isUsed", "(I)Z"⟩, 14) := ⟨⟨by decide +kernel, by decide +kernel⟩, List.mem_of_getElem? (i := 361) (by decide +kernel), List.mem_of_getElem? (i := 628) (by decide +kernel), List.mem_of_getElem? (i := 629) (by decide +kernel)⟩
theorem lw_p41 : lw_okq (⟨"RowFormsModel", "passAll", "()V"⟩, 14) := ⟨⟨by decide +kernel, by decide +kernel⟩, List.mem_of_getElem? (i := 361) (by decide +kernel), List.mem_of_getElem? (i := 643) (by decide +kernel), List.mem_of_getElem? (i := 644) (by decide +kernel)⟩
theorem lw_p42 : lw_okq (⟨"RowFormsModel", "passRow", "([II)V"⟩, 14) := ⟨⟨by decide +kernel, by decide +kernel⟩, List.mem_of_getElem? (i := 361) (by decide +kernel), List.mem_of_getElem? (i := 647) (by decide +kernel), List.mem_of_getElem? (i := 648) (by decide +kernel)⟩
theorem lw_p43 : lw_okq (⟨"RowFormsModel", "firstLike", "(I)I"⟩, 14) := ⟨⟨by decide +kernel, by decide +kernel⟩, List.mem_of_getElem? (i := 361) (by decide +kernel), List.mem_of_getElem? (i := 659) (by decide +kernel), List.mem_of_getElem? (i := 660) (by decide +kernel)⟩
def lw_privs_3 : List (MethodName × Nat) := [(⟨"RowFormsModel", "comparedGroups", "(IIII)I"⟩, 14), (⟨"RowFormsModel", "fits", "(III)Z"⟩, 14), (⟨"RowFormsModel", "firstSet", "(II)I"⟩, 14), (⟨"RowFormsModel", "isNext", "(III)Z"⟩, 14), (⟨"RowFormsModel", "isWell", "(I)Z"⟩, 14), (⟨"RowFormsModel", "placeOf", "(I)I"⟩, 14), (⟨"RowFormsModel", "fill", "(I)V"⟩, 14), (⟨"RowFormsModel", "leastFree", "(I)I"⟩, 14), (⟨"RowFormsModel", "isUsed", "(I)Z"⟩, 14), (⟨"RowFormsModel", "passAll", "()V"⟩, 14), (⟨"RowFormsModel", "passRow", "([II)V"⟩, 14), (⟨"RowFormsModel", "firstLike", "(I)I"⟩, 14)]
theorem lw_r3 : ∀ q ∈ lw_privs_3, lw_okq q := List.forall_mem_cons.mpr ⟨lw_p32, List.forall_mem_cons.mpr ⟨lw_p33, List.forall_mem_cons.mpr ⟨lw_p34, List.forall_mem_cons.mpr ⟨lw_p35, List.forall_mem_cons.mpr ⟨lw_p36, List.forall_mem_cons.mpr ⟨lw_p37, List.forall_mem_cons.mpr ⟨lw_p38, List.forall_mem_cons.mpr ⟨lw_p39, List.forall_mem_cons.mpr ⟨lw_p40, List.forall_mem_cons.mpr ⟨lw_p41, List.forall_mem_cons.mpr ⟨lw_p42, List.forall_mem_cons.mpr ⟨lw_p43, fun _ h => absurd h List.not_mem_nil⟩⟩⟩⟩⟩⟩⟩⟩⟩⟩⟩⟩
def lw_privs : List (MethodName × Nat) := lw_privs_1 ++ (lw_privs_2 ++ (lw_privs_3))
def lw_tbl : List Cond := k2_sels lw_privs ++ tables_1
theorem lw_privs_ok : ∀ q ∈ lw_privs, lw_okq q := by
  show ∀ q ∈ lw_privs_1 ++ (lw_privs_2 ++ (lw_privs_3)), lw_okq q
  exact List.forall_mem_append.mpr ⟨lw_r1, List.forall_mem_append.mpr ⟨lw_r2, lw_r3⟩⟩
end
section
/-! ===== BEGIN printed: names, fields, word lists, decode rows ===== -/
def RX0 : String := "RowForms$Pad"
def TX0 : u_T := fun k => match k with
  | 0 => ("RowForms$Pad", "signs", "[I", true)
  | _ => ("RowForms$Pad", "count", "I", false)
def tyX0 : Nat → FieldType := fun k => match k with
  | 0 => .array .int
  | _ => .int
abbrev wsX00 : List Cond := u_ws RX0 TX0 2
theorem nmX0 : ∀ a, a < 2 → ∀ b, b < 2 → a ≠ b → (TX0 a).2.1 ≠ (TX0 b).2.1 := by decide +kernel
theorem tyX0_ok : ∀ k, k < 2 → parseFieldDescriptor (TX0 k).2.2.1 = some (tyX0 k) := by decide +kernel
abbrev cX0_init : ByteArray := prog_2_method_1_code
def yX0_init : MethodName := ⟨RX0, "<init>", "()V"⟩
abbrev cX0_isFull : ByteArray := prog_2_method_2_code
def yX0_isFull : MethodName := ⟨RX0, "isFull", "()Z"⟩
abbrev cX0_add : ByteArray := prog_2_method_3_code
def yX0_add : MethodName := ⟨RX0, "add", "(I)I"⟩
abbrev cX0_empty : ByteArray := prog_2_method_4_code
def yX0_empty : MethodName := ⟨RX0, "empty", "()I"⟩
abbrev cX0_signAt : ByteArray := prog_2_method_5_code
def yX0_signAt : MethodName := ⟨RX0, "signAt", "(I)I"⟩
abbrev cX0_rowFault : ByteArray := prog_2_method_6_code
def yX0_rowFault : MethodName := ⟨RX0, "rowFault", "(Z)I"⟩
abbrev cX0_copyTones : ByteArray := prog_2_method_7_code
def yX0_copyTones : MethodName := ⟨RX0, "copyTones", "([I)V"⟩
abbrev cX0_formFault : ByteArray := prog_2_method_8_code
def yX0_formFault : MethodName := ⟨RX0, "formFault", "()I"⟩
abbrev cX0_kindSigns : ByteArray := prog_2_method_9_code
def yX0_kindSigns : MethodName := ⟨RX0, "kindSigns", "()I"⟩
abbrev cX0_formNumber : ByteArray := prog_2_method_10_code
def yX0_formNumber : MethodName := ⟨RX0, "formNumber", "()I"⟩
def RX1 : String := "RowForms$Segments"
def TX1 : u_T := fun k => match k with
  | 0 => ("RowForms$Segments", "keys", "[I", true)
  | 1 => ("RowForms$Segments", "sets", "[I", true)
  | 2 => ("RowForms$Segments", "many", "I", false)
  | 3 => ("RowForms$Segments", "width", "I", false)
  | 4 => ("RowForms$Segments", "begin", "I", false)
  | _ => ("RowForms$Segments", "following", "I", false)
def tyX1 : Nat → FieldType := fun k => match k with
  | 0 => .array .int
  | 1 => .array .int
  | 2 => .int
  | 3 => .int
  | 4 => .int
  | _ => .int
abbrev wsX10 : List Cond := u_ws RX1 TX1 6
theorem nmX1 : ∀ a, a < 6 → ∀ b, b < 6 → a ≠ b → (TX1 a).2.1 ≠ (TX1 b).2.1 := by decide +kernel
theorem tyX1_ok : ∀ k, k < 6 → parseFieldDescriptor (TX1 k).2.2.1 = some (tyX1 k) := by decide +kernel
abbrev cX1_init : ByteArray := prog_3_method_1_code
def yX1_init : MethodName := ⟨RX1, "<init>", "()V"⟩
abbrev cX1_gather : ByteArray := prog_3_method_2_code
def yX1_gather : MethodName := ⟨RX1, "gather", "([II)V"⟩
abbrev cX1_insert : ByteArray := prog_3_method_3_code
def yX1_insert : MethodName := ⟨RX1, "insert", "(II)V"⟩
abbrev cX1_countRows : ByteArray := prog_3_method_4_code
def yX1_countRows : MethodName := ⟨RX1, "countRows", "()I"⟩
abbrev cX1_countWays : ByteArray := prog_3_method_5_code
def yX1_countWays : MethodName := ⟨RX1, "countWays", "([IIII)I"⟩
abbrev cX1_toneOfRow : ByteArray := prog_3_method_6_code
def yX1_toneOfRow : MethodName := ⟨RX1, "toneOfRow", "(II)I"⟩
def RX2 : String := "RowForms$Store"
def TX2 : u_T := fun k => match k with
  | 0 => ("RowForms$Store", "rows", "[[I", true)
  | 1 => ("RowForms$Store", "pattern", "[I", true)
  | _ => ("RowForms$Store", "kept", "Z", false)
def tyX2 : Nat → FieldType := fun k => match k with
  | 0 => .array (.array .int)
  | 1 => .array .int
  | _ => .boolean
abbrev wsX20 : List Cond := u_ws RX2 TX2 3
theorem nmX2 : ∀ a, a < 3 → ∀ b, b < 3 → a ≠ b → (TX2 a).2.1 ≠ (TX2 b).2.1 := by decide +kernel
theorem tyX2_ok : ∀ k, k < 3 → parseFieldDescriptor (TX2 k).2.2.1 = some (tyX2 k) := by decide +kernel
abbrev cX2_init : ByteArray := prog_4_method_1_code
def yX2_init : MethodName := ⟨RX2, "<init>", "()V"⟩
abbrev cX2_copyFrom : ByteArray := prog_4_method_2_code
def yX2_copyFrom : MethodName := ⟨RX2, "copyFrom", "(LRowForms$Store;)V"⟩
def RX3 : String := "RowForms"
def TX3 : u_T := fun k => match k with
  | 0 => ("RowForms", "pad", "LRowForms$Pad;", true)
  | 1 => ("RowForms", "now", "LRowForms$Store;", true)
  | 2 => ("RowForms", "images", "[LRowForms$Store;", true)
  | 3 => ("RowForms", "segments", "LRowForms$Segments;", true)
  | _ => ("RowForms", "scratch", "[I", true)
def tyX3 : Nat → FieldType := fun k => match k with
  | 0 => .object "RowForms$Pad"
  | 1 => .object "RowForms$Store"
  | 2 => .array (.object "RowForms$Store")
  | 3 => .object "RowForms$Segments"
  | _ => .array .int
abbrev wsX30 : List Cond := u_ws RX3 TX3 5
theorem nmX3 : ∀ a, a < 5 → ∀ b, b < 5 → a ≠ b → (TX3 a).2.1 ≠ (TX3 b).2.1 := by decide +kernel
theorem tyX3_ok : ∀ k, k < 5 → parseFieldDescriptor (TX3 k).2.2.1 = some (tyX3 k) := by decide +kernel
abbrev cX3_init : ByteArray := prog_1_method_1_code
def yX3_init : MethodName := ⟨RX3, "<init>", "()V"⟩
abbrev cX3_say : ByteArray := prog_1_method_2_code
def yX3_say : MethodName := ⟨RX3, "say", "(I)I"⟩
abbrev cX3_wipe : ByteArray := prog_1_method_3_code
def yX3_wipe : MethodName := ⟨RX3, "wipe", "()I"⟩
abbrev cX3_fault : ByteArray := prog_1_method_4_code
def yX3_fault : MethodName := ⟨RX3, "fault", "(I)I"⟩
abbrev cX3_load : ByteArray := prog_1_method_5_code
def yX3_load : MethodName := ⟨RX3, "load", "(I)I"⟩
abbrev cX3_punch : ByteArray := prog_1_method_6_code
def yX3_punch : MethodName := ⟨RX3, "punch", "()I"⟩
abbrev cX3_named : ByteArray := prog_1_method_7_code
def yX3_named : MethodName := ⟨RX3, "named", "()I"⟩
abbrev cX3_tone : ByteArray := prog_1_method_8_code
def yX3_tone : MethodName := ⟨RX3, "tone", "(II)I"⟩
abbrev cX3_turn : ByteArray := prog_1_method_9_code
def yX3_turn : MethodName := ⟨RX3, "turn", "(III)I"⟩
abbrev cX3_behind : ByteArray := prog_1_method_10_code
def yX3_behind : MethodName := ⟨RX3, "behind", "(II)I"⟩
abbrev cX3_back : ByteArray := prog_1_method_11_code
def yX3_back : MethodName := ⟨RX3, "back", "(I)I"⟩
abbrev cX3_canon : ByteArray := prog_1_method_12_code
def yX3_canon : MethodName := ⟨RX3, "canon", "(II)I"⟩
abbrev cX3_leads : ByteArray := prog_1_method_13_code
def yX3_leads : MethodName := ⟨RX3, "leads", "(III)I"⟩
abbrev cX3_step : ByteArray := prog_1_method_14_code
def yX3_step : MethodName := ⟨RX3, "step", "(II)I"⟩
abbrev cX3_shared : ByteArray := prog_1_method_15_code
def yX3_shared : MethodName := ⟨RX3, "shared", "(III)I"⟩
abbrev cX3_partner : ByteArray := prog_1_method_16_code
def yX3_partner : MethodName := ⟨RX3, "partner", "(II)I"⟩
abbrev cX3_derived : ByteArray := prog_1_method_17_code
def yX3_derived : MethodName := ⟨RX3, "derived", "(II)I"⟩
abbrev cX3_making : ByteArray := prog_1_method_18_code
def yX3_making : MethodName := ⟨RX3, "making", "(IIII)I"⟩
abbrev cX3_fillings : ByteArray := prog_1_method_19_code
def yX3_fillings : MethodName := ⟨RX3, "fillings", "(I)I"⟩
abbrev cX3_filling : ByteArray := prog_1_method_20_code
def yX3_filling : MethodName := ⟨RX3, "filling", "(II)I"⟩
abbrev cX3_sign : ByteArray := prog_1_method_21_code
def yX3_sign : MethodName := ⟨RX3, "sign", "(III)I"⟩
abbrev cX3_image : ByteArray := prog_1_method_22_code
def yX3_image : MethodName := ⟨RX3, "image", "(I)I"⟩
abbrev cX3_restore : ByteArray := prog_1_method_23_code
def yX3_restore : MethodName := ⟨RX3, "restore", "(I)I"⟩
abbrev cX3_told : ByteArray := prog_1_method_24_code
def yX3_told : MethodName := ⟨RX3, "told", "(I)I"⟩
abbrev cX3_leastAlike : ByteArray := prog_1_method_25_code
def yX3_leastAlike : MethodName := ⟨RX3, "leastAlike", "(I)I"⟩
abbrev cX3_isRow : ByteArray := prog_1_method_26_code
def yX3_isRow : MethodName := ⟨RX3, "isRow", "(I)Z"⟩
abbrev cX3_isForm : ByteArray := prog_1_method_27_code
def yX3_isForm : MethodName := ⟨RX3, "isForm", "(I)Z"⟩
abbrev cX3_isPlace : ByteArray := prog_1_method_28_code
def yX3_isPlace : MethodName := ⟨RX3, "isPlace", "(I)Z"⟩
abbrev cX3_isImage : ByteArray := prog_1_method_29_code
def yX3_isImage : MethodName := ⟨RX3, "isImage", "(I)Z"⟩
abbrev cX3_isMirrored : ByteArray := prog_1_method_30_code
def yX3_isMirrored : MethodName := ⟨RX3, "isMirrored", "(I)Z"⟩
abbrev cX3_isBackwards : ByteArray := prog_1_method_31_code
def yX3_isBackwards : MethodName := ⟨RX3, "isBackwards", "(I)Z"⟩
abbrev cX3_wrapped : ByteArray := prog_1_method_32_code
def yX3_wrapped : MethodName := ⟨RX3, "wrapped", "(I)I"⟩
abbrev cX3_turnedTone : ByteArray := prog_1_method_33_code
def yX3_turnedTone : MethodName := ⟨RX3, "turnedTone", "(II)I"⟩
abbrev cX3_formTone : ByteArray := prog_1_method_34_code
def yX3_formTone : MethodName := ⟨RX3, "formTone", "([IIII)I"⟩
abbrev cX3_isFormOf : ByteArray := prog_1_method_35_code
def yX3_isFormOf : MethodName := ⟨RX3, "isFormOf", "([III[II)Z"⟩
abbrev cX3_isAnyFormOf : ByteArray := prog_1_method_36_code
def yX3_isAnyFormOf : MethodName := ⟨RX3, "isAnyFormOf", "([III)Z"⟩
abbrev cX3_leastForm : ByteArray := prog_1_method_37_code
def yX3_leastForm : MethodName := ⟨RX3, "leastForm", "([I)I"⟩
abbrev cX3_isLess : ByteArray := prog_1_method_38_code
def yX3_isLess : MethodName := ⟨RX3, "isLess", "([III)Z"⟩
abbrev cX3_sizeOf : ByteArray := prog_1_method_39_code
def yX3_sizeOf : MethodName := ⟨RX3, "sizeOf", "([I)I"⟩
abbrev cX3_stepAt : ByteArray := prog_1_method_40_code
def yX3_stepAt : MethodName := ⟨RX3, "stepAt", "([II)I"⟩
abbrev cX3_unlikeSteps : ByteArray := prog_1_method_41_code
def yX3_unlikeSteps : MethodName := ⟨RX3, "unlikeSteps", "([I)I"⟩
abbrev cX3_formSet : ByteArray := prog_1_method_42_code
def yX3_formSet : MethodName := ⟨RX3, "formSet", "([IIII)I"⟩
abbrev cX3_hasSegment : ByteArray := prog_1_method_43_code
def yX3_hasSegment : MethodName := ⟨RX3, "hasSegment", "([IIII)Z"⟩
abbrev cX3_holesOf : ByteArray := prog_1_method_44_code
def yX3_holesOf : MethodName := ⟨RX3, "holesOf", "([I)I"⟩
abbrev cX3_canKeepRows : ByteArray := prog_1_method_45_code
def yX3_canKeepRows : MethodName := ⟨RX3, "canKeepRows", "(I)Z"⟩
abbrev cX3_placeAcross : ByteArray := prog_1_method_46_code
def yX3_placeAcross : MethodName := ⟨RX3, "placeAcross", "(II)I"⟩
abbrev cX3_toneBits : ByteArray := prog_1_method_47_code
def yX3_toneBits : MethodName := ⟨RX3, "toneBits", "([I)I"⟩
abbrev cX3_fillForced : ByteArray := prog_1_method_48_code
def yX3_fillForced : MethodName := ⟨RX3, "fillForced", "([II[I)Z"⟩
abbrev cX3_fillFree : ByteArray := prog_1_method_49_code
def yX3_fillFree : MethodName := ⟨RX3, "fillFree", "([II)V"⟩
abbrev cX3_factorial : ByteArray := prog_1_method_50_code
def yX3_factorial : MethodName := ⟨RX3, "factorial", "(I)I"⟩
abbrev cX3_toneSign : ByteArray := prog_1_method_51_code
def yX3_toneSign : MethodName := ⟨RX3, "toneSign", "(I)I"⟩
abbrev cX3_signTone : ByteArray := prog_1_method_52_code
def yX3_signTone : MethodName := ⟨RX3, "signTone", "(I)I"⟩
abbrev cX3_kindLength : ByteArray := prog_1_method_53_code
def yX3_kindLength : MethodName := ⟨RX3, "kindLength", "(I)I"⟩
abbrev cX3_nameLength : ByteArray := prog_1_method_54_code
def yX3_nameLength : MethodName := ⟨RX3, "nameLength", "(I)I"⟩
abbrev cX3_nameSign : ByteArray := prog_1_method_55_code
def yX3_nameSign : MethodName := ⟨RX3, "nameSign", "(II)I"⟩
def RX4 : String := "RowFormsModel"
def TX4 : u_T := fun k => match k with
  | 0 => ("RowFormsModel", "rows", "[I", true)
  | 1 => ("RowFormsModel", "holes", "[I", true)
  | 2 => ("RowFormsModel", "pad", "[I", true)
  | 3 => ("RowFormsModel", "padMany", "I", false)
  | 4 => ("RowFormsModel", "readForm", "I", false)
  | 5 => ("RowFormsModel", "made", "[I", true)
  | 6 => ("RowFormsModel", "groupForm", "[I", true)
  | 7 => ("RowFormsModel", "groupSet", "[I", true)
  | 8 => ("RowFormsModel", "groupMany", "I", false)
  | 9 => ("RowFormsModel", "chosen", "[I", true)
  | 10 => ("RowFormsModel", "kept", "[I", true)
  | 11 => ("RowFormsModel", "isKept", "[Z", true)
  | 12 => ("RowFormsModel", "keptAt", "I", false)
  | _ => ("RowFormsModel", "isWriting", "Z", false)
def tyX4 : Nat → FieldType := fun k => match k with
  | 0 => .array .int
  | 1 => .array .int
  | 2 => .array .int
  | 3 => .int
  | 4 => .int
  | 5 => .array .int
  | 6 => .array .int
  | 7 => .array .int
  | 8 => .int
  | 9 => .array .int
  | 10 => .array .int
  | 11 => .array .boolean
  | 12 => .int
  | _ => .boolean
abbrev wsX40 : List Cond := u_ws RX4 TX4 14
theorem nmX4 : ∀ a, a < 14 → ∀ b, b < 14 → a ≠ b → (TX4 a).2.1 ≠ (TX4 b).2.1 := by decide +kernel
theorem tyX4_ok : ∀ k, k < 14 → parseFieldDescriptor (TX4 k).2.2.1 = some (tyX4 k) := by decide +kernel
abbrev cX4_init : ByteArray := prog_6_method_1_code
def yX4_init : MethodName := ⟨RX4, "<init>", "()V"⟩
abbrev cX4_in : ByteArray := prog_6_method_3_code
def yX4_in : MethodName := ⟨RX4, "in", "(JJJ)Z"⟩
abbrev cX4_isRow : ByteArray := prog_6_method_4_code
def yX4_isRow : MethodName := ⟨RX4, "isRow", "(I)Z"⟩
abbrev cX4_isForm : ByteArray := prog_6_method_5_code
def yX4_isForm : MethodName := ⟨RX4, "isForm", "(I)Z"⟩
abbrev cX4_isPlace : ByteArray := prog_6_method_6_code
def yX4_isPlace : MethodName := ⟨RX4, "isPlace", "(I)Z"⟩
abbrev cX4_say : ByteArray := prog_6_method_7_code
def yX4_say : MethodName := ⟨RX4, "say", "(I)I"⟩
abbrev cX4_wipe : ByteArray := prog_6_method_8_code
def yX4_wipe : MethodName := ⟨RX4, "wipe", "()I"⟩
abbrev cX4_toneOf : ByteArray := prog_6_method_9_code
def yX4_toneOf : MethodName := ⟨RX4, "toneOf", "(I)I"⟩
abbrev cX4_signOf : ByteArray := prog_6_method_10_code
def yX4_signOf : MethodName := ⟨RX4, "signOf", "(I)I"⟩
abbrev cX4_faultOfTones : ByteArray := prog_6_method_11_code
def yX4_faultOfTones : MethodName := ⟨RX4, "faultOfTones", "(Z)I"⟩
abbrev cX4_isSign : ByteArray := prog_6_method_12_code
def yX4_isSign : MethodName := ⟨RX4, "isSign", "(II)Z"⟩
abbrev cX4_faultOfForm : ByteArray := prog_6_method_13_code
def yX4_faultOfForm : MethodName := ⟨RX4, "faultOfForm", "()I"⟩
abbrev cX4_fault : ByteArray := prog_6_method_14_code
def yX4_fault : MethodName := ⟨RX4, "fault", "(I)I"⟩
abbrev cX4_load : ByteArray := prog_6_method_15_code
def yX4_load : MethodName := ⟨RX4, "load", "(I)I"⟩
abbrev cX4_holesNow : ByteArray := prog_6_method_16_code
def yX4_holesNow : MethodName := ⟨RX4, "holesNow", "()I"⟩
abbrev cX4_punch : ByteArray := prog_6_method_17_code
def yX4_punch : MethodName := ⟨RX4, "punch", "()I"⟩
abbrev cX4_named : ByteArray := prog_6_method_18_code
def yX4_named : MethodName := ⟨RX4, "named", "()I"⟩
abbrev cX4_toneAt : ByteArray := prog_6_method_19_code
def yX4_toneAt : MethodName := ⟨RX4, "toneAt", "(II)I"⟩
abbrev cX4_tone : ByteArray := prog_6_method_20_code
def yX4_tone : MethodName := ⟨RX4, "tone", "(II)I"⟩
abbrev cX4_isMirror : ByteArray := prog_6_method_21_code
def yX4_isMirror : MethodName := ⟨RX4, "isMirror", "(I)Z"⟩
abbrev cX4_isBack : ByteArray := prog_6_method_22_code
def yX4_isBack : MethodName := ⟨RX4, "isBack", "(I)Z"⟩
abbrev cX4_moved : ByteArray := prog_6_method_23_code
def yX4_moved : MethodName := ⟨RX4, "moved", "(II)I"⟩
abbrev cX4_formAt : ByteArray := prog_6_method_24_code
def yX4_formAt : MethodName := ⟨RX4, "formAt", "(III)I"⟩
abbrev cX4_turn : ByteArray := prog_6_method_25_code
def yX4_turn : MethodName := ⟨RX4, "turn", "(III)I"⟩
abbrev cX4_behind : ByteArray := prog_6_method_26_code
def yX4_behind : MethodName := ⟨RX4, "behind", "(II)I"⟩
abbrev cX4_back : ByteArray := prog_6_method_27_code
def yX4_back : MethodName := ⟨RX4, "back", "(I)I"⟩
abbrev cX4_compared : ByteArray := prog_6_method_28_code
def yX4_compared : MethodName := ⟨RX4, "compared", "(III)I"⟩
abbrev cX4_canonForm : ByteArray := prog_6_method_29_code
def yX4_canonForm : MethodName := ⟨RX4, "canonForm", "(I)I"⟩
abbrev cX4_sizeOf : ByteArray := prog_6_method_30_code
def yX4_sizeOf : MethodName := ⟨RX4, "sizeOf", "(I)I"⟩
abbrev cX4_canon : ByteArray := prog_6_method_31_code
def yX4_canon : MethodName := ⟨RX4, "canon", "(II)I"⟩
abbrev cX4_isLeading : ByteArray := prog_6_method_32_code
def yX4_isLeading : MethodName := ⟨RX4, "isLeading", "(III)Z"⟩
abbrev cX4_leads : ByteArray := prog_6_method_33_code
def yX4_leads : MethodName := ⟨RX4, "leads", "(III)I"⟩
abbrev cX4_stepAt : ByteArray := prog_6_method_34_code
def yX4_stepAt : MethodName := ⟨RX4, "stepAt", "(II)I"⟩
abbrev cX4_unlikeSteps : ByteArray := prog_6_method_35_code
def yX4_unlikeSteps : MethodName := ⟨RX4, "unlikeSteps", "(I)I"⟩
abbrev cX4_step : ByteArray := prog_6_method_36_code
def yX4_step : MethodName := ⟨RX4, "step", "(II)I"⟩
abbrev cX4_setAt : ByteArray := prog_6_method_37_code
def yX4_setAt : MethodName := ⟨RX4, "setAt", "(IIII)I"⟩
abbrev cX4_shared : ByteArray := prog_6_method_38_code
def yX4_shared : MethodName := ⟨RX4, "shared", "(III)I"⟩
abbrev cX4_partner : ByteArray := prog_6_method_39_code
def yX4_partner : MethodName := ⟨RX4, "partner", "(II)I"⟩
abbrev cX4_groupAt : ByteArray := prog_6_method_40_code
def yX4_groupAt : MethodName := ⟨RX4, "groupAt", "(IIII)I"⟩
abbrev cX4_isGroup : ByteArray := prog_6_method_41_code
def yX4_isGroup : MethodName := ⟨RX4, "isGroup", "(III)Z"⟩
abbrev cX4_derived : ByteArray := prog_6_method_42_code
def yX4_derived : MethodName := ⟨RX4, "derived", "(II)I"⟩
abbrev cX4_comparedGroups : ByteArray := prog_6_method_43_code
def yX4_comparedGroups : MethodName := ⟨RX4, "comparedGroups", "(IIII)I"⟩
abbrev cX4_addGroup : ByteArray := prog_6_method_44_code
def yX4_addGroup : MethodName := ⟨RX4, "addGroup", "(III)V"⟩
abbrev cX4_firstSet : ByteArray := prog_6_method_45_code
def yX4_firstSet : MethodName := ⟨RX4, "firstSet", "(II)I"⟩
abbrev cX4_isNext : ByteArray := prog_6_method_46_code
def yX4_isNext : MethodName := ⟨RX4, "isNext", "(III)Z"⟩
abbrev cX4_fits : ByteArray := prog_6_method_47_code
def yX4_fits : MethodName := ⟨RX4, "fits", "(III)Z"⟩
abbrev cX4_isFirst : ByteArray := prog_6_method_48_code
def yX4_isFirst : MethodName := ⟨RX4, "isFirst", "(III)Z"⟩
abbrev cX4_making : ByteArray := prog_6_method_49_code
def yX4_making : MethodName := ⟨RX4, "making", "(IIII)I"⟩
abbrev cX4_isKeeping : ByteArray := prog_6_method_50_code
def yX4_isKeeping : MethodName := ⟨RX4, "isKeeping", "(I)Z"⟩
abbrev cX4_across : ByteArray := prog_6_method_51_code
def yX4_across : MethodName := ⟨RX4, "across", "(II)I"⟩
abbrev cX4_placeOf : ByteArray := prog_6_method_52_code
def yX4_placeOf : MethodName := ⟨RX4, "placeOf", "(I)I"⟩
abbrev cX4_isWell : ByteArray := prog_6_method_53_code
def yX4_isWell : MethodName := ⟨RX4, "isWell", "(I)Z"⟩
abbrev cX4_fillings : ByteArray := prog_6_method_54_code
def yX4_fillings : MethodName := ⟨RX4, "fillings", "(I)I"⟩
abbrev cX4_isUsed : ByteArray := prog_6_method_55_code
def yX4_isUsed : MethodName := ⟨RX4, "isUsed", "(I)Z"⟩
abbrev cX4_leastFree : ByteArray := prog_6_method_56_code
def yX4_leastFree : MethodName := ⟨RX4, "leastFree", "(I)I"⟩
abbrev cX4_fill : ByteArray := prog_6_method_57_code
def yX4_fill : MethodName := ⟨RX4, "fill", "(I)V"⟩
abbrev cX4_filling : ByteArray := prog_6_method_58_code
def yX4_filling : MethodName := ⟨RX4, "filling", "(II)I"⟩
abbrev cX4_sign : ByteArray := prog_6_method_59_code
def yX4_sign : MethodName := ⟨RX4, "sign", "(III)I"⟩
abbrev cX4_passRow : ByteArray := prog_6_method_60_code
def yX4_passRow : MethodName := ⟨RX4, "passRow", "([II)V"⟩
abbrev cX4_passAll : ByteArray := prog_6_method_61_code
def yX4_passAll : MethodName := ⟨RX4, "passAll", "()V"⟩
abbrev cX4_image : ByteArray := prog_6_method_62_code
def yX4_image : MethodName := ⟨RX4, "image", "(I)I"⟩
abbrev cX4_restore : ByteArray := prog_6_method_63_code
def yX4_restore : MethodName := ⟨RX4, "restore", "(I)I"⟩
abbrev cX4_firstLike : ByteArray := prog_6_method_64_code
def yX4_firstLike : MethodName := ⟨RX4, "firstLike", "(I)I"⟩
abbrev cX4_told : ByteArray := prog_6_method_65_code
def yX4_told : MethodName := ⟨RX4, "told", "(I)I"⟩
def RJ6 : String := "java/lang/Integer"
def TJ6 : u_T := fun k => match k with
  | _ => ("", "", "", false)
def tyJ6 : Nat → FieldType := fun k => match k with
  | _ => .int
abbrev wsJ60 : List Cond := u_ws RJ6 TJ6 0
theorem nmJ6 : ∀ a, a < 0 → ∀ b, b < 0 → a ≠ b → (TJ6 a).2.1 ≠ (TJ6 b).2.1 := by decide +kernel
theorem tyJ6_ok : ∀ k, k < 0 → parseFieldDescriptor (TJ6 k).2.2.1 = some (tyJ6 k) := by decide +kernel
abbrev cJ6_numberOfTrailingZeros_0f7a4 : ByteArray := prog_7_method_48_code
def yJ6_numberOfTrailingZeros_0f7a4 : MethodName := ⟨RJ6, "numberOfTrailingZeros", "(I)I"⟩
abbrev cJ6_bitCount_0f7a4 : ByteArray := prog_7_method_49_code
def yJ6_bitCount_0f7a4 : MethodName := ⟨RJ6, "bitCount", "(I)I"⟩
def RJ9 : String := "java/lang/Math"
def TJ9 : u_T := fun k => match k with
  | _ => ("", "", "", false)
def tyJ9 : Nat → FieldType := fun k => match k with
  | _ => .int
abbrev wsJ90 : List Cond := u_ws RJ9 TJ9 0
theorem nmJ9 : ∀ a, a < 0 → ∀ b, b < 0 → a ≠ b → (TJ9 a).2.1 ≠ (TJ9 b).2.1 := by decide +kernel
theorem tyJ9_ok : ∀ k, k < 0 → parseFieldDescriptor (TJ9 k).2.2.1 = some (tyJ9 k) := by decide +kernel
abbrev cJ9_floorMod_7cf53 : ByteArray := prog_8_method_50_code
def yJ9_floorMod_7cf53 : MethodName := ⟨RJ9, "floorMod", "(II)I"⟩
def RJ10 : String := "java/lang/System"
def TJ10 : u_T := fun k => match k with
  | _ => ("", "", "", false)
def tyJ10 : Nat → FieldType := fun k => match k with
  | _ => .int
abbrev wsJ100 : List Cond := u_ws RJ10 TJ10 0
theorem nmJ10 : ∀ a, a < 0 → ∀ b, b < 0 → a ≠ b → (TJ10 a).2.1 ≠ (TJ10 b).2.1 := by decide +kernel
theorem tyJ10_ok : ∀ k, k < 0 → parseFieldDescriptor (TJ10 k).2.2.1 = some (tyJ10 k) := by decide +kernel
def RL : String := "RowFormsLaw"
abbrev cL_law : ByteArray := code
def yL_law : MethodName := ⟨RL, "law", "([I)Z"⟩
end
section
/-! The picture machine: numbers as Int, references as places of a list of cells. -/
abbrev AV : Type := Int ⊕ (Int ⊕ Option Nat)
abbrev AC : Type := (Nat × Nat × (Nat → Int)) ⊕ ((Nat × Nat × (Nat → Option Nat)) ⊕ (Nat × List AV))
abbrev vi (a : Int) : AV := .inl a
abbrev vl (a : Int) : AV := .inr (.inl a)
abbrev vr (i : Nat) : AV := .inr (.inr (some i))
abbrev vn : AV := .inr (.inr none)
abbrev ai (t n : Nat) (f : Nat → Int) : AC := .inl (t, n, f)
abbrev aq (t n : Nat) (f : Nat → Option Nat) : AC := .inr (.inl (t, n, f))
abbrev ao (c : Nat) (fs : List AV) : AC := .inr (.inr (c, fs))
def iI (a : Int) : Int32 := Int32.ofInt a
def iL (a : Int) : Int64 := Int64.ofInt a
def cv (ρ : Nat → Nat) : AV → Value
  | .inl a => .int (iI a)
  | .inr (.inl a) => .long (iL a)
  | .inr (.inr r) => va_rf (r.map ρ)
def ce (ρ : Nat → Nat) (τ : Nat → ClassId) : AC → va_E
  | .inl (t, n, f) => .inl (τ t, n, .inl (fun j => iI (f j)))
  | .inr (.inl (t, n, f)) => .inl (τ t, n, .inr (.inr (.inr (.inr (fun j => (f j).map ρ)))))
  | .inr (.inr (c, fs)) => .inr (c, fs.map (cv ρ))
def cw (ρ : Nat → Nat) (τ : Nat → ClassId) (h : List AC) : va_W := h.mapIdx (fun i e => (ρ i, ce ρ τ e))
theorem cw_get {ρ : Nat → Nat} {τ : Nat → ClassId} {h : List AC} {i : Nat} {e : AC} (hi : h[i]? = some e) : (cw ρ τ h)[i]? = some (ρ i, ce ρ τ e) := by
  unfold cw
  rw [List.getElem?_mapIdx, hi]; rfl
theorem cw_set (ρ : Nat → Nat) (τ : Nat → ClassId) (h : List AC) (i : Nat) (e : AC) : (cw ρ τ h).set i (ρ i, ce ρ τ e) = cw ρ τ (h.set i e) := by
  apply List.ext_getElem?
  intro j
  unfold cw
  simp only [List.getElem?_set, List.getElem?_mapIdx, List.length_mapIdx]
  by_cases hij : i = j
  · subst hij
    by_cases hl : i < h.length <;> simp [hl]
  · simp [hij]
theorem cw_push (ρ : Nat → Nat) (τ : Nat → ClassId) (h : List AC) (e : AC) : cw ρ τ (h ++ [e]) = cw ρ τ h ++ [(ρ h.length, ce ρ τ e)] := by
  unfold cw
  simp [List.mapIdx_append]
/-! numbers -/
def rng (a : Int) : Prop := -2147483648 ≤ a ∧ a < 2147483648
theorem iI_toInt {a : Int} (h : rng a) : (iI a).toInt = a := Int32.toInt_ofInt_of_le h.1 (by have := h.2; omega)
theorem iI_of (x : Int32) : iI x.toInt = x := Int32.ofInt_toInt x
theorem rng_of (x : Int32) : rng x.toInt := ⟨Int32.le_toInt x, by have := Int32.toInt_lt x; omega⟩
theorem iI_lt {a b : Int} (ha : rng a) (hb : rng b) : iI a < iI b ↔ a < b := by
  rw [Int32.lt_iff_toInt_lt, iI_toInt ha, iI_toInt hb]
theorem iI_le {a b : Int} (ha : rng a) (hb : rng b) : iI a ≤ iI b ↔ a ≤ b := by
  rw [Int32.le_iff_toInt_le, iI_toInt ha, iI_toInt hb]
theorem iI_eq {a b : Int} (ha : rng a) (hb : rng b) : iI a = iI b ↔ a = b := by
  constructor
  · intro h
    have := congrArg Int32.toInt h
    rwa [iI_toInt ha, iI_toInt hb] at this
  · intro h; rw [h]
theorem iI_add (a b : Int) : iI a + iI b = iI (a + b) := by
  unfold iI; rw [Int32.ofInt_add]
theorem iI_sub (a b : Int) : iI a - iI b = iI (a - b) := by
  unfold iI; rw [Int32.ofInt_sub]
theorem iI_mul (a b : Int) : iI a * iI b = iI (a * b) := by
  unfold iI; rw [Int32.ofInt_mul]
theorem iI_neg (a : Int) : -iI a = iI (-a) := by
  unfold iI; rw [Int32.ofInt_neg]
theorem iI_nat {a : Int} (h0 : 0 ≤ a) (h : a < 2147483648) : (iI a).toNatClampNeg = a.toNat := by
  unfold Int32.toNatClampNeg
  rw [iI_toInt ⟨by omega, h⟩]
theorem iI_in {a : Int} {n : Nat} (h0 : 0 ≤ a) (h : a < n) (hn : n ≤ 2147483648) : vp_in (iI a) n := by
  unfold vp_in
  rw [iI_nat h0 (by omega), show (0 : Int32) = iI 0 from rfl, iI_lt ⟨by omega, by omega⟩ ⟨by decide, by decide⟩]
  omega
/-! listings -/
abbrev Lst : Type := List (Nat × Instr × Nat)
def ftch : Lst → Nat → Option (Instr × Nat)
  | [], _ => none
  | r :: L, pc => cond (Nat.beq r.1 pc) (some r.2) (ftch L pc)
def okI : Instr → Bool
  | .bipush n => decide (-128 ≤ n) && decide (n < 128)
  | .sipush n => decide (-32768 ≤ n) && decide (n < 32768)
  | .iconst n => decide (-128 ≤ n) && decide (n < 128)
  | _ => true
def okL (cc : ByteArray) (L : Lst) : Prop := ∀ r ∈ L, decode cc r.1 = .ok r.2 ∧ okI r.2.1 = true
theorem okL_at {cc : ByteArray} {pc : Nat} {x : Instr × Nat} : ∀ {L : Lst}, okL cc L → ftch L pc = some x → decode cc pc = .ok x ∧ okI x.1 = true
  | [], _, h => by cases h
  | r :: L, hL, h => by
    unfold ftch at h
    cases hb : Nat.beq r.1 pc with
    | true =>
      rw [hb] at h
      have e : r.1 = pc := Nat.eq_of_beq_eq_true hb
      have h2 := hL r List.mem_cons_self
      cases h
      exact ⟨e ▸ h2.1, h2.2⟩
    | false =>
      rw [hb] at h
      exact okL_at (fun q hq => hL q (List.mem_cons_of_mem _ hq)) h
theorem okL_dec {cc : ByteArray} {L : Lst} (h : L.all (fun r => decide (decode cc r.1 = .ok r.2) && okI r.2.1) = true) : okL cc L := by
  intro r hr
  have := List.all_eq_true.mp h r hr
  simp only [Bool.and_eq_true, decide_eq_true_eq] at this
  exact this
def lkp : List (Nat × AV) → Nat → Option AV
  | [], _ => none
  | r :: L, i => cond (Nat.beq r.1 i) (some r.2) (lkp L i)
theorem lkp_mem {i : Nat} {v : AV} : ∀ {L : List (Nat × AV)}, lkp L i = some v → (i, v) ∈ L
  | [], h => by cases h
  | r :: L, h => by
    unfold lkp at h
    cases hb : Nat.beq r.1 i with
    | true =>
      rw [hb] at h
      have e : r.1 = i := Nat.eq_of_beq_eq_true hb
      cases h
      rw [← e]
      exact List.mem_cons_self
    | false =>
      rw [hb] at h
      exact List.mem_cons_of_mem _ (lkp_mem h)
def acat : AV → Nat
  | .inr (.inl _) => 2
  | _ => 1
theorem cv_cat (ρ : Nat → Nat) (v : AV) : (cv ρ v).category = acat v := by
  rcases v with a | a | (_ | a) <;> rfl
def sto (ls : List (Nat × AV)) (i : Nat) (v : AV) : List (Nat × AV) := (i, v) :: ls.filter (fun q => !(q.1 == i) && !(q.1 + 1 == i && acat q.2 == 2))
abbrev cl (ρ : Nat → Nat) (ls : List (Nat × AV)) : List (Nat × Value) := ls.map (fun q => (q.1, cv ρ q.2))
theorem cl_sto (ρ : Nat → Nat) (ls : List (Nat × AV)) (i : Nat) (v : AV) : (i, cv ρ v) :: (cl ρ ls).filter (fun q => !(q.1 == i) && !(q.1 + 1 == i && q.2.category == 2)) = cl ρ (sto ls i v) := by
  unfold sto cl
  simp only [List.map_cons, List.filter_map]
  congr 2
  apply List.filter_congr
  intro q _
  simp [cv_cat]
theorem cl_at {ρ : Nat → Nat} {ls : List (Nat × AV)} {lsA : Array Slot} {n i : Nat} {v : AV} (h : lv_has lsA n (cl ρ ls)) (hk : lkp ls i = some v) : lsA[i]? = some (.val (cv ρ v)) :=
  h.2.2 (i, cv ρ v) (List.mem_map.mpr ⟨(i, v), lkp_mem hk, rfl⟩)
end
section
/-! what holds of the tables, and the walk's judgement -/
abbrev classes : List vw_C := [(RX0, TX0, 2), (RX1, TX1, 6), (RX2, TX2, 3), (RX3, TX3, 5), (RX4, TX4, 14)]
def isNst : Cond → Bool
  | .methodLinkNest .. => true
  | .fieldLinkNest .. => true
  | _ => false
def gtb : List Cond := lw_tbl.filter goodWord
def nst : List Cond := lw_tbl.filter isNst
theorem gtb_in {w : Cond} (i : Nat) (h : lw_tbl[i]? = some w) (hg : goodWord w = true) : w ∈ gtb := List.mem_filter.mpr ⟨List.mem_of_getElem? h, hg⟩
theorem nst_in {w : Cond} (i : Nat) (h : lw_tbl[i]? = some w) (hg : isNst w = true) : w ∈ nst := List.mem_filter.mpr ⟨List.mem_of_getElem? h, hg⟩
theorem gtb_good (big : List Cond) (hb : ∀ w ∈ gtb, w ∈ big) : GoodIn big gtb := fun w hw => ⟨hb w hw, good_of_word (List.mem_filter.mp hw).2⟩
def NW (U : State) : Prop := ∀ w ∈ nst, va_Nw w U
theorem NW.warm {s U : State} (hW : s.WarmedH U.vm) (h : NW s) : NW U := by
  intro w hw
  have h1 := h w hw
  have h2 := (List.mem_filter.mp hw).2
  cases w <;> first | (simp [isNst] at h2; done) | exact va_Nw.warmF hW h1 | exact va_Nw.warmM hW h1
theorem NW.same {s U : State} (hW : s.vm = U.vm) (h : NW s) : NW U := by
  intro w hw
  have h1 := h w hw
  have h2 := (List.mem_filter.mp hw).2
  cases w <;> first | (simp [isNst] at h2; done) | exact va_Nw.same rfl hW h1
def va_AOA (ty : FieldType) (U : State) : Prop := (Cond.arrayOver (.array ty)).before #[] U = true
theorem va_AOA.use {ty : FieldType} {A : Array Value} {U : State} (h : va_AOA ty U) : (Cond.arrayOver (.array ty)).before A U = true := h
theorem va_AOA.of {ty : FieldType} {A : Array Value} {U : State} (h : (Cond.arrayOver (.array ty)).before A U = true) : va_AOA ty U := h
abbrev tyl (τ : Nat → ClassId) : List (ClassId × FieldType) := [(τ 0, .int), (τ 1, .boolean), (τ 2, .object RX2), (τ 3, .array .int)]
def KK (D : va_G) (τ : Nat → ClassId) (U : State) : Prop := va_K D classes (tyl τ) U ∧ NW U
theorem KK.warm {D : va_G} {τ : Nat → ClassId} {s U : State} (hW : s.WarmedH U.vm) (h : KK D τ s) : KK D τ U := ⟨va_K.moved hW.alike h.1, h.2.warm hW⟩
theorem KK.same {D : va_G} {τ : Nat → ClassId} {s U : State} (hW : s.vm = U.vm) (h : KK D τ s) : KK D τ U := ⟨va_K.moved (by rw [hW]; exact Vm.Alike.refl U.vm) h.1, h.2.same hW⟩
abbrev ZM : Type := MethodName × ByteArray × Nat × Option FieldType × Lst
/-- a method's own words -/
def zw (z : ZM) : List Cond := .code z.1 z.2.1 z.2.2.1 z.2.2.2.1 :: gtb
def zok (z : ZM) : Prop := okL z.2.1 z.2.2.2.2 ∧ Cond.code z.1 z.2.1 z.2.2.1 z.2.2.2.1 ∈ gtb ∧ plainFor z.1 = true ∧ z.2.2.1 ≤ 12
/-- the machine stands in method z -/
def Cx (z : ZM) (p : Program) (s : State) (m : MethodId) (args : Array Value) (meth : Method) (c : Code) : Prop :=
  p.tables.exec = Jvm.exec ∧ c.code = z.2.1 ∧ c.maxLocals = z.2.2.1 ∧ s.vm.findClass z.1.cls = some m.cls ∧ (∀ w ∈ gtb, w.before args s = true) ∧ okL z.2.1 z.2.2.2.2 ∧ meth.name = z.1.name ∧ meth.locks = false ∧ meth.sig.returnType = z.2.2.2.1
/-- a return at pc of v -/
def rets (z : ZM) (pc : Nat) : Option Int → Prop
  | none => z.2.2.2.1 = none ∧ ftch z.2.2.2.2 pc = some (.return_, 1)
  | some a => (z.2.2.2.1 = some .int ∨ z.2.2.2.1 = some .boolean ∧ (a = 0 ∨ a = 1)) ∧ ftch z.2.2.2.2 pc = some (.ireturn, 1)
abbrev GG : Type := (Nat → Nat) → (Nat → Nat) → Prop
def AW (z : ZM) (G : GG) (R : Room) (MC MS k n pc : Nat) (ls : List (Nat × AV)) (st : List AV) (h : List AC) (Q : Option Int → List AC → Prop) : Prop :=
  ∀ (p : Program) (l : Launch) (e : Env) (s : State) (m : MethodId) (args : Array Value) (below : List Frame) (meth : Method) (c : Code) (D : va_G) (τ : Nat → ClassId) (A : Nat → Prop) (ρ0 ρ : Nat → Nat) (Zf : State → Prop),
    Cx z p s m args meth c → KK D τ s → (∀ q, s.heap.size ≤ q → A q) → G ρ0 ρ →
    (∀ (v : Option Int) (h' : List AC) (ρ' : Nat → Nat) (H' : Heap) (locs' : List Loc) (ls' : Array Slot) (pc' : Nat), Q v h' → rets z pc' v → G ρ0 ρ' → va_P D classes (cw ρ' τ h') H' → va_D A (cw ρ' τ h') → va_S A s.heap H' locs' →
      W p l e R s m args below meth c H' locs' MC MS Zf (F0 m pc' ls' (v.toList.map (fun a => Value.int (iI a))))) →
    ∀ (H : Heap) (locs : List Loc) (lsA : Array Slot), va_P D classes (cw ρ τ h) H → va_D A (cw ρ τ h) → va_S A s.heap H locs → lv_has lsA z.2.2.1 (cl ρ ls) →
      W p l e R s m args below meth c H locs k n Zf (F0 m pc lsA (st.map (cv ρ)))
section Rules
variable {z : ZM} {G : GG} {R : Room} {MC MS k n pc : Nat} {ls : List (Nat × AV)} {st : List AV} {h : List AC} {Q : Option Int → List AC → Prop}
theorem AW.ret {a : Int} (hf : ftch z.2.2.2.2 pc = some (.ireturn, 1)) (hr : z.2.2.2.1 = some .int) (hk : k ≤ MC) (hn : n ≤ MS) (hq : Q (some a) h) : AW z G R MC MS k n pc ls [vi a] h Q := by
  intro p l e s m args below meth c D τ A ρ0 ρ Zf C hK hA hG hZ H locs lsA hP hD hS hl
  exact W.widen hk hn (hZ (some a) h ρ H locs lsA pc hq ⟨Or.inl hr, hf⟩ hG hP hD hS)
theorem AW.retz {a : Int} (hf : ftch z.2.2.2.2 pc = some (.ireturn, 1)) (hr : z.2.2.2.1 = some .boolean) (ha : a = 0 ∨ a = 1) (hk : k ≤ MC) (hn : n ≤ MS) (hq : Q (some a) h) : AW z G R MC MS k n pc ls [vi a] h Q := by
  intro p l e s m args below meth c D τ A ρ0 ρ Zf C hK hA hG hZ H locs lsA hP hD hS hl
  exact W.widen hk hn (hZ (some a) h ρ H locs lsA pc hq ⟨Or.inr ⟨hr, ha⟩, hf⟩ hG hP hD hS)
theorem AW.retv (hf : ftch z.2.2.2.2 pc = some (.return_, 1)) (hr : z.2.2.2.1 = none) (hk : k ≤ MC) (hn : n ≤ MS) (hq : Q none h) : AW z G R MC MS k n pc ls [] h Q := by
  intro p l e s m args below meth c D τ A ρ0 ρ Zf C hK hA hG hZ H locs lsA hP hD hS hl
  exact W.widen hk hn (hZ none h ρ H locs lsA pc hq ⟨hr, hf⟩ hG hP hD hS)
theorem AW.wide {k' n' : Nat} (hk : k ≤ k') (hn : n ≤ n') (kk : AW z G R MC MS k' n' pc ls st h Q) : AW z G R MC MS k n pc ls st h Q := by
  intro p l e s m args below meth c D τ A ρ0 ρ Zf C hK hA hG hZ H locs lsA hP hD hS hl
  exact W.widen hk hn (kk p l e s m args below meth c D τ A ρ0 ρ Zf C hK hA hG hZ H locs lsA hP hD hS hl)
/-- the walk's rows that need nothing but the frame: one instruction -/
theorem AW.fr {pc' : Nat} {ls' : List (Nat × AV)} {st' : List AV}
    (hw : ∀ (p : Program) (l : Launch) (e : Env) (s : State) (m : MethodId) (args : Array Value) (below : List Frame) (meth : Method) (c : Code) (ρ : Nat → Nat) (H : Heap) (locs : List Loc) (lsA : Array Slot) (Zf : State → Prop), Cx z p s m args meth c → lv_has lsA z.2.2.1 (cl ρ ls) →
      (∀ lsB : Array Slot, lv_has lsB z.2.2.1 (cl ρ ls') → W p l e R s m args below meth c H locs k n Zf (F0 m pc' lsB (st'.map (cv ρ)))) → W p l e R s m args below meth c H locs k n Zf (F0 m pc lsA (st.map (cv ρ))))
    (kk : AW z G R MC MS k n pc' ls' st' h Q) : AW z G R MC MS k n pc ls st h Q := by
  intro p l e s m args below meth c D τ A ρ0 ρ Zf C hK hA hG hZ H locs lsA hP hD hS hl
  exact hw p l e s m args below meth c ρ H locs lsA Zf C hl (fun lsB hB => kk p l e s m args below meth c D τ A ρ0 ρ Zf C hK hA hG hZ H locs lsB hP hD hS hB)
end Rules
/-- one step of what needs nothing but the frame -/
def pst (L : Lst) (nL pc : Nat) (ls : List (Nat × AV)) (st : List AV) : Option (Nat × List (Nat × AV) × List AV) :=
  match ftch L pc with
  | some (.iconst a, 1) => some (pc + 1, ls, vi a :: st)
  | some (.bipush a, 2) => some (pc + 2, ls, vi a :: st)
  | some (.sipush a, 3) => some (pc + 3, ls, vi a :: st)
  | some (.lconst i, 1) => some (pc + 1, ls, vl (i.val : Int) :: st)
  | some (.iload i, 2) => match lkp ls i with
    | some (.inl a) => some (pc + 2, ls, vi a :: st)
    | _ => none
  | some (.iload_n i, 1) => match lkp ls i.val with
    | some (.inl a) => some (pc + 1, ls, vi a :: st)
    | _ => none
  | some (.lload i, 2) => match lkp ls i with
    | some (.inr (.inl a)) => some (pc + 2, ls, vl a :: st)
    | _ => none
  | some (.lload_n i, 1) => match lkp ls i.val with
    | some (.inr (.inl a)) => some (pc + 1, ls, vl a :: st)
    | _ => none
  | some (.aload i, 2) => match lkp ls i with
    | some (.inr (.inr (some a))) => some (pc + 2, ls, vr a :: st)
    | _ => none
  | some (.aload_n i, 1) => match lkp ls i.val with
    | some (.inr (.inr (some a))) => some (pc + 1, ls, vr a :: st)
    | _ => none
  | some (.istore i, 2) => match st with
    | .inl a :: st => cond (Nat.blt i nL) (some (pc + 2, sto ls i (vi a), st)) none
    | _ => none
  | some (.istore_n i, 1) => match st with
    | .inl a :: st => cond (Nat.blt i.val nL) (some (pc + 1, sto ls i.val (vi a), st)) none
    | _ => none
  | some (.astore i, 2) => match st with
    | .inr (.inr (some a)) :: st => cond (Nat.blt i nL) (some (pc + 2, sto ls i (vr a), st)) none
    | _ => none
  | some (.astore_n i, 1) => match st with
    | .inr (.inr (some a)) :: st => cond (Nat.blt i.val nL) (some (pc + 1, sto ls i.val (vr a), st)) none
    | _ => none
  | some (.iinc i b, 3) => match lkp ls i with
    | some (.inl a) => cond (Nat.blt i nL) (some (pc + 3, sto ls i (vi (a + b)), st)) none
    | _ => none
  | some (.iadd, 1) => match st with
    | .inl b :: .inl a :: st => some (pc + 1, ls, vi (a + b) :: st)
    | _ => none
  | some (.isub, 1) => match st with
    | .inl b :: .inl a :: st => some (pc + 1, ls, vi (a - b) :: st)
    | _ => none
  | some (.imul, 1) => match st with
    | .inl b :: .inl a :: st => some (pc + 1, ls, vi (a * b) :: st)
    | _ => none
  | some (.ineg, 1) => match st with
    | .inl a :: st => some (pc + 1, ls, vi (-a) :: st)
    | _ => none
  | some (.dup, 1) => match st with
    | .inl a :: st => some (pc + 1, ls, vi a :: vi a :: st)
    | .inr (.inr a) :: st => some (pc + 1, ls, .inr (.inr a) :: .inr (.inr a) :: st)
    | _ => none
  | some (.dup2, 1) => match st with
    | .inl a :: .inr (.inr b) :: st => some (pc + 1, ls, vi a :: .inr (.inr b) :: vi a :: .inr (.inr b) :: st)
    | _ => none
  | some (.pop, 1) => match st with
    | .inl _ :: st => some (pc + 1, ls, st)
    | _ => none
  | some (.goto o, 3) => match (pc : Int) + o with
    | .ofNat t => some (t, ls, st)
    | _ => none
  | _ => none
end
section
theorem i8_32 {n : Int} (h1 : -128 ≤ n) (h2 : n < 128) : (Int8.ofInt n).toInt32 = iI n := by
  apply Int32.toInt_inj.mp
  rw [Int8.toInt_toInt32, iI_toInt ⟨by omega, by omega⟩, Int8.toInt_ofInt_of_le (by omega) (by omega)]
theorem i16_32 {n : Int} (h1 : -32768 ≤ n) (h2 : n < 32768) : (Int16.ofInt n).toInt32 = iI n := by
  apply Int32.toInt_inj.mp
  rw [Int16.toInt_toInt32, iI_toInt ⟨by omega, by omega⟩, Int16.toInt_ofInt_of_le (by omega) (by omega)]
section Rules
variable {z : ZM} {G : GG} {R : Room} {MC MS k n pc : Nat} {ls : List (Nat × AV)} {st : List AV} {h : List AC} {Q : Option Int → List AC → Prop}
set_option maxHeartbeats 4000000 in
theorem AW.p1 {pc' : Nat} {ls' : List (Nat × AV)} {st' : List AV} (hp : pst z.2.2.2.2 z.2.2.1 pc ls st = some (pc', ls', st')) (kk : AW z G R MC MS k n pc' ls' st' h Q) : AW z G R MC MS k n pc ls st h Q := by
  refine AW.fr ?_ kk
  intro p l e s m args below meth c ρ H locs lsA Zf C hl K
  obtain ⟨hx, hb, hml, hown, hts, hL, -, -, -⟩ := C
  unfold pst at hp
  split at hp
  next a hf =>
    obtain ⟨hd, ho⟩ := okL_at hL hf
    cases hp
    exact lv_iconst hx hb hd rfl (K lsA hl)
  next a hf =>
    obtain ⟨hd, ho⟩ := okL_at hL hf
    cases hp
    simp only [okI, Bool.and_eq_true, decide_eq_true_eq] at ho
    exact lv_bipush hx hb hd (i8_32 ho.1 ho.2) (K lsA hl)
  next a hf =>
    obtain ⟨hd, ho⟩ := okL_at hL hf
    cases hp
    simp only [okI, Bool.and_eq_true, decide_eq_true_eq] at ho
    exact lv_sipush hx hb hd (i16_32 ho.1 ho.2) (K lsA hl)
  next a hf =>
    obtain ⟨hd, ho⟩ := okL_at hL hf
    cases hp
    exact lv_lconst hx hb hd rfl (K lsA hl)
  next i hf =>
    obtain ⟨hd, ho⟩ := okL_at hL hf
    split at hp
    next a hk => cases hp; exact lv_iload hx hb hd (cl_at hl hk) (K lsA hl)
    next => cases hp
  next i hf =>
    obtain ⟨hd, ho⟩ := okL_at hL hf
    split at hp
    next a hk => cases hp; exact lv_iload_n hx hb hd rfl (cl_at hl hk) (K lsA hl)
    next => cases hp
  next i hf =>
    obtain ⟨hd, ho⟩ := okL_at hL hf
    split at hp
    next a hk => cases hp; exact lv_lload hx hb hd (cl_at hl hk) (K lsA hl)
    next => cases hp
  next i hf =>
    obtain ⟨hd, ho⟩ := okL_at hL hf
    split at hp
    next a hk => cases hp; exact lv_lload_n hx hb hd rfl (cl_at hl hk) (K lsA hl)
    next => cases hp
  next i hf =>
    obtain ⟨hd, ho⟩ := okL_at hL hf
    split at hp
    next a hk => cases hp; exact lv_aload hx hb hd (cl_at hl hk) (K lsA hl)
    next => cases hp
  next i hf =>
    obtain ⟨hd, ho⟩ := okL_at hL hf
    split at hp
    next a hk => cases hp; exact lv_aload_n hx hb hd rfl (cl_at hl hk) (K lsA hl)
    next => cases hp
  next i hf =>
    obtain ⟨hd, ho⟩ := okL_at hL hf
    split at hp
    next a st =>
      cases hi : Nat.blt i z.2.2.1 with
      | false => rw [hi] at hp; cases hp
      | true => rw [hi] at hp; cases hp; exact lv_istore hx hb hd hl (Nat.blt_eq ▸ hi) (cl_sto ρ ls i (vi a)) (fun lsB hB => K lsB hB)
    next => cases hp
  next i hf =>
    obtain ⟨hd, ho⟩ := okL_at hL hf
    split at hp
    next a st =>
      cases hi : Nat.blt i.val z.2.2.1 with
      | false => rw [hi] at hp; cases hp
      | true => rw [hi] at hp; cases hp; exact lv_istore_n hx hb hd rfl hl (Nat.blt_eq ▸ hi) (cl_sto ρ ls i (vi a)) (fun lsB hB => K lsB hB)
    next => cases hp
  next i hf =>
    obtain ⟨hd, ho⟩ := okL_at hL hf
    split at hp
    next a st =>
      cases hi : Nat.blt i z.2.2.1 with
      | false => rw [hi] at hp; cases hp
      | true => rw [hi] at hp; cases hp; exact lv_astore hx hb hd hl (Nat.blt_eq ▸ hi) (cl_sto ρ ls i (vr a)) (fun lsB hB => K lsB hB)
    next => cases hp
  next i hf =>
    obtain ⟨hd, ho⟩ := okL_at hL hf
    split at hp
    next a st =>
      cases hi : Nat.blt i.val z.2.2.1 with
      | false => rw [hi] at hp; cases hp
      | true => rw [hi] at hp; cases hp; exact lv_astore_n hx hb hd rfl hl (Nat.blt_eq ▸ hi) (cl_sto ρ ls i (vr a)) (fun lsB hB => K lsB hB)
    next => cases hp
  next i b hf =>
    obtain ⟨hd, ho⟩ := okL_at hL hf
    split at hp
    next a hk =>
      cases hi : Nat.blt i z.2.2.1 with
      | false => rw [hi] at hp; cases hp
      | true =>
        rw [hi] at hp; cases hp
        have hm : (i, cv ρ (vi a)) ∈ cl ρ ls := List.mem_map.mpr ⟨(i, vi a), lkp_mem hk, rfl⟩
        obtain ⟨kk9, hk9⟩ := List.getElem?_of_mem hm
        exact lv_iinc hx hb hd hl hk9 (iI_add a b) (Nat.blt_eq ▸ hi) (cl_sto ρ ls i (vi (a + b))) (fun lsB hB => K lsB hB)
    next => cases hp
  next hf =>
    obtain ⟨hd, ho⟩ := okL_at hL hf
    split at hp
    next b a st =>
      cases hp
      refine lv_iadd hx hb hd ?_
      rw [iI_add]
      exact K lsA hl
    next => cases hp
  next hf =>
    obtain ⟨hd, ho⟩ := okL_at hL hf
    split at hp
    next b a st =>
      cases hp
      refine lv_isub hx hb hd ?_
      rw [iI_sub]
      exact K lsA hl
    next => cases hp
  next hf =>
    obtain ⟨hd, ho⟩ := okL_at hL hf
    split at hp
    next b a st =>
      cases hp
      refine lv_imul hx hb hd ?_
      rw [iI_mul]
      exact K lsA hl
    next => cases hp
  next hf =>
    obtain ⟨hd, ho⟩ := okL_at hL hf
    split at hp
    next a st =>
      cases hp
      refine lv_ineg hx hb hd ?_
      rw [iI_neg]
      exact K lsA hl
    next => cases hp
  next hf =>
    obtain ⟨hd, ho⟩ := okL_at hL hf
    split at hp
    next a st => cases hp; exact lv_dup hx hb hd rfl (K lsA hl)
    next a st => cases hp; exact lv_dup hx hb hd (by rcases a with _ | a <;> rfl) (K lsA hl)
    next => cases hp
  next hf =>
    obtain ⟨hd, ho⟩ := okL_at hL hf
    split at hp
    next a b st => cases hp; exact lv_dup2_11 hx hb hd rfl (by rcases b with _ | b <;> rfl) (K lsA hl)
    next => cases hp
  next hf =>
    obtain ⟨hd, ho⟩ := okL_at hL hf
    split at hp
    next a st => cases hp; exact lv_pop hx hb hd rfl (K lsA hl)
    next => cases hp
  next o hf =>
    obtain ⟨hd, ho⟩ := okL_at hL hf
    split at hp
    next t ht => cases hp; exact lv_goto hx hb hd ht (K lsA hl)
    next => cases hp
  next => cases hp
end Rules
end
section
def psn (L : Lst) (nL : Nat) : Nat → Nat → List (Nat × AV) → List AV → Option (Nat × List (Nat × AV) × List AV)
  | 0, pc, ls, st => some (pc, ls, st)
  | j + 1, pc, ls, st => match pst L nL pc ls st with
    | some (pc', ls', st') => psn L nL j pc' ls' st'
    | none => none
def cmpI : ClassFile.Cond → Int → Int → Prop
  | .eq, a, b => a = b
  | .ne, a, b => ¬ a = b
  | .lt, a, b => a < b
  | .ge, a, b => b ≤ a
  | .gt, a, b => b < a
  | .le, a, b => a ≤ b
theorem rng0 : rng 0 := ⟨by decide, by decide⟩
def up {α : Type} (f : Nat → α) (k : Nat) (x : α) : Nat → α := fun j => if j = k then x else f j
theorem iI_div {a b : Int} (h0 : 0 ≤ a) (h1 : a < 2147483648) (h2 : 0 < b) (h3 : b < 2147483648) : iI a / iI b = iI (a / b) := by
  have hr : rng (a / b) := ⟨by have := Int.ediv_nonneg h0 (Int.le_of_lt h2); omega, by have := Int.ediv_le_self b h0; omega⟩
  apply Int32.toInt_inj.mp
  rw [iI_toInt hr, Int32.toInt_div, iI_toInt ⟨by omega, h1⟩, iI_toInt ⟨by omega, h3⟩, Int.tdiv_eq_ediv_of_nonneg h0]
  exact Int.bmod_eq_of_le (by have := hr.1; omega) (by have := hr.2; omega)
theorem iI_rem {a b : Int} (h0 : 0 ≤ a) (h1 : a < 2147483648) (h2 : 0 < b) (h3 : b < 2147483648) : iI a - iI a / iI b * iI b = iI (a % b) := by
  rw [iI_div h0 h1 h2 h3, iI_mul, iI_sub]
  congr 1
  have := Int.mul_ediv_add_emod a b
  rw [Int.mul_comm] at this
  omega
theorem iI_bv (a : Nat) : (iI (a : Int)).toBitVec = BitVec.ofNat 32 a := by
  unfold iI
  rw [Int32.toBitVec_ofInt]
  exact BitVec.ofInt_natCast 32 a
theorem iI_and {a b : Int} (h0 : 0 ≤ a) (h1 : 0 ≤ b) : iI a &&& iI b = iI ((a.toNat &&& b.toNat : Nat) : Int) := by
  obtain ⟨x, rfl⟩ := Int.eq_ofNat_of_zero_le h0
  obtain ⟨y, rfl⟩ := Int.eq_ofNat_of_zero_le h1
  apply Int32.toBitVec_inj.mp
  rw [Int32.toBitVec_and, iI_bv, iI_bv, iI_bv]
  simp [BitVec.ofNat_and]
theorem iI_or {a b : Int} (h0 : 0 ≤ a) (h1 : 0 ≤ b) : iI a ||| iI b = iI ((a.toNat ||| b.toNat : Nat) : Int) := by
  obtain ⟨x, rfl⟩ := Int.eq_ofNat_of_zero_le h0
  obtain ⟨y, rfl⟩ := Int.eq_ofNat_of_zero_le h1
  apply Int32.toBitVec_inj.mp
  rw [Int32.toBitVec_or, iI_bv, iI_bv, iI_bv]
  simp [BitVec.ofNat_or]
theorem iI_xor {a b : Int} (h0 : 0 ≤ a) (h1 : 0 ≤ b) : iI a ^^^ iI b = iI ((a.toNat ^^^ b.toNat : Nat) : Int) := by
  obtain ⟨x, rfl⟩ := Int.eq_ofNat_of_zero_le h0
  obtain ⟨y, rfl⟩ := Int.eq_ofNat_of_zero_le h1
  apply Int32.toBitVec_inj.mp
  rw [Int32.toBitVec_xor, iI_bv, iI_bv, iI_bv]
  simp [BitVec.ofNat_xor]
theorem iI_31 {b : Int} (h0 : 0 ≤ b) (h1 : b < 32) : ((iI b &&& 31).toBitVec.smod 32).toNat = b.toNat := by
  obtain ⟨y, rfl⟩ := Int.eq_ofNat_of_zero_le h0
  have key : ∀ y : Nat, y < 32 → ((iI ((y : Nat) : Int) &&& 31).toBitVec.smod 32).toNat = ((y : Nat) : Int).toNat := by decide +kernel
  exact key y (by omega)
theorem iI_shl {a b : Int} (h0 : 0 ≤ a) (h1 : 0 ≤ b) (h2 : b < 32) : iI a <<< (iI b &&& 31) = iI (a * 2 ^ b.toNat) := by
  obtain ⟨x, rfl⟩ := Int.eq_ofNat_of_zero_le h0
  apply Int32.toBitVec_inj.mp
  apply BitVec.eq_of_toNat_eq
  rw [pk_shl _ _ b.toNat (iI_31 h1 h2), iI_bv, show (x : Int) * 2 ^ b.toNat = ((x * 2 ^ b.toNat : Nat) : Int) by push_cast; rfl, iI_bv]
  simp [Nat.mul_mod]
theorem iI_shr {a b : Int} (h0 : rng a) (h1 : 0 ≤ b) (h2 : b < 32) : iI a >>> (iI b &&& 31) = iI (a / 2 ^ b.toNat) := by
  apply Int32.toInt_inj.mp
  rw [pk_shr _ _ b.toNat (iI_31 h1 h2), iI_toInt h0, Int.shiftRight_eq_div_pow]
  have hp : (0 : Int) < 2 ^ b.toNat := Int.pow_pos (by decide)
  have h3 : rng (a / 2 ^ b.toNat) := by
    obtain ⟨g1, g2⟩ := h0
    have hp1 : (1 : Int) ≤ 2 ^ b.toNat := hp
    refine ⟨?_, ?_⟩
    · apply Int.le_ediv_of_mul_le hp
      have : -2147483648 * 2 ^ b.toNat ≤ -2147483648 * (1 : Int) := Int.mul_le_mul_of_nonpos_left (by decide) hp1
      omega
    · apply Int.ediv_lt_of_lt_mul hp
      have : (2147483648 : Int) * 1 ≤ 2147483648 * 2 ^ b.toNat := Int.mul_le_mul_of_nonneg_left hp1 (by decide)
      omega
  rw [iI_toInt h3]
  push_cast
  rfl
end
section
def FL (own : String) (idx ci j : Nat) (ty : FieldType) (fin : Bool) : Prop := ∃ (C : String) (T : u_T) (N : Nat) (ty0 : Nat → FieldType), classes[ci]? = some (C, T, N) ∧ j < N ∧ (∀ w ∈ u_ws C T N, w ∈ gtb) ∧ (∀ i, i < N → parseFieldDescriptor (T i).2.2.1 = some (ty0 i)) ∧ (∀ a, a < N → ∀ b, b < N → a ≠ b → (T a).2.1 ≠ (T b).2.1) ∧ parseFieldDescriptor (T j).2.2.1 = some ty ∧ (T j).2.2.2 = fin ∧ (T j).1 = C ∧
  (Cond.fieldLink own idx (T j).1 (T j).2.1 (T j).2.2.1 ∈ gtb ∨ ∃ host, Cond.fieldLinkNest own idx (T j).1 (T j).2.1 (T j).2.2.1 host ∈ nst)
def okv : FieldType → AV → Prop
  | .int, .inl _ => True
  | .boolean, .inl a => a = 0 ∨ a = 1
  | .object _, .inr (.inr _) => True
  | .array _, .inr (.inr _) => True
  | _, _ => False
theorem okv_ok {ty : FieldType} {v : AV} {ρ : Nat → Nat} (h : okv ty v) : narrow ty (cv ρ v) = cv ρ v ∧ fits ty (cv ρ v) = true := by
  cases ty <;> rcases v with a | a | (_ | a) <;> first | exact h.elim | exact ⟨rfl, rfl⟩ | (rcases h with rfl | rfl <;> first | exact ⟨(by decide +kernel : narrow FieldType.boolean (Value.int (iI 0)) = Value.int (iI 0)), (by decide +kernel : fits FieldType.boolean (Value.int (iI 0)) = true)⟩ | exact ⟨(by decide +kernel : narrow FieldType.boolean (Value.int (iI 1)) = Value.int (iI 1)), (by decide +kernel : fits FieldType.boolean (Value.int (iI 1)) = true)⟩)
theorem cv_get {ρ : Nat → Nat} {fs : List AV} {j : Nat} {v : AV} (h : fs[j]? = some v) : (fs.map (cv ρ))[j]? = some (cv ρ v) := by
  rw [List.getElem?_map, h]; rfl
theorem upd_up (f : Nat → Int) (i : Nat) (a : Int) : upd (fun j => iI (f j)) i (iI a) = fun j => iI (up f i a j) := by
  funext j
  unfold upd up
  by_cases hj : j = i <;> simp [hj]
theorem cpy_iI (f g : Nat → Int) (a b n : Nat) : va_cpy (fun j => iI (f j)) (fun j => iI (g j)) a b n = fun j => iI (va_cpy f g a b n j) := by
  funext j
  unfold va_cpy
  split <;> rfl
def lcmpI (a b : Int) : Int := if b < a then 1 else if a = b then 0 else -1
def rngL (a : Int) : Prop := -9223372036854775808 ≤ a ∧ a < 9223372036854775808
theorem iL_toInt {a : Int} (h : rngL a) : (iL a).toInt = a := Int64.toInt_ofInt_of_le h.1 (by have := h.2; omega)
theorem iL_cmp {a b : Int} (ha : rngL a) (hb : rngL b) : lg_cmp (iL a) (iL b) = iI (lcmpI a b) := by
  have e1 : iL a > iL b ↔ b < a := by
    rw [gt_iff_lt, Int64.lt_iff_toInt_lt, iL_toInt ha, iL_toInt hb]
  have e2 : iL a = iL b ↔ a = b := by
    rw [← Int64.toInt_inj, iL_toInt ha, iL_toInt hb]
  unfold lg_cmp lcmpI
  by_cases h1 : b < a
  · rw [if_pos (e1.mpr h1), if_pos h1]; rfl
  · rw [if_neg (fun q => h1 (e1.mp q)), if_neg h1]
    by_cases h2 : a = b
    · rw [if_pos (e2.mpr h2), if_pos h2]; rfl
    · rw [if_neg (fun q => h2 (e2.mp q)), if_neg h2]; rfl
theorem iI_long {a : Int} (h : rng a) : (iI a).toInt64 = iL a := by
  apply Int64.toInt_inj.mp
  rw [Int32.toInt_toInt64, iI_toInt h, iL_toInt ⟨by have := h.1; omega, by have := h.2; omega⟩]
section Rules
variable {z : ZM} {G : GG} {R : Room} {MC MS k n pc pn : Nat} {ls : List (Nat × AV)} {st : List AV} {h : List AC} {Q : Option Int → List AC → Prop}
theorem AW.go {pc' : Nat} {ls' : List (Nat × AV)} {st' : List AV} : ∀ (j : Nat) {pc : Nat} {ls : List (Nat × AV)} {st : List AV}, psn z.2.2.2.2 z.2.2.1 j pc ls st = some (pc', ls', st') → AW z G R MC MS k n pc' ls' st' h Q → AW z G R MC MS k n pc ls st h Q
  | 0, pc, ls, st, hp, kk => by
    cases hp; exact kk
  | j + 1, pc, ls, st, hp, kk => by
    unfold psn at hp
    split at hp
    next a b c he => exact AW.p1 he (AW.go j hp kk)
    next => cases hp
theorem AW.br {a : Int} {cnd : ClassFile.Cond} {off : Int} {tgt : Nat} (hf : ftch z.2.2.2.2 pc = some (.ifCond cnd off, 3)) (ht : (pc : Int) + off = (tgt : Int)) (hn : pc + 3 = pn) (ha : rng a)
    (kt : cmpI cnd a 0 → AW z G R MC MS k n tgt ls st h Q) (kf : ¬ cmpI cnd a 0 → AW z G R MC MS k n pn ls st h Q) : AW z G R MC MS k n pc ls (vi a :: st) h Q := by
  intro p l e s m args below meth c D τ A ρ0 ρ Zf C hK hA hG hZ H locs lsA hP hD hS hl
  have e0 : (0 : Int32) = iI 0 := rfl
  obtain ⟨hx, hb, -, -, -, hL, -, -, -⟩ := id C
  subst hn
  obtain ⟨hd, -⟩ := okL_at hL hf
  have KT := fun q => kt q p l e s m args below meth c D τ A ρ0 ρ Zf C hK hA hG hZ H locs lsA hP hD hS hl
  have KF := fun q => kf q p l e s m args below meth c D τ A ρ0 ρ Zf C hK hA hG hZ H locs lsA hP hD hS hl
  cases cnd
  · exact lv_if_eq hx hb hd ht (fun q => KT ((iI_eq ha rng0).mp q)) (fun q => KF (fun w => q ((iI_eq ha rng0).mpr w)))
  · exact lv_if_ne hx hb hd ht (fun q => KT (fun w => q ((iI_eq ha rng0).mpr w))) (fun q => KF (fun w => w ((iI_eq ha rng0).mp q)))
  · exact lv_if_lt hx hb hd ht (fun q => KT ((iI_lt ha rng0).mp q)) (fun q => KF (fun w => q ((iI_lt ha rng0).mpr w)))
  · exact lv_if_ge hx hb hd ht (fun q => KT ((iI_le rng0 ha).mp q)) (fun q => KF (fun w => q ((iI_le rng0 ha).mpr w)))
  · exact lv_if_gt hx hb hd ht (fun q => KT ((iI_lt rng0 ha).mp q)) (fun q => KF (fun w => q ((iI_lt rng0 ha).mpr w)))
  · exact lv_if_le hx hb hd ht (fun q => KT ((iI_le ha rng0).mp q)) (fun q => KF (fun w => q ((iI_le ha rng0).mpr w)))
theorem AW.bi {a b : Int} {cnd : ClassFile.Cond} {off : Int} {tgt : Nat} (hf : ftch z.2.2.2.2 pc = some (.if_icmp cnd off, 3)) (ht : (pc : Int) + off = (tgt : Int)) (hn : pc + 3 = pn) (ha : rng a) (hb : rng b)
    (kt : cmpI cnd a b → AW z G R MC MS k n tgt ls st h Q) (kf : ¬ cmpI cnd a b → AW z G R MC MS k n pn ls st h Q) : AW z G R MC MS k n pc ls (vi b :: vi a :: st) h Q := by
  intro p l e s m args below meth c D τ A ρ0 ρ Zf C hK hA hG hZ H locs lsA hP hD hS hl
  obtain ⟨hx, hb', -, -, -, hL, -, -, -⟩ := id C
  subst hn
  obtain ⟨hd, -⟩ := okL_at hL hf
  have KT := fun q => kt q p l e s m args below meth c D τ A ρ0 ρ Zf C hK hA hG hZ H locs lsA hP hD hS hl
  have KF := fun q => kf q p l e s m args below meth c D τ A ρ0 ρ Zf C hK hA hG hZ H locs lsA hP hD hS hl
  cases cnd
  · exact lv_icmp_eq hx hb' hd ht (fun q => KT ((iI_eq ha hb).mp q)) (fun q => KF (fun w => q ((iI_eq ha hb).mpr w)))
  · exact lv_icmp_ne hx hb' hd ht (fun q => KT (fun w => q ((iI_eq ha hb).mpr w))) (fun q => KF (fun w => w ((iI_eq ha hb).mp q)))
  · exact lv_icmp_lt hx hb' hd ht (fun q => KT ((iI_lt ha hb).mp q)) (fun q => KF (fun w => q ((iI_lt ha hb).mpr w)))
  · exact lv_icmp_ge hx hb' hd ht (fun q => KT ((iI_le hb ha).mp q)) (fun q => KF (fun w => q ((iI_le hb ha).mpr w)))
  · exact lv_icmp_gt hx hb' hd ht (fun q => KT ((iI_lt hb ha).mp q)) (fun q => KF (fun w => q ((iI_lt hb ha).mpr w)))
  · exact lv_icmp_le hx hb' hd ht (fun q => KT ((iI_le ha hb).mp q)) (fun q => KF (fun w => q ((iI_le ha hb).mpr w)))
theorem AW.idiv {a b : Int} (hf : ftch z.2.2.2.2 pc = some (.idiv, 1)) (hn : pc + 1 = pn) (h0 : 0 ≤ a) (h1 : a < 2147483648) (h2 : 0 < b) (h3 : b < 2147483648)
    (kk : AW z G R MC MS k n pn ls (vi (a / b) :: st) h Q) : AW z G R MC MS k n pc ls (vi b :: vi a :: st) h Q := by
  subst hn
  refine AW.fr ?_ kk
  intro p l e s m args below meth c ρ H locs lsA Zf C hl K
  obtain ⟨hx, hb', -, -, -, hL, -, -, -⟩ := C
  refine lv_idiv hx hb' (okL_at hL hf).1 (fun q => ?_) ?_
  · exact absurd ((iI_eq ⟨by omega, by omega⟩ rng0).mp q) (by omega)
  · rw [iI_div h0 h1 h2 h3]; exact K lsA hl
theorem AW.irem {a b : Int} (hf : ftch z.2.2.2.2 pc = some (.irem, 1)) (hn : pc + 1 = pn) (h0 : 0 ≤ a) (h1 : a < 2147483648) (h2 : 0 < b) (h3 : b < 2147483648)
    (kk : AW z G R MC MS k n pn ls (vi (a % b) :: st) h Q) : AW z G R MC MS k n pc ls (vi b :: vi a :: st) h Q := by
  subst hn
  refine AW.fr ?_ kk
  intro p l e s m args below meth c ρ H locs lsA Zf C hl K
  obtain ⟨hx, hb', -, -, -, hL, -, -, -⟩ := C
  refine lv_irem hx hb' (okL_at hL hf).1 (fun q => ?_) ?_
  · exact absurd ((iI_eq ⟨by omega, by omega⟩ rng0).mp q) (by omega)
  · rw [iI_rem h0 h1 h2 h3]; exact K lsA hl
theorem AW.iand {a b : Int} (hf : ftch z.2.2.2.2 pc = some (.iand, 1)) (hn : pc + 1 = pn) (h0 : 0 ≤ a) (h1 : 0 ≤ b)
    (kk : AW z G R MC MS k n pn ls (vi ((a.toNat &&& b.toNat : Nat) : Int) :: st) h Q) : AW z G R MC MS k n pc ls (vi b :: vi a :: st) h Q := by
  subst hn
  refine AW.fr ?_ kk
  intro p l e s m args below meth c ρ H locs lsA Zf C hl K
  obtain ⟨hx, hb', -, -, -, hL, -, -, -⟩ := C
  refine lv_iand hx hb' (okL_at hL hf).1 ?_
  rw [iI_and h0 h1]; exact K lsA hl
theorem AW.ior {a b : Int} (hf : ftch z.2.2.2.2 pc = some (.ior, 1)) (hn : pc + 1 = pn) (h0 : 0 ≤ a) (h1 : 0 ≤ b)
    (kk : AW z G R MC MS k n pn ls (vi ((a.toNat ||| b.toNat : Nat) : Int) :: st) h Q) : AW z G R MC MS k n pc ls (vi b :: vi a :: st) h Q := by
  subst hn
  refine AW.fr ?_ kk
  intro p l e s m args below meth c ρ H locs lsA Zf C hl K
  obtain ⟨hx, hb', -, -, -, hL, -, -, -⟩ := C
  refine lv_ior hx hb' (okL_at hL hf).1 ?_
  rw [iI_or h0 h1]; exact K lsA hl
theorem AW.ixor {a b : Int} (hf : ftch z.2.2.2.2 pc = some (.ixor, 1)) (hn : pc + 1 = pn) (h0 : 0 ≤ a) (h1 : 0 ≤ b)
    (kk : AW z G R MC MS k n pn ls (vi ((a.toNat ^^^ b.toNat : Nat) : Int) :: st) h Q) : AW z G R MC MS k n pc ls (vi b :: vi a :: st) h Q := by
  subst hn
  refine AW.fr ?_ kk
  intro p l e s m args below meth c ρ H locs lsA Zf C hl K
  obtain ⟨hx, hb', -, -, -, hL, -, -, -⟩ := C
  refine lv_ixor hx hb' (okL_at hL hf).1 ?_
  rw [iI_xor h0 h1]; exact K lsA hl
theorem AW.inot {a : Int} (hf : ftch z.2.2.2.2 pc = some (.ixor, 1)) (hn : pc + 1 = pn)
    (kk : AW z G R MC MS k n pn ls (vi (-a - 1) :: st) h Q) : AW z G R MC MS k n pc ls (vi (-1) :: vi a :: st) h Q := by
  subst hn
  refine AW.fr ?_ kk
  intro p l e s m args below meth c ρ H locs lsA Zf C hl K
  obtain ⟨hx, hb', -, -, -, hL, -, -, -⟩ := C
  refine lv_ixor hx hb' (okL_at hL hf).1 ?_
  have e1 : iI a ^^^ iI (-1) = iI (-a - 1) := by
    have : ∀ x : Int32, x ^^^ iI (-1) = -x - iI 1 := by
      intro x
      apply Int32.toBitVec_inj.mp
      rw [Int32.toBitVec_xor, Int32.toBitVec_sub, Int32.toBitVec_neg]
      rw [show (iI (-1)).toBitVec = BitVec.allOnes 32 by decide +kernel, show (iI 1).toBitVec = 1#32 by decide +kernel]
      rw [BitVec.xor_allOnes, BitVec.neg_eq_not_add, BitVec.add_sub_cancel]
    rw [this (iI a), iI_neg, iI_sub]
  rw [e1]; exact K lsA hl
theorem AW.ishl {a b : Int} (hf : ftch z.2.2.2.2 pc = some (.ishl, 1)) (hn : pc + 1 = pn) (h0 : 0 ≤ a) (h1 : 0 ≤ b) (h2 : b < 32)
    (kk : AW z G R MC MS k n pn ls (vi (a * 2 ^ b.toNat) :: st) h Q) : AW z G R MC MS k n pc ls (vi b :: vi a :: st) h Q := by
  subst hn
  refine AW.fr ?_ kk
  intro p l e s m args below meth c ρ H locs lsA Zf C hl K
  obtain ⟨hx, hb', -, -, -, hL, -, -, -⟩ := C
  refine lv_ishl hx hb' (okL_at hL hf).1 ?_
  rw [iI_shl h0 h1 h2]; exact K lsA hl
theorem AW.ishr {a b : Int} (hf : ftch z.2.2.2.2 pc = some (.ishr, 1)) (hn : pc + 1 = pn) (h0 : rng a) (h1 : 0 ≤ b) (h2 : b < 32)
    (kk : AW z G R MC MS k n pn ls (vi (a / 2 ^ b.toNat) :: st) h Q) : AW z G R MC MS k n pc ls (vi b :: vi a :: st) h Q := by
  subst hn
  refine AW.fr ?_ kk
  intro p l e s m args below meth c ρ H locs lsA Zf C hl K
  obtain ⟨hx, hb', -, -, -, hL, -, -, -⟩ := C
  refine lv_ishr hx hb' (okL_at hL hf).1 ?_
  rw [iI_shr h0 h1 h2]; exact K lsA hl
theorem AW.i2l {a : Int} (hf : ftch z.2.2.2.2 pc = some (.i2l, 1)) (hn : pc + 1 = pn) (h0 : rng a)
    (kk : AW z G R MC MS k n pn ls (vl a :: st) h Q) : AW z G R MC MS k n pc ls (vi a :: st) h Q := by
  subst hn
  refine AW.fr ?_ kk
  intro p l e s m args below meth c ρ H locs lsA Zf C hl K
  obtain ⟨hx, hb', -, -, -, hL, -, -, -⟩ := C
  exact lv_i2l hx hb' (okL_at hL hf).1 (iI_long h0) (K lsA hl)
theorem AW.lcmp {a b : Int} (hf : ftch z.2.2.2.2 pc = some (.lcmp, 1)) (hn : pc + 1 = pn) (h0 : rngL a) (h1 : rngL b)
    (kk : AW z G R MC MS k n pn ls (vi (lcmpI a b) :: st) h Q) : AW z G R MC MS k n pc ls (vl b :: vl a :: st) h Q := by
  subst hn
  refine AW.fr ?_ kk
  intro p l e s m args below meth c ρ H locs lsA Zf C hl K
  obtain ⟨hx, hb', -, -, -, hL, -, -, -⟩ := C
  refine W.lcmp hx hb' (okL_at hL hf).1 ?_
  rw [iL_cmp h0 h1]; exact K lsA hl
theorem AW.ldc2 {a : Int} {idx : Nat} (hf : ftch z.2.2.2.2 pc = some (.ldc2_w idx, 3)) (hn : pc + 3 = pn) (hw : Cond.constantLong z.1.cls idx (iL a) ∈ gtb)
    (kk : AW z G R MC MS k n pn ls (vl a :: st) h Q) : AW z G R MC MS k n pc ls st h Q := by
  subst hn
  refine AW.fr ?_ kk
  intro p l e s m args below meth c ρ H locs lsA Zf C hl K
  obtain ⟨hx, hb', -, hown, hts, hL, -, -, -⟩ := C
  exact lv_ldc2 hx hb' hown (hts _ hw) (okL_at hL hf).1 (K lsA hl)
theorem AW.getf {idx ci j i : Nat} {ty : FieldType} {fin : Bool} {fs : List AV} {v : AV} (hf : ftch z.2.2.2.2 pc = some (.getfield idx, 3)) (hn : pc + 3 = pn) (fl : FL z.1.cls idx ci j ty fin) (hh : h[i]? = some (ao ci fs)) (hv : fs[j]? = some v)
    (kk : AW z G R MC MS k n pn ls (v :: st) h Q) : AW z G R MC MS k n pc ls (vr i :: st) h Q := by
  subst hn
  intro p l e s m args below meth c D τ A ρ0 ρ Zf C hK hA hG hZ H locs lsA hP hD hS hl
  obtain ⟨hx, hb', -, hown, hts, hL, -, -, -⟩ := id C
  obtain ⟨Cn, T, N, ty0, hc, hj, hin, -, -, -, -, -, hlk⟩ := fl
  have K := kk p l e s m args below meth c D τ A ρ0 ρ Zf C hK hA hG hZ H locs lsA hP hD hS hl
  rcases hlk with hlk | ⟨host, hlk⟩
  · exact va_get hx hb' hts hin hown hK.1 hP i (cw_get hh) hc j hj (hts _ hlk) (fun _ q => q) (cv_get hv) (okL_at hL hf).1 K
  · exact va_getN hx hb' hts hin hown hK.1 hP i (cw_get hh) hc j hj (va_Nw.use rfl (hK.2 _ hlk)) (fun _ q => q) (cv_get hv) (okL_at hL hf).1 K
theorem AW.putf {idx ci j i : Nat} {ty : FieldType} {fs : List AV} {v v0 : AV} (hf : ftch z.2.2.2.2 pc = some (.putfield idx, 3)) (hn : pc + 3 = pn) (fl : FL z.1.cls idx ci j ty false) (hh : h[i]? = some (ao ci fs)) (hv : fs[j]? = some v0) (ok : okv ty v)
    (kk : AW z G R MC MS k n pn ls st (h.set i (ao ci (fs.set j v))) Q) : AW z G R MC MS k n pc ls (v :: vr i :: st) h Q := by
  subst hn
  intro p l e s m args below meth c D τ A ρ0 ρ Zf C hK hA hG hZ H locs lsA hP hD hS hl
  obtain ⟨hx, hb', -, hown, hts, hL, -, -, -⟩ := id C
  obtain ⟨Cn, T, N, ty0, hc, hj, hin, hty, hnm, hpd, hfin, -, hlk⟩ := fl
  have hlen : j < (fs.map (cv ρ)).length := by
    rw [List.length_map]; exact (List.getElem?_eq_some_iff.mp hv).1
  have e1 : (fs.map (cv ρ)).set j (cv ρ v) = (fs.set j v).map (cv ρ) := by rw [List.map_set]
  have K : ∀ (H1 : Heap) (locs1 : List Loc), va_P D classes ((cw ρ τ h).set i (ρ i, .inr (ci, (fs.map (cv ρ)).set j (cv ρ v)))) H1 → va_D A ((cw ρ τ h).set i (ρ i, .inr (ci, (fs.map (cv ρ)).set j (cv ρ v)))) → va_S A s.heap H1 locs1 → W p l e R s m args below meth c H1 locs1 k n Zf (F0 m (pc + 3) lsA (st.map (cv ρ))) := by
    intro H1 locs1 hP1 hD1 hS1
    rw [e1] at hP1 hD1
    have e2 := cw_set ρ τ h i (ao ci (fs.set j v))
    exact kk p l e s m args below meth c D τ A ρ0 ρ Zf C hK hA hG hZ H1 locs1 lsA (e2 ▸ hP1) (e2 ▸ hD1) hS1 hl
  rcases hlk with hlk | ⟨host, hlk⟩
  · exact va_put hx hb' hts hin ty0 hty hnm hown hK.1 hP hD hS i (cw_get hh) hc j hj (hts _ hlk) (fun _ q => q) hfin hpd (okv_ok ok).1 (okv_ok ok).2 hlen (okL_at hL hf).1 K
  · exact va_putN hx hb' hts hin ty0 hty hnm hown hK.1 hP hD hS i (cw_get hh) hc j hj (va_Nw.use rfl (hK.2 _ hlk)) (fun _ q => q) hfin hpd (okv_ok ok).1 (okv_ok ok).2 hlen (okL_at hL hf).1 K
theorem AW.putF {idx ci j i : Nat} {ty : FieldType} {fs : List AV} {v v0 : AV} (hf : ftch z.2.2.2.2 pc = some (.putfield idx, 3)) (hn : pc + 3 = pn) (fl : FL z.1.cls idx ci j ty true) (hown2 : (classes[ci]?).map (fun q => q.1) = some z.1.cls) (hlk2 : ∀ q : vw_C, classes[ci]? = some q → Cond.fieldLink z.1.cls idx (q.2.1 j).1 (q.2.1 j).2.1 (q.2.1 j).2.2.1 ∈ gtb) (hinit : z.1.name = "<init>") (hh : h[i]? = some (ao ci fs)) (hv : fs[j]? = some v0) (ok : okv ty v)
    (kk : AW z G R MC MS k n pn ls st (h.set i (ao ci (fs.set j v))) Q) : AW z G R MC MS k n pc ls (v :: vr i :: st) h Q := by
  subst hn
  intro p l e s m args below meth c D τ A ρ0 ρ Zf C hK hA hG hZ H locs lsA hP hD hS hl
  obtain ⟨hx, hb', -, hown, hts, hL, hnme, -, -⟩ := id C
  obtain ⟨Cn, T, N, ty0, hc, hj, hin, hty, hnm, hpd, hfin, hTC, -⟩ := fl
  rw [hc] at hown2
  have hCo : Cn = z.1.cls := Option.some.inj hown2
  have hlen : j < (fs.map (cv ρ)).length := by
    rw [List.length_map]; exact (List.getElem?_eq_some_iff.mp hv).1
  have e1 : (fs.map (cv ρ)).set j (cv ρ v) = (fs.set j v).map (cv ρ) := by rw [List.map_set]
  refine va_putF hx hb' hts hin ty0 hty hnm hown hK.1 hP hD hS i (cw_get hh) hc j hj (hts _ (hlk2 _ hc)) (fun _ q => q) hfin (by rw [hnme]; exact hinit) (by rw [hTC, hCo]) hpd (okv_ok ok).1 (okv_ok ok).2 hlen (okL_at hL hf).1 ?_
  intro H1 locs1 hP1 hD1 hS1
  rw [e1] at hP1 hD1
  have e2 := cw_set ρ τ h i (ao ci (fs.set j v))
  exact kk p l e s m args below meth c D τ A ρ0 ρ Zf C hK hA hG hZ H1 locs1 lsA (e2 ▸ hP1) (e2 ▸ hD1) hS1 hl
theorem AW.iald {i N : Nat} {f : Nat → Int} {a : Int} (hf : ftch z.2.2.2.2 pc = some (.iaload, 1)) (hn : pc + 1 = pn) (hh : h[i]? = some (ai 0 N f)) (hN : N ≤ 2147483648) (h0 : 0 ≤ a) (h1 : a < N)
    (kk : AW z G R MC MS k n pn ls (vi (f a.toNat) :: st) h Q) : AW z G R MC MS k n pc ls (vi a :: vr i :: st) h Q := by
  subst hn
  intro p l e s m args below meth c D τ A ρ0 ρ Zf C hK hA hG hZ H locs lsA hP hD hS hl
  obtain ⟨hx, hb', -, hown, hts, hL, -, -, -⟩ := id C
  refine va_iald hx hb' hK.1 hP i 0 (cw_get hh) rfl (iI_in h0 h1 hN) (okL_at hL hf).1 ?_
  rw [iI_nat h0 (by omega)]
  exact kk p l e s m args below meth c D τ A ρ0 ρ Zf C hK hA hG hZ H locs lsA hP hD hS hl
theorem AW.bald {i N : Nat} {f : Nat → Int} {a : Int} (hf : ftch z.2.2.2.2 pc = some (.baload, 1)) (hn : pc + 1 = pn) (hh : h[i]? = some (ai 1 N f)) (hN : N ≤ 2147483648) (h0 : 0 ≤ a) (h1 : a < N)
    (kk : AW z G R MC MS k n pn ls (vi (f a.toNat) :: st) h Q) : AW z G R MC MS k n pc ls (vi a :: vr i :: st) h Q := by
  subst hn
  intro p l e s m args below meth c D τ A ρ0 ρ Zf C hK hA hG hZ H locs lsA hP hD hS hl
  obtain ⟨hx, hb', -, hown, hts, hL, -, -, -⟩ := id C
  refine va_zald hx hb' hK.1 hP i 1 (cw_get hh) rfl (iI_in h0 h1 hN) (okL_at hL hf).1 ?_
  rw [iI_nat h0 (by omega)]
  exact kk p l e s m args below meth c D τ A ρ0 ρ Zf C hK hA hG hZ H locs lsA hP hD hS hl
theorem AW.iast {i N : Nat} {f : Nat → Int} {a b : Int} (hf : ftch z.2.2.2.2 pc = some (.iastore, 1)) (hn : pc + 1 = pn) (hh : h[i]? = some (ai 0 N f)) (hN : N ≤ 2147483648) (h0 : 0 ≤ a) (h1 : a < N)
    (kk : AW z G R MC MS k n pn ls st (h.set i (ai 0 N (up f a.toNat b))) Q) : AW z G R MC MS k n pc ls (vi b :: vi a :: vr i :: st) h Q := by
  subst hn
  intro p l e s m args below meth c D τ A ρ0 ρ Zf C hK hA hG hZ H locs lsA hP hD hS hl
  obtain ⟨hx, hb', -, hown, hts, hL, -, -, -⟩ := id C
  refine va_iast hx hb' hK.1 hP hD hS i 0 (cw_get hh) rfl (iI_in h0 h1 hN) (okL_at hL hf).1 ?_
  intro H1 locs1 hP1 hD1 hS1
  rw [iI_nat h0 (by omega), upd_up] at hP1 hD1
  have e2 := cw_set ρ τ h i (ai 0 N (up f a.toNat b))
  exact kk p l e s m args below meth c D τ A ρ0 ρ Zf C hK hA hG hZ H1 locs1 lsA (e2 ▸ hP1) (e2 ▸ hD1) hS1 hl
theorem AW.bast {i N : Nat} {f : Nat → Int} {a b : Int} (hf : ftch z.2.2.2.2 pc = some (.bastore, 1)) (hn : pc + 1 = pn) (hh : h[i]? = some (ai 1 N f)) (hN : N ≤ 2147483648) (h0 : 0 ≤ a) (h1 : a < N) (hb : b = 0 ∨ b = 1)
    (kk : AW z G R MC MS k n pn ls st (h.set i (ai 1 N (up f a.toNat b))) Q) : AW z G R MC MS k n pc ls (vi b :: vi a :: vr i :: st) h Q := by
  subst hn
  intro p l e s m args below meth c D τ A ρ0 ρ Zf C hK hA hG hZ H locs lsA hP hD hS hl
  obtain ⟨hx, hb', -, hown, hts, hL, -, -, -⟩ := id C
  refine va_zast hx hb' hK.1 hP hD hS i 1 (cw_get hh) rfl (iI_in h0 h1 hN) (okL_at hL hf).1 ?_
  intro H1 locs1 hP1 hD1 hS1
  have e3 : vp_nar .boolean (iI b) = iI b := by rcases hb with rfl | rfl <;> decide +kernel
  rw [iI_nat h0 (by omega), e3, upd_up] at hP1 hD1
  have e2 := cw_set ρ τ h i (ai 1 N (up f a.toNat b))
  exact kk p l e s m args below meth c D τ A ρ0 ρ Zf C hK hA hG hZ H1 locs1 lsA (e2 ▸ hP1) (e2 ▸ hD1) hS1 hl
theorem AW.aald {i N t q : Nat} {f : Nat → Option Nat} {a : Int} (hf : ftch z.2.2.2.2 pc = some (.aaload, 1)) (hn : pc + 1 = pn) (hh : h[i]? = some (aq t N f)) (ht : t = 2 ∨ t = 3) (hN : N ≤ 2147483648) (h0 : 0 ≤ a) (h1 : a < N) (hq : f a.toNat = some q)
    (kk : AW z G R MC MS k n pn ls (vr q :: st) h Q) : AW z G R MC MS k n pc ls (vi a :: vr i :: st) h Q := by
  subst hn
  intro p l e s m args below meth c D τ A ρ0 ρ Zf C hK hA hG hZ H locs lsA hP hD hS hl
  obtain ⟨hx, hb', -, hown, hts, hL, -, -, -⟩ := id C
  have K := kk p l e s m args below meth c D τ A ρ0 ρ Zf C hK hA hG hZ H locs lsA hP hD hS hl
  have hin := iI_in h0 h1 hN
  have hlt : (iI a).toNatClampNeg < N := by rw [iI_nat h0 (by omega)]; omega
  have hA : ∀ j : Nat, ((tyl τ)[j]?).map (fun q => q.1) = some (τ t) → ∀ ty, ((tyl τ)[j]?).map (fun q => q.2) = some ty → ty.isReference = true → W p l e R s m args below meth c H locs k n Zf (F0 m pc lsA ((vi a :: vr i :: st).map (cv ρ))) := by
    intro j hj ty hty hr
    have hjj : (tyl τ)[j]? = some (τ t, ty) := by
      cases e : (tyl τ)[j]? with
      | none => rw [e] at hj; cases hj
      | some x =>
        rw [e] at hj hty
        have g1 : x.1 = τ t := Option.some.inj hj
        have g2 : x.2 = ty := Option.some.inj hty
        rw [← g1, ← g2]
    refine W.aald (v := va_rf (((f (iI a).toNatClampNeg)).map ρ)) (ty := ty) hx hb' (hP i _ (cw_get hh)) ((hK.1.2 j _ hjj).1 N (fun j => va_rf ((f j).map ρ))) hr (fun q => by cases q) (by show ¬ ((iI a) < 0 ∨ (arrV _ _ _).slots.size ≤ _); rw [arrV_size]; exact hin) (by show (arrV _ _ _).slots[_]? = _; rw [arrV_read _ _ hlt]) rfl rfl (okL_at hL hf).1 ?_
    rw [iI_nat h0 (by omega), hq]
    exact K
  rcases ht with rfl | rfl
  · exact hA 2 rfl _ rfl rfl
  · exact hA 3 rfl _ rfl rfl
theorem AW.copy {i j N0 N1 idx : Nat} {f g : Nat → Int} {a b d : Int} (hf : ftch z.2.2.2.2 pc = some (.invokestatic idx, 3)) (hn : pc + 3 = pn) (hw : Cond.methodLink z.1.cls idx arraycopyName ∈ gtb ∧ Cond.native arraycopyName ∈ gtb ∧ Cond.static arraycopyName ∈ gtb ∧ Cond.initialized "java/lang/System" ∈ gtb) (hi : h[i]? = some (ai 0 N0 f)) (hj : h[j]? = some (ai 0 N1 g)) (h0 : 0 ≤ a) (h1 : 0 ≤ b) (h2 : 0 ≤ d) (ha : a < 2147483648) (hb : b < 2147483648) (hd : d < 2147483648) (h3 : a.toNat + d.toNat ≤ N0) (h4 : b.toNat + d.toNat ≤ N1) (hR : 1 ≤ R.frames ∧ (st.map acat).sum + 18 ≤ R.locals)
    (kk : AW z G R MC MS k n pn ls st (h.set j (ai 0 N1 (va_cpy f g a.toNat b.toNat d.toNat))) Q) : AW z G R MC MS k n pc ls (vi d :: vi b :: vr j :: vi a :: vr i :: st) h Q := by
  subst hn
  intro p l e s m args below meth c D τ A ρ0 ρ Zf C hK hA hG hZ H locs lsA hP hD hS hl
  obtain ⟨hx, hb', hml, hown, hts, hL, -, -, -⟩ := id C
  have hnn : ∀ {x : Int}, 0 ≤ x → x < 2147483648 → ¬ iI x < 0 := fun {x} q1 q2 w => by
    have := (iI_lt (a := x) (b := 0) ⟨by omega, by omega⟩ rng0).mp w
    omega
  refine va_copyi hx hb' (hml.trans hl.1.symm) hown (hts _ hw.1) (hts _ hw.2.1) (hts _ hw.2.2.1) (hts _ hw.2.2.2) hK.1 hP hD hS i j 0 0 (ty := .int) (cw_get hi) (cw_get hj) rfl rfl rfl (hnn h0 ha) (hnn h1 hb) (hnn h2 hd) (by rw [iI_nat h0 ha, iI_nat h2 hd]; exact h3) (by rw [iI_nat h1 hb, iI_nat h2 hd]; exact h4) (fun _ _ => rfl) hR.1 ?_ (okL_at hL hf).1 ?_
  · have e1 : ((st.map (cv ρ)).map fun v => v.category) = st.map acat := by
      rw [List.map_map]
      exact List.map_congr_left (fun v _ => cv_cat ρ v)
    rw [e1]
    have e2 : nativeFrameWords "java/lang/System" "arraycopy" 5 = 7 := by decide +kernel
    rw [e2]
    exact hR.2
  · intro H1 locs1 hP1 hD1 hS1
    rw [iI_nat h0 ha, iI_nat h1 hb, iI_nat h2 hd, cpy_iI] at hP1 hD1
    have e2 := cw_set ρ τ h j (ai 0 N1 (va_cpy f g a.toNat b.toNat d.toNat))
    exact kk p l e s m args below meth c D τ A ρ0 ρ Zf C hK hA hG hZ H1 locs1 lsA (e2 ▸ hP1) (e2 ▸ hD1) hS1 hl
end Rules
end
section
abbrev rmd (d : Nat) : Room := { frames := d, cells := 0, slots := 0, locals := 40 * d }
def QM (Q : Option Int → List AC → Prop) (D : va_G) (τ : Nat → ClassId) (ρ : Nat → Nat) (A : Nat → Prop) : Array Value → State → Outcome → State → Prop := fun _ st oc t =>
  (∃ (v : Option Int) (u : List AC), oc = .returned (v.map (fun a => Value.int (iI a))) ∧ Q v u ∧ va_P D classes (cw ρ τ u) t.heap ∧ va_D A (cw ρ τ u)) ∧ va_F A st t
abbrev PM (as : List AV) (h : List AC) (D : va_G) (τ : Nat → ClassId) (ρ : Nat → Nat) (sz : Nat) : Array Value → State → Prop :=
  va_Pc (as.map (cv ρ)) (fun U => U.heap.size = sz ∧ va_P D classes (cw ρ τ h) U.heap ∧ KK D τ U ∧ va_D (fun _ => True) (cw ρ τ h))
/-- a method's contract: it makes nothing; from the arguments and cells it comes to an answer and cells of Q -/
def M0 (z : ZM) (d : Nat) (as : List AV) (h : List AC) (Q : Option Int → List AC → Prop) : Prop :=
  ∀ (l : Launch) (D : va_G) (τ : Nat → ClassId) (ρ : Nat → Nat) (sz : Nat), Met l z.1 (zw z) (rmd d) (PM as h D τ ρ sz) (QM Q D τ ρ (va_A (cw ρ τ h) sz)) 0 0 (va_A (cw ρ τ h) sz)
theorem PM_blind (as : List AV) (h : List AC) (D : va_G) (τ : Nat → ClassId) (ρ : Nat → Nat) (sz : Nat) : FrameBlind (PM as h D τ ρ sz) := by
  intro a U g mk q
  obtain ⟨q0, q1, qP, qK, qD⟩ := q
  exact ⟨q0, q1, qP, KK.same (s := U) (U := U.calling g mk a) rfl qK, qD⟩
def aar : Nat → List AV → List (Nat × AV)
  | _, [] => []
  | i, v :: vs => (i, v) :: aar (if acat v = 2 then i + 2 else i + 1) vs
theorem aar_cl (ρ : Nat → Nat) : ∀ (i : Nat) (as : List AV), lv_args i (as.map (cv ρ)) = cl ρ (aar i as)
  | _, [] => rfl
  | i, v :: vs => by
    show (i, cv ρ v) :: lv_args (if (cv ρ v).category = 2 then i + 2 else i + 1) (vs.map (cv ρ)) = (i, cv ρ v) :: cl ρ (aar (if acat v = 2 then i + 2 else i + 1) vs)
    rw [cv_cat, aar_cl ρ _ vs]
theorem sl_len (ρ : Nat → Nat) (as : List AV) : (lg_sl (as.map (cv ρ))).length = (as.map acat).sum := by
  induction as with
  | nil => rfl
  | cons v vs ih =>
    have e : lg_sl ((v :: vs).map (cv ρ)) = lg_sl [cv ρ v] ++ lg_sl (vs.map (cv ρ)) := by
      simp [lg_sl]
    rw [e, List.length_append, ih, List.map_cons, List.sum_cons]
    congr 1
    rcases v with a | a | (_ | a) <;> rfl
theorem M0.of {z : ZM} {d : Nat} {as : List AV} {h : List AC} {Q : Option Int → List AC → Prop} (hz : zok z) (hl : (as.map acat).sum ≤ z.2.2.1) (kk : AW z Eq (rmd d) 0 0 0 0 0 (aar 0 as) [] h Q) : M0 z d as h Q := by
  intro l D τ ρ sz
  obtain ⟨hL, hcode, hpl, -⟩ := hz
  refine va_MetF (cc := z.2.1) (maxL := z.2.2.1) (ret := z.2.2.2.1) hpl rfl ?_
  intro p e s m args below meth c s₁ B hml hv
  obtain ⟨rfl, hsz, hP, hK, hD0⟩ := hv
  have hts := atoms_spec (ws := zw z) B.pre
  have hown : s.vm.findClass z.1.cls = some m.cls := findClass_of_methodNamed B.named
  have hnm : meth.name = z.1.name := (name_of_methodNamed B.named B.method).1
  subst hsz
  have hD := hD0.self (sz := s.heap.size)
  have hA : ∀ q : Nat, s.heap.size ≤ q → va_A (cw ρ τ h) s.heap.size q := fun q h => Or.inr h
  have hle := lv_entry (as.map (cv ρ)) (n := z.2.2.1) (by rw [sl_len]; exact hl)
  rw [lg_entry_eq]
  rw [aar_cl] at hle
  have C : Cx z p s m (as.map (cv ρ)).toArray meth c := ⟨B.exec, B.bytes, hml, hown, fun w hw => hts w (List.mem_cons_of_mem _ hw), hL, hnm, B.notSynchronized, B.returns⟩
  refine kk p l e s m (as.map (cv ρ)).toArray below meth c D τ (va_A (cw ρ τ h) s.heap.size) ρ ρ _ C hK hA rfl ?_ s.heap [] _ hP hD va_S.rf hle
  intro v h' ρ' H' locs' ls' pc' hq hret hG hP' hD' hS'
  subst hG
  have hlk := B.notSynchronized
  cases v with
  | none =>
    obtain ⟨hr1, hr2⟩ := hret
    exact W.vret B.exec B.bytes (B.returns.trans hr1) (fun t ht hW => ⟨⟨none, h', rfl, hq, by rw [ht]; exact hP', hD'⟩, hS'.F ht⟩) hS'.2.2 (okL_at hL hr2).1
  | some a =>
    obtain ⟨hr1, hr2⟩ := hret
    rcases hr1 with hr1 | ⟨hr1, ha⟩
    · exact W.iret B.exec B.bytes (B.returns.trans hr1) (fun t ht hW => ⟨⟨some a, h', rfl, hq, by rw [ht]; exact hP', hD'⟩, hS'.F ht⟩) hS'.2.2 (okL_at hL hr2).1
    · exact W.zret B.exec B.bytes (B.returns.trans hr1) (okv_ok (ty := .boolean) (v := vi a) (ρ := ρ) ha).1 (fun t ht hW => ⟨⟨some a, h', rfl, hq, by rw [ht]; exact hP', hD'⟩, hS'.F ht⟩) hS'.2.2 (okL_at hL hr2).1
theorem M0.post {z : ZM} {d : Nat} {as : List AV} {h : List AC} {Q Q' : Option Int → List AC → Prop} (hM : M0 z d as h Q) (hq : ∀ v u, Q v u → Q' v u) : M0 z d as h Q' := by
  intro l D τ ρ sz p e ha hc hk s m args below hf hfit hp hK
  obtain ⟨t, o, h1, h2, h3, h4, h5⟩ := hM l D τ ρ sz p e ha hc hk s m args below hf hfit hp hK
  obtain ⟨⟨v, u, g1, g2, g3, g4⟩, g5⟩ := h4
  exact ⟨t, o, h1, h2, h3, ⟨⟨v, u, g1, hq v u g2, g3, g4⟩, g5⟩, h5⟩
def LKc (own : String) (idx : Nat) (z' : ZM) (np : Nat) : Prop := zok z' ∧ Cond.initialized z'.1.cls ∈ gtb ∧ (z'.1.cls ≠ "java/lang/invoke/MethodHandle" ∧ z'.1.cls ≠ "java/lang/invoke/VarHandle" ∧ (parseMethodDescriptor z'.1.desc).map (fun d => d.parameters.length) = some np) ∧ (Cond.methodLink own idx z'.1 ∈ gtb ∨ ∃ host, Cond.methodLinkNest own idx z'.1 host ∈ nst)
def LSt (own : String) (idx : Nat) (z' : ZM) (np : Nat) : Prop := LKc own idx z' np ∧ Cond.static z'.1 ∈ gtb
def LVt (own : String) (idx : Nat) (z' : ZM) (np ci : Nat) : Prop := LKc own idx z' np ∧ Cond.instanceMethod z'.1 ∈ gtb ∧ Cond.selects z'.1.cls z'.1 z'.1 ∈ gtb ∧ ∃ (T : u_T) (N : Nat), classes[ci]? = some (z'.1.cls, T, N)
theorem zw_good {z' : ZM} (hz : zok z') : GoodIn gtb (zw z') := by
  intro w hw
  rcases List.mem_cons.mp hw with rfl | hw
  · exact gtb_good gtb (fun _ q => q) _ hz.2.1
  · exact gtb_good gtb (fun _ q => q) _ hw
theorem va_A_in {A : Nat → Prop} {ws : va_W} {H0 H : Heap} {locs : List Loc} (hD : va_D A ws) (hS : va_S A H0 H locs) (hA : ∀ q, H0.size ≤ q → A q) : ∀ q, va_A ws H.size q → A q := by
  intro q h
  rcases h with ⟨j, e, h⟩ | h
  · exact hD.2 j (q, e) h
  · exact hA q (Nat.le_trans hS.1 h)
section Rules
variable {z : ZM} {G : GG} {R : Room} {MC MS k n pc pn : Nat} {ls : List (Nat × AV)} {st : List AV} {h : List AC} {Q : Option Int → List AC → Prop}
/-- behind a call -/
theorem AW.behindRun {Q' : Option Int → List AC → Prop} (hn : pc + 3 = pn) (kk : ∀ v u, Q' v u → AW z G R MC MS k n pn ls (v.toList.map vi ++ st) u Q)
    {p : Program} {l : Launch} {e : Env} {s : State} {m : MethodId} {args : Array Value} {below : List Frame} {meth : Method} {c : Code} {D : va_G} {τ : Nat → ClassId} {A : Nat → Prop} {ρ0 ρ : Nat → Nat} {Zf : State → Prop}
    (C : Cx z p s m args meth c) (hK : KK D τ s) (hA : ∀ q, s.heap.size ≤ q → A q) (hG : G ρ0 ρ)
    (hZ : ∀ (v : Option Int) (h' : List AC) (ρ' : Nat → Nat) (H' : Heap) (locs' : List Loc) (ls' : Array Slot) (pc' : Nat), Q v h' → rets z pc' v → G ρ0 ρ' → va_P D classes (cw ρ' τ h') H' → va_D A (cw ρ' τ h') → va_S A s.heap H' locs' →
      W p l e R s m args below meth c H' locs' MC MS Zf (F0 m pc' ls' (v.toList.map (fun a => Value.int (iI a)))))
    {H : Heap} {locs : List Loc} {lsA : Array Slot} (hD : va_D A (cw ρ τ h)) (hS : va_S A s.heap H locs) (hl : lv_has lsA z.2.2.1 (cl ρ ls)) {st0 : List Value} {a : Array Value}
    (hr : va_Run p l e R s m args below meth c H locs k n 0 0 (F0 m pc lsA st0) (st.map (cv ρ)) (QM Q' D τ ρ (va_A (cw ρ τ h) H.size) a) (va_A (cw ρ τ h) H.size)) :
    W p l e R s m args below meth c H locs k n Zf (F0 m pc lsA st0) := by
  subst hn
  have hF := va_A_in hD hS hA
  intro T hT X
  obtain ⟨v, st₀, t, T', L, h0, X', hL, e1, e2, ⟨⟨v', u, hv, hq, hP1, hD1⟩, hz, hk⟩, stp⟩ := hr T hT X
  rw [h0] at hz hk
  have ev : v = v'.map (fun a => Value.int (iI a)) := by cases hv; rfl
  subst ev
  have hS1 : va_S A s.heap T'.heap (locs ++ L) := ⟨Nat.le_trans hS.1 (by rw [e1]; exact hz), fun q h1 h2 => by rw [e1, hk q (Nat.lt_of_lt_of_le h1 hS.1) (fun w => h2 (hF q w))]; exact hS.2.1 q h1 h2, fun q hq => by
      rcases List.mem_append.mp hq with h | h
      · exact hS.2.2 q h
      · exact hF _ (hL q h)⟩
  obtain ⟨t2, a1, b1⟩ := kk v' u hq p l e s m args below meth c D τ A ρ0 ρ Zf C hK hA hG hZ T'.heap (locs ++ L) lsA (by rw [e1]; exact hP1) (hD1.weaken (fun _ q _ w => hF q.1 w)) hS1 hl T' rfl X'
  refine ⟨t2, stp t2 ?_, b1⟩
  cases v' <;> exact a1
theorem AW.callS {Q' : Option Int → List AC → Prop} {z' : ZM} {idx d np : Nat} {as : List AV} {st0 : List AV} (hf : ftch z.2.2.2.2 pc = some (.invokestatic idx, 3)) (hn : pc + 3 = pn) (lk : LSt z.1.cls idx z' np) (hM : M0 z' d as h Q') (hst : st0 = as.reverse ++ st) (hnp : as.length = np) (hw : (st.map acat).sum ≤ 8) (hR : d + 1 ≤ R.frames ∧ 40 * (d + 1) ≤ R.locals) (hc0 : k ≤ R.cells ∧ n ≤ R.slots)
    (kk : ∀ v u, Q' v u → AW z G R MC MS k n pn ls (v.toList.map vi ++ st) u Q) : AW z G R MC MS k n pc ls st0 h Q := by
  intro p l e s m args below meth c D τ A ρ0 ρ Zf C hK hA hG hZ H locs lsA hP hD hS hl
  obtain ⟨hx, hb', hml, hown, hts, hL, -, -, -⟩ := id C
  obtain ⟨⟨hz, hini, hd, hlk⟩, hstt⟩ := lk
  have hRR : (rmd d).frames + 1 ≤ R.frames ∧ 8 + (z'.2.2.1 + 11) + (rmd d).locals ≤ R.locals := ⟨hR.1, by have := hR.2; have := hz.2.2.2; show 8 + (z'.2.2.1 + 11) + 40 * d ≤ R.locals; omega⟩
  have hpre : PreS s H (PM as h D τ ρ H.size) (as.map (cv ρ)) := ⟨PM_blind _ _ _ _ _ _, fun U hU hW => ⟨rfl, by rw [hU], by rw [hU]; exact hP, hK.warm hW, hD.weaken (fun _ _ _ _ => trivial)⟩⟩
  have hstk : (F0 m pc lsA (st0.map (cv ρ))).stack = (as.map (cv ρ)).reverse ++ st.map (cv ρ) := by
    show st0.map (cv ρ) = _
    rw [hst, List.map_append, List.map_reverse]
  have hWd : 2 * (F0 m pc lsA (st0.map (cv ρ))).monitorRoom + ((st.map (cv ρ)).map fun v => v.category).sum ≤ 8 := by
    refine lv_room ?_
    rw [List.map_map, show st.map ((fun v => v.category) ∘ cv ρ) = st.map acat from List.map_congr_left (fun v _ => cv_cat ρ v)]
    exact hw
  refine AW.behindRun hn kk C hK hA hG hZ hD hS hl (a := (as.map (cv ρ)).toArray) ?_
  rcases hlk with hlk | ⟨host, hlk⟩
  · exact va_runS (As := as.map (cv ρ)) ⟨hx, hb', hml, hown, hts⟩ (hM l D τ ρ H.size) ⟨callB_of np hts (zw_good hz) rfl rfl rfl (hts _ hini) (hts _ hlk) hd hRR, hts _ hstt⟩ hpre rfl (by rw [List.length_map]; exact hnp) hl.1 hstk hWd (okL_at hL hf).1 hc0
  · exact va_runSN (As := as.map (cv ρ)) ⟨hx, hb', hml, hown, hts⟩ (hM l D τ ρ H.size) ⟨va_cnB np hts (zw_good hz) rfl rfl rfl (hK.2 _ hlk) (hts _ hini) hd hRR, hts _ hstt, trivial⟩ hpre rfl (by rw [List.length_map]; exact hnp) hl.1 hstk hWd (okL_at hL hf).1 hc0
theorem AW.callV {Q' : Option Int → List AC → Prop} {z' : ZM} {idx d np ci i : Nat} {fs : List AV} {as : List AV} {st0 : List AV} (hf : ftch z.2.2.2.2 pc = some (.invokevirtual idx, 3)) (hn : pc + 3 = pn) (lk : LVt z.1.cls idx z' np ci) (hh : h[i]? = some (ao ci fs)) (hM : M0 z' d (vr i :: as) h Q') (hst : st0 = as.reverse ++ vr i :: st) (hnp : as.length = np) (hw : (st.map acat).sum ≤ 8) (hR : d + 1 ≤ R.frames ∧ 40 * (d + 1) ≤ R.locals) (hc0 : k ≤ R.cells ∧ n ≤ R.slots)
    (kk : ∀ v u, Q' v u → AW z G R MC MS k n pn ls (v.toList.map vi ++ st) u Q) : AW z G R MC MS k n pc ls st0 h Q := by
  intro p l e s m args below meth c D τ A ρ0 ρ Zf C hK hA hG hZ H locs lsA hP hD hS hl
  obtain ⟨hx, hb', hml, hown, hts, hL, -, -, -⟩ := id C
  obtain ⟨⟨hz, hini, hd, hlk⟩, hins, hsel, T, N, hci⟩ := lk
  have hRR : (rmd d).frames + 1 ≤ R.frames ∧ 8 + (z'.2.2.1 + 11) + (rmd d).locals ≤ R.locals := ⟨hR.1, by have := hR.2; have := hz.2.2.2; show 8 + (z'.2.2.1 + 11) + 40 * d ≤ R.locals; omega⟩
  have hpre : PreV s H z'.1.cls (ρ i) (PM (vr i :: as) h D τ ρ H.size) (as.map (cv ρ)) := ⟨PM_blind _ _ _ _ _ _, va_recv hK.1 hP hci (cw_get hh), fun U hU hW => ⟨rfl, by rw [hU], by rw [hU]; exact hP, hK.warm hW, hD.weaken (fun _ _ _ _ => trivial)⟩⟩
  have hstk : (F0 m pc lsA (st0.map (cv ρ))).stack = (as.map (cv ρ)).reverse ++ Value.ref (ρ i) :: st.map (cv ρ) := by
    show st0.map (cv ρ) = _
    rw [hst, List.map_append, List.map_reverse]; rfl
  have hWd : 2 * (F0 m pc lsA (st0.map (cv ρ))).monitorRoom + ((st.map (cv ρ)).map fun v => v.category).sum ≤ 8 := by
    refine lv_room ?_
    rw [List.map_map, show st.map ((fun v => v.category) ∘ cv ρ) = st.map acat from List.map_congr_left (fun v _ => cv_cat ρ v)]
    exact hw
  refine AW.behindRun hn kk C hK hA hG hZ hD hS hl (a := (Value.ref (ρ i) :: as.map (cv ρ)).toArray) ?_
  rcases hlk with hlk | ⟨host, hlk⟩
  · exact va_runV (As := as.map (cv ρ)) ⟨hx, hb', hml, hown, hts⟩ (hM l D τ ρ H.size) ⟨callB_of np hts (zw_good hz) rfl rfl rfl (hts _ hini) (hts _ hlk) hd hRR, hts _ hins, hts _ hsel⟩ hpre rfl (by rw [List.length_map]; exact hnp) hl.1 hstk hWd (okL_at hL hf).1 hc0
  · exact va_runVN (As := as.map (cv ρ)) ⟨hx, hb', hml, hown, hts⟩ (hM l D τ ρ H.size) ⟨va_cnB np hts (zw_good hz) rfl rfl rfl (hK.2 _ hlk) (hts _ hini) hd hRR, hts _ hins, hts _ hsel⟩ hpre rfl (by rw [List.length_map]; exact hnp) hl.1 hstk hWd (okL_at hL hf).1 hc0
theorem AW.tin {a lo hi dflt : Int} {offs : Array Int} {len : Nat} {off : Int} {tgt : Nat} (hf : ftch z.2.2.2.2 pc = some (.tableswitch dflt lo hi offs, len)) (ha : rng a) (h1 : lo ≤ a) (h2 : a ≤ hi) (ho : offs[(a - lo).toNat]? = some off) (ht : (pc : Int) + off = (tgt : Int))
    (kk : AW z G R MC MS k n tgt ls st h Q) : AW z G R MC MS k n pc ls (vi a :: st) h Q := by
  refine AW.fr ?_ kk
  intro p l e s m args below meth c ρ H locs lsA Zf C hl K
  obtain ⟨hx, hb', -, -, -, hL, -, -, -⟩ := C
  exact lv_tableIn hx hb' (okL_at hL hf).1 (by rw [iI_toInt ha]; omega) (by rw [iI_toInt ha]; omega) (by rw [iI_toInt ha]; exact ho) ht (K lsA hl)
theorem AW.tout {a lo hi dflt : Int} {offs : Array Int} {len : Nat} {tgt : Nat} (hf : ftch z.2.2.2.2 pc = some (.tableswitch dflt lo hi offs, len)) (ha : rng a) (h1 : a < lo ∨ hi < a) (ht : (pc : Int) + dflt = (tgt : Int))
    (kk : AW z G R MC MS k n tgt ls st h Q) : AW z G R MC MS k n pc ls (vi a :: st) h Q := by
  refine AW.fr ?_ kk
  intro p l e s m args below meth c ρ H locs lsA Zf C hl K
  obtain ⟨hx, hb', -, -, -, hL, -, -, -⟩ := C
  exact lv_tableOut hx hb' (okL_at hL hf).1 (by rw [iI_toInt ha]; exact h1) ht (K lsA hl)
end Rules
end
section
theorem fc0 : ∀ w ∈ u_ws RX0 TX0 2, w ∈ gtb := by decide +kernel
theorem fc1 : ∀ w ∈ u_ws RX1 TX1 6, w ∈ gtb := by decide +kernel
theorem fc2 : ∀ w ∈ u_ws RX2 TX2 3, w ∈ gtb := by decide +kernel
theorem fc3 : ∀ w ∈ u_ws RX3 TX3 5, w ∈ gtb := by decide +kernel
theorem fc4 : ∀ w ∈ u_ws RX4 TX4 14, w ∈ gtb := by decide +kernel
def zX3_init : ZM := (yX3_init, cX3_init, 2, none, [(0, .aload_n 0, 1), (1, .invokespecial 1, 3), (4, .aload_n 0, 1), (5, .new 7, 3), (8, .dup, 1), (9, .invokespecial 9, 3), (12, .putfield 10, 3), (15, .aload_n 0, 1), (16, .new 16, 3), (19, .dup, 1), (20, .invokespecial 18, 3), (23, .putfield 19, 3), (26, .aload_n 0, 1), (27, .iconst 2, 1), (28, .anewarray 16, 3), (31, .putfield 23, 3), (34, .iconst 0, 1), (35, .istore_n 1, 1), (36, .iload_n 1, 1), (37, .iconst 2, 1), (38, .if_icmp .ge 22, 3), (41, .aload_n 0, 1), (42, .getfield 23, 3), (45, .iload_n 1, 1), (46, .new 16, 3), (49, .dup, 1), (50, .invokespecial 18, 3), (53, .aastore, 1), (54, .iinc 1 1, 3), (57, .goto (-21), 3), (60, .aload_n 0, 1), (61, .new 27, 3), (64, .dup, 1), (65, .invokespecial 29, 3), (68, .putfield 30, 3), (71, .aload_n 0, 1), (72, .bipush 12, 2), (74, .newarray .int, 2), (76, .putfield 34, 3), (79, .return_, 1)])
theorem okX3_init : zok zX3_init := ⟨okL_dec (by decide +kernel), gtb_in 57 (by decide +kernel) (by decide +kernel), by decide +kernel, by decide +kernel⟩
def zX0_init : ZM := (yX0_init, cX0_init, 1, none, [(0, .aload_n 0, 1), (1, .invokespecial 3, 3), (4, .aload_n 0, 1), (5, .bipush 20, 2), (7, .newarray .int, 2), (9, .putfield 11, 3), (12, .aload_n 0, 1), (13, .iconst 0, 1), (14, .putfield 15, 3), (17, .return_, 1)])
theorem okX0_init : zok zX0_init := ⟨okL_dec (by decide +kernel), gtb_in 65 (by decide +kernel) (by decide +kernel), by decide +kernel, by decide +kernel⟩
def zX2_init : ZM := (yX2_init, cX2_init, 3, none, [(0, .aload_n 0, 1), (1, .invokespecial 3, 3), (4, .aload_n 0, 1), (5, .iconst 4, 1), (6, .bipush 12, 2), (8, .multianewarray 9 2, 4), (12, .putfield 11, 3), (15, .aload_n 0, 1), (16, .bipush 12, 2), (18, .newarray .int, 2), (20, .putfield 16, 3), (23, .aload_n 0, 1), (24, .iconst 0, 1), (25, .putfield 20, 3), (28, .iconst 0, 1), (29, .istore_n 1, 1), (30, .iload_n 1, 1), (31, .bipush 12, 2), (33, .if_icmp .ge 39, 3), (36, .aload_n 0, 1), (37, .getfield 16, 3), (40, .iload_n 1, 1), (41, .bipush (-6), 2), (43, .iastore, 1), (44, .iconst 0, 1), (45, .istore_n 2, 1), (46, .iload_n 2, 1), (47, .iconst 4, 1), (48, .if_icmp .ge 18, 3), (51, .aload_n 0, 1), (52, .getfield 11, 3), (55, .iload_n 2, 1), (56, .aaload, 1), (57, .iload_n 1, 1), (58, .iload_n 1, 1), (59, .iastore, 1), (60, .iinc 2 1, 3), (63, .goto (-17), 3), (66, .iinc 1 1, 3), (69, .goto (-39), 3), (72, .return_, 1)])
theorem okX2_init : zok zX2_init := ⟨okL_dec (by decide +kernel), gtb_in 80 (by decide +kernel) (by decide +kernel), by decide +kernel, by decide +kernel⟩
def zX1_init : ZM := (yX1_init, cX1_init, 1, none, [(0, .aload_n 0, 1), (1, .invokespecial 3, 3), (4, .aload_n 0, 1), (5, .bipush 48, 2), (7, .newarray .int, 2), (9, .putfield 9, 3), (12, .aload_n 0, 1), (13, .bipush 48, 2), (15, .newarray .int, 2), (17, .putfield 15, 3), (20, .aload_n 0, 1), (21, .iconst 0, 1), (22, .putfield 18, 3), (25, .aload_n 0, 1), (26, .iconst 0, 1), (27, .putfield 22, 3), (30, .aload_n 0, 1), (31, .iconst 0, 1), (32, .putfield 25, 3), (35, .aload_n 0, 1), (36, .iconst 0, 1), (37, .putfield 28, 3), (40, .return_, 1)])
theorem okX1_init : zok zX1_init := ⟨okL_dec (by decide +kernel), gtb_in 102 (by decide +kernel) (by decide +kernel), by decide +kernel, by decide +kernel⟩
def zX3_say : ZM := (yX3_say, cX3_say, 2, (some .int), [(0, .iload_n 1, 1), (1, .bipush 33, 2), (3, .if_icmp .lt 9, 3), (6, .iload_n 1, 1), (7, .bipush 126, 2), (9, .if_icmp .le 6, 3), (12, .bipush (-2), 2), (14, .ireturn, 1), (15, .aload_n 0, 1), (16, .getfield 10, 3), (19, .invokevirtual 38, 3), (22, .ifCond .eq 8, 3), (25, .bipush (-4), 2), (27, .goto 11, 3), (30, .aload_n 0, 1), (31, .getfield 10, 3), (34, .iload_n 1, 1), (35, .invokevirtual 42, 3), (38, .ireturn, 1)])
theorem okX3_say : zok zX3_say := ⟨okL_dec (by decide +kernel), gtb_in 142 (by decide +kernel) (by decide +kernel), by decide +kernel, by decide +kernel⟩
def zX0_isFull : ZM := (yX0_isFull, cX0_isFull, 1, (some .boolean), [(0, .aload_n 0, 1), (1, .getfield 15, 3), (4, .bipush 20, 2), (6, .if_icmp .lt 7, 3), (9, .iconst 1, 1), (10, .goto 4, 3), (13, .iconst 0, 1), (14, .ireturn, 1)])
theorem okX0_isFull : zok zX0_isFull := ⟨okL_dec (by decide +kernel), gtb_in 146 (by decide +kernel) (by decide +kernel), by decide +kernel, by decide +kernel⟩
def zX0_add : ZM := (yX0_add, cX0_add, 2, (some .int), [(0, .aload_n 0, 1), (1, .invokevirtual 19, 3), (4, .ifCond .ne 23, 3), (7, .aload_n 0, 1), (8, .getfield 11, 3), (11, .aload_n 0, 1), (12, .getfield 15, 3), (15, .iload_n 1, 1), (16, .iastore, 1), (17, .aload_n 0, 1), (18, .dup, 1), (19, .getfield 15, 3), (22, .iconst 1, 1), (23, .iadd, 1), (24, .putfield 15, 3), (27, .aload_n 0, 1), (28, .getfield 15, 3), (31, .ireturn, 1)])
theorem okX0_add : zok zX0_add := ⟨okL_dec (by decide +kernel), gtb_in 150 (by decide +kernel) (by decide +kernel), by decide +kernel, by decide +kernel⟩
def zX3_wipe : ZM := (yX3_wipe, cX3_wipe, 1, (some .int), [(0, .aload_n 0, 1), (1, .getfield 10, 3), (4, .invokevirtual 46, 3), (7, .ireturn, 1)])
theorem okX3_wipe : zok zX3_wipe := ⟨okL_dec (by decide +kernel), gtb_in 155 (by decide +kernel) (by decide +kernel), by decide +kernel, by decide +kernel⟩
def zX0_empty : ZM := (yX0_empty, cX0_empty, 2, (some .int), [(0, .aload_n 0, 1), (1, .getfield 15, 3), (4, .istore_n 1, 1), (5, .aload_n 0, 1), (6, .iconst 0, 1), (7, .putfield 15, 3), (10, .iload_n 1, 1), (11, .ireturn, 1)])
theorem okX0_empty : zok zX0_empty := ⟨okL_dec (by decide +kernel), gtb_in 159 (by decide +kernel) (by decide +kernel), by decide +kernel, by decide +kernel⟩
def zX3_fault : ZM := (yX3_fault, cX3_fault, 2, (some .int), [(0, .iload_n 1, 1), (1, .tableswitch 53 0 2 #[27, 36, 45], 27), (28, .aload_n 0, 1), (29, .getfield 10, 3), (32, .iconst 0, 1), (33, .invokevirtual 50, 3), (36, .ireturn, 1), (37, .aload_n 0, 1), (38, .getfield 10, 3), (41, .iconst 1, 1), (42, .invokevirtual 50, 3), (45, .ireturn, 1), (46, .aload_n 0, 1), (47, .getfield 10, 3), (50, .invokevirtual 54, 3), (53, .ireturn, 1), (54, .bipush (-2), 2), (56, .ireturn, 1)])
theorem okX3_fault : zok zX3_fault := ⟨okL_dec (by decide +kernel), gtb_in 163 (by decide +kernel) (by decide +kernel), by decide +kernel, by decide +kernel⟩
def zX0_rowFault : ZM := (yX0_rowFault, cX0_rowFault, 6, (some .int), [(0, .iconst 0, 1), (1, .istore_n 2, 1), (2, .iconst 0, 1), (3, .istore_n 3, 1), (4, .iload_n 3, 1), (5, .bipush 12, 2), (7, .if_icmp .ge 59, 3), (10, .aload_n 0, 1), (11, .iload_n 3, 1), (12, .invokevirtual 23, 3), (15, .istore 4, 2), (17, .iload_n 1, 1), (18, .ifCond .eq 10, 3), (21, .iload 4, 2), (23, .bipush 63, 2), (25, .if_icmp .eq 35, 3), (28, .iload 4, 2), (30, .invokestatic 27, 3), (33, .istore 5, 2), (35, .iload 5, 2), (37, .bipush (-6), 2), (39, .if_icmp .eq 12, 3), (42, .iload_n 2, 1), (43, .iconst 1, 1), (44, .iload 5, 2), (46, .ishl, 1), (47, .iand, 1), (48, .ifCond .eq 5, 3), (51, .iload_n 3, 1), (52, .ireturn, 1), (53, .iload_n 2, 1), (54, .iconst 1, 1), (55, .iload 5, 2), (57, .ishl, 1), (58, .ior, 1), (59, .istore_n 2, 1), (60, .iinc 3 1, 3), (63, .goto (-59), 3), (66, .aload_n 0, 1), (67, .getfield 15, 3), (70, .bipush 12, 2), (72, .if_icmp .le 8, 3), (75, .bipush 12, 2), (77, .goto 5, 3), (80, .bipush (-6), 2), (82, .ireturn, 1)])
theorem okX0_rowFault : zok zX0_rowFault := ⟨okL_dec (by decide +kernel), gtb_in 167 (by decide +kernel) (by decide +kernel), by decide +kernel, by decide +kernel⟩
def zX0_signAt : ZM := (yX0_signAt, cX0_signAt, 2, (some .int), [(0, .iload_n 1, 1), (1, .ifCond .lt 20, 3), (4, .iload_n 1, 1), (5, .aload_n 0, 1), (6, .getfield 15, 3), (9, .if_icmp .ge 12, 3), (12, .aload_n 0, 1), (13, .getfield 11, 3), (16, .iload_n 1, 1), (17, .iaload, 1), (18, .goto 5, 3), (21, .bipush (-6), 2), (23, .ireturn, 1)])
theorem okX0_signAt : zok zX0_signAt := ⟨okL_dec (by decide +kernel), gtb_in 171 (by decide +kernel) (by decide +kernel), by decide +kernel, by decide +kernel⟩
def zX3_signTone : ZM := (yX3_signTone, cX3_signTone, 1, (some .int), [(0, .iload_n 0, 1), (1, .bipush 48, 2), (3, .if_icmp .lt 14, 3), (6, .iload_n 0, 1), (7, .bipush 57, 2), (9, .if_icmp .gt 8, 3), (12, .iload_n 0, 1), (13, .bipush 48, 2), (15, .isub, 1), (16, .ireturn, 1), (17, .iload_n 0, 1), (18, .bipush 116, 2), (20, .if_icmp .ne 6, 3), (23, .bipush 10, 2), (25, .ireturn, 1), (26, .iload_n 0, 1), (27, .bipush 101, 2), (29, .if_icmp .ne 8, 3), (32, .bipush 11, 2), (34, .goto 5, 3), (37, .bipush (-6), 2), (39, .ireturn, 1)])
theorem okX3_signTone : zok zX3_signTone := ⟨okL_dec (by decide +kernel), gtb_in 174 (by decide +kernel) (by decide +kernel), by decide +kernel, by decide +kernel⟩
def zX0_formFault : ZM := (yX0_formFault, cX0_formFault, 5, (some .int), [(0, .aload_n 0, 1), (1, .invokevirtual 30, 3), (4, .istore_n 1, 1), (5, .aload_n 0, 1), (6, .iload_n 1, 1), (7, .invokevirtual 23, 3), (10, .istore_n 2, 1), (11, .iload_n 1, 1), (12, .ifCond .eq 15, 3), (15, .iload_n 2, 1), (16, .bipush 48, 2), (18, .if_icmp .lt 9, 3), (21, .iload_n 2, 1), (22, .bipush 57, 2), (24, .if_icmp .le 5, 3), (27, .iload_n 1, 1), (28, .ireturn, 1), (29, .iload_n 1, 1), (30, .iconst 1, 1), (31, .iadd, 1), (32, .istore_n 3, 1), (33, .aload_n 0, 1), (34, .iload_n 3, 1), (35, .invokevirtual 23, 3), (38, .istore 4, 2), (40, .iload_n 2, 1), (41, .bipush 49, 2), (43, .if_icmp .ne 20, 3), (46, .iload 4, 2), (48, .bipush 48, 2), (50, .if_icmp .eq 10, 3), (53, .iload 4, 2), (55, .bipush 49, 2), (57, .if_icmp .ne 6, 3), (60, .iinc 3 1, 3), (63, .aload_n 0, 1), (64, .getfield 15, 3), (67, .iload_n 3, 1), (68, .if_icmp .le 7, 3), (71, .iload_n 3, 1), (72, .goto 5, 3), (75, .bipush (-6), 2), (77, .ireturn, 1)])
theorem okX0_formFault : zok zX0_formFault := ⟨okL_dec (by decide +kernel), gtb_in 178 (by decide +kernel) (by decide +kernel), by decide +kernel, by decide +kernel⟩
def zX0_kindSigns : ZM := (yX0_kindSigns, cX0_kindSigns, 2, (some .int), [(0, .aload_n 0, 1), (1, .iconst 0, 1), (2, .invokevirtual 23, 3), (5, .istore_n 1, 1), (6, .iload_n 1, 1), (7, .bipush 82, 2), (9, .if_icmp .ne 19, 3), (12, .aload_n 0, 1), (13, .iconst 1, 1), (14, .invokevirtual 23, 3), (17, .bipush 73, 2), (19, .if_icmp .ne 7, 3), (22, .iconst 2, 1), (23, .goto 4, 3), (26, .iconst 1, 1), (27, .ireturn, 1), (28, .iload_n 1, 1), (29, .bipush 80, 2), (31, .if_icmp .eq 9, 3), (34, .iload_n 1, 1), (35, .bipush 73, 2), (37, .if_icmp .ne 7, 3), (40, .iconst 1, 1), (41, .goto 4, 3), (44, .iconst 0, 1), (45, .ireturn, 1)])
theorem okX0_kindSigns : zok zX0_kindSigns := ⟨okL_dec (by decide +kernel), gtb_in 182 (by decide +kernel) (by decide +kernel), by decide +kernel, by decide +kernel⟩
def zX3_load : ZM := (yX3_load, cX3_load, 2, (some .int), [(0, .iload_n 1, 1), (1, .invokestatic 57, 3), (4, .ifCond .ne 5, 3), (7, .iconst (-1), 1), (8, .ireturn, 1), (9, .aload_n 0, 1), (10, .getfield 10, 3), (13, .iconst 0, 1), (14, .invokevirtual 50, 3), (17, .bipush (-6), 2), (19, .if_icmp .eq 6, 3), (22, .bipush (-5), 2), (24, .ireturn, 1), (25, .aload_n 0, 1), (26, .getfield 10, 3), (29, .aload_n 0, 1), (30, .getfield 19, 3), (33, .getfield 61, 3), (36, .iload_n 1, 1), (37, .aaload, 1), (38, .invokevirtual 65, 3), (41, .aload_n 0, 1), (42, .getfield 10, 3), (45, .invokevirtual 46, 3), (48, .pop, 1), (49, .iconst 1, 1), (50, .ireturn, 1)])
theorem okX3_load : zok zX3_load := ⟨okL_dec (by decide +kernel), gtb_in 186 (by decide +kernel) (by decide +kernel), by decide +kernel, by decide +kernel⟩
def zX3_isRow : ZM := (yX3_isRow, cX3_isRow, 1, (some .boolean), [(0, .iload_n 0, 1), (1, .ifCond .lt 12, 3), (4, .iload_n 0, 1), (5, .iconst 4, 1), (6, .if_icmp .ge 7, 3), (9, .iconst 1, 1), (10, .goto 4, 3), (13, .iconst 0, 1), (14, .ireturn, 1)])
theorem okX3_isRow : zok zX3_isRow := ⟨okL_dec (by decide +kernel), gtb_in 189 (by decide +kernel) (by decide +kernel), by decide +kernel, by decide +kernel⟩
def zX0_copyTones : ZM := (yX0_copyTones, cX0_copyTones, 3, none, [(0, .iconst 0, 1), (1, .istore_n 2, 1), (2, .iload_n 2, 1), (3, .bipush 12, 2), (5, .if_icmp .ge 20, 3), (8, .aload_n 1, 1), (9, .iload_n 2, 1), (10, .aload_n 0, 1), (11, .iload_n 2, 1), (12, .invokevirtual 23, 3), (15, .invokestatic 27, 3), (18, .iastore, 1), (19, .iinc 2 1, 3), (22, .goto (-20), 3), (25, .return_, 1)])
theorem okX0_copyTones : zok zX0_copyTones := ⟨okL_dec (by decide +kernel), gtb_in 193 (by decide +kernel) (by decide +kernel), by decide +kernel, by decide +kernel⟩
def zX3_punch : ZM := (yX3_punch, cX3_punch, 1, (some .int), [(0, .aload_n 0, 1), (1, .getfield 10, 3), (4, .iconst 1, 1), (5, .invokevirtual 50, 3), (8, .bipush (-6), 2), (10, .if_icmp .eq 6, 3), (13, .bipush (-5), 2), (15, .ireturn, 1), (16, .aload_n 0, 1), (17, .getfield 10, 3), (20, .aload_n 0, 1), (21, .getfield 19, 3), (24, .getfield 69, 3), (27, .invokevirtual 65, 3), (30, .aload_n 0, 1), (31, .getfield 10, 3), (34, .invokevirtual 46, 3), (37, .pop, 1), (38, .aload_n 0, 1), (39, .getfield 19, 3), (42, .getfield 69, 3), (45, .invokestatic 72, 3), (48, .ireturn, 1)])
theorem okX3_punch : zok zX3_punch := ⟨okL_dec (by decide +kernel), gtb_in 197 (by decide +kernel) (by decide +kernel), by decide +kernel, by decide +kernel⟩
def zX3_holesOf : ZM := (yX3_holesOf, cX3_holesOf, 3, (some .int), [(0, .iconst 0, 1), (1, .istore_n 1, 1), (2, .iconst 0, 1), (3, .istore_n 2, 1), (4, .iload_n 2, 1), (5, .bipush 12, 2), (7, .if_icmp .ge 20, 3), (10, .aload_n 0, 1), (11, .iload_n 2, 1), (12, .iaload, 1), (13, .bipush (-6), 2), (15, .if_icmp .ne 6, 3), (18, .iinc 1 1, 3), (21, .iinc 2 1, 3), (24, .goto (-20), 3), (27, .iload_n 1, 1), (28, .ireturn, 1)])
theorem okX3_holesOf : zok zX3_holesOf := ⟨okL_dec (by decide +kernel), gtb_in 200 (by decide +kernel) (by decide +kernel), by decide +kernel, by decide +kernel⟩
def zX3_named : ZM := (yX3_named, cX3_named, 1, (some .int), [(0, .aload_n 0, 1), (1, .getfield 10, 3), (4, .invokevirtual 54, 3), (7, .bipush (-6), 2), (9, .if_icmp .ne 13, 3), (12, .aload_n 0, 1), (13, .getfield 10, 3), (16, .invokevirtual 76, 3), (19, .goto 5, 3), (22, .bipush (-5), 2), (24, .ireturn, 1)])
theorem okX3_named : zok zX3_named := ⟨okL_dec (by decide +kernel), gtb_in 204 (by decide +kernel) (by decide +kernel), by decide +kernel, by decide +kernel⟩
def zX0_formNumber : ZM := (yX0_formNumber, cX0_formNumber, 5, (some .int), [(0, .aload_n 0, 1), (1, .invokevirtual 30, 3), (4, .istore_n 1, 1), (5, .aload_n 0, 1), (6, .iconst 0, 1), (7, .invokevirtual 23, 3), (10, .bipush 82, 2), (12, .if_icmp .ne 7, 3), (15, .iconst 2, 1), (16, .goto 4, 3), (19, .iconst 0, 1), (20, .aload_n 0, 1), (21, .iload_n 1, 1), (22, .iconst 1, 1), (23, .isub, 1), (24, .invokevirtual 23, 3), (27, .bipush 73, 2), (29, .if_icmp .ne 7, 3), (32, .iconst 1, 1), (33, .goto 4, 3), (36, .iconst 0, 1), (37, .iadd, 1), (38, .istore_n 2, 1), (39, .iconst 0, 1), (40, .istore_n 3, 1), (41, .iload_n 1, 1), (42, .istore 4, 2), (44, .iload 4, 2), (46, .aload_n 0, 1), (47, .getfield 15, 3), (50, .if_icmp .ge 24, 3), (53, .iload_n 3, 1), (54, .bipush 10, 2), (56, .imul, 1), (57, .aload_n 0, 1), (58, .iload 4, 2), (60, .invokevirtual 23, 3), (63, .iadd, 1), (64, .bipush 48, 2), (66, .isub, 1), (67, .istore_n 3, 1), (68, .iinc 4 1, 3), (71, .goto (-27), 3), (74, .iload_n 2, 1), (75, .bipush 12, 2), (77, .imul, 1), (78, .iload_n 3, 1), (79, .iadd, 1), (80, .ireturn, 1)])
theorem okX0_formNumber : zok zX0_formNumber := ⟨okL_dec (by decide +kernel), gtb_in 208 (by decide +kernel) (by decide +kernel), by decide +kernel, by decide +kernel⟩
def zX3_tone : ZM := (yX3_tone, cX3_tone, 3, (some .int), [(0, .iload_n 1, 1), (1, .invokestatic 57, 3), (4, .ifCond .ne 5, 3), (7, .iconst (-1), 1), (8, .ireturn, 1), (9, .iload_n 2, 1), (10, .invokestatic 79, 3), (13, .ifCond .eq 17, 3), (16, .aload_n 0, 1), (17, .getfield 19, 3), (20, .getfield 61, 3), (23, .iload_n 1, 1), (24, .aaload, 1), (25, .iload_n 2, 1), (26, .iaload, 1), (27, .goto 5, 3), (30, .bipush (-2), 2), (32, .ireturn, 1)])
theorem okX3_tone : zok zX3_tone := ⟨okL_dec (by decide +kernel), gtb_in 212 (by decide +kernel) (by decide +kernel), by decide +kernel, by decide +kernel⟩
def zX3_isPlace : ZM := (yX3_isPlace, cX3_isPlace, 1, (some .boolean), [(0, .iload_n 0, 1), (1, .ifCond .lt 13, 3), (4, .iload_n 0, 1), (5, .bipush 12, 2), (7, .if_icmp .ge 7, 3), (10, .iconst 1, 1), (11, .goto 4, 3), (14, .iconst 0, 1), (15, .ireturn, 1)])
theorem okX3_isPlace : zok zX3_isPlace := ⟨okL_dec (by decide +kernel), gtb_in 215 (by decide +kernel) (by decide +kernel), by decide +kernel, by decide +kernel⟩
def zX3_turn : ZM := (yX3_turn, cX3_turn, 5, (some .int), [(0, .iload_n 1, 1), (1, .invokestatic 57, 3), (4, .ifCond .eq 17, 3), (7, .iload_n 2, 1), (8, .invokestatic 82, 3), (11, .ifCond .eq 10, 3), (14, .iload_n 3, 1), (15, .invokestatic 57, 3), (18, .ifCond .ne 5, 3), (21, .iconst (-1), 1), (22, .ireturn, 1), (23, .iconst 0, 1), (24, .istore 4, 2), (26, .iload 4, 2), (28, .bipush 12, 2), (30, .if_icmp .ge 33, 3), (33, .aload_n 0, 1), (34, .getfield 34, 3), (37, .iload 4, 2), (39, .aload_n 0, 1), (40, .getfield 19, 3), (43, .getfield 61, 3), (46, .iload_n 1, 1), (47, .aaload, 1), (48, .bipush 12, 2), (50, .iload_n 2, 1), (51, .iload 4, 2), (53, .invokestatic 85, 3), (56, .iastore, 1), (57, .iinc 4 1, 3), (60, .goto (-34), 3), (63, .aload_n 0, 1), (64, .getfield 34, 3), (67, .iconst 0, 1), (68, .aload_n 0, 1), (69, .getfield 19, 3), (72, .getfield 61, 3), (75, .iload_n 3, 1), (76, .aaload, 1), (77, .iconst 0, 1), (78, .bipush 12, 2), (80, .invokestatic 89, 3), (83, .iconst 1, 1), (84, .ireturn, 1)])
theorem okX3_turn : zok zX3_turn := ⟨okL_dec (by decide +kernel), gtb_in 219 (by decide +kernel) (by decide +kernel), by decide +kernel, by decide +kernel⟩
def zX3_isForm : ZM := (yX3_isForm, cX3_isForm, 1, (some .boolean), [(0, .iload_n 0, 1), (1, .ifCond .lt 13, 3), (4, .iload_n 0, 1), (5, .bipush 48, 2), (7, .if_icmp .ge 7, 3), (10, .iconst 1, 1), (11, .goto 4, 3), (14, .iconst 0, 1), (15, .ireturn, 1)])
theorem okX3_isForm : zok zX3_isForm := ⟨okL_dec (by decide +kernel), gtb_in 222 (by decide +kernel) (by decide +kernel), by decide +kernel, by decide +kernel⟩
def zX3_formTone : ZM := (yX3_formTone, cX3_formTone, 4, (some .int), [(0, .aload_n 0, 1), (1, .iload_n 2, 1), (2, .invokestatic 150, 3), (5, .ifCond .eq 11, 3), (8, .iload_n 1, 1), (9, .iconst 1, 1), (10, .isub, 1), (11, .iload_n 3, 1), (12, .isub, 1), (13, .goto 4, 3), (16, .iload_n 3, 1), (17, .iaload, 1), (18, .iload_n 2, 1), (19, .invokestatic 95, 3), (22, .ireturn, 1)])
theorem okX3_formTone : zok zX3_formTone := ⟨okL_dec (by decide +kernel), gtb_in 225 (by decide +kernel) (by decide +kernel), by decide +kernel, by decide +kernel⟩
def zX3_isBackwards : ZM := (yX3_isBackwards, cX3_isBackwards, 1, (some .boolean), [(0, .iload_n 0, 1), (1, .bipush 12, 2), (3, .idiv, 1), (4, .iconst 2, 1), (5, .iand, 1), (6, .ifCond .eq 7, 3), (9, .iconst 1, 1), (10, .goto 4, 3), (13, .iconst 0, 1), (14, .ireturn, 1)])
theorem okX3_isBackwards : zok zX3_isBackwards := ⟨okL_dec (by decide +kernel), gtb_in 228 (by decide +kernel) (by decide +kernel), by decide +kernel, by decide +kernel⟩
def zX3_turnedTone : ZM := (yX3_turnedTone, cX3_turnedTone, 2, (some .int), [(0, .iload_n 1, 1), (1, .invokestatic 99, 3), (4, .ifCond .eq 9, 3), (7, .iload_n 1, 1), (8, .iload_n 0, 1), (9, .isub, 1), (10, .goto 6, 3), (13, .iload_n 1, 1), (14, .iload_n 0, 1), (15, .iadd, 1), (16, .invokestatic 102, 3), (19, .ireturn, 1)])
theorem okX3_turnedTone : zok zX3_turnedTone := ⟨okL_dec (by decide +kernel), gtb_in 231 (by decide +kernel) (by decide +kernel), by decide +kernel, by decide +kernel⟩
def zX3_isMirrored : ZM := (yX3_isMirrored, cX3_isMirrored, 1, (some .boolean), [(0, .iload_n 0, 1), (1, .bipush 12, 2), (3, .idiv, 1), (4, .iconst 1, 1), (5, .iand, 1), (6, .ifCond .eq 7, 3), (9, .iconst 1, 1), (10, .goto 4, 3), (13, .iconst 0, 1), (14, .ireturn, 1)])
theorem okX3_isMirrored : zok zX3_isMirrored := ⟨okL_dec (by decide +kernel), gtb_in 234 (by decide +kernel) (by decide +kernel), by decide +kernel, by decide +kernel⟩
def zX3_wrapped : ZM := (yX3_wrapped, cX3_wrapped, 1, (some .int), [(0, .iload_n 0, 1), (1, .bipush 12, 2), (3, .invokestatic 186, 3), (6, .ireturn, 1)])
theorem okX3_wrapped : zok zX3_wrapped := ⟨okL_dec (by decide +kernel), gtb_in 237 (by decide +kernel) (by decide +kernel), by decide +kernel, by decide +kernel⟩
def zJ9_floorMod_7cf53 : ZM := (yJ9_floorMod_7cf53, cJ9_floorMod_7cf53, 3, (some .int), [(0, .iload_n 0, 1), (1, .iload_n 1, 1), (2, .irem, 1), (3, .istore_n 2, 1), (4, .iload_n 0, 1), (5, .iload_n 1, 1), (6, .ixor, 1), (7, .ifCond .ge 11, 3), (10, .iload_n 2, 1), (11, .ifCond .eq 7, 3), (14, .iload_n 2, 1), (15, .iload_n 1, 1), (16, .iadd, 1), (17, .ireturn, 1), (18, .iload_n 2, 1), (19, .ireturn, 1)])
theorem okJ9_floorMod_7cf53 : zok zJ9_floorMod_7cf53 := ⟨okL_dec (by decide +kernel), gtb_in 240 (by decide +kernel) (by decide +kernel), by decide +kernel, by decide +kernel⟩
def zX3_behind : ZM := (yX3_behind, cX3_behind, 3, (some .int), [(0, .iload_n 1, 1), (1, .invokestatic 82, 3), (4, .ifCond .eq 10, 3), (7, .iload_n 2, 1), (8, .invokestatic 82, 3), (11, .ifCond .ne 5, 3), (14, .iconst (-1), 1), (15, .ireturn, 1), (16, .iload_n 1, 1), (17, .bipush 12, 2), (19, .idiv, 1), (20, .iload_n 2, 1), (21, .bipush 12, 2), (23, .idiv, 1), (24, .ixor, 1), (25, .bipush 12, 2), (27, .imul, 1), (28, .iload_n 2, 1), (29, .bipush 12, 2), (31, .irem, 1), (32, .iload_n 1, 1), (33, .invokestatic 95, 3), (36, .iadd, 1), (37, .ireturn, 1)])
theorem okX3_behind : zok zX3_behind := ⟨okL_dec (by decide +kernel), gtb_in 247 (by decide +kernel) (by decide +kernel), by decide +kernel, by decide +kernel⟩
def zX3_back : ZM := (yX3_back, cX3_back, 2, (some .int), [(0, .iload_n 1, 1), (1, .invokestatic 82, 3), (4, .ifCond .ne 5, 3), (7, .iconst (-1), 1), (8, .ireturn, 1), (9, .iload_n 1, 1), (10, .invokestatic 99, 3), (13, .ifCond .eq 5, 3), (16, .iload_n 1, 1), (17, .ireturn, 1), (18, .iload_n 1, 1), (19, .iload_n 1, 1), (20, .bipush 12, 2), (22, .irem, 1), (23, .isub, 1), (24, .iload_n 1, 1), (25, .ineg, 1), (26, .invokestatic 102, 3), (29, .iadd, 1), (30, .ireturn, 1)])
theorem okX3_back : zok zX3_back := ⟨okL_dec (by decide +kernel), gtb_in 251 (by decide +kernel) (by decide +kernel), by decide +kernel, by decide +kernel⟩
def zX3_canon : ZM := (yX3_canon, cX3_canon, 5, (some .int), [(0, .iload_n 1, 1), (1, .invokestatic 57, 3), (4, .ifCond .ne 5, 3), (7, .iconst (-1), 1), (8, .ireturn, 1), (9, .iload_n 2, 1), (10, .ifCond .lt 9, 3), (13, .iload_n 2, 1), (14, .bipush 13, 2), (16, .if_icmp .le 6, 3), (19, .bipush (-2), 2), (21, .ireturn, 1), (22, .aload_n 0, 1), (23, .getfield 19, 3), (26, .getfield 61, 3), (29, .iload_n 1, 1), (30, .aaload, 1), (31, .astore_n 3, 1), (32, .iload_n 2, 1), (33, .bipush 13, 2), (35, .if_icmp .ne 8, 3), (38, .aload_n 3, 1), (39, .invokestatic 105, 3), (42, .ireturn, 1), (43, .aload_n 3, 1), (44, .invokestatic 108, 3), (47, .istore 4, 2), (49, .iload_n 2, 1), (50, .bipush 12, 2), (52, .if_icmp .ne 8, 3), (55, .iload 4, 2), (57, .goto 12, 3), (60, .aload_n 3, 1), (61, .bipush 12, 2), (63, .iload 4, 2), (65, .iload_n 2, 1), (66, .invokestatic 85, 3), (69, .ireturn, 1)])
theorem okX3_canon : zok zX3_canon := ⟨okL_dec (by decide +kernel), gtb_in 255 (by decide +kernel) (by decide +kernel), by decide +kernel, by decide +kernel⟩
def zX3_sizeOf : ZM := (yX3_sizeOf, cX3_sizeOf, 3, (some .int), [(0, .iconst 0, 1), (1, .istore_n 1, 1), (2, .iconst 0, 1), (3, .istore_n 2, 1), (4, .iload_n 2, 1), (5, .bipush 48, 2), (7, .if_icmp .ge 24, 3), (10, .aload_n 0, 1), (11, .bipush 12, 2), (13, .iload_n 2, 1), (14, .aload_n 0, 1), (15, .iconst 0, 1), (16, .invokestatic 111, 3), (19, .ifCond .eq 6, 3), (22, .iinc 1 1, 3), (25, .iinc 2 1, 3), (28, .goto (-24), 3), (31, .iload_n 1, 1), (32, .ifCond .ne 8, 3), (35, .bipush 48, 2), (37, .goto 7, 3), (40, .bipush 48, 2), (42, .iload_n 1, 1), (43, .idiv, 1), (44, .ireturn, 1)])
theorem okX3_sizeOf : zok zX3_sizeOf := ⟨okL_dec (by decide +kernel), gtb_in 258 (by decide +kernel) (by decide +kernel), by decide +kernel, by decide +kernel⟩
def zX3_isFormOf : ZM := (yX3_isFormOf, cX3_isFormOf, 6, (some .boolean), [(0, .iconst 0, 1), (1, .istore 5, 2), (3, .iload 5, 2), (5, .iload_n 1, 1), (6, .if_icmp .ge 29, 3), (9, .aload_n 0, 1), (10, .iload_n 1, 1), (11, .iload_n 2, 1), (12, .iload 5, 2), (14, .invokestatic 85, 3), (17, .aload_n 3, 1), (18, .iload 4, 2), (20, .iload 5, 2), (22, .iadd, 1), (23, .iaload, 1), (24, .if_icmp .eq 5, 3), (27, .iconst 0, 1), (28, .ireturn, 1), (29, .iinc 5 1, 3), (32, .goto (-29), 3), (35, .iconst 1, 1), (36, .ireturn, 1)])
theorem okX3_isFormOf : zok zX3_isFormOf := ⟨okL_dec (by decide +kernel), gtb_in 261 (by decide +kernel) (by decide +kernel), by decide +kernel, by decide +kernel⟩
def zX3_leastForm : ZM := (yX3_leastForm, cX3_leastForm, 3, (some .int), [(0, .iconst 0, 1), (1, .istore_n 1, 1), (2, .iconst 1, 1), (3, .istore_n 2, 1), (4, .iload_n 2, 1), (5, .bipush 48, 2), (7, .if_icmp .ge 20, 3), (10, .aload_n 0, 1), (11, .iload_n 2, 1), (12, .iload_n 1, 1), (13, .invokestatic 191, 3), (16, .ifCond .eq 5, 3), (19, .iload_n 2, 1), (20, .istore_n 1, 1), (21, .iinc 2 1, 3), (24, .goto (-20), 3), (27, .iload_n 1, 1), (28, .ireturn, 1)])
theorem okX3_leastForm : zok zX3_leastForm := ⟨okL_dec (by decide +kernel), gtb_in 264 (by decide +kernel) (by decide +kernel), by decide +kernel, by decide +kernel⟩
def zX3_isLess : ZM := (yX3_isLess, cX3_isLess, 5, (some .boolean), [(0, .iconst 0, 1), (1, .istore_n 3, 1), (2, .iload_n 3, 1), (3, .bipush 12, 2), (5, .if_icmp .ge 44, 3), (8, .aload_n 0, 1), (9, .bipush 12, 2), (11, .iload_n 1, 1), (12, .iload_n 3, 1), (13, .invokestatic 85, 3), (16, .aload_n 0, 1), (17, .bipush 12, 2), (19, .iload_n 2, 1), (20, .iload_n 3, 1), (21, .invokestatic 85, 3), (24, .isub, 1), (25, .istore 4, 2), (27, .iload 4, 2), (29, .ifCond .eq 14, 3), (32, .iload 4, 2), (34, .ifCond .ge 7, 3), (37, .iconst 1, 1), (38, .goto 4, 3), (41, .iconst 0, 1), (42, .ireturn, 1), (43, .iinc 3 1, 3), (46, .goto (-44), 3), (49, .iconst 0, 1), (50, .ireturn, 1)])
theorem okX3_isLess : zok zX3_isLess := ⟨okL_dec (by decide +kernel), gtb_in 267 (by decide +kernel) (by decide +kernel), by decide +kernel, by decide +kernel⟩
def zX3_leads : ZM := (yX3_leads, cX3_leads, 6, (some .int), [(0, .iload_n 1, 1), (1, .invokestatic 57, 3), (4, .ifCond .eq 10, 3), (7, .iload_n 2, 1), (8, .invokestatic 57, 3), (11, .ifCond .ne 5, 3), (14, .iconst (-1), 1), (15, .ireturn, 1), (16, .iconst 0, 1), (17, .istore 4, 2), (19, .iconst 0, 1), (20, .istore 5, 2), (22, .iload 5, 2), (24, .bipush 48, 2), (26, .if_icmp .ge 50, 3), (29, .aload_n 0, 1), (30, .getfield 19, 3), (33, .getfield 61, 3), (36, .iload_n 1, 1), (37, .aaload, 1), (38, .bipush 12, 2), (40, .iload 5, 2), (42, .aload_n 0, 1), (43, .getfield 19, 3), (46, .getfield 61, 3), (49, .iload_n 2, 1), (50, .aaload, 1), (51, .iconst 0, 1), (52, .invokestatic 111, 3), (55, .ifCond .eq 15, 3), (58, .iload 4, 2), (60, .iload_n 3, 1), (61, .if_icmp .ne 6, 3), (64, .iload 5, 2), (66, .ireturn, 1), (67, .iinc 4 1, 3), (70, .iinc 5 1, 3), (73, .goto (-51), 3), (76, .iload_n 3, 1), (77, .iconst (-1), 1), (78, .if_icmp .ne 8, 3), (81, .iload 4, 2), (83, .goto 5, 3), (86, .bipush (-6), 2), (88, .ireturn, 1)])
theorem okX3_leads : zok zX3_leads := ⟨okL_dec (by decide +kernel), gtb_in 271 (by decide +kernel) (by decide +kernel), by decide +kernel, by decide +kernel⟩
def zX3_step : ZM := (yX3_step, cX3_step, 4, (some .int), [(0, .iload_n 1, 1), (1, .invokestatic 57, 3), (4, .ifCond .ne 5, 3), (7, .iconst (-1), 1), (8, .ireturn, 1), (9, .iload_n 2, 1), (10, .ifCond .lt 9, 3), (13, .iload_n 2, 1), (14, .bipush 11, 2), (16, .if_icmp .le 6, 3), (19, .bipush (-2), 2), (21, .ireturn, 1), (22, .aload_n 0, 1), (23, .getfield 19, 3), (26, .getfield 61, 3), (29, .iload_n 1, 1), (30, .aaload, 1), (31, .astore_n 3, 1), (32, .iload_n 2, 1), (33, .bipush 11, 2), (35, .if_icmp .ne 10, 3), (38, .aload_n 3, 1), (39, .invokestatic 115, 3), (42, .goto 8, 3), (45, .aload_n 3, 1), (46, .iload_n 2, 1), (47, .invokestatic 118, 3), (50, .ireturn, 1)])
theorem okX3_step : zok zX3_step := ⟨okL_dec (by decide +kernel), gtb_in 275 (by decide +kernel) (by decide +kernel), by decide +kernel, by decide +kernel⟩
def zX3_unlikeSteps : ZM := (yX3_unlikeSteps, cX3_unlikeSteps, 3, (some .int), [(0, .iconst 0, 1), (1, .istore_n 1, 1), (2, .iconst 0, 1), (3, .istore_n 2, 1), (4, .iload_n 2, 1), (5, .bipush 11, 2), (7, .if_icmp .ge 19, 3), (10, .iload_n 1, 1), (11, .iconst 1, 1), (12, .aload_n 0, 1), (13, .iload_n 2, 1), (14, .invokestatic 118, 3), (17, .ishl, 1), (18, .ior, 1), (19, .istore_n 1, 1), (20, .iinc 2 1, 3), (23, .goto (-19), 3), (26, .iload_n 1, 1), (27, .invokestatic 194, 3), (30, .ireturn, 1)])
theorem okX3_unlikeSteps : zok zX3_unlikeSteps := ⟨okL_dec (by decide +kernel), gtb_in 278 (by decide +kernel) (by decide +kernel), by decide +kernel, by decide +kernel⟩
def zX3_stepAt : ZM := (yX3_stepAt, cX3_stepAt, 2, (some .int), [(0, .aload_n 0, 1), (1, .iload_n 1, 1), (2, .iconst 1, 1), (3, .iadd, 1), (4, .iaload, 1), (5, .aload_n 0, 1), (6, .iload_n 1, 1), (7, .iaload, 1), (8, .isub, 1), (9, .invokestatic 102, 3), (12, .ireturn, 1)])
theorem okX3_stepAt : zok zX3_stepAt := ⟨okL_dec (by decide +kernel), gtb_in 281 (by decide +kernel) (by decide +kernel), by decide +kernel, by decide +kernel⟩
def zJ6_bitCount_0f7a4 : ZM := (yJ6_bitCount_0f7a4, cJ6_bitCount_0f7a4, 1, (some .int), [(0, .iload_n 0, 1), (1, .iload_n 0, 1), (2, .iconst 1, 1), (3, .iushr, 1), (4, .ldc_w 265, 3), (7, .iand, 1), (8, .isub, 1), (9, .istore_n 0, 1), (10, .iload_n 0, 1), (11, .ldc_w 266, 3), (14, .iand, 1), (15, .iload_n 0, 1), (16, .iconst 2, 1), (17, .iushr, 1), (18, .ldc_w 266, 3), (21, .iand, 1), (22, .iadd, 1), (23, .istore_n 0, 1), (24, .iload_n 0, 1), (25, .iload_n 0, 1), (26, .iconst 4, 1), (27, .iushr, 1), (28, .iadd, 1), (29, .ldc_w 267, 3), (32, .iand, 1), (33, .istore_n 0, 1), (34, .iload_n 0, 1), (35, .iload_n 0, 1), (36, .bipush 8, 2), (38, .iushr, 1), (39, .iadd, 1), (40, .istore_n 0, 1), (41, .iload_n 0, 1), (42, .iload_n 0, 1), (43, .bipush 16, 2), (45, .iushr, 1), (46, .iadd, 1), (47, .istore_n 0, 1), (48, .iload_n 0, 1), (49, .bipush 63, 2), (51, .iand, 1), (52, .ireturn, 1)])
theorem okJ6_bitCount_0f7a4 : zok zJ6_bitCount_0f7a4 := ⟨okL_dec (by decide +kernel), gtb_in 284 (by decide +kernel) (by decide +kernel), by decide +kernel, by decide +kernel⟩
def zX3_shared : ZM := (yX3_shared, cX3_shared, 6, (some .int), [(0, .iload_n 1, 1), (1, .invokestatic 57, 3), (4, .ifCond .eq 10, 3), (7, .iload_n 2, 1), (8, .invokestatic 82, 3), (11, .ifCond .ne 5, 3), (14, .iconst (-1), 1), (15, .ireturn, 1), (16, .iload_n 3, 1), (17, .iconst 2, 1), (18, .if_icmp .lt 9, 3), (21, .iload_n 3, 1), (22, .bipush 6, 2), (24, .if_icmp .le 6, 3), (27, .bipush (-2), 2), (29, .ireturn, 1), (30, .iconst 0, 1), (31, .istore 4, 2), (33, .iconst 0, 1), (34, .istore 5, 2), (36, .iload 5, 2), (38, .iload_n 3, 1), (39, .iadd, 1), (40, .bipush 12, 2), (42, .if_icmp .gt 45, 3), (45, .aload_n 0, 1), (46, .getfield 19, 3), (49, .getfield 61, 3), (52, .iload_n 1, 1), (53, .aaload, 1), (54, .iload_n 2, 1), (55, .iload_n 3, 1), (56, .aload_n 0, 1), (57, .getfield 19, 3), (60, .getfield 61, 3), (63, .iload_n 1, 1), (64, .aaload, 1), (65, .iconst 0, 1), (66, .iload 5, 2), (68, .iload_n 3, 1), (69, .invokestatic 122, 3), (72, .invokestatic 125, 3), (75, .ifCond .eq 6, 3), (78, .iinc 4 1, 3), (81, .iinc 5 1, 3), (84, .goto (-48), 3), (87, .iload 4, 2), (89, .ireturn, 1)])
theorem okX3_shared : zok zX3_shared := ⟨okL_dec (by decide +kernel), gtb_in 291 (by decide +kernel) (by decide +kernel), by decide +kernel, by decide +kernel⟩
def zX3_formSet : ZM := (yX3_formSet, cX3_formSet, 6, (some .int), [(0, .iconst 0, 1), (1, .istore 4, 2), (3, .iload_n 2, 1), (4, .istore 5, 2), (6, .iload 5, 2), (8, .iload_n 2, 1), (9, .iload_n 3, 1), (10, .iadd, 1), (11, .if_icmp .ge 25, 3), (14, .iload 4, 2), (16, .iconst 1, 1), (17, .aload_n 0, 1), (18, .bipush 12, 2), (20, .iload_n 1, 1), (21, .iload 5, 2), (23, .invokestatic 85, 3), (26, .ishl, 1), (27, .ior, 1), (28, .istore 4, 2), (30, .iinc 5 1, 3), (33, .goto (-27), 3), (36, .iload 4, 2), (38, .ireturn, 1)])
theorem okX3_formSet : zok zX3_formSet := ⟨okL_dec (by decide +kernel), gtb_in 294 (by decide +kernel) (by decide +kernel), by decide +kernel, by decide +kernel⟩
def zX3_hasSegment : ZM := (yX3_hasSegment, cX3_hasSegment, 5, (some .boolean), [(0, .iconst 0, 1), (1, .istore 4, 2), (3, .iload 4, 2), (5, .iload_n 2, 1), (6, .iadd, 1), (7, .bipush 12, 2), (9, .if_icmp .gt 23, 3), (12, .aload_n 0, 1), (13, .iload_n 1, 1), (14, .iload 4, 2), (16, .iload_n 2, 1), (17, .invokestatic 122, 3), (20, .iload_n 3, 1), (21, .if_icmp .ne 5, 3), (24, .iconst 1, 1), (25, .ireturn, 1), (26, .iinc 4 1, 3), (29, .goto (-26), 3), (32, .iconst 0, 1), (33, .ireturn, 1)])
theorem okX3_hasSegment : zok zX3_hasSegment := ⟨okL_dec (by decide +kernel), gtb_in 297 (by decide +kernel) (by decide +kernel), by decide +kernel, by decide +kernel⟩
def zX3_partner : ZM := (yX3_partner, cX3_partner, 6, (some .int), [(0, .iload_n 1, 1), (1, .invokestatic 57, 3), (4, .ifCond .ne 5, 3), (7, .iconst (-1), 1), (8, .ireturn, 1), (9, .aload_n 0, 1), (10, .getfield 19, 3), (13, .getfield 61, 3), (16, .iload_n 1, 1), (17, .aaload, 1), (18, .iconst 0, 1), (19, .iconst 0, 1), (20, .bipush 6, 2), (22, .invokestatic 122, 3), (25, .istore_n 3, 1), (26, .iconst 0, 1), (27, .istore 4, 2), (29, .iconst 0, 1), (30, .istore 5, 2), (32, .iload 5, 2), (34, .bipush 48, 2), (36, .if_icmp .ge 43, 3), (39, .aload_n 0, 1), (40, .getfield 19, 3), (43, .getfield 61, 3), (46, .iload_n 1, 1), (47, .aaload, 1), (48, .iload 5, 2), (50, .iconst 0, 1), (51, .bipush 6, 2), (53, .invokestatic 122, 3), (56, .iload_n 3, 1), (57, .iand, 1), (58, .ifCond .ne 15, 3), (61, .iload 4, 2), (63, .iload_n 2, 1), (64, .if_icmp .ne 6, 3), (67, .iload 5, 2), (69, .ireturn, 1), (70, .iinc 4 1, 3), (73, .iinc 5 1, 3), (76, .goto (-44), 3), (79, .iload_n 2, 1), (80, .iconst (-1), 1), (81, .if_icmp .ne 8, 3), (84, .iload 4, 2), (86, .goto 5, 3), (89, .bipush (-6), 2), (91, .ireturn, 1)])
theorem okX3_partner : zok zX3_partner := ⟨okL_dec (by decide +kernel), gtb_in 301 (by decide +kernel) (by decide +kernel), by decide +kernel, by decide +kernel⟩
def zX3_derived : ZM := (yX3_derived, cX3_derived, 4, (some .int), [(0, .iload_n 1, 1), (1, .invokestatic 57, 3), (4, .ifCond .ne 5, 3), (7, .iconst (-1), 1), (8, .ireturn, 1), (9, .iload_n 2, 1), (10, .iconst 2, 1), (11, .if_icmp .eq 22, 3), (14, .iload_n 2, 1), (15, .iconst 3, 1), (16, .if_icmp .eq 17, 3), (19, .iload_n 2, 1), (20, .iconst 4, 1), (21, .if_icmp .eq 12, 3), (24, .iload_n 2, 1), (25, .bipush 6, 2), (27, .if_icmp .eq 6, 3), (30, .bipush (-2), 2), (32, .ireturn, 1), (33, .iload_n 2, 1), (34, .istore_n 3, 1), (35, .iload_n 3, 1), (36, .iload_n 2, 1), (37, .iadd, 1), (38, .bipush 12, 2), (40, .if_icmp .gt 29, 3), (43, .aload_n 0, 1), (44, .getfield 19, 3), (47, .getfield 61, 3), (50, .iload_n 1, 1), (51, .aaload, 1), (52, .iload_n 2, 1), (53, .iload_n 3, 1), (54, .invokestatic 129, 3), (57, .ifCond .ne 5, 3), (60, .iconst 0, 1), (61, .ireturn, 1), (62, .iload_n 3, 1), (63, .iload_n 2, 1), (64, .iadd, 1), (65, .istore_n 3, 1), (66, .goto (-31), 3), (69, .iconst 1, 1), (70, .ireturn, 1)])
theorem okX3_derived : zok zX3_derived := ⟨okL_dec (by decide +kernel), gtb_in 305 (by decide +kernel) (by decide +kernel), by decide +kernel, by decide +kernel⟩
def zX3_isAnyFormOf : ZM := (yX3_isAnyFormOf, cX3_isAnyFormOf, 4, (some .boolean), [(0, .iconst 0, 1), (1, .istore_n 3, 1), (2, .iload_n 3, 1), (3, .bipush 48, 2), (5, .if_icmp .ge 22, 3), (8, .aload_n 0, 1), (9, .iload_n 1, 1), (10, .iload_n 3, 1), (11, .aload_n 0, 1), (12, .iload_n 2, 1), (13, .invokestatic 111, 3), (16, .ifCond .eq 5, 3), (19, .iconst 1, 1), (20, .ireturn, 1), (21, .iinc 3 1, 3), (24, .goto (-22), 3), (27, .iconst 0, 1), (28, .ireturn, 1)])
theorem okX3_isAnyFormOf : zok zX3_isAnyFormOf := ⟨okL_dec (by decide +kernel), gtb_in 308 (by decide +kernel) (by decide +kernel), by decide +kernel, by decide +kernel⟩
def zX3_making : ZM := (yX3_making, cX3_making, 6, (some .int), [(0, .iload_n 1, 1), (1, .invokestatic 57, 3), (4, .ifCond .ne 5, 3), (7, .iconst (-1), 1), (8, .ireturn, 1), (9, .iload_n 2, 1), (10, .iconst 3, 1), (11, .if_icmp .eq 8, 3), (14, .iload_n 2, 1), (15, .iconst 4, 1), (16, .if_icmp .ne 21, 3), (19, .iload 4, 2), (21, .invokestatic 79, 3), (24, .ifCond .eq 13, 3), (27, .iload_n 3, 1), (28, .iconst (-1), 1), (29, .if_icmp .ne 11, 3), (32, .iload 4, 2), (34, .ifCond .eq 6, 3), (37, .bipush (-2), 2), (39, .ireturn, 1), (40, .aload_n 0, 1), (41, .getfield 30, 3), (44, .aload_n 0, 1), (45, .getfield 19, 3), (48, .getfield 61, 3), (51, .iload_n 1, 1), (52, .aaload, 1), (53, .iload_n 2, 1), (54, .invokevirtual 133, 3), (57, .aload_n 0, 1), (58, .getfield 30, 3), (61, .invokevirtual 137, 3), (64, .istore 5, 2), (66, .iload_n 3, 1), (67, .iconst (-1), 1), (68, .if_icmp .ne 6, 3), (71, .iload 5, 2), (73, .ireturn, 1), (74, .iload_n 3, 1), (75, .ifCond .lt 9, 3), (78, .iload_n 3, 1), (79, .iload 5, 2), (81, .if_icmp .lt 6, 3), (84, .bipush (-6), 2), (86, .ireturn, 1), (87, .iload 4, 2), (89, .iload_n 2, 1), (90, .if_icmp .ge 18, 3), (93, .aload_n 0, 1), (94, .getfield 19, 3), (97, .getfield 61, 3), (100, .iload_n 1, 1), (101, .aaload, 1), (102, .iload 4, 2), (104, .iaload, 1), (105, .goto 13, 3), (108, .aload_n 0, 1), (109, .getfield 30, 3), (112, .iload_n 3, 1), (113, .iload 4, 2), (115, .invokevirtual 140, 3), (118, .ireturn, 1)])
theorem okX3_making : zok zX3_making := ⟨okL_dec (by decide +kernel), gtb_in 312 (by decide +kernel) (by decide +kernel), by decide +kernel, by decide +kernel⟩
def zX1_gather : ZM := (yX1_gather, cX1_gather, 8, none, [(0, .aload_n 0, 1), (1, .iconst 0, 1), (2, .putfield 18, 3), (5, .aload_n 0, 1), (6, .iload_n 2, 1), (7, .putfield 22, 3), (10, .aload_n 0, 1), (11, .aload_n 1, 1), (12, .iconst 0, 1), (13, .iconst 0, 1), (14, .iload_n 2, 1), (15, .invokestatic 31, 3), (18, .putfield 25, 3), (21, .aload_n 0, 1), (22, .iload_n 2, 1), (23, .ifCond .le 12, 3), (26, .bipush 12, 2), (28, .iload_n 2, 1), (29, .idiv, 1), (30, .iconst 1, 1), (31, .isub, 1), (32, .goto 4, 3), (35, .iconst 0, 1), (36, .putfield 28, 3), (39, .iconst 0, 1), (40, .istore_n 3, 1), (41, .iload_n 3, 1), (42, .bipush 48, 2), (44, .if_icmp .ge 76, 3), (47, .iconst 0, 1), (48, .istore 4, 2), (50, .iconst 0, 1), (51, .istore 5, 2), (53, .iconst 0, 1), (54, .istore 6, 2), (56, .iload 6, 2), (58, .iload_n 2, 1), (59, .if_icmp .ge 37, 3), (62, .aload_n 1, 1), (63, .iload_n 2, 1), (64, .iload_n 3, 1), (65, .iload 6, 2), (67, .invokestatic 35, 3), (70, .istore 7, 2), (72, .iload 4, 2), (74, .iconst 4, 1), (75, .ishl, 1), (76, .iload 7, 2), (78, .ior, 1), (79, .istore 4, 2), (81, .iload 5, 2), (83, .iconst 1, 1), (84, .iload 7, 2), (86, .ishl, 1), (87, .ior, 1), (88, .istore 5, 2), (90, .iinc 6 1, 3), (93, .goto (-37), 3), (96, .iload 5, 2), (98, .aload_n 0, 1), (99, .getfield 25, 3), (102, .iand, 1), (103, .ifCond .ne 11, 3), (106, .aload_n 0, 1), (107, .iload 4, 2), (109, .iload 5, 2), (111, .invokevirtual 38, 3), (114, .iinc 3 1, 3), (117, .goto (-76), 3), (120, .return_, 1)])
theorem okX1_gather : zok zX1_gather := ⟨okL_dec (by decide +kernel), gtb_in 316 (by decide +kernel) (by decide +kernel), by decide +kernel, by decide +kernel⟩
def zX1_insert : ZM := (yX1_insert, cX1_insert, 5, none, [(0, .aload_n 0, 1), (1, .getfield 18, 3), (4, .istore_n 3, 1), (5, .iload_n 3, 1), (6, .ifCond .le 21, 3), (9, .aload_n 0, 1), (10, .getfield 9, 3), (13, .iload_n 3, 1), (14, .iconst 1, 1), (15, .isub, 1), (16, .iaload, 1), (17, .iload_n 1, 1), (18, .if_icmp .le 9, 3), (21, .iinc 3 (-1), 3), (24, .goto (-19), 3), (27, .aload_n 0, 1), (28, .getfield 18, 3), (31, .bipush 48, 2), (33, .if_icmp .ge 19, 3), (36, .iload_n 3, 1), (37, .ifCond .le 16, 3), (40, .aload_n 0, 1), (41, .getfield 9, 3), (44, .iload_n 3, 1), (45, .iconst 1, 1), (46, .isub, 1), (47, .iaload, 1), (48, .iload_n 1, 1), (49, .if_icmp .ne 4, 3), (52, .return_, 1), (53, .aload_n 0, 1), (54, .getfield 18, 3), (57, .istore 4, 2), (59, .iload 4, 2), (61, .iload_n 3, 1), (62, .if_icmp .le 41, 3), (65, .aload_n 0, 1), (66, .getfield 9, 3), (69, .iload 4, 2), (71, .aload_n 0, 1), (72, .getfield 9, 3), (75, .iload 4, 2), (77, .iconst 1, 1), (78, .isub, 1), (79, .iaload, 1), (80, .iastore, 1), (81, .aload_n 0, 1), (82, .getfield 15, 3), (85, .iload 4, 2), (87, .aload_n 0, 1), (88, .getfield 15, 3), (91, .iload 4, 2), (93, .iconst 1, 1), (94, .isub, 1), (95, .iaload, 1), (96, .iastore, 1), (97, .iinc 4 (-1), 3), (100, .goto (-41), 3), (103, .aload_n 0, 1), (104, .getfield 9, 3), (107, .iload_n 3, 1), (108, .iload_n 1, 1), (109, .iastore, 1), (110, .aload_n 0, 1), (111, .getfield 15, 3), (114, .iload_n 3, 1), (115, .iload_n 2, 1), (116, .iastore, 1), (117, .aload_n 0, 1), (118, .dup, 1), (119, .getfield 18, 3), (122, .iconst 1, 1), (123, .iadd, 1), (124, .putfield 18, 3), (127, .return_, 1)])
theorem okX1_insert : zok zX1_insert := ⟨okL_dec (by decide +kernel), gtb_in 322 (by decide +kernel) (by decide +kernel), by decide +kernel, by decide +kernel⟩
def zX1_countRows : ZM := (yX1_countRows, cX1_countRows, 1, (some .int), [(0, .aload_n 0, 1), (1, .getfield 15, 3), (4, .aload_n 0, 1), (5, .getfield 18, 3), (8, .aload_n 0, 1), (9, .getfield 25, 3), (12, .aload_n 0, 1), (13, .getfield 28, 3), (16, .invokestatic 42, 3), (19, .ireturn, 1)])
theorem okX1_countRows : zok zX1_countRows := ⟨okL_dec (by decide +kernel), gtb_in 326 (by decide +kernel) (by decide +kernel), by decide +kernel, by decide +kernel⟩
def zX1_countWays : ZM := (yX1_countWays, cX1_countWays, 6, (some .int), [(0, .iload_n 3, 1), (1, .ifCond .gt 5, 3), (4, .iconst 1, 1), (5, .ireturn, 1), (6, .iconst 0, 1), (7, .istore 4, 2), (9, .iconst 0, 1), (10, .istore 5, 2), (12, .iload 5, 2), (14, .iload_n 1, 1), (15, .if_icmp .ge 37, 3), (18, .aload_n 0, 1), (19, .iload 5, 2), (21, .iaload, 1), (22, .iload_n 2, 1), (23, .iand, 1), (24, .ifCond .ne 22, 3), (27, .iload 4, 2), (29, .aload_n 0, 1), (30, .iload_n 1, 1), (31, .iload_n 2, 1), (32, .aload_n 0, 1), (33, .iload 5, 2), (35, .iaload, 1), (36, .ior, 1), (37, .iload_n 3, 1), (38, .iconst 1, 1), (39, .isub, 1), (40, .invokestatic 42, 3), (43, .iadd, 1), (44, .istore 4, 2), (46, .iinc 5 1, 3), (49, .goto (-37), 3), (52, .iload 4, 2), (54, .ireturn, 1)])
theorem okX1_countWays : zok zX1_countWays := ⟨okL_dec (by decide +kernel), gtb_in 329 (by decide +kernel) (by decide +kernel), by decide +kernel, by decide +kernel⟩
def zX1_toneOfRow : ZM := (yX1_toneOfRow, cX1_toneOfRow, 9, (some .int), [(0, .aload_n 0, 1), (1, .getfield 25, 3), (4, .istore_n 3, 1), (5, .iload_n 1, 1), (6, .istore 4, 2), (8, .aload_n 0, 1), (9, .getfield 22, 3), (12, .istore 5, 2), (14, .aload_n 0, 1), (15, .getfield 28, 3), (18, .iconst 1, 1), (19, .isub, 1), (20, .istore 6, 2), (22, .iload 6, 2), (24, .ifCond .lt 141, 3), (27, .iload 5, 2), (29, .aload_n 0, 1), (30, .getfield 22, 3), (33, .iadd, 1), (34, .istore 5, 2), (36, .iconst 0, 1), (37, .istore 7, 2), (39, .iload 7, 2), (41, .aload_n 0, 1), (42, .getfield 18, 3), (45, .if_icmp .ge 66, 3), (48, .aload_n 0, 1), (49, .getfield 15, 3), (52, .iload 7, 2), (54, .iaload, 1), (55, .iload_n 3, 1), (56, .iand, 1), (57, .ifCond .ne 28, 3), (60, .aload_n 0, 1), (61, .getfield 15, 3), (64, .aload_n 0, 1), (65, .getfield 18, 3), (68, .iload_n 3, 1), (69, .aload_n 0, 1), (70, .getfield 15, 3), (73, .iload 7, 2), (75, .iaload, 1), (76, .ior, 1), (77, .iload 6, 2), (79, .invokestatic 42, 3), (82, .goto 4, 3), (85, .iconst 0, 1), (86, .istore 8, 2), (88, .iload 4, 2), (90, .iload 8, 2), (92, .if_icmp .ge 6, 3), (95, .goto 16, 3), (98, .iload 4, 2), (100, .iload 8, 2), (102, .isub, 1), (103, .istore 4, 2), (105, .iinc 7 1, 3), (108, .goto (-69), 3), (111, .iload 7, 2), (113, .aload_n 0, 1), (114, .getfield 18, 3), (117, .if_icmp .lt 6, 3), (120, .bipush (-6), 2), (122, .ireturn, 1), (123, .iload_n 2, 1), (124, .iload 5, 2), (126, .if_icmp .ge 23, 3), (129, .aload_n 0, 1), (130, .getfield 9, 3), (133, .iload 7, 2), (135, .iaload, 1), (136, .iload 5, 2), (138, .iconst 1, 1), (139, .isub, 1), (140, .iload_n 2, 1), (141, .isub, 1), (142, .iconst 4, 1), (143, .imul, 1), (144, .ishr, 1), (145, .bipush 15, 2), (147, .iand, 1), (148, .ireturn, 1), (149, .iload_n 3, 1), (150, .aload_n 0, 1), (151, .getfield 15, 3), (154, .iload 7, 2), (156, .iaload, 1), (157, .ior, 1), (158, .istore_n 3, 1), (159, .iinc 6 (-1), 3), (162, .goto (-140), 3), (165, .bipush (-6), 2), (167, .ireturn, 1)])
theorem okX1_toneOfRow : zok zX1_toneOfRow := ⟨okL_dec (by decide +kernel), gtb_in 333 (by decide +kernel) (by decide +kernel), by decide +kernel, by decide +kernel⟩
def zX3_fillings : ZM := (yX3_fillings, cX3_fillings, 3, (some .int), [(0, .iload_n 1, 1), (1, .invokestatic 82, 3), (4, .ifCond .ne 5, 3), (7, .iconst (-1), 1), (8, .ireturn, 1), (9, .iload_n 1, 1), (10, .invokestatic 143, 3), (13, .ifCond .eq 21, 3), (16, .aload_n 0, 1), (17, .getfield 19, 3), (20, .getfield 69, 3), (23, .iload_n 1, 1), (24, .aload_n 0, 1), (25, .getfield 34, 3), (28, .invokestatic 146, 3), (31, .ifCond .ne 5, 3), (34, .iconst 0, 1), (35, .ireturn, 1), (36, .aload_n 0, 1), (37, .getfield 34, 3), (40, .invokestatic 72, 3), (43, .istore_n 2, 1), (44, .iload_n 1, 1), (45, .invokestatic 150, 3), (48, .ifCond .eq 16, 3), (51, .iload_n 2, 1), (52, .iconst 2, 1), (53, .idiv, 1), (54, .invokestatic 153, 3), (57, .iload_n 2, 1), (58, .iconst 2, 1), (59, .idiv, 1), (60, .ishl, 1), (61, .goto 7, 3), (64, .iload_n 2, 1), (65, .invokestatic 153, 3), (68, .ireturn, 1)])
theorem okX3_fillings : zok zX3_fillings := ⟨okL_dec (by decide +kernel), gtb_in 337 (by decide +kernel) (by decide +kernel), by decide +kernel, by decide +kernel⟩
def zX3_canKeepRows : ZM := (yX3_canKeepRows, cX3_canKeepRows, 1, (some .boolean), [(0, .iload_n 0, 1), (1, .invokestatic 150, 3), (4, .ifCond .ne 13, 3), (7, .iload_n 0, 1), (8, .ifCond .ne 7, 3), (11, .iconst 1, 1), (12, .goto 4, 3), (15, .iconst 0, 1), (16, .ireturn, 1), (17, .iload_n 0, 1), (18, .invokestatic 99, 3), (21, .ifCond .eq 18, 3), (24, .iload_n 0, 1), (25, .iconst 2, 1), (26, .irem, 1), (27, .iconst 1, 1), (28, .if_icmp .ne 7, 3), (31, .iconst 1, 1), (32, .goto 21, 3), (35, .iconst 0, 1), (36, .goto 17, 3), (39, .iload_n 0, 1), (40, .bipush 12, 2), (42, .irem, 1), (43, .bipush 6, 2), (45, .if_icmp .ne 7, 3), (48, .iconst 1, 1), (49, .goto 4, 3), (52, .iconst 0, 1), (53, .ireturn, 1)])
theorem okX3_canKeepRows : zok zX3_canKeepRows := ⟨okL_dec (by decide +kernel), gtb_in 340 (by decide +kernel) (by decide +kernel), by decide +kernel, by decide +kernel⟩
def zX3_fillForced : ZM := (yX3_fillForced, cX3_fillForced, 7, (some .boolean), [(0, .aload_n 0, 1), (1, .iconst 0, 1), (2, .aload_n 2, 1), (3, .iconst 0, 1), (4, .bipush 12, 2), (6, .invokestatic 89, 3), (9, .aload_n 0, 1), (10, .invokestatic 199, 3), (13, .istore_n 3, 1), (14, .iconst 0, 1), (15, .istore 4, 2), (17, .iload 4, 2), (19, .bipush 12, 2), (21, .if_icmp .ge 81, 3), (24, .aload_n 0, 1), (25, .iload 4, 2), (27, .iaload, 1), (28, .bipush (-6), 2), (30, .if_icmp .eq 66, 3), (33, .iload_n 1, 1), (34, .iload 4, 2), (36, .invokestatic 202, 3), (39, .istore 5, 2), (41, .aload_n 0, 1), (42, .iload 4, 2), (44, .iaload, 1), (45, .iload_n 1, 1), (46, .invokestatic 95, 3), (49, .istore 6, 2), (51, .aload_n 2, 1), (52, .iload 5, 2), (54, .iaload, 1), (55, .bipush (-6), 2), (57, .if_icmp .ne 28, 3), (60, .iload_n 3, 1), (61, .iconst 1, 1), (62, .iload 6, 2), (64, .ishl, 1), (65, .iand, 1), (66, .ifCond .ne 19, 3), (69, .aload_n 2, 1), (70, .iload 5, 2), (72, .iload 6, 2), (74, .iastore, 1), (75, .iload_n 3, 1), (76, .iconst 1, 1), (77, .iload 6, 2), (79, .ishl, 1), (80, .ior, 1), (81, .istore_n 3, 1), (82, .goto 14, 3), (85, .aload_n 2, 1), (86, .iload 5, 2), (88, .iaload, 1), (89, .iload 6, 2), (91, .if_icmp .eq 5, 3), (94, .iconst 0, 1), (95, .ireturn, 1), (96, .iinc 4 1, 3), (99, .goto (-82), 3), (102, .iconst 1, 1), (103, .ireturn, 1)])
theorem okX3_fillForced : zok zX3_fillForced := ⟨okL_dec (by decide +kernel), gtb_in 343 (by decide +kernel) (by decide +kernel), by decide +kernel, by decide +kernel⟩
def zX3_toneBits : ZM := (yX3_toneBits, cX3_toneBits, 3, (some .int), [(0, .iconst 0, 1), (1, .istore_n 1, 1), (2, .iconst 0, 1), (3, .istore_n 2, 1), (4, .iload_n 2, 1), (5, .bipush 12, 2), (7, .if_icmp .ge 25, 3), (10, .aload_n 0, 1), (11, .iload_n 2, 1), (12, .iaload, 1), (13, .bipush (-6), 2), (15, .if_icmp .eq 11, 3), (18, .iload_n 1, 1), (19, .iconst 1, 1), (20, .aload_n 0, 1), (21, .iload_n 2, 1), (22, .iaload, 1), (23, .ishl, 1), (24, .ior, 1), (25, .istore_n 1, 1), (26, .iinc 2 1, 3), (29, .goto (-25), 3), (32, .iload_n 1, 1), (33, .ireturn, 1)])
theorem okX3_toneBits : zok zX3_toneBits := ⟨okL_dec (by decide +kernel), gtb_in 346 (by decide +kernel) (by decide +kernel), by decide +kernel, by decide +kernel⟩
def zX3_placeAcross : ZM := (yX3_placeAcross, cX3_placeAcross, 2, (some .int), [(0, .iload_n 0, 1), (1, .invokestatic 150, 3), (4, .ifCond .eq 10, 3), (7, .bipush 11, 2), (9, .iload_n 1, 1), (10, .isub, 1), (11, .goto 4, 3), (14, .iload_n 1, 1), (15, .ireturn, 1)])
theorem okX3_placeAcross : zok zX3_placeAcross := ⟨okL_dec (by decide +kernel), gtb_in 349 (by decide +kernel) (by decide +kernel), by decide +kernel, by decide +kernel⟩
def zX3_factorial : ZM := (yX3_factorial, cX3_factorial, 3, (some .int), [(0, .iconst 1, 1), (1, .istore_n 1, 1), (2, .iconst 2, 1), (3, .istore_n 2, 1), (4, .iload_n 2, 1), (5, .iload_n 0, 1), (6, .if_icmp .gt 13, 3), (9, .iload_n 1, 1), (10, .iload_n 2, 1), (11, .imul, 1), (12, .istore_n 1, 1), (13, .iinc 2 1, 3), (16, .goto (-12), 3), (19, .iload_n 1, 1), (20, .ireturn, 1)])
theorem okX3_factorial : zok zX3_factorial := ⟨okL_dec (by decide +kernel), gtb_in 352 (by decide +kernel) (by decide +kernel), by decide +kernel, by decide +kernel⟩
def zX3_filling : ZM := (yX3_filling, cX3_filling, 3, (some .int), [(0, .iload_n 1, 1), (1, .invokestatic 82, 3), (4, .ifCond .ne 5, 3), (7, .iconst (-1), 1), (8, .ireturn, 1), (9, .iload_n 2, 1), (10, .invokestatic 79, 3), (13, .ifCond .ne 6, 3), (16, .bipush (-2), 2), (18, .ireturn, 1), (19, .iload_n 1, 1), (20, .invokestatic 143, 3), (23, .ifCond .eq 21, 3), (26, .aload_n 0, 1), (27, .getfield 19, 3), (30, .getfield 69, 3), (33, .iload_n 1, 1), (34, .aload_n 0, 1), (35, .getfield 34, 3), (38, .invokestatic 146, 3), (41, .ifCond .ne 6, 3), (44, .bipush (-6), 2), (46, .ireturn, 1), (47, .aload_n 0, 1), (48, .getfield 34, 3), (51, .iload_n 1, 1), (52, .invokestatic 156, 3), (55, .aload_n 0, 1), (56, .getfield 34, 3), (59, .iload_n 2, 1), (60, .iaload, 1), (61, .ireturn, 1)])
theorem okX3_filling : zok zX3_filling := ⟨okL_dec (by decide +kernel), gtb_in 356 (by decide +kernel) (by decide +kernel), by decide +kernel, by decide +kernel⟩
def zX3_fillFree : ZM := (yX3_fillFree, cX3_fillFree, 6, none, [(0, .aload_n 0, 1), (1, .invokestatic 199, 3), (4, .istore_n 2, 1), (5, .iconst 0, 1), (6, .istore_n 3, 1), (7, .iload_n 3, 1), (8, .bipush 12, 2), (10, .if_icmp .ge 59, 3), (13, .aload_n 0, 1), (14, .iload_n 3, 1), (15, .iaload, 1), (16, .bipush (-6), 2), (18, .if_icmp .ne 45, 3), (21, .iload_n 2, 1), (22, .iconst (-1), 1), (23, .ixor, 1), (24, .invokestatic 205, 3), (27, .istore 4, 2), (29, .iload 4, 2), (31, .iload_n 1, 1), (32, .invokestatic 95, 3), (35, .istore 5, 2), (37, .aload_n 0, 1), (38, .iload_n 3, 1), (39, .iload 4, 2), (41, .iastore, 1), (42, .aload_n 0, 1), (43, .iload_n 1, 1), (44, .iload_n 3, 1), (45, .invokestatic 202, 3), (48, .iload 5, 2), (50, .iastore, 1), (51, .iload_n 2, 1), (52, .iconst 1, 1), (53, .iload 4, 2), (55, .ishl, 1), (56, .iconst 1, 1), (57, .iload 5, 2), (59, .ishl, 1), (60, .ior, 1), (61, .ior, 1), (62, .istore_n 2, 1), (63, .iinc 3 1, 3), (66, .goto (-59), 3), (69, .return_, 1)])
theorem okX3_fillFree : zok zX3_fillFree := ⟨okL_dec (by decide +kernel), gtb_in 359 (by decide +kernel) (by decide +kernel), by decide +kernel, by decide +kernel⟩
def zJ6_numberOfTrailingZeros_0f7a4 : ZM := (yJ6_numberOfTrailingZeros_0f7a4, cJ6_numberOfTrailingZeros_0f7a4, 2, (some .int), [(0, .iload_n 0, 1), (1, .iconst (-1), 1), (2, .ixor, 1), (3, .iload_n 0, 1), (4, .iconst 1, 1), (5, .isub, 1), (6, .iand, 1), (7, .istore_n 0, 1), (8, .iload_n 0, 1), (9, .ifCond .gt 8, 3), (12, .iload_n 0, 1), (13, .bipush 32, 2), (15, .iand, 1), (16, .ireturn, 1), (17, .iconst 1, 1), (18, .istore_n 1, 1), (19, .iload_n 0, 1), (20, .ldc_w 264, 3), (23, .if_icmp .le 11, 3), (26, .iinc 1 16, 3), (29, .iload_n 0, 1), (30, .bipush 16, 2), (32, .iushr, 1), (33, .istore_n 0, 1), (34, .iload_n 0, 1), (35, .sipush 256, 3), (38, .if_icmp .le 11, 3), (41, .iinc 1 8, 3), (44, .iload_n 0, 1), (45, .bipush 8, 2), (47, .iushr, 1), (48, .istore_n 0, 1), (49, .iload_n 0, 1), (50, .bipush 16, 2), (52, .if_icmp .le 10, 3), (55, .iinc 1 4, 3), (58, .iload_n 0, 1), (59, .iconst 4, 1), (60, .iushr, 1), (61, .istore_n 0, 1), (62, .iload_n 0, 1), (63, .iconst 4, 1), (64, .if_icmp .le 10, 3), (67, .iinc 1 2, 3), (70, .iload_n 0, 1), (71, .iconst 2, 1), (72, .iushr, 1), (73, .istore_n 0, 1), (74, .iload_n 1, 1), (75, .iload_n 0, 1), (76, .iconst 1, 1), (77, .iushr, 1), (78, .iadd, 1), (79, .ireturn, 1)])
theorem okJ6_numberOfTrailingZeros_0f7a4 : zok zJ6_numberOfTrailingZeros_0f7a4 := ⟨okL_dec (by decide +kernel), gtb_in 362 (by decide +kernel) (by decide +kernel), by decide +kernel, by decide +kernel⟩
def zX3_sign : ZM := (yX3_sign, cX3_sign, 5, (some .int), [(0, .iload_n 1, 1), (1, .invokestatic 57, 3), (4, .ifCond .eq 10, 3), (7, .iload_n 2, 1), (8, .invokestatic 82, 3), (11, .ifCond .ne 5, 3), (14, .iconst (-1), 1), (15, .ireturn, 1), (16, .iload_n 2, 1), (17, .invokestatic 159, 3), (20, .istore 4, 2), (22, .iload_n 3, 1), (23, .iconst (-1), 1), (24, .if_icmp .ne 11, 3), (27, .iload 4, 2), (29, .iconst 1, 1), (30, .iadd, 1), (31, .bipush 12, 2), (33, .iadd, 1), (34, .ireturn, 1), (35, .iload_n 3, 1), (36, .ifCond .lt 12, 3), (39, .iload_n 3, 1), (40, .iload 4, 2), (42, .bipush 12, 2), (44, .iadd, 1), (45, .if_icmp .le 6, 3), (48, .bipush (-6), 2), (50, .ireturn, 1), (51, .iload_n 3, 1), (52, .iload 4, 2), (54, .if_icmp .ge 9, 3), (57, .iload_n 2, 1), (58, .iload_n 3, 1), (59, .invokestatic 162, 3), (62, .ireturn, 1), (63, .iload_n 3, 1), (64, .iload 4, 2), (66, .if_icmp .ne 8, 3), (69, .bipush 58, 2), (71, .goto 27, 3), (74, .aload_n 0, 1), (75, .getfield 19, 3), (78, .getfield 61, 3), (81, .iload_n 1, 1), (82, .aaload, 1), (83, .bipush 12, 2), (85, .iload_n 2, 1), (86, .iload_n 3, 1), (87, .iload 4, 2), (89, .isub, 1), (90, .iconst 1, 1), (91, .isub, 1), (92, .invokestatic 85, 3), (95, .invokestatic 165, 3), (98, .ireturn, 1)])
theorem okX3_sign : zok zX3_sign := ⟨okL_dec (by decide +kernel), gtb_in 367 (by decide +kernel) (by decide +kernel), by decide +kernel, by decide +kernel⟩
def zX3_nameLength : ZM := (yX3_nameLength, cX3_nameLength, 1, (some .int), [(0, .iload_n 0, 1), (1, .invokestatic 208, 3), (4, .iload_n 0, 1), (5, .bipush 12, 2), (7, .irem, 1), (8, .bipush 10, 2), (10, .if_icmp .ge 7, 3), (13, .iconst 1, 1), (14, .goto 4, 3), (17, .iconst 2, 1), (18, .iadd, 1), (19, .ireturn, 1)])
theorem okX3_nameLength : zok zX3_nameLength := ⟨okL_dec (by decide +kernel), gtb_in 370 (by decide +kernel) (by decide +kernel), by decide +kernel, by decide +kernel⟩
def zX3_kindLength : ZM := (yX3_kindLength, cX3_kindLength, 1, (some .int), [(0, .iload_n 0, 1), (1, .invokestatic 150, 3), (4, .ifCond .eq 14, 3), (7, .iload_n 0, 1), (8, .invokestatic 99, 3), (11, .ifCond .eq 7, 3), (14, .iconst 2, 1), (15, .goto 4, 3), (18, .iconst 1, 1), (19, .ireturn, 1)])
theorem okX3_kindLength : zok zX3_kindLength := ⟨okL_dec (by decide +kernel), gtb_in 373 (by decide +kernel) (by decide +kernel), by decide +kernel, by decide +kernel⟩
def zX3_nameSign : ZM := (yX3_nameSign, cX3_nameSign, 4, (some .int), [(0, .iload_n 0, 1), (1, .invokestatic 208, 3), (4, .istore_n 2, 1), (5, .iload_n 1, 1), (6, .iload_n 2, 1), (7, .if_icmp .lt 33, 3), (10, .iload_n 0, 1), (11, .bipush 12, 2), (13, .irem, 1), (14, .istore_n 3, 1), (15, .bipush 48, 2), (17, .iload_n 1, 1), (18, .iconst 1, 1), (19, .iadd, 1), (20, .iload_n 0, 1), (21, .invokestatic 159, 3), (24, .if_icmp .ne 10, 3), (27, .iload_n 3, 1), (28, .bipush 10, 2), (30, .irem, 1), (31, .goto 7, 3), (34, .iload_n 3, 1), (35, .bipush 10, 2), (37, .idiv, 1), (38, .iadd, 1), (39, .ireturn, 1), (40, .iload_n 1, 1), (41, .ifCond .ne 13, 3), (44, .iload_n 0, 1), (45, .invokestatic 150, 3), (48, .ifCond .eq 6, 3), (51, .bipush 82, 2), (53, .ireturn, 1), (54, .iload_n 0, 1), (55, .invokestatic 99, 3), (58, .ifCond .eq 8, 3), (61, .bipush 73, 2), (63, .goto 5, 3), (66, .bipush 80, 2), (68, .ireturn, 1)])
theorem okX3_nameSign : zok zX3_nameSign := ⟨okL_dec (by decide +kernel), gtb_in 376 (by decide +kernel) (by decide +kernel), by decide +kernel, by decide +kernel⟩
def zX3_toneSign : ZM := (yX3_toneSign, cX3_toneSign, 1, (some .int), [(0, .iload_n 0, 1), (1, .bipush 10, 2), (3, .if_icmp .ge 8, 3), (6, .bipush 48, 2), (8, .iload_n 0, 1), (9, .iadd, 1), (10, .ireturn, 1), (11, .iload_n 0, 1), (12, .bipush 10, 2), (14, .if_icmp .ne 8, 3), (17, .bipush 116, 2), (19, .goto 5, 3), (22, .bipush 101, 2), (24, .ireturn, 1)])
theorem okX3_toneSign : zok zX3_toneSign := ⟨okL_dec (by decide +kernel), gtb_in 379 (by decide +kernel) (by decide +kernel), by decide +kernel, by decide +kernel⟩
def zX3_image : ZM := (yX3_image, cX3_image, 2, (some .int), [(0, .iload_n 1, 1), (1, .invokestatic 168, 3), (4, .ifCond .ne 6, 3), (7, .bipush (-2), 2), (9, .ireturn, 1), (10, .aload_n 0, 1), (11, .getfield 23, 3), (14, .iload_n 1, 1), (15, .aaload, 1), (16, .aload_n 0, 1), (17, .getfield 19, 3), (20, .invokevirtual 171, 3), (23, .aload_n 0, 1), (24, .getfield 23, 3), (27, .iload_n 1, 1), (28, .aaload, 1), (29, .iconst 1, 1), (30, .putfield 175, 3), (33, .iconst 1, 1), (34, .ireturn, 1)])
theorem okX3_image : zok zX3_image := ⟨okL_dec (by decide +kernel), gtb_in 383 (by decide +kernel) (by decide +kernel), by decide +kernel, by decide +kernel⟩
def zX3_isImage : ZM := (yX3_isImage, cX3_isImage, 1, (some .boolean), [(0, .iload_n 0, 1), (1, .ifCond .lt 12, 3), (4, .iload_n 0, 1), (5, .iconst 2, 1), (6, .if_icmp .ge 7, 3), (9, .iconst 1, 1), (10, .goto 4, 3), (13, .iconst 0, 1), (14, .ireturn, 1)])
theorem okX3_isImage : zok zX3_isImage := ⟨okL_dec (by decide +kernel), gtb_in 386 (by decide +kernel) (by decide +kernel), by decide +kernel, by decide +kernel⟩
def zX2_copyFrom : ZM := (yX2_copyFrom, cX2_copyFrom, 3, none, [(0, .iconst 0, 1), (1, .istore_n 2, 1), (2, .iload_n 2, 1), (3, .iconst 4, 1), (4, .if_icmp .ge 28, 3), (7, .aload_n 1, 1), (8, .getfield 11, 3), (11, .iload_n 2, 1), (12, .aaload, 1), (13, .iconst 0, 1), (14, .aload_n 0, 1), (15, .getfield 11, 3), (18, .iload_n 2, 1), (19, .aaload, 1), (20, .iconst 0, 1), (21, .bipush 12, 2), (23, .invokestatic 24, 3), (26, .iinc 2 1, 3), (29, .goto (-27), 3), (32, .aload_n 1, 1), (33, .getfield 16, 3), (36, .iconst 0, 1), (37, .aload_n 0, 1), (38, .getfield 16, 3), (41, .iconst 0, 1), (42, .bipush 12, 2), (44, .invokestatic 24, 3), (47, .return_, 1)])
theorem okX2_copyFrom : zok zX2_copyFrom := ⟨okL_dec (by decide +kernel), gtb_in 390 (by decide +kernel) (by decide +kernel), by decide +kernel, by decide +kernel⟩
def zX3_restore : ZM := (yX3_restore, cX3_restore, 2, (some .int), [(0, .iload_n 1, 1), (1, .invokestatic 168, 3), (4, .ifCond .ne 6, 3), (7, .bipush (-2), 2), (9, .ireturn, 1), (10, .aload_n 0, 1), (11, .getfield 23, 3), (14, .iload_n 1, 1), (15, .aaload, 1), (16, .getfield 175, 3), (19, .ifCond .ne 6, 3), (22, .bipush (-3), 2), (24, .ireturn, 1), (25, .aload_n 0, 1), (26, .getfield 19, 3), (29, .aload_n 0, 1), (30, .getfield 23, 3), (33, .iload_n 1, 1), (34, .aaload, 1), (35, .invokevirtual 171, 3), (38, .iconst 1, 1), (39, .ireturn, 1)])
theorem okX3_restore : zok zX3_restore := ⟨okL_dec (by decide +kernel), gtb_in 395 (by decide +kernel) (by decide +kernel), by decide +kernel, by decide +kernel⟩
def zX3_told : ZM := (yX3_told, cX3_told, 2, (some .int), [(0, .iload_n 1, 1), (1, .ifCond .ne 11, 3), (4, .aload_n 0, 1), (5, .getfield 10, 3), (8, .getfield 179, 3), (11, .ireturn, 1), (12, .iload_n 1, 1), (13, .iconst 1, 1), (14, .if_icmp .ne 14, 3), (17, .aload_n 0, 1), (18, .getfield 19, 3), (21, .getfield 69, 3), (24, .invokestatic 72, 3), (27, .ireturn, 1), (28, .iload_n 1, 1), (29, .bipush 100, 2), (31, .if_icmp .lt 26, 3), (34, .iload_n 1, 1), (35, .bipush 100, 2), (37, .isub, 1), (38, .invokestatic 79, 3), (41, .ifCond .eq 16, 3), (44, .aload_n 0, 1), (45, .getfield 19, 3), (48, .getfield 69, 3), (51, .iload_n 1, 1), (52, .bipush 100, 2), (54, .isub, 1), (55, .iaload, 1), (56, .ireturn, 1), (57, .iload_n 1, 1), (58, .sipush 200, 3), (61, .if_icmp .lt 24, 3), (64, .iload_n 1, 1), (65, .sipush 200, 3), (68, .isub, 1), (69, .invokestatic 57, 3), (72, .ifCond .eq 13, 3), (75, .aload_n 0, 1), (76, .iload_n 1, 1), (77, .sipush 200, 3), (80, .isub, 1), (81, .invokevirtual 183, 3), (84, .ireturn, 1), (85, .bipush (-2), 2), (87, .ireturn, 1)])
theorem okX3_told : zok zX3_told := ⟨okL_dec (by decide +kernel), gtb_in 399 (by decide +kernel) (by decide +kernel), by decide +kernel, by decide +kernel⟩
def zX3_leastAlike : ZM := (yX3_leastAlike, cX3_leastAlike, 3, (some .int), [(0, .iconst 0, 1), (1, .istore_n 2, 1), (2, .iload_n 2, 1), (3, .iload_n 1, 1), (4, .if_icmp .ge 39, 3), (7, .aload_n 0, 1), (8, .getfield 19, 3), (11, .getfield 61, 3), (14, .iload_n 1, 1), (15, .aaload, 1), (16, .bipush 12, 2), (18, .iconst 0, 1), (19, .aload_n 0, 1), (20, .getfield 19, 3), (23, .getfield 61, 3), (26, .iload_n 2, 1), (27, .aaload, 1), (28, .iconst 0, 1), (29, .invokestatic 111, 3), (32, .ifCond .eq 5, 3), (35, .iload_n 2, 1), (36, .ireturn, 1), (37, .iinc 2 1, 3), (40, .goto (-38), 3), (43, .iload_n 1, 1), (44, .ireturn, 1)])
theorem okX3_leastAlike : zok zX3_leastAlike := ⟨okL_dec (by decide +kernel), gtb_in 403 (by decide +kernel) (by decide +kernel), by decide +kernel, by decide +kernel⟩
def zX4_init : ZM := (yX4_init, cX4_init, 2, none, [(0, .aload_n 0, 1), (1, .invokespecial 1, 3), (4, .aload_n 0, 1), (5, .bipush 48, 2), (7, .newarray .int, 2), (9, .putfield 7, 3), (12, .aload_n 0, 1), (13, .bipush 12, 2), (15, .newarray .int, 2), (17, .putfield 13, 3), (20, .aload_n 0, 1), (21, .bipush 20, 2), (23, .newarray .int, 2), (25, .putfield 16, 3), (28, .aload_n 0, 1), (29, .bipush 12, 2), (31, .newarray .int, 2), (33, .putfield 19, 3), (36, .aload_n 0, 1), (37, .bipush 48, 2), (39, .newarray .int, 2), (41, .putfield 22, 3), (44, .aload_n 0, 1), (45, .bipush 48, 2), (47, .newarray .int, 2), (49, .putfield 25, 3), (52, .aload_n 0, 1), (53, .iconst 3, 1), (54, .newarray .int, 2), (56, .putfield 28, 3), (59, .aload_n 0, 1), (60, .bipush 120, 2), (62, .newarray .int, 2), (64, .putfield 31, 3), (67, .aload_n 0, 1), (68, .iconst 2, 1), (69, .newarray .boolean, 2), (71, .putfield 34, 3), (74, .iconst 0, 1), (75, .istore_n 1, 1), (76, .iload_n 1, 1), (77, .bipush 48, 2), (79, .if_icmp .ge 19, 3), (82, .aload_n 0, 1), (83, .getfield 7, 3), (86, .iload_n 1, 1), (87, .iload_n 1, 1), (88, .bipush 12, 2), (90, .irem, 1), (91, .iastore, 1), (92, .iinc 1 1, 3), (95, .goto (-19), 3), (98, .iconst 0, 1), (99, .istore_n 1, 1), (100, .iload_n 1, 1), (101, .bipush 12, 2), (103, .if_icmp .ge 17, 3), (106, .aload_n 0, 1), (107, .getfield 13, 3), (110, .iload_n 1, 1), (111, .bipush (-6), 2), (113, .iastore, 1), (114, .iinc 1 1, 3), (117, .goto (-17), 3), (120, .return_, 1)])
theorem okX4_init : zok zX4_init := ⟨okL_dec (by decide +kernel), gtb_in 408 (by decide +kernel) (by decide +kernel), by decide +kernel, by decide +kernel⟩
def zX4_say : ZM := (yX4_say, cX4_say, 2, (some .int), [(0, .iload_n 1, 1), (1, .i2l, 1), (2, .ldc2_w 48, 3), (5, .ldc2_w 50, 3), (8, .invokestatic 40, 3), (11, .ifCond .ne 6, 3), (14, .bipush (-2), 2), (16, .ireturn, 1), (17, .aload_n 0, 1), (18, .getfield 52, 3), (21, .bipush 20, 2), (23, .if_icmp .ne 6, 3), (26, .bipush (-4), 2), (28, .ireturn, 1), (29, .aload_n 0, 1), (30, .getfield 16, 3), (33, .aload_n 0, 1), (34, .getfield 52, 3), (37, .iload_n 1, 1), (38, .iastore, 1), (39, .aload_n 0, 1), (40, .dup, 1), (41, .getfield 52, 3), (44, .iconst 1, 1), (45, .iadd, 1), (46, .putfield 52, 3), (49, .aload_n 0, 1), (50, .getfield 52, 3), (53, .ireturn, 1)])
theorem okX4_say : zok zX4_say := ⟨okL_dec (by decide +kernel), gtb_in 457 (by decide +kernel) (by decide +kernel), by decide +kernel, by decide +kernel⟩
def zX4_in : ZM := (yX4_in, cX4_in, 6, (some .boolean), [(0, .lload_n 0, 1), (1, .lload_n 2, 1), (2, .lcmp, 1), (3, .ifCond .lt 14, 3), (6, .lload_n 0, 1), (7, .lload 4, 2), (9, .lcmp, 1), (10, .ifCond .gt 7, 3), (13, .iconst 1, 1), (14, .goto 4, 3), (17, .iconst 0, 1), (18, .ireturn, 1)])
theorem okX4_in : zok zX4_in := ⟨okL_dec (by decide +kernel), gtb_in 462 (by decide +kernel) (by decide +kernel), by decide +kernel, by decide +kernel⟩
def zX4_wipe : ZM := (yX4_wipe, cX4_wipe, 2, (some .int), [(0, .aload_n 0, 1), (1, .getfield 52, 3), (4, .istore_n 1, 1), (5, .aload_n 0, 1), (6, .iconst 0, 1), (7, .putfield 52, 3), (10, .iload_n 1, 1), (11, .ireturn, 1)])
theorem okX4_wipe : zok zX4_wipe := ⟨okL_dec (by decide +kernel), gtb_in 466 (by decide +kernel) (by decide +kernel), by decide +kernel, by decide +kernel⟩
def zX4_fault : ZM := (yX4_fault, cX4_fault, 2, (some .int), [(0, .iload_n 1, 1), (1, .ifCond .ne 11, 3), (4, .aload_n 0, 1), (5, .iconst 0, 1), (6, .invokevirtual 71, 3), (9, .goto 30, 3), (12, .iload_n 1, 1), (13, .iconst 1, 1), (14, .if_icmp .ne 11, 3), (17, .aload_n 0, 1), (18, .iconst 1, 1), (19, .invokevirtual 71, 3), (22, .goto 17, 3), (25, .iload_n 1, 1), (26, .iconst 2, 1), (27, .if_icmp .ne 10, 3), (30, .aload_n 0, 1), (31, .invokevirtual 75, 3), (34, .goto 5, 3), (37, .bipush (-2), 2), (39, .ireturn, 1)])
theorem okX4_fault : zok zX4_fault := ⟨okL_dec (by decide +kernel), gtb_in 470 (by decide +kernel) (by decide +kernel), by decide +kernel, by decide +kernel⟩
def zX4_faultOfTones : ZM := (yX4_faultOfTones, cX4_faultOfTones, 6, (some .int), [(0, .iconst 0, 1), (1, .istore_n 2, 1), (2, .iconst 0, 1), (3, .istore_n 3, 1), (4, .iload_n 3, 1), (5, .aload_n 0, 1), (6, .getfield 52, 3), (9, .if_icmp .ge 86, 3), (12, .aload_n 0, 1), (13, .getfield 16, 3), (16, .iload_n 3, 1), (17, .iaload, 1), (18, .invokestatic 60, 3), (21, .istore 4, 2), (23, .iload_n 1, 1), (24, .ifCond .eq 18, 3), (27, .aload_n 0, 1), (28, .getfield 16, 3), (31, .iload_n 3, 1), (32, .iaload, 1), (33, .bipush 63, 2), (35, .if_icmp .ne 7, 3), (38, .iconst 1, 1), (39, .goto 4, 3), (42, .iconst 0, 1), (43, .istore 5, 2), (45, .iload_n 3, 1), (46, .bipush 12, 2), (48, .if_icmp .eq 23, 3), (51, .iload 5, 2), (53, .ifCond .ne 20, 3), (56, .iload 4, 2), (58, .ifCond .lt 13, 3), (61, .iload_n 2, 1), (62, .iload 4, 2), (64, .ishr, 1), (65, .iconst 1, 1), (66, .iand, 1), (67, .iconst 1, 1), (68, .if_icmp .ne 5, 3), (71, .iload_n 3, 1), (72, .ireturn, 1), (73, .iload_n 2, 1), (74, .iload 5, 2), (76, .ifCond .eq 7, 3), (79, .iconst 0, 1), (80, .goto 7, 3), (83, .iconst 1, 1), (84, .iload 4, 2), (86, .ishl, 1), (87, .ior, 1), (88, .istore_n 2, 1), (89, .iinc 3 1, 3), (92, .goto (-88), 3), (95, .aload_n 0, 1), (96, .getfield 52, 3), (99, .bipush 12, 2), (101, .if_icmp .ne 8, 3), (104, .bipush (-6), 2), (106, .goto 7, 3), (109, .aload_n 0, 1), (110, .getfield 52, 3), (113, .ireturn, 1)])
theorem okX4_faultOfTones : zok zX4_faultOfTones := ⟨okL_dec (by decide +kernel), gtb_in 474 (by decide +kernel) (by decide +kernel), by decide +kernel, by decide +kernel⟩
def zX4_toneOf : ZM := (yX4_toneOf, cX4_toneOf, 1, (some .int), [(0, .iload_n 0, 1), (1, .i2l, 1), (2, .ldc2_w 56, 3), (5, .ldc2_w 58, 3), (8, .invokestatic 40, 3), (11, .ifCond .eq 10, 3), (14, .iload_n 0, 1), (15, .bipush 48, 2), (17, .isub, 1), (18, .goto 27, 3), (21, .iload_n 0, 1), (22, .bipush 116, 2), (24, .if_icmp .ne 8, 3), (27, .bipush 10, 2), (29, .goto 16, 3), (32, .iload_n 0, 1), (33, .bipush 101, 2), (35, .if_icmp .ne 8, 3), (38, .bipush 11, 2), (40, .goto 5, 3), (43, .bipush (-6), 2), (45, .ireturn, 1)])
theorem okX4_toneOf : zok zX4_toneOf := ⟨okL_dec (by decide +kernel), gtb_in 477 (by decide +kernel) (by decide +kernel), by decide +kernel, by decide +kernel⟩
def zX4_faultOfForm : ZM := (yX4_faultOfForm, cX4_faultOfForm, 4, (some .int), [(0, .aload_n 0, 1), (1, .iconst 0, 1), (2, .bipush 80, 2), (4, .invokevirtual 64, 3), (7, .ifCond .eq 7, 3), (10, .iconst 0, 1), (11, .goto 33, 3), (14, .aload_n 0, 1), (15, .iconst 0, 1), (16, .bipush 73, 2), (18, .invokevirtual 64, 3), (21, .ifCond .eq 7, 3), (24, .iconst 1, 1), (25, .goto 19, 3), (28, .aload_n 0, 1), (29, .iconst 0, 1), (30, .bipush 82, 2), (32, .invokevirtual 64, 3), (35, .ifCond .eq 7, 3), (38, .iconst 2, 1), (39, .goto 5, 3), (42, .bipush (-6), 2), (44, .istore_n 1, 1), (45, .iload_n 1, 1), (46, .ifCond .ge 5, 3), (49, .iconst 0, 1), (50, .ireturn, 1), (51, .iconst 1, 1), (52, .istore_n 2, 1), (53, .iload_n 1, 1), (54, .iconst 2, 1), (55, .if_icmp .ne 17, 3), (58, .aload_n 0, 1), (59, .iconst 1, 1), (60, .bipush 73, 2), (62, .invokevirtual 64, 3), (65, .ifCond .eq 7, 3), (68, .iconst 3, 1), (69, .istore_n 1, 1), (70, .iconst 2, 1), (71, .istore_n 2, 1), (72, .iload_n 2, 1), (73, .aload_n 0, 1), (74, .getfield 52, 3), (77, .if_icmp .eq 22, 3), (80, .aload_n 0, 1), (81, .getfield 16, 3), (84, .iload_n 2, 1), (85, .iaload, 1), (86, .i2l, 1), (87, .ldc2_w 56, 3), (90, .ldc2_w 58, 3), (93, .invokestatic 40, 3), (96, .ifCond .ne 5, 3), (99, .iload_n 2, 1), (100, .ireturn, 1), (101, .aload_n 0, 1), (102, .getfield 16, 3), (105, .iload_n 2, 1), (106, .iaload, 1), (107, .bipush 48, 2), (109, .isub, 1), (110, .istore_n 3, 1), (111, .iinc 2 1, 3), (114, .iload_n 3, 1), (115, .iconst 1, 1), (116, .if_icmp .ne 39, 3), (119, .aload_n 0, 1), (120, .iload_n 2, 1), (121, .bipush 48, 2), (123, .invokevirtual 64, 3), (126, .ifCond .ne 13, 3), (129, .aload_n 0, 1), (130, .iload_n 2, 1), (131, .bipush 49, 2), (133, .invokevirtual 64, 3), (136, .ifCond .eq 19, 3), (139, .bipush 10, 2), (141, .aload_n 0, 1), (142, .getfield 16, 3), (145, .iload_n 2, 1), (146, .iaload, 1), (147, .iadd, 1), (148, .bipush 48, 2), (150, .isub, 1), (151, .istore_n 3, 1), (152, .iinc 2 1, 3), (155, .aload_n 0, 1), (156, .bipush 12, 2), (158, .iload_n 1, 1), (159, .imul, 1), (160, .iload_n 3, 1), (161, .iadd, 1), (162, .putfield 68, 3), (165, .iload_n 2, 1), (166, .aload_n 0, 1), (167, .getfield 52, 3), (170, .if_icmp .ge 7, 3), (173, .iload_n 2, 1), (174, .goto 5, 3), (177, .bipush (-6), 2), (179, .ireturn, 1)])
theorem okX4_faultOfForm : zok zX4_faultOfForm := ⟨okL_dec (by decide +kernel), gtb_in 483 (by decide +kernel) (by decide +kernel), by decide +kernel, by decide +kernel⟩
def zX4_isSign : ZM := (yX4_isSign, cX4_isSign, 3, (some .boolean), [(0, .iload_n 1, 1), (1, .aload_n 0, 1), (2, .getfield 52, 3), (5, .if_icmp .ge 17, 3), (8, .aload_n 0, 1), (9, .getfield 16, 3), (12, .iload_n 1, 1), (13, .iaload, 1), (14, .iload_n 2, 1), (15, .if_icmp .ne 7, 3), (18, .iconst 1, 1), (19, .goto 4, 3), (22, .iconst 0, 1), (23, .ireturn, 1)])
theorem okX4_isSign : zok zX4_isSign := ⟨okL_dec (by decide +kernel), gtb_in 487 (by decide +kernel) (by decide +kernel), by decide +kernel, by decide +kernel⟩
def zX4_load : ZM := (yX4_load, cX4_load, 3, (some .int), [(0, .iload_n 1, 1), (1, .invokestatic 79, 3), (4, .ifCond .ne 5, 3), (7, .iconst (-1), 1), (8, .ireturn, 1), (9, .aload_n 0, 1), (10, .iconst 0, 1), (11, .invokevirtual 71, 3), (14, .ifCond .lt 6, 3), (17, .bipush (-5), 2), (19, .ireturn, 1), (20, .iconst 0, 1), (21, .istore_n 2, 1), (22, .iload_n 2, 1), (23, .bipush 12, 2), (25, .if_icmp .ge 29, 3), (28, .aload_n 0, 1), (29, .getfield 7, 3), (32, .bipush 12, 2), (34, .iload_n 1, 1), (35, .imul, 1), (36, .iload_n 2, 1), (37, .iadd, 1), (38, .aload_n 0, 1), (39, .getfield 16, 3), (42, .iload_n 2, 1), (43, .iaload, 1), (44, .invokestatic 60, 3), (47, .iastore, 1), (48, .iinc 2 1, 3), (51, .goto (-29), 3), (54, .aload_n 0, 1), (55, .iconst 0, 1), (56, .putfield 52, 3), (59, .iconst 1, 1), (60, .ireturn, 1)])
theorem okX4_load : zok zX4_load := ⟨okL_dec (by decide +kernel), gtb_in 491 (by decide +kernel) (by decide +kernel), by decide +kernel, by decide +kernel⟩
def zX4_isRow : ZM := (yX4_isRow, cX4_isRow, 1, (some .boolean), [(0, .iload_n 0, 1), (1, .i2l, 1), (2, .lconst 0, 1), (3, .ldc2_w 38, 3), (6, .invokestatic 40, 3), (9, .ireturn, 1)])
theorem okX4_isRow : zok zX4_isRow := ⟨okL_dec (by decide +kernel), gtb_in 494 (by decide +kernel) (by decide +kernel), by decide +kernel, by decide +kernel⟩
def zX4_punch : ZM := (yX4_punch, cX4_punch, 2, (some .int), [(0, .aload_n 0, 1), (1, .iconst 1, 1), (2, .invokevirtual 71, 3), (5, .ifCond .lt 6, 3), (8, .bipush (-5), 2), (10, .ireturn, 1), (11, .iconst 0, 1), (12, .istore_n 1, 1), (13, .iload_n 1, 1), (14, .bipush 12, 2), (16, .if_icmp .ge 24, 3), (19, .aload_n 0, 1), (20, .getfield 13, 3), (23, .iload_n 1, 1), (24, .aload_n 0, 1), (25, .getfield 16, 3), (28, .iload_n 1, 1), (29, .iaload, 1), (30, .invokestatic 60, 3), (33, .iastore, 1), (34, .iinc 1 1, 3), (37, .goto (-24), 3), (40, .aload_n 0, 1), (41, .iconst 0, 1), (42, .putfield 52, 3), (45, .aload_n 0, 1), (46, .invokevirtual 83, 3), (49, .ireturn, 1)])
theorem okX4_punch : zok zX4_punch := ⟨okL_dec (by decide +kernel), gtb_in 499 (by decide +kernel) (by decide +kernel), by decide +kernel, by decide +kernel⟩
def zX4_holesNow : ZM := (yX4_holesNow, cX4_holesNow, 3, (some .int), [(0, .iconst 0, 1), (1, .istore_n 1, 1), (2, .iconst 0, 1), (3, .istore_n 2, 1), (4, .iload_n 2, 1), (5, .bipush 12, 2), (7, .if_icmp .ge 26, 3), (10, .iload_n 1, 1), (11, .aload_n 0, 1), (12, .getfield 13, 3), (15, .iload_n 2, 1), (16, .iaload, 1), (17, .ifCond .ge 7, 3), (20, .iconst 1, 1), (21, .goto 4, 3), (24, .iconst 0, 1), (25, .iadd, 1), (26, .istore_n 1, 1), (27, .iinc 2 1, 3), (30, .goto (-26), 3), (33, .iload_n 1, 1), (34, .ireturn, 1)])
theorem okX4_holesNow : zok zX4_holesNow := ⟨okL_dec (by decide +kernel), gtb_in 503 (by decide +kernel) (by decide +kernel), by decide +kernel, by decide +kernel⟩
def zX4_named : ZM := (yX4_named, cX4_named, 1, (some .int), [(0, .aload_n 0, 1), (1, .invokevirtual 75, 3), (4, .ifCond .lt 8, 3), (7, .bipush (-5), 2), (9, .goto 7, 3), (12, .aload_n 0, 1), (13, .getfield 68, 3), (16, .ireturn, 1)])
theorem okX4_named : zok zX4_named := ⟨okL_dec (by decide +kernel), gtb_in 507 (by decide +kernel) (by decide +kernel), by decide +kernel, by decide +kernel⟩
def zX4_tone : ZM := (yX4_tone, cX4_tone, 3, (some .int), [(0, .iload_n 1, 1), (1, .invokestatic 79, 3), (4, .ifCond .ne 7, 3), (7, .iconst (-1), 1), (8, .goto 21, 3), (11, .iload_n 2, 1), (12, .invokestatic 86, 3), (15, .ifCond .eq 12, 3), (18, .aload_n 0, 1), (19, .iload_n 1, 1), (20, .iload_n 2, 1), (21, .invokevirtual 89, 3), (24, .goto 5, 3), (27, .bipush (-2), 2), (29, .ireturn, 1)])
theorem okX4_tone : zok zX4_tone := ⟨okL_dec (by decide +kernel), gtb_in 511 (by decide +kernel) (by decide +kernel), by decide +kernel, by decide +kernel⟩
def zX4_isPlace : ZM := (yX4_isPlace, cX4_isPlace, 1, (some .boolean), [(0, .iload_n 0, 1), (1, .i2l, 1), (2, .lconst 0, 1), (3, .ldc2_w 46, 3), (6, .invokestatic 40, 3), (9, .ireturn, 1)])
theorem okX4_isPlace : zok zX4_isPlace := ⟨okL_dec (by decide +kernel), gtb_in 514 (by decide +kernel) (by decide +kernel), by decide +kernel, by decide +kernel⟩
def zX4_toneAt : ZM := (yX4_toneAt, cX4_toneAt, 3, (some .int), [(0, .aload_n 0, 1), (1, .getfield 7, 3), (4, .bipush 12, 2), (6, .iload_n 1, 1), (7, .imul, 1), (8, .iload_n 2, 1), (9, .iadd, 1), (10, .iaload, 1), (11, .ireturn, 1)])
theorem okX4_toneAt : zok zX4_toneAt := ⟨okL_dec (by decide +kernel), gtb_in 519 (by decide +kernel) (by decide +kernel), by decide +kernel, by decide +kernel⟩
def zX4_turn : ZM := (yX4_turn, cX4_turn, 5, (some .int), [(0, .iload_n 1, 1), (1, .invokestatic 79, 3), (4, .ifCond .eq 17, 3), (7, .iload_n 2, 1), (8, .invokestatic 102, 3), (11, .ifCond .eq 10, 3), (14, .iload_n 3, 1), (15, .invokestatic 79, 3), (18, .ifCond .ne 5, 3), (21, .iconst (-1), 1), (22, .ireturn, 1), (23, .iconst 0, 1), (24, .istore 4, 2), (26, .iload 4, 2), (28, .bipush 12, 2), (30, .if_icmp .ge 24, 3), (33, .aload_n 0, 1), (34, .getfield 19, 3), (37, .iload 4, 2), (39, .aload_n 0, 1), (40, .iload_n 1, 1), (41, .iload_n 2, 1), (42, .iload 4, 2), (44, .invokevirtual 105, 3), (47, .iastore, 1), (48, .iinc 4 1, 3), (51, .goto (-25), 3), (54, .iconst 0, 1), (55, .istore 4, 2), (57, .iload 4, 2), (59, .bipush 12, 2), (61, .if_icmp .ge 28, 3), (64, .aload_n 0, 1), (65, .getfield 7, 3), (68, .bipush 12, 2), (70, .iload_n 3, 1), (71, .imul, 1), (72, .iload 4, 2), (74, .iadd, 1), (75, .aload_n 0, 1), (76, .getfield 19, 3), (79, .iload 4, 2), (81, .iaload, 1), (82, .iastore, 1), (83, .iinc 4 1, 3), (86, .goto (-29), 3), (89, .iconst 1, 1), (90, .ireturn, 1)])
theorem okX4_turn : zok zX4_turn := ⟨okL_dec (by decide +kernel), gtb_in 523 (by decide +kernel) (by decide +kernel), by decide +kernel, by decide +kernel⟩
def zX4_isForm : ZM := (yX4_isForm, cX4_isForm, 1, (some .boolean), [(0, .iload_n 0, 1), (1, .i2l, 1), (2, .lconst 0, 1), (3, .ldc2_w 44, 3), (6, .invokestatic 40, 3), (9, .ireturn, 1)])
theorem okX4_isForm : zok zX4_isForm := ⟨okL_dec (by decide +kernel), gtb_in 526 (by decide +kernel) (by decide +kernel), by decide +kernel, by decide +kernel⟩
def zX4_formAt : ZM := (yX4_formAt, cX4_formAt, 4, (some .int), [(0, .iload_n 2, 1), (1, .aload_n 0, 1), (2, .iload_n 1, 1), (3, .iload_n 2, 1), (4, .invokestatic 96, 3), (7, .ifCond .eq 10, 3), (10, .bipush 11, 2), (12, .iload_n 3, 1), (13, .isub, 1), (14, .goto 4, 3), (17, .iload_n 3, 1), (18, .invokevirtual 89, 3), (21, .invokestatic 99, 3), (24, .ireturn, 1)])
theorem okX4_formAt : zok zX4_formAt := ⟨okL_dec (by decide +kernel), gtb_in 531 (by decide +kernel) (by decide +kernel), by decide +kernel, by decide +kernel⟩
def zX4_isBack : ZM := (yX4_isBack, cX4_isBack, 1, (some .boolean), [(0, .iload_n 0, 1), (1, .bipush 12, 2), (3, .idiv, 1), (4, .iconst 2, 1), (5, .if_icmp .lt 7, 3), (8, .iconst 1, 1), (9, .goto 4, 3), (12, .iconst 0, 1), (13, .ireturn, 1)])
theorem okX4_isBack : zok zX4_isBack := ⟨okL_dec (by decide +kernel), gtb_in 534 (by decide +kernel) (by decide +kernel), by decide +kernel, by decide +kernel⟩
def zX4_moved : ZM := (yX4_moved, cX4_moved, 3, (some .int), [(0, .iload_n 0, 1), (1, .bipush 12, 2), (3, .irem, 1), (4, .istore_n 2, 1), (5, .iload_n 0, 1), (6, .invokestatic 93, 3), (9, .ifCond .eq 15, 3), (12, .iload_n 2, 1), (13, .bipush 12, 2), (15, .iadd, 1), (16, .iload_n 1, 1), (17, .isub, 1), (18, .bipush 12, 2), (20, .irem, 1), (21, .goto 9, 3), (24, .iload_n 2, 1), (25, .iload_n 1, 1), (26, .iadd, 1), (27, .bipush 12, 2), (29, .irem, 1), (30, .ireturn, 1)])
theorem okX4_moved : zok zX4_moved := ⟨okL_dec (by decide +kernel), gtb_in 537 (by decide +kernel) (by decide +kernel), by decide +kernel, by decide +kernel⟩
def zX4_isMirror : ZM := (yX4_isMirror, cX4_isMirror, 1, (some .boolean), [(0, .iload_n 0, 1), (1, .bipush 12, 2), (3, .idiv, 1), (4, .iconst 2, 1), (5, .irem, 1), (6, .iconst 1, 1), (7, .if_icmp .ne 7, 3), (10, .iconst 1, 1), (11, .goto 4, 3), (14, .iconst 0, 1), (15, .ireturn, 1)])
theorem okX4_isMirror : zok zX4_isMirror := ⟨okL_dec (by decide +kernel), gtb_in 540 (by decide +kernel) (by decide +kernel), by decide +kernel, by decide +kernel⟩
def zX4_behind : ZM := (yX4_behind, cX4_behind, 5, (some .int), [(0, .iload_n 1, 1), (1, .invokestatic 102, 3), (4, .ifCond .eq 10, 3), (7, .iload_n 2, 1), (8, .invokestatic 102, 3), (11, .ifCond .ne 5, 3), (14, .iconst (-1), 1), (15, .ireturn, 1), (16, .iload_n 1, 1), (17, .invokestatic 93, 3), (20, .iload_n 2, 1), (21, .invokestatic 93, 3), (24, .if_icmp .eq 7, 3), (27, .iconst 1, 1), (28, .goto 4, 3), (31, .iconst 0, 1), (32, .istore_n 3, 1), (33, .iload_n 1, 1), (34, .invokestatic 96, 3), (37, .iload_n 2, 1), (38, .invokestatic 96, 3), (41, .if_icmp .eq 7, 3), (44, .iconst 1, 1), (45, .goto 4, 3), (48, .iconst 0, 1), (49, .istore 4, 2), (51, .bipush 12, 2), (53, .iload 4, 2), (55, .ifCond .eq 7, 3), (58, .iconst 2, 1), (59, .goto 4, 3), (62, .iconst 0, 1), (63, .iload_n 3, 1), (64, .ifCond .eq 7, 3), (67, .iconst 1, 1), (68, .goto 4, 3), (71, .iconst 0, 1), (72, .iadd, 1), (73, .imul, 1), (74, .iload_n 1, 1), (75, .iload_n 2, 1), (76, .bipush 12, 2), (78, .irem, 1), (79, .invokestatic 99, 3), (82, .iadd, 1), (83, .ireturn, 1)])
theorem okX4_behind : zok zX4_behind := ⟨okL_dec (by decide +kernel), gtb_in 544 (by decide +kernel) (by decide +kernel), by decide +kernel, by decide +kernel⟩
def zX4_back : ZM := (yX4_back, cX4_back, 3, (some .int), [(0, .iload_n 1, 1), (1, .invokestatic 102, 3), (4, .ifCond .ne 5, 3), (7, .iconst (-1), 1), (8, .ireturn, 1), (9, .iload_n 1, 1), (10, .bipush 12, 2), (12, .irem, 1), (13, .istore_n 2, 1), (14, .iload_n 1, 1), (15, .iload_n 2, 1), (16, .isub, 1), (17, .iload_n 1, 1), (18, .invokestatic 93, 3), (21, .ifCond .eq 7, 3), (24, .iload_n 2, 1), (25, .goto 10, 3), (28, .bipush 12, 2), (30, .iload_n 2, 1), (31, .isub, 1), (32, .bipush 12, 2), (34, .irem, 1), (35, .iadd, 1), (36, .ireturn, 1)])
theorem okX4_back : zok zX4_back := ⟨okL_dec (by decide +kernel), gtb_in 548 (by decide +kernel) (by decide +kernel), by decide +kernel, by decide +kernel⟩
def zX4_canon : ZM := (yX4_canon, cX4_canon, 4, (some .int), [(0, .iload_n 1, 1), (1, .invokestatic 79, 3), (4, .ifCond .ne 5, 3), (7, .iconst (-1), 1), (8, .ireturn, 1), (9, .iload_n 2, 1), (10, .i2l, 1), (11, .lconst 0, 1), (12, .ldc2_w 112, 3), (15, .invokestatic 40, 3), (18, .ifCond .ne 6, 3), (21, .bipush (-2), 2), (23, .ireturn, 1), (24, .aload_n 0, 1), (25, .iload_n 1, 1), (26, .invokevirtual 114, 3), (29, .istore_n 3, 1), (30, .iload_n 2, 1), (31, .bipush 13, 2), (33, .if_icmp .ne 11, 3), (36, .aload_n 0, 1), (37, .iload_n 1, 1), (38, .invokevirtual 117, 3), (41, .goto 20, 3), (44, .iload_n 2, 1), (45, .bipush 12, 2), (47, .if_icmp .ne 7, 3), (50, .iload_n 3, 1), (51, .goto 10, 3), (54, .aload_n 0, 1), (55, .iload_n 1, 1), (56, .iload_n 3, 1), (57, .iload_n 2, 1), (58, .invokevirtual 105, 3), (61, .ireturn, 1)])
theorem okX4_canon : zok zX4_canon := ⟨okL_dec (by decide +kernel), gtb_in 552 (by decide +kernel) (by decide +kernel), by decide +kernel, by decide +kernel⟩
def zX4_canonForm : ZM := (yX4_canonForm, cX4_canonForm, 4, (some .int), [(0, .iconst 0, 1), (1, .istore_n 2, 1), (2, .iconst 1, 1), (3, .istore_n 3, 1), (4, .iload_n 3, 1), (5, .bipush 48, 2), (7, .if_icmp .ge 25, 3), (10, .aload_n 0, 1), (11, .iload_n 1, 1), (12, .iload_n 3, 1), (13, .iload_n 2, 1), (14, .invokevirtual 109, 3), (17, .ifCond .ge 7, 3), (20, .iload_n 3, 1), (21, .goto 4, 3), (24, .iload_n 2, 1), (25, .istore_n 2, 1), (26, .iinc 3 1, 3), (29, .goto (-25), 3), (32, .iload_n 2, 1), (33, .ireturn, 1)])
theorem okX4_canonForm : zok zX4_canonForm := ⟨okL_dec (by decide +kernel), gtb_in 557 (by decide +kernel) (by decide +kernel), by decide +kernel, by decide +kernel⟩
def zX4_compared : ZM := (yX4_compared, cX4_compared, 6, (some .int), [(0, .iconst 0, 1), (1, .istore 4, 2), (3, .iload 4, 2), (5, .bipush 12, 2), (7, .if_icmp .ge 36, 3), (10, .aload_n 0, 1), (11, .iload_n 1, 1), (12, .iload_n 2, 1), (13, .iload 4, 2), (15, .invokevirtual 105, 3), (18, .aload_n 0, 1), (19, .iload_n 1, 1), (20, .iload_n 3, 1), (21, .iload 4, 2), (23, .invokevirtual 105, 3), (26, .isub, 1), (27, .istore 5, 2), (29, .iload 5, 2), (31, .ifCond .eq 6, 3), (34, .iload 5, 2), (36, .ireturn, 1), (37, .iinc 4 1, 3), (40, .goto (-37), 3), (43, .iconst 0, 1), (44, .ireturn, 1)])
theorem okX4_compared : zok zX4_compared := ⟨okL_dec (by decide +kernel), gtb_in 561 (by decide +kernel) (by decide +kernel), by decide +kernel, by decide +kernel⟩
def zX4_sizeOf : ZM := (yX4_sizeOf, cX4_sizeOf, 6, (some .int), [(0, .iconst 0, 1), (1, .istore_n 2, 1), (2, .iconst 0, 1), (3, .istore_n 3, 1), (4, .iload_n 3, 1), (5, .bipush 48, 2), (7, .if_icmp .ge 63, 3), (10, .iconst 1, 1), (11, .istore 4, 2), (13, .iconst 0, 1), (14, .istore 5, 2), (16, .iload 5, 2), (18, .iload_n 3, 1), (19, .if_icmp .ge 32, 3), (22, .iload 4, 2), (24, .ifCond .eq 18, 3), (27, .aload_n 0, 1), (28, .iload_n 1, 1), (29, .iload_n 3, 1), (30, .iload 5, 2), (32, .invokevirtual 109, 3), (35, .ifCond .eq 7, 3), (38, .iconst 1, 1), (39, .goto 4, 3), (42, .iconst 0, 1), (43, .istore 4, 2), (45, .iinc 5 1, 3), (48, .goto (-32), 3), (51, .iload_n 2, 1), (52, .iload 4, 2), (54, .ifCond .eq 7, 3), (57, .iconst 1, 1), (58, .goto 4, 3), (61, .iconst 0, 1), (62, .iadd, 1), (63, .istore_n 2, 1), (64, .iinc 3 1, 3), (67, .goto (-63), 3), (70, .iload_n 2, 1), (71, .ireturn, 1)])
theorem okX4_sizeOf : zok zX4_sizeOf := ⟨okL_dec (by decide +kernel), gtb_in 565 (by decide +kernel) (by decide +kernel), by decide +kernel, by decide +kernel⟩
def zX4_leads : ZM := (yX4_leads, cX4_leads, 6, (some .int), [(0, .iload_n 1, 1), (1, .invokestatic 79, 3), (4, .ifCond .eq 10, 3), (7, .iload_n 2, 1), (8, .invokestatic 79, 3), (11, .ifCond .ne 5, 3), (14, .iconst (-1), 1), (15, .ireturn, 1), (16, .iconst 0, 1), (17, .istore 4, 2), (19, .iconst 0, 1), (20, .istore 5, 2), (22, .iload 5, 2), (24, .bipush 48, 2), (26, .if_icmp .ge 32, 3), (29, .aload_n 0, 1), (30, .iload_n 1, 1), (31, .iload 5, 2), (33, .iload_n 2, 1), (34, .invokevirtual 120, 3), (37, .ifCond .eq 15, 3), (40, .iload 4, 2), (42, .iload_n 3, 1), (43, .if_icmp .ne 6, 3), (46, .iload 5, 2), (48, .ireturn, 1), (49, .iinc 4 1, 3), (52, .iinc 5 1, 3), (55, .goto (-33), 3), (58, .iload_n 3, 1), (59, .iconst (-1), 1), (60, .if_icmp .ne 8, 3), (63, .iload 4, 2), (65, .goto 5, 3), (68, .bipush (-6), 2), (70, .ireturn, 1)])
theorem okX4_leads : zok zX4_leads := ⟨okL_dec (by decide +kernel), gtb_in 569 (by decide +kernel) (by decide +kernel), by decide +kernel, by decide +kernel⟩
def zX4_isLeading : ZM := (yX4_isLeading, cX4_isLeading, 6, (some .boolean), [(0, .iconst 1, 1), (1, .istore 4, 2), (3, .iconst 0, 1), (4, .istore 5, 2), (6, .iload 5, 2), (8, .bipush 12, 2), (10, .if_icmp .ge 39, 3), (13, .iload 4, 2), (15, .ifCond .eq 25, 3), (18, .aload_n 0, 1), (19, .iload_n 1, 1), (20, .iload_n 2, 1), (21, .iload 5, 2), (23, .invokevirtual 105, 3), (26, .aload_n 0, 1), (27, .iload_n 3, 1), (28, .iload 5, 2), (30, .invokevirtual 89, 3), (33, .if_icmp .ne 7, 3), (36, .iconst 1, 1), (37, .goto 4, 3), (40, .iconst 0, 1), (41, .istore 4, 2), (43, .iinc 5 1, 3), (46, .goto (-40), 3), (49, .iload 4, 2), (51, .ireturn, 1)])
theorem okX4_isLeading : zok zX4_isLeading := ⟨okL_dec (by decide +kernel), gtb_in 573 (by decide +kernel) (by decide +kernel), by decide +kernel, by decide +kernel⟩
def zX4_step : ZM := (yX4_step, cX4_step, 3, (some .int), [(0, .iload_n 1, 1), (1, .invokestatic 79, 3), (4, .ifCond .ne 5, 3), (7, .iconst (-1), 1), (8, .ireturn, 1), (9, .iload_n 2, 1), (10, .i2l, 1), (11, .lconst 0, 1), (12, .ldc2_w 46, 3), (15, .invokestatic 40, 3), (18, .ifCond .ne 8, 3), (21, .bipush (-2), 2), (23, .goto 23, 3), (26, .iload_n 2, 1), (27, .bipush 11, 2), (29, .if_icmp .ne 11, 3), (32, .aload_n 0, 1), (33, .iload_n 1, 1), (34, .invokevirtual 127, 3), (37, .goto 9, 3), (40, .aload_n 0, 1), (41, .iload_n 1, 1), (42, .iload_n 2, 1), (43, .invokevirtual 124, 3), (46, .ireturn, 1)])
theorem okX4_step : zok zX4_step := ⟨okL_dec (by decide +kernel), gtb_in 577 (by decide +kernel) (by decide +kernel), by decide +kernel, by decide +kernel⟩
def zX4_unlikeSteps : ZM := (yX4_unlikeSteps, cX4_unlikeSteps, 6, (some .int), [(0, .iconst 0, 1), (1, .istore_n 2, 1), (2, .iconst 0, 1), (3, .istore_n 3, 1), (4, .iconst 0, 1), (5, .istore 4, 2), (7, .iload 4, 2), (9, .bipush 11, 2), (11, .if_icmp .ge 42, 3), (14, .aload_n 0, 1), (15, .iload_n 1, 1), (16, .iload 4, 2), (18, .invokevirtual 124, 3), (21, .istore 5, 2), (23, .iload_n 3, 1), (24, .iload_n 2, 1), (25, .iload 5, 2), (27, .ishr, 1), (28, .iconst 1, 1), (29, .iand, 1), (30, .ifCond .ne 7, 3), (33, .iconst 1, 1), (34, .goto 4, 3), (37, .iconst 0, 1), (38, .iadd, 1), (39, .istore_n 3, 1), (40, .iload_n 2, 1), (41, .iconst 1, 1), (42, .iload 5, 2), (44, .ishl, 1), (45, .ior, 1), (46, .istore_n 2, 1), (47, .iinc 4 1, 3), (50, .goto (-43), 3), (53, .iload_n 3, 1), (54, .ireturn, 1)])
theorem okX4_unlikeSteps : zok zX4_unlikeSteps := ⟨okL_dec (by decide +kernel), gtb_in 581 (by decide +kernel) (by decide +kernel), by decide +kernel, by decide +kernel⟩
def zX4_stepAt : ZM := (yX4_stepAt, cX4_stepAt, 3, (some .int), [(0, .aload_n 0, 1), (1, .iload_n 1, 1), (2, .iload_n 2, 1), (3, .iconst 1, 1), (4, .iadd, 1), (5, .invokevirtual 89, 3), (8, .aload_n 0, 1), (9, .iload_n 1, 1), (10, .iload_n 2, 1), (11, .invokevirtual 89, 3), (14, .isub, 1), (15, .bipush 12, 2), (17, .iadd, 1), (18, .bipush 12, 2), (20, .irem, 1), (21, .ireturn, 1)])
theorem okX4_stepAt : zok zX4_stepAt := ⟨okL_dec (by decide +kernel), gtb_in 585 (by decide +kernel) (by decide +kernel), by decide +kernel, by decide +kernel⟩
def zX4_shared : ZM := (yX4_shared, cX4_shared, 8, (some .int), [(0, .iload_n 1, 1), (1, .invokestatic 79, 3), (4, .ifCond .eq 10, 3), (7, .iload_n 2, 1), (8, .invokestatic 102, 3), (11, .ifCond .ne 5, 3), (14, .iconst (-1), 1), (15, .ireturn, 1), (16, .iload_n 3, 1), (17, .i2l, 1), (18, .ldc2_w 130, 3), (21, .ldc2_w 132, 3), (24, .invokestatic 40, 3), (27, .ifCond .ne 6, 3), (30, .bipush (-2), 2), (32, .ireturn, 1), (33, .iconst 0, 1), (34, .istore 4, 2), (36, .iconst 0, 1), (37, .istore 5, 2), (39, .iload 5, 2), (41, .iload_n 3, 1), (42, .iadd, 1), (43, .bipush 12, 2), (45, .if_icmp .gt 78, 3), (48, .iconst 0, 1), (49, .istore 6, 2), (51, .iconst 0, 1), (52, .istore 7, 2), (54, .iload 7, 2), (56, .iload_n 3, 1), (57, .iadd, 1), (58, .bipush 12, 2), (60, .if_icmp .gt 42, 3), (63, .iload 6, 2), (65, .ifCond .ne 24, 3), (68, .aload_n 0, 1), (69, .iload_n 1, 1), (70, .iconst 0, 1), (71, .iload 5, 2), (73, .iload_n 3, 1), (74, .invokevirtual 134, 3), (77, .aload_n 0, 1), (78, .iload_n 1, 1), (79, .iload_n 2, 1), (80, .iload 7, 2), (82, .iload_n 3, 1), (83, .invokevirtual 134, 3), (86, .if_icmp .ne 7, 3), (89, .iconst 1, 1), (90, .goto 4, 3), (93, .iconst 0, 1), (94, .istore 6, 2), (96, .iinc 7 1, 3), (99, .goto (-45), 3), (102, .iload 4, 2), (104, .iload 6, 2), (106, .ifCond .eq 7, 3), (109, .iconst 1, 1), (110, .goto 4, 3), (113, .iconst 0, 1), (114, .iadd, 1), (115, .istore 4, 2), (117, .iinc 5 1, 3), (120, .goto (-81), 3), (123, .iload 4, 2), (125, .ireturn, 1)])
theorem okX4_shared : zok zX4_shared := ⟨okL_dec (by decide +kernel), gtb_in 589 (by decide +kernel) (by decide +kernel), by decide +kernel, by decide +kernel⟩
def zX4_setAt : ZM := (yX4_setAt, cX4_setAt, 7, (some .int), [(0, .iconst 0, 1), (1, .istore 5, 2), (3, .iload_n 3, 1), (4, .istore 6, 2), (6, .iload 6, 2), (8, .iload_n 3, 1), (9, .iload 4, 2), (11, .iadd, 1), (12, .if_icmp .ge 24, 3), (15, .iload 5, 2), (17, .iconst 1, 1), (18, .aload_n 0, 1), (19, .iload_n 1, 1), (20, .iload_n 2, 1), (21, .iload 6, 2), (23, .invokevirtual 105, 3), (26, .ishl, 1), (27, .ior, 1), (28, .istore 5, 2), (30, .iinc 6 1, 3), (33, .goto (-27), 3), (36, .iload 5, 2), (38, .ireturn, 1)])
theorem okX4_setAt : zok zX4_setAt := ⟨okL_dec (by decide +kernel), gtb_in 595 (by decide +kernel) (by decide +kernel), by decide +kernel, by decide +kernel⟩
def zX4_partner : ZM := (yX4_partner, cX4_partner, 5, (some .int), [(0, .iload_n 1, 1), (1, .invokestatic 79, 3), (4, .ifCond .ne 5, 3), (7, .iconst (-1), 1), (8, .ireturn, 1), (9, .iconst 0, 1), (10, .istore_n 3, 1), (11, .iconst 0, 1), (12, .istore 4, 2), (14, .iload 4, 2), (16, .bipush 48, 2), (18, .if_icmp .ge 43, 3), (21, .aload_n 0, 1), (22, .iload_n 1, 1), (23, .iconst 0, 1), (24, .iconst 0, 1), (25, .bipush 6, 2), (27, .invokevirtual 134, 3), (30, .aload_n 0, 1), (31, .iload_n 1, 1), (32, .iload 4, 2), (34, .iconst 0, 1), (35, .bipush 6, 2), (37, .invokevirtual 134, 3), (40, .iand, 1), (41, .ifCond .ne 14, 3), (44, .iload_n 3, 1), (45, .iload_n 2, 1), (46, .if_icmp .ne 6, 3), (49, .iload 4, 2), (51, .ireturn, 1), (52, .iinc 3 1, 3), (55, .iinc 4 1, 3), (58, .goto (-44), 3), (61, .iload_n 2, 1), (62, .iconst (-1), 1), (63, .if_icmp .ne 7, 3), (66, .iload_n 3, 1), (67, .goto 5, 3), (70, .bipush (-6), 2), (72, .ireturn, 1)])
theorem okX4_partner : zok zX4_partner := ⟨okL_dec (by decide +kernel), gtb_in 599 (by decide +kernel) (by decide +kernel), by decide +kernel, by decide +kernel⟩
def zX4_derived : ZM := (yX4_derived, cX4_derived, 5, (some .int), [(0, .iload_n 1, 1), (1, .invokestatic 79, 3), (4, .ifCond .ne 5, 3), (7, .iconst (-1), 1), (8, .ireturn, 1), (9, .iload_n 2, 1), (10, .iconst 2, 1), (11, .if_icmp .eq 22, 3), (14, .iload_n 2, 1), (15, .iconst 3, 1), (16, .if_icmp .eq 17, 3), (19, .iload_n 2, 1), (20, .iconst 4, 1), (21, .if_icmp .eq 12, 3), (24, .iload_n 2, 1), (25, .bipush 6, 2), (27, .if_icmp .eq 6, 3), (30, .bipush (-2), 2), (32, .ireturn, 1), (33, .iconst 1, 1), (34, .istore_n 3, 1), (35, .iload_n 2, 1), (36, .istore 4, 2), (38, .iload 4, 2), (40, .bipush 12, 2), (42, .if_icmp .ge 33, 3), (45, .iload_n 3, 1), (46, .ifCond .eq 18, 3), (49, .aload_n 0, 1), (50, .iload_n 1, 1), (51, .iload_n 2, 1), (52, .iload 4, 2), (54, .invokevirtual 141, 3), (57, .ifCond .eq 7, 3), (60, .iconst 1, 1), (61, .goto 4, 3), (64, .iconst 0, 1), (65, .istore_n 3, 1), (66, .iload 4, 2), (68, .iload_n 2, 1), (69, .iadd, 1), (70, .istore 4, 2), (72, .goto (-34), 3), (75, .iload_n 3, 1), (76, .ifCond .eq 7, 3), (79, .iconst 1, 1), (80, .goto 4, 3), (83, .iconst 0, 1), (84, .ireturn, 1)])
theorem okX4_derived : zok zX4_derived := ⟨okL_dec (by decide +kernel), gtb_in 603 (by decide +kernel) (by decide +kernel), by decide +kernel, by decide +kernel⟩
def zX4_isGroup : ZM := (yX4_isGroup, cX4_isGroup, 8, (some .boolean), [(0, .iconst 0, 1), (1, .istore 4, 2), (3, .iconst 0, 1), (4, .istore 5, 2), (6, .iload 5, 2), (8, .bipush 48, 2), (10, .if_icmp .ge 78, 3), (13, .iconst 1, 1), (14, .istore 6, 2), (16, .iconst 0, 1), (17, .istore 7, 2), (19, .iload 7, 2), (21, .iload_n 2, 1), (22, .if_icmp .ge 43, 3), (25, .iload 6, 2), (27, .ifCond .eq 29, 3), (30, .aload_n 0, 1), (31, .iload_n 1, 1), (32, .iload_n 2, 1), (33, .iload 5, 2), (35, .iload 7, 2), (37, .invokevirtual 138, 3), (40, .aload_n 0, 1), (41, .iload_n 1, 1), (42, .iload_n 3, 1), (43, .iload 7, 2), (45, .iadd, 1), (46, .invokevirtual 89, 3), (49, .if_icmp .ne 7, 3), (52, .iconst 1, 1), (53, .goto 4, 3), (56, .iconst 0, 1), (57, .istore 6, 2), (59, .iinc 7 1, 3), (62, .goto (-43), 3), (65, .iload 4, 2), (67, .ifCond .ne 8, 3), (70, .iload 6, 2), (72, .ifCond .eq 7, 3), (75, .iconst 1, 1), (76, .goto 4, 3), (79, .iconst 0, 1), (80, .istore 4, 2), (82, .iinc 5 1, 3), (85, .goto (-79), 3), (88, .iload 4, 2), (90, .ireturn, 1)])
theorem okX4_isGroup : zok zX4_isGroup := ⟨okL_dec (by decide +kernel), gtb_in 607 (by decide +kernel) (by decide +kernel), by decide +kernel, by decide +kernel⟩
def zX4_groupAt : ZM := (yX4_groupAt, cX4_groupAt, 5, (some .int), [(0, .iload_n 3, 1), (1, .aload_n 0, 1), (2, .iload_n 1, 1), (3, .iload_n 3, 1), (4, .invokestatic 96, 3), (7, .ifCond .eq 12, 3), (10, .iload_n 2, 1), (11, .iconst 1, 1), (12, .isub, 1), (13, .iload 4, 2), (15, .isub, 1), (16, .goto 5, 3), (19, .iload 4, 2), (21, .invokevirtual 89, 3), (24, .invokestatic 99, 3), (27, .ireturn, 1)])
theorem okX4_groupAt : zok zX4_groupAt := ⟨okL_dec (by decide +kernel), gtb_in 611 (by decide +kernel) (by decide +kernel), by decide +kernel, by decide +kernel⟩
def zX4_making : ZM := (yX4_making, cX4_making, 9, (some .int), [(0, .iload_n 1, 1), (1, .invokestatic 79, 3), (4, .ifCond .ne 5, 3), (7, .iconst (-1), 1), (8, .ireturn, 1), (9, .iload_n 2, 1), (10, .i2l, 1), (11, .ldc2_w 38, 3), (14, .ldc2_w 160, 3), (17, .invokestatic 40, 3), (20, .ifCond .eq 21, 3), (23, .iload 4, 2), (25, .invokestatic 86, 3), (28, .ifCond .eq 13, 3), (31, .iload_n 3, 1), (32, .iconst (-1), 1), (33, .if_icmp .ne 11, 3), (36, .iload 4, 2), (38, .ifCond .eq 6, 3), (41, .bipush (-2), 2), (43, .ireturn, 1), (44, .bipush 12, 2), (46, .iload_n 2, 1), (47, .idiv, 1), (48, .iconst 2, 1), (49, .isub, 1), (50, .istore 5, 2), (52, .iconst 0, 1), (53, .istore 6, 2), (55, .aload_n 0, 1), (56, .iload_n 1, 1), (57, .iload_n 2, 1), (58, .iload 5, 2), (60, .invokevirtual 162, 3), (63, .istore 7, 2), (65, .iload 7, 2), (67, .ifCond .eq 71, 3), (70, .iload 6, 2), (72, .iload_n 3, 1), (73, .if_icmp .ne 49, 3), (76, .iload 4, 2), (78, .iload_n 2, 1), (79, .idiv, 1), (80, .istore 8, 2), (82, .iload 8, 2), (84, .ifCond .ne 13, 3), (87, .aload_n 0, 1), (88, .iload_n 1, 1), (89, .iload 4, 2), (91, .invokevirtual 89, 3), (94, .goto 27, 3), (97, .aload_n 0, 1), (98, .iload_n 1, 1), (99, .iload_n 2, 1), (100, .aload_n 0, 1), (101, .getfield 22, 3), (104, .aload_n 0, 1), (105, .getfield 28, 3), (108, .iload 8, 2), (110, .iconst 1, 1), (111, .isub, 1), (112, .iaload, 1), (113, .iaload, 1), (114, .iload 4, 2), (116, .iload_n 2, 1), (117, .irem, 1), (118, .invokevirtual 138, 3), (121, .ireturn, 1), (122, .iinc 6 1, 3), (125, .aload_n 0, 1), (126, .iload_n 1, 1), (127, .iload_n 2, 1), (128, .iload 5, 2), (130, .invokevirtual 165, 3), (133, .istore 7, 2), (135, .goto (-70), 3), (138, .iload_n 3, 1), (139, .iconst (-1), 1), (140, .if_icmp .ne 8, 3), (143, .iload 6, 2), (145, .goto 5, 3), (148, .bipush (-6), 2), (150, .ireturn, 1)])
theorem okX4_making : zok zX4_making := ⟨okL_dec (by decide +kernel), gtb_in 615 (by decide +kernel) (by decide +kernel), by decide +kernel, by decide +kernel⟩
def zX4_isFirst : ZM := (yX4_isFirst, cX4_isFirst, 5, (some .boolean), [(0, .aload_n 0, 1), (1, .iconst 0, 1), (2, .putfield 144, 3), (5, .iconst 0, 1), (6, .istore 4, 2), (8, .iload 4, 2), (10, .bipush 48, 2), (12, .if_icmp .ge 17, 3), (15, .aload_n 0, 1), (16, .iload_n 1, 1), (17, .iload_n 2, 1), (18, .iload 4, 2), (20, .invokevirtual 156, 3), (23, .iinc 4 1, 3), (26, .goto (-18), 3), (29, .iconst 0, 1), (30, .istore 4, 2), (32, .aload_n 0, 1), (33, .getfield 28, 3), (36, .iconst 0, 1), (37, .iconst (-1), 1), (38, .iastore, 1), (39, .iload 4, 2), (41, .ifCond .lt 71, 3), (44, .iload 4, 2), (46, .iload_n 3, 1), (47, .if_icmp .gt 65, 3), (50, .aload_n 0, 1), (51, .getfield 28, 3), (54, .iload 4, 2), (56, .dup2, 1), (57, .iaload, 1), (58, .iconst 1, 1), (59, .iadd, 1), (60, .iastore, 1), (61, .aload_n 0, 1), (62, .getfield 28, 3), (65, .iload 4, 2), (67, .iaload, 1), (68, .aload_n 0, 1), (69, .getfield 144, 3), (72, .if_icmp .ne 9, 3), (75, .iinc 4 (-1), 3), (78, .goto (-39), 3), (81, .aload_n 0, 1), (82, .iload_n 1, 1), (83, .iload_n 2, 1), (84, .iload 4, 2), (86, .invokevirtual 150, 3), (89, .ifCond .eq (-50), 3), (92, .iinc 4 1, 3), (95, .iload 4, 2), (97, .iload_n 3, 1), (98, .if_icmp .gt (-59), 3), (101, .aload_n 0, 1), (102, .getfield 28, 3), (105, .iload 4, 2), (107, .iconst (-1), 1), (108, .iastore, 1), (109, .goto (-70), 3), (112, .iload 4, 2), (114, .iload_n 3, 1), (115, .if_icmp .le 7, 3), (118, .iconst 1, 1), (119, .goto 4, 3), (122, .iconst 0, 1), (123, .ireturn, 1)])
theorem okX4_isFirst : zok zX4_isFirst := ⟨okL_dec (by decide +kernel), gtb_in 620 (by decide +kernel) (by decide +kernel), by decide +kernel, by decide +kernel⟩
def zX4_addGroup : ZM := (yX4_addGroup, cX4_addGroup, 6, none, [(0, .iconst 0, 1), (1, .istore 4, 2), (3, .iload 4, 2), (5, .aload_n 0, 1), (6, .getfield 144, 3), (9, .if_icmp .ge 26, 3), (12, .aload_n 0, 1), (13, .iload_n 1, 1), (14, .iload_n 2, 1), (15, .aload_n 0, 1), (16, .getfield 22, 3), (19, .iload 4, 2), (21, .iaload, 1), (22, .iload_n 3, 1), (23, .invokevirtual 147, 3), (26, .ifCond .ge 9, 3), (29, .iinc 4 1, 3), (32, .goto (-29), 3), (35, .iload 4, 2), (37, .aload_n 0, 1), (38, .getfield 144, 3), (41, .if_icmp .ge 21, 3), (44, .aload_n 0, 1), (45, .iload_n 1, 1), (46, .iload_n 2, 1), (47, .aload_n 0, 1), (48, .getfield 22, 3), (51, .iload 4, 2), (53, .iaload, 1), (54, .iload_n 3, 1), (55, .invokevirtual 147, 3), (58, .ifCond .ne 4, 3), (61, .return_, 1), (62, .aload_n 0, 1), (63, .getfield 144, 3), (66, .istore 5, 2), (68, .iload 5, 2), (70, .iload 4, 2), (72, .if_icmp .le 41, 3), (75, .aload_n 0, 1), (76, .getfield 22, 3), (79, .iload 5, 2), (81, .aload_n 0, 1), (82, .getfield 22, 3), (85, .iload 5, 2), (87, .iconst 1, 1), (88, .isub, 1), (89, .iaload, 1), (90, .iastore, 1), (91, .aload_n 0, 1), (92, .getfield 25, 3), (95, .iload 5, 2), (97, .aload_n 0, 1), (98, .getfield 25, 3), (101, .iload 5, 2), (103, .iconst 1, 1), (104, .isub, 1), (105, .iaload, 1), (106, .iastore, 1), (107, .iinc 5 (-1), 3), (110, .goto (-42), 3), (113, .aload_n 0, 1), (114, .getfield 22, 3), (117, .iload 4, 2), (119, .iload_n 3, 1), (120, .iastore, 1), (121, .aload_n 0, 1), (122, .getfield 25, 3), (125, .iload 4, 2), (127, .iconst 0, 1), (128, .iastore, 1), (129, .iconst 0, 1), (130, .istore 5, 2), (132, .iload 5, 2), (134, .iload_n 2, 1), (135, .if_icmp .ge 30, 3), (138, .aload_n 0, 1), (139, .getfield 25, 3), (142, .iload 4, 2), (144, .dup2, 1), (145, .iaload, 1), (146, .iconst 1, 1), (147, .aload_n 0, 1), (148, .iload_n 1, 1), (149, .iload_n 2, 1), (150, .iload_n 3, 1), (151, .iload 5, 2), (153, .invokevirtual 138, 3), (156, .ishl, 1), (157, .ior, 1), (158, .iastore, 1), (159, .iinc 5 1, 3), (162, .goto (-30), 3), (165, .aload_n 0, 1), (166, .dup, 1), (167, .getfield 144, 3), (170, .iconst 1, 1), (171, .iadd, 1), (172, .putfield 144, 3), (175, .return_, 1)])
theorem okX4_addGroup : zok zX4_addGroup := ⟨okL_dec (by decide +kernel), gtb_in 624 (by decide +kernel) (by decide +kernel), by decide +kernel, by decide +kernel⟩
def zX4_comparedGroups : ZM := (yX4_comparedGroups, cX4_comparedGroups, 7, (some .int), [(0, .iconst 0, 1), (1, .istore 5, 2), (3, .iload 5, 2), (5, .iload_n 2, 1), (6, .if_icmp .ge 39, 3), (9, .aload_n 0, 1), (10, .iload_n 1, 1), (11, .iload_n 2, 1), (12, .iload_n 3, 1), (13, .iload 5, 2), (15, .invokevirtual 138, 3), (18, .aload_n 0, 1), (19, .iload_n 1, 1), (20, .iload_n 2, 1), (21, .iload 4, 2), (23, .iload 5, 2), (25, .invokevirtual 138, 3), (28, .isub, 1), (29, .istore 6, 2), (31, .iload 6, 2), (33, .ifCond .eq 6, 3), (36, .iload 6, 2), (38, .ireturn, 1), (39, .iinc 5 1, 3), (42, .goto (-39), 3), (45, .iconst 0, 1), (46, .ireturn, 1)])
theorem okX4_comparedGroups : zok zX4_comparedGroups := ⟨okL_dec (by decide +kernel), gtb_in 628 (by decide +kernel) (by decide +kernel), by decide +kernel, by decide +kernel⟩
def zX4_fits : ZM := (yX4_fits, cX4_fits, 6, (some .boolean), [(0, .aload_n 0, 1), (1, .iload_n 1, 1), (2, .iload_n 2, 1), (3, .invokevirtual 153, 3), (6, .istore 4, 2), (8, .iconst 0, 1), (9, .istore 5, 2), (11, .iload 5, 2), (13, .iload_n 3, 1), (14, .if_icmp .ge 26, 3), (17, .iload 4, 2), (19, .aload_n 0, 1), (20, .getfield 25, 3), (23, .aload_n 0, 1), (24, .getfield 28, 3), (27, .iload 5, 2), (29, .iaload, 1), (30, .iaload, 1), (31, .ior, 1), (32, .istore 4, 2), (34, .iinc 5 1, 3), (37, .goto (-26), 3), (40, .iload 4, 2), (42, .aload_n 0, 1), (43, .getfield 25, 3), (46, .aload_n 0, 1), (47, .getfield 28, 3), (50, .iload_n 3, 1), (51, .iaload, 1), (52, .iaload, 1), (53, .iand, 1), (54, .ifCond .ne 7, 3), (57, .iconst 1, 1), (58, .goto 4, 3), (61, .iconst 0, 1), (62, .ireturn, 1)])
theorem okX4_fits : zok zX4_fits := ⟨okL_dec (by decide +kernel), gtb_in 632 (by decide +kernel) (by decide +kernel), by decide +kernel, by decide +kernel⟩
def zX4_firstSet : ZM := (yX4_firstSet, cX4_firstSet, 5, (some .int), [(0, .iconst 0, 1), (1, .istore_n 3, 1), (2, .iconst 0, 1), (3, .istore 4, 2), (5, .iload 4, 2), (7, .iload_n 2, 1), (8, .if_icmp .ge 21, 3), (11, .iload_n 3, 1), (12, .iconst 1, 1), (13, .aload_n 0, 1), (14, .iload_n 1, 1), (15, .iload 4, 2), (17, .invokevirtual 89, 3), (20, .ishl, 1), (21, .ior, 1), (22, .istore_n 3, 1), (23, .iinc 4 1, 3), (26, .goto (-21), 3), (29, .iload_n 3, 1), (30, .ireturn, 1)])
theorem okX4_firstSet : zok zX4_firstSet := ⟨okL_dec (by decide +kernel), gtb_in 636 (by decide +kernel) (by decide +kernel), by decide +kernel, by decide +kernel⟩
def zX4_isNext : ZM := (yX4_isNext, cX4_isNext, 5, (some .boolean), [(0, .iload_n 3, 1), (1, .istore 4, 2), (3, .iload 4, 2), (5, .ifCond .lt 73, 3), (8, .iload 4, 2), (10, .iload_n 3, 1), (11, .iconst 1, 1), (12, .iadd, 1), (13, .if_icmp .ge 65, 3), (16, .aload_n 0, 1), (17, .getfield 28, 3), (20, .iload 4, 2), (22, .dup2, 1), (23, .iaload, 1), (24, .iconst 1, 1), (25, .iadd, 1), (26, .iastore, 1), (27, .aload_n 0, 1), (28, .getfield 28, 3), (31, .iload 4, 2), (33, .iaload, 1), (34, .aload_n 0, 1), (35, .getfield 144, 3), (38, .if_icmp .ne 9, 3), (41, .iinc 4 (-1), 3), (44, .goto (-41), 3), (47, .aload_n 0, 1), (48, .iload_n 1, 1), (49, .iload_n 2, 1), (50, .iload 4, 2), (52, .invokevirtual 150, 3), (55, .ifCond .eq (-52), 3), (58, .iinc 4 1, 3), (61, .iload 4, 2), (63, .iload_n 3, 1), (64, .if_icmp .gt (-61), 3), (67, .aload_n 0, 1), (68, .getfield 28, 3), (71, .iload 4, 2), (73, .iconst (-1), 1), (74, .iastore, 1), (75, .goto (-72), 3), (78, .iload 4, 2), (80, .iload_n 3, 1), (81, .if_icmp .le 7, 3), (84, .iconst 1, 1), (85, .goto 4, 3), (88, .iconst 0, 1), (89, .ireturn, 1)])
theorem okX4_isNext : zok zX4_isNext := ⟨okL_dec (by decide +kernel), gtb_in 640 (by decide +kernel) (by decide +kernel), by decide +kernel, by decide +kernel⟩
def zX4_fillings : ZM := (yX4_fillings, cX4_fillings, 5, (some .int), [(0, .iload_n 1, 1), (1, .invokestatic 102, 3), (4, .ifCond .ne 5, 3), (7, .iconst (-1), 1), (8, .ireturn, 1), (9, .aload_n 0, 1), (10, .iload_n 1, 1), (11, .invokevirtual 177, 3), (14, .ifCond .ne 5, 3), (17, .iconst 0, 1), (18, .ireturn, 1), (19, .iconst 0, 1), (20, .istore_n 2, 1), (21, .iconst 0, 1), (22, .istore_n 3, 1), (23, .iload_n 3, 1), (24, .bipush 12, 2), (26, .if_icmp .ge 48, 3), (29, .iload_n 2, 1), (30, .aload_n 0, 1), (31, .getfield 13, 3), (34, .iload_n 3, 1), (35, .iaload, 1), (36, .ifCond .ge 29, 3), (39, .iload_n 1, 1), (40, .ifCond .eq 21, 3), (43, .iload_n 3, 1), (44, .bipush 6, 2), (46, .if_icmp .ge 19, 3), (49, .aload_n 0, 1), (50, .getfield 13, 3), (53, .bipush 11, 2), (55, .iload_n 3, 1), (56, .isub, 1), (57, .iaload, 1), (58, .ifCond .ge 7, 3), (61, .iconst 1, 1), (62, .goto 4, 3), (65, .iconst 0, 1), (66, .iadd, 1), (67, .istore_n 2, 1), (68, .iinc 3 1, 3), (71, .goto (-48), 3), (74, .iconst 1, 1), (75, .istore_n 3, 1), (76, .iconst 1, 1), (77, .istore 4, 2), (79, .iload 4, 2), (81, .iload_n 2, 1), (82, .if_icmp .gt 25, 3), (85, .iload_n 3, 1), (86, .iload_n 1, 1), (87, .ifCond .ne 8, 3), (90, .iload 4, 2), (92, .goto 7, 3), (95, .iconst 2, 1), (96, .iload 4, 2), (98, .imul, 1), (99, .imul, 1), (100, .istore_n 3, 1), (101, .iinc 4 1, 3), (104, .goto (-25), 3), (107, .iload_n 3, 1), (108, .ireturn, 1)])
theorem okX4_fillings : zok zX4_fillings := ⟨okL_dec (by decide +kernel), gtb_in 644 (by decide +kernel) (by decide +kernel), by decide +kernel, by decide +kernel⟩
def zX4_isWell : ZM := (yX4_isWell, cX4_isWell, 6, (some .boolean), [(0, .iload_n 1, 1), (1, .invokestatic 168, 3), (4, .istore_n 2, 1), (5, .iconst 0, 1), (6, .istore_n 3, 1), (7, .iload_n 3, 1), (8, .bipush 12, 2), (10, .if_icmp .ge 92, 3), (13, .iload_n 1, 1), (14, .ifCond .le 88, 3), (17, .aload_n 0, 1), (18, .getfield 13, 3), (21, .iload_n 3, 1), (22, .iaload, 1), (23, .ifCond .lt 73, 3), (26, .iload_n 1, 1), (27, .aload_n 0, 1), (28, .getfield 13, 3), (31, .iload_n 3, 1), (32, .iaload, 1), (33, .invokestatic 171, 3), (36, .istore 4, 2), (38, .aload_n 0, 1), (39, .iload 4, 2), (41, .invokevirtual 174, 3), (44, .istore 5, 2), (46, .iload_n 2, 1), (47, .ifCond .eq 47, 3), (50, .iload 5, 2), (52, .ifCond .lt 12, 3), (55, .iload 5, 2), (57, .bipush 11, 2), (59, .iload_n 3, 1), (60, .isub, 1), (61, .if_icmp .ne 33, 3), (64, .aload_n 0, 1), (65, .getfield 13, 3), (68, .bipush 11, 2), (70, .iload_n 3, 1), (71, .isub, 1), (72, .iaload, 1), (73, .ifCond .lt 17, 3), (76, .aload_n 0, 1), (77, .getfield 13, 3), (80, .bipush 11, 2), (82, .iload_n 3, 1), (83, .isub, 1), (84, .iaload, 1), (85, .iload 4, 2), (87, .if_icmp .ne 7, 3), (90, .iconst 1, 1), (91, .goto 4, 3), (94, .iconst 0, 1), (95, .istore_n 2, 1), (96, .iinc 3 1, 3), (99, .goto (-92), 3), (102, .iload_n 2, 1), (103, .ireturn, 1)])
theorem okX4_isWell : zok zX4_isWell := ⟨okL_dec (by decide +kernel), gtb_in 648 (by decide +kernel) (by decide +kernel), by decide +kernel, by decide +kernel⟩
def zX4_isKeeping : ZM := (yX4_isKeeping, cX4_isKeeping, 1, (some .boolean), [(0, .iload_n 0, 1), (1, .ifCond .eq 22, 3), (4, .iload_n 0, 1), (5, .bipush 30, 2), (7, .if_icmp .eq 16, 3), (10, .iload_n 0, 1), (11, .bipush 36, 2), (13, .if_icmp .le 14, 3), (16, .iload_n 0, 1), (17, .iconst 2, 1), (18, .irem, 1), (19, .iconst 1, 1), (20, .if_icmp .ne 7, 3), (23, .iconst 1, 1), (24, .goto 4, 3), (27, .iconst 0, 1), (28, .ireturn, 1)])
theorem okX4_isKeeping : zok zX4_isKeeping := ⟨okL_dec (by decide +kernel), gtb_in 651 (by decide +kernel) (by decide +kernel), by decide +kernel, by decide +kernel⟩
def zX4_across : ZM := (yX4_across, cX4_across, 2, (some .int), [(0, .iload_n 0, 1), (1, .iload_n 1, 1), (2, .invokestatic 99, 3), (5, .ireturn, 1)])
theorem okX4_across : zok zX4_across := ⟨okL_dec (by decide +kernel), gtb_in 654 (by decide +kernel) (by decide +kernel), by decide +kernel, by decide +kernel⟩
def zX4_placeOf : ZM := (yX4_placeOf, cX4_placeOf, 3, (some .int), [(0, .iconst 0, 1), (1, .istore_n 2, 1), (2, .iload_n 2, 1), (3, .bipush 12, 2), (5, .if_icmp .ge 21, 3), (8, .aload_n 0, 1), (9, .getfield 13, 3), (12, .iload_n 2, 1), (13, .iaload, 1), (14, .iload_n 1, 1), (15, .if_icmp .ne 5, 3), (18, .iload_n 2, 1), (19, .ireturn, 1), (20, .iinc 2 1, 3), (23, .goto (-21), 3), (26, .bipush (-6), 2), (28, .ireturn, 1)])
theorem okX4_placeOf : zok zX4_placeOf := ⟨okL_dec (by decide +kernel), gtb_in 658 (by decide +kernel) (by decide +kernel), by decide +kernel, by decide +kernel⟩
def zX4_filling : ZM := (yX4_filling, cX4_filling, 3, (some .int), [(0, .iload_n 1, 1), (1, .invokestatic 102, 3), (4, .ifCond .ne 5, 3), (7, .iconst (-1), 1), (8, .ireturn, 1), (9, .iload_n 2, 1), (10, .invokestatic 86, 3), (13, .ifCond .ne 6, 3), (16, .bipush (-2), 2), (18, .ireturn, 1), (19, .aload_n 0, 1), (20, .iload_n 1, 1), (21, .invokevirtual 177, 3), (24, .ifCond .ne 6, 3), (27, .bipush (-6), 2), (29, .ireturn, 1), (30, .aload_n 0, 1), (31, .iload_n 1, 1), (32, .invokevirtual 186, 3), (35, .aload_n 0, 1), (36, .getfield 19, 3), (39, .iload_n 2, 1), (40, .iaload, 1), (41, .ireturn, 1)])
theorem okX4_filling : zok zX4_filling := ⟨okL_dec (by decide +kernel), gtb_in 662 (by decide +kernel) (by decide +kernel), by decide +kernel, by decide +kernel⟩
def zX4_fill : ZM := (yX4_fill, cX4_fill, 4, none, [(0, .iconst 0, 1), (1, .istore_n 2, 1), (2, .iload_n 2, 1), (3, .bipush 12, 2), (5, .if_icmp .ge 21, 3), (8, .aload_n 0, 1), (9, .getfield 19, 3), (12, .iload_n 2, 1), (13, .aload_n 0, 1), (14, .getfield 13, 3), (17, .iload_n 2, 1), (18, .iaload, 1), (19, .iastore, 1), (20, .iinc 2 1, 3), (23, .goto (-21), 3), (26, .iconst 0, 1), (27, .istore_n 2, 1), (28, .iload_n 2, 1), (29, .bipush 12, 2), (31, .if_icmp .ge 41, 3), (34, .iload_n 1, 1), (35, .ifCond .le 37, 3), (38, .aload_n 0, 1), (39, .getfield 19, 3), (42, .iload_n 2, 1), (43, .iaload, 1), (44, .ifCond .lt 22, 3), (47, .aload_n 0, 1), (48, .getfield 19, 3), (51, .bipush 11, 2), (53, .iload_n 2, 1), (54, .isub, 1), (55, .iload_n 1, 1), (56, .aload_n 0, 1), (57, .getfield 19, 3), (60, .iload_n 2, 1), (61, .iaload, 1), (62, .invokestatic 171, 3), (65, .iastore, 1), (66, .iinc 2 1, 3), (69, .goto (-41), 3), (72, .iconst 0, 1), (73, .istore_n 2, 1), (74, .iload_n 2, 1), (75, .bipush 12, 2), (77, .if_icmp .ge 61, 3), (80, .aload_n 0, 1), (81, .getfield 19, 3), (84, .iload_n 2, 1), (85, .iaload, 1), (86, .ifCond .ge 46, 3), (89, .aload_n 0, 1), (90, .iload_n 1, 1), (91, .invokevirtual 183, 3), (94, .istore_n 3, 1), (95, .aload_n 0, 1), (96, .getfield 19, 3), (99, .iload_n 2, 1), (100, .iload_n 3, 1), (101, .iastore, 1), (102, .aload_n 0, 1), (103, .getfield 19, 3), (106, .bipush 11, 2), (108, .iload_n 2, 1), (109, .isub, 1), (110, .iload_n 1, 1), (111, .ifCond .le 11, 3), (114, .iload_n 1, 1), (115, .iload_n 3, 1), (116, .invokestatic 171, 3), (119, .goto 12, 3), (122, .aload_n 0, 1), (123, .getfield 19, 3), (126, .bipush 11, 2), (128, .iload_n 2, 1), (129, .isub, 1), (130, .iaload, 1), (131, .iastore, 1), (132, .iinc 2 1, 3), (135, .goto (-61), 3), (138, .return_, 1)])
theorem okX4_fill : zok zX4_fill := ⟨okL_dec (by decide +kernel), gtb_in 666 (by decide +kernel) (by decide +kernel), by decide +kernel, by decide +kernel⟩
def zX4_leastFree : ZM := (yX4_leastFree, cX4_leastFree, 3, (some .int), [(0, .iconst 0, 1), (1, .istore_n 2, 1), (2, .aload_n 0, 1), (3, .iload_n 2, 1), (4, .invokevirtual 180, 3), (7, .ifCond .ne 19, 3), (10, .iload_n 1, 1), (11, .ifCond .le 21, 3), (14, .aload_n 0, 1), (15, .iload_n 1, 1), (16, .iload_n 2, 1), (17, .invokestatic 171, 3), (20, .invokevirtual 180, 3), (23, .ifCond .eq 9, 3), (26, .iinc 2 1, 3), (29, .goto (-27), 3), (32, .iload_n 2, 1), (33, .ireturn, 1)])
theorem okX4_leastFree : zok zX4_leastFree := ⟨okL_dec (by decide +kernel), gtb_in 670 (by decide +kernel) (by decide +kernel), by decide +kernel, by decide +kernel⟩
def zX4_isUsed : ZM := (yX4_isUsed, cX4_isUsed, 4, (some .boolean), [(0, .iconst 0, 1), (1, .istore_n 2, 1), (2, .iconst 0, 1), (3, .istore_n 3, 1), (4, .iload_n 3, 1), (5, .bipush 12, 2), (7, .if_icmp .ge 29, 3), (10, .iload_n 2, 1), (11, .ifCond .ne 13, 3), (14, .aload_n 0, 1), (15, .getfield 19, 3), (18, .iload_n 3, 1), (19, .iaload, 1), (20, .iload_n 1, 1), (21, .if_icmp .ne 7, 3), (24, .iconst 1, 1), (25, .goto 4, 3), (28, .iconst 0, 1), (29, .istore_n 2, 1), (30, .iinc 3 1, 3), (33, .goto (-29), 3), (36, .iload_n 2, 1), (37, .ireturn, 1)])
theorem okX4_isUsed : zok zX4_isUsed := ⟨okL_dec (by decide +kernel), gtb_in 674 (by decide +kernel) (by decide +kernel), by decide +kernel, by decide +kernel⟩
def zX4_sign : ZM := (yX4_sign, cX4_sign, 8, (some .int), [(0, .iload_n 1, 1), (1, .invokestatic 79, 3), (4, .ifCond .eq 10, 3), (7, .iload_n 2, 1), (8, .invokestatic 102, 3), (11, .ifCond .ne 5, 3), (14, .iconst (-1), 1), (15, .ireturn, 1), (16, .iload_n 2, 1), (17, .bipush 12, 2), (19, .idiv, 1), (20, .istore 4, 2), (22, .iload_n 2, 1), (23, .bipush 12, 2), (25, .irem, 1), (26, .istore 5, 2), (28, .iload 4, 2), (30, .iconst 3, 1), (31, .if_icmp .ne 7, 3), (34, .iconst 2, 1), (35, .goto 4, 3), (38, .iconst 1, 1), (39, .istore 6, 2), (41, .iload 6, 2), (43, .iload 5, 2), (45, .bipush 9, 2), (47, .if_icmp .le 7, 3), (50, .iconst 2, 1), (51, .goto 4, 3), (54, .iconst 1, 1), (55, .iadd, 1), (56, .istore 7, 2), (58, .iload_n 3, 1), (59, .iconst (-1), 1), (60, .if_icmp .ne 11, 3), (63, .iload 7, 2), (65, .iconst 1, 1), (66, .iadd, 1), (67, .bipush 12, 2), (69, .iadd, 1), (70, .ireturn, 1), (71, .iload_n 3, 1), (72, .i2l, 1), (73, .lconst 0, 1), (74, .iload 7, 2), (76, .bipush 12, 2), (78, .iadd, 1), (79, .i2l, 1), (80, .invokestatic 40, 3), (83, .ifCond .ne 6, 3), (86, .bipush (-6), 2), (88, .ireturn, 1), (89, .iload_n 3, 1), (90, .iload 6, 2), (92, .if_icmp .ge 32, 3), (95, .iload 4, 2), (97, .ifCond .ne 8, 3), (100, .bipush 80, 2), (102, .goto 21, 3), (105, .iload 4, 2), (107, .iconst 1, 1), (108, .if_icmp .eq 8, 3), (111, .iload_n 3, 1), (112, .iconst 1, 1), (113, .if_icmp .ne 8, 3), (116, .bipush 73, 2), (118, .goto 5, 3), (121, .bipush 82, 2), (123, .ireturn, 1), (124, .iload_n 3, 1), (125, .iload 7, 2), (127, .if_icmp .ge 29, 3), (130, .bipush 48, 2), (132, .iload 5, 2), (134, .bipush 9, 2), (136, .if_icmp .le 13, 3), (139, .iload_n 3, 1), (140, .iload 6, 2), (142, .if_icmp .ne 7, 3), (145, .iconst 1, 1), (146, .goto 8, 3), (149, .iload 5, 2), (151, .bipush 10, 2), (153, .irem, 1), (154, .iadd, 1), (155, .ireturn, 1), (156, .iload_n 3, 1), (157, .iload 7, 2), (159, .if_icmp .ne 8, 3), (162, .bipush 58, 2), (164, .goto 18, 3), (167, .aload_n 0, 1), (168, .iload_n 1, 1), (169, .iload_n 2, 1), (170, .iload_n 3, 1), (171, .iload 7, 2), (173, .isub, 1), (174, .iconst 1, 1), (175, .isub, 1), (176, .invokevirtual 105, 3), (179, .invokestatic 190, 3), (182, .ireturn, 1)])
theorem okX4_sign : zok zX4_sign := ⟨okL_dec (by decide +kernel), gtb_in 678 (by decide +kernel) (by decide +kernel), by decide +kernel, by decide +kernel⟩
def zX4_signOf : ZM := (yX4_signOf, cX4_signOf, 1, (some .int), [(0, .iload_n 0, 1), (1, .bipush 10, 2), (3, .if_icmp .ne 8, 3), (6, .bipush 116, 2), (8, .goto 18, 3), (11, .iload_n 0, 1), (12, .bipush 11, 2), (14, .if_icmp .ne 8, 3), (17, .bipush 101, 2), (19, .goto 7, 3), (22, .bipush 48, 2), (24, .iload_n 0, 1), (25, .iadd, 1), (26, .ireturn, 1)])
theorem okX4_signOf : zok zX4_signOf := ⟨okL_dec (by decide +kernel), gtb_in 681 (by decide +kernel) (by decide +kernel), by decide +kernel, by decide +kernel⟩
def zX4_image : ZM := (yX4_image, cX4_image, 2, (some .int), [(0, .iload_n 1, 1), (1, .i2l, 1), (2, .lconst 0, 1), (3, .lconst 1, 1), (4, .invokestatic 40, 3), (7, .ifCond .ne 6, 3), (10, .bipush (-2), 2), (12, .ireturn, 1), (13, .aload_n 0, 1), (14, .bipush 60, 2), (16, .iload_n 1, 1), (17, .imul, 1), (18, .putfield 197, 3), (21, .aload_n 0, 1), (22, .iconst 1, 1), (23, .putfield 193, 3), (26, .aload_n 0, 1), (27, .invokevirtual 204, 3), (30, .aload_n 0, 1), (31, .getfield 34, 3), (34, .iload_n 1, 1), (35, .iconst 1, 1), (36, .bastore, 1), (37, .iconst 1, 1), (38, .ireturn, 1)])
theorem okX4_image : zok zX4_image := ⟨okL_dec (by decide +kernel), gtb_in 685 (by decide +kernel) (by decide +kernel), by decide +kernel, by decide +kernel⟩
def zX4_passAll : ZM := (yX4_passAll, cX4_passAll, 1, none, [(0, .aload_n 0, 1), (1, .aload_n 0, 1), (2, .getfield 7, 3), (5, .bipush 48, 2), (7, .invokevirtual 200, 3), (10, .aload_n 0, 1), (11, .aload_n 0, 1), (12, .getfield 13, 3), (15, .bipush 12, 2), (17, .invokevirtual 200, 3), (20, .return_, 1)])
theorem okX4_passAll : zok zX4_passAll := ⟨okL_dec (by decide +kernel), gtb_in 689 (by decide +kernel) (by decide +kernel), by decide +kernel, by decide +kernel⟩
def zX4_passRow : ZM := (yX4_passRow, cX4_passRow, 4, none, [(0, .iconst 0, 1), (1, .istore_n 3, 1), (2, .iload_n 3, 1), (3, .iload_n 2, 1), (4, .if_icmp .ge 56, 3), (7, .aload_n 1, 1), (8, .iload_n 3, 1), (9, .aload_n 0, 1), (10, .getfield 193, 3), (13, .ifCond .eq 9, 3), (16, .aload_n 1, 1), (17, .iload_n 3, 1), (18, .iaload, 1), (19, .goto 12, 3), (22, .aload_n 0, 1), (23, .getfield 31, 3), (26, .aload_n 0, 1), (27, .getfield 197, 3), (30, .iaload, 1), (31, .iastore, 1), (32, .aload_n 0, 1), (33, .getfield 31, 3), (36, .aload_n 0, 1), (37, .getfield 197, 3), (40, .aload_n 1, 1), (41, .iload_n 3, 1), (42, .iaload, 1), (43, .iastore, 1), (44, .aload_n 0, 1), (45, .dup, 1), (46, .getfield 197, 3), (49, .iconst 1, 1), (50, .iadd, 1), (51, .putfield 197, 3), (54, .iinc 3 1, 3), (57, .goto (-55), 3), (60, .return_, 1)])
theorem okX4_passRow : zok zX4_passRow := ⟨okL_dec (by decide +kernel), gtb_in 693 (by decide +kernel) (by decide +kernel), by decide +kernel, by decide +kernel⟩
def zX4_restore : ZM := (yX4_restore, cX4_restore, 2, (some .int), [(0, .iload_n 1, 1), (1, .i2l, 1), (2, .lconst 0, 1), (3, .lconst 1, 1), (4, .invokestatic 40, 3), (7, .ifCond .ne 6, 3), (10, .bipush (-2), 2), (12, .ireturn, 1), (13, .aload_n 0, 1), (14, .getfield 34, 3), (17, .iload_n 1, 1), (18, .baload, 1), (19, .ifCond .ne 6, 3), (22, .bipush (-3), 2), (24, .ireturn, 1), (25, .aload_n 0, 1), (26, .bipush 60, 2), (28, .iload_n 1, 1), (29, .imul, 1), (30, .putfield 197, 3), (33, .aload_n 0, 1), (34, .iconst 0, 1), (35, .putfield 193, 3), (38, .aload_n 0, 1), (39, .invokevirtual 204, 3), (42, .iconst 1, 1), (43, .ireturn, 1)])
theorem okX4_restore : zok zX4_restore := ⟨okL_dec (by decide +kernel), gtb_in 697 (by decide +kernel) (by decide +kernel), by decide +kernel, by decide +kernel⟩
def zX4_told : ZM := (yX4_told, cX4_told, 2, (some .int), [(0, .iload_n 1, 1), (1, .bipush 100, 2), (3, .isub, 1), (4, .invokestatic 86, 3), (7, .ifCond .eq 13, 3), (10, .aload_n 0, 1), (11, .getfield 13, 3), (14, .iload_n 1, 1), (15, .bipush 100, 2), (17, .isub, 1), (18, .iaload, 1), (19, .ireturn, 1), (20, .iload_n 1, 1), (21, .sipush 200, 3), (24, .isub, 1), (25, .invokestatic 79, 3), (28, .ifCond .eq 13, 3), (31, .aload_n 0, 1), (32, .iload_n 1, 1), (33, .sipush 200, 3), (36, .isub, 1), (37, .invokevirtual 207, 3), (40, .ireturn, 1), (41, .iload_n 1, 1), (42, .ifCond .ne 10, 3), (45, .aload_n 0, 1), (46, .getfield 52, 3), (49, .goto 17, 3), (52, .iload_n 1, 1), (53, .iconst 1, 1), (54, .if_icmp .ne 10, 3), (57, .aload_n 0, 1), (58, .invokevirtual 83, 3), (61, .goto 5, 3), (64, .bipush (-2), 2), (66, .ireturn, 1)])
theorem okX4_told : zok zX4_told := ⟨okL_dec (by decide +kernel), gtb_in 701 (by decide +kernel) (by decide +kernel), by decide +kernel, by decide +kernel⟩
def zX4_firstLike : ZM := (yX4_firstLike, cX4_firstLike, 3, (some .int), [(0, .iconst 0, 1), (1, .istore_n 2, 1), (2, .aload_n 0, 1), (3, .iload_n 1, 1), (4, .iconst 0, 1), (5, .iload_n 2, 1), (6, .invokevirtual 120, 3), (9, .ifCond .ne 9, 3), (12, .iinc 2 1, 3), (15, .goto (-13), 3), (18, .iload_n 2, 1), (19, .ireturn, 1)])
theorem okX4_firstLike : zok zX4_firstLike := ⟨okL_dec (by decide +kernel), gtb_in 705 (by decide +kernel) (by decide +kernel), by decide +kernel, by decide +kernel⟩
theorem flX0_11 : FL RX0 11 0 0 (.array .int) true := ⟨RX0, TX0, 2, tyX0, rfl, by decide, fc0, tyX0_ok, nmX0, by decide +kernel, rfl, rfl, Or.inl (gtb_in 67 (by decide +kernel) (by decide +kernel))⟩
theorem flX0_15 : FL RX0 15 0 1 (.int) false := ⟨RX0, TX0, 2, tyX0, rfl, by decide, fc0, tyX0_ok, nmX0, by decide +kernel, rfl, rfl, Or.inl (gtb_in 68 (by decide +kernel) (by decide +kernel))⟩
theorem flX2_11 : FL RX2 11 2 0 (.array (.array .int)) true := ⟨RX2, TX2, 3, tyX2, rfl, by decide, fc2, tyX2_ok, nmX2, by decide +kernel, rfl, rfl, Or.inl (gtb_in 84 (by decide +kernel) (by decide +kernel))⟩
theorem flX2_16 : FL RX2 16 2 1 (.array .int) true := ⟨RX2, TX2, 3, tyX2, rfl, by decide, fc2, tyX2_ok, nmX2, by decide +kernel, rfl, rfl, Or.inl (gtb_in 86 (by decide +kernel) (by decide +kernel))⟩
theorem flX2_20 : FL RX2 20 2 2 (.boolean) false := ⟨RX2, TX2, 3, tyX2, rfl, by decide, fc2, tyX2_ok, nmX2, by decide +kernel, rfl, rfl, Or.inl (gtb_in 88 (by decide +kernel) (by decide +kernel))⟩
theorem flX1_9 : FL RX1 9 1 0 (.array .int) true := ⟨RX1, TX1, 6, tyX1, rfl, by decide, fc1, tyX1_ok, nmX1, by decide +kernel, rfl, rfl, Or.inl (gtb_in 104 (by decide +kernel) (by decide +kernel))⟩
theorem flX1_15 : FL RX1 15 1 1 (.array .int) true := ⟨RX1, TX1, 6, tyX1, rfl, by decide, fc1, tyX1_ok, nmX1, by decide +kernel, rfl, rfl, Or.inl (gtb_in 105 (by decide +kernel) (by decide +kernel))⟩
theorem flX1_18 : FL RX1 18 1 2 (.int) false := ⟨RX1, TX1, 6, tyX1, rfl, by decide, fc1, tyX1_ok, nmX1, by decide +kernel, rfl, rfl, Or.inl (gtb_in 106 (by decide +kernel) (by decide +kernel))⟩
theorem flX1_22 : FL RX1 22 1 3 (.int) false := ⟨RX1, TX1, 6, tyX1, rfl, by decide, fc1, tyX1_ok, nmX1, by decide +kernel, rfl, rfl, Or.inl (gtb_in 107 (by decide +kernel) (by decide +kernel))⟩
theorem flX1_25 : FL RX1 25 1 4 (.int) false := ⟨RX1, TX1, 6, tyX1, rfl, by decide, fc1, tyX1_ok, nmX1, by decide +kernel, rfl, rfl, Or.inl (gtb_in 108 (by decide +kernel) (by decide +kernel))⟩
theorem flX1_28 : FL RX1 28 1 5 (.int) false := ⟨RX1, TX1, 6, tyX1, rfl, by decide, fc1, tyX1_ok, nmX1, by decide +kernel, rfl, rfl, Or.inl (gtb_in 109 (by decide +kernel) (by decide +kernel))⟩
theorem flX3_10 : FL RX3 10 3 0 (.object "RowForms$Pad") true := ⟨RX3, TX3, 5, tyX3, rfl, by decide, fc3, tyX3_ok, nmX3, by decide +kernel, rfl, rfl, Or.inl (gtb_in 123 (by decide +kernel) (by decide +kernel))⟩
theorem flX3_19 : FL RX3 19 3 1 (.object "RowForms$Store") true := ⟨RX3, TX3, 5, tyX3, rfl, by decide, fc3, tyX3_ok, nmX3, by decide +kernel, rfl, rfl, Or.inl (gtb_in 124 (by decide +kernel) (by decide +kernel))⟩
theorem flX3_23 : FL RX3 23 3 2 (.array (.object "RowForms$Store")) true := ⟨RX3, TX3, 5, tyX3, rfl, by decide, fc3, tyX3_ok, nmX3, by decide +kernel, rfl, rfl, Or.inl (gtb_in 125 (by decide +kernel) (by decide +kernel))⟩
theorem flX3_30 : FL RX3 30 3 3 (.object "RowForms$Segments") true := ⟨RX3, TX3, 5, tyX3, rfl, by decide, fc3, tyX3_ok, nmX3, by decide +kernel, rfl, rfl, Or.inl (gtb_in 126 (by decide +kernel) (by decide +kernel))⟩
theorem flX3_34 : FL RX3 34 3 4 (.array .int) true := ⟨RX3, TX3, 5, tyX3, rfl, by decide, fc3, tyX3_ok, nmX3, by decide +kernel, rfl, rfl, Or.inl (gtb_in 127 (by decide +kernel) (by decide +kernel))⟩
theorem flX4_7 : FL RX4 7 4 0 (.array .int) true := ⟨RX4, TX4, 14, tyX4, rfl, by decide, fc4, tyX4_ok, nmX4, by decide +kernel, rfl, rfl, Or.inl (gtb_in 410 (by decide +kernel) (by decide +kernel))⟩
theorem flX4_13 : FL RX4 13 4 1 (.array .int) true := ⟨RX4, TX4, 14, tyX4, rfl, by decide, fc4, tyX4_ok, nmX4, by decide +kernel, rfl, rfl, Or.inl (gtb_in 411 (by decide +kernel) (by decide +kernel))⟩
theorem flX4_16 : FL RX4 16 4 2 (.array .int) true := ⟨RX4, TX4, 14, tyX4, rfl, by decide, fc4, tyX4_ok, nmX4, by decide +kernel, rfl, rfl, Or.inl (gtb_in 412 (by decide +kernel) (by decide +kernel))⟩
theorem flX4_52 : FL RX4 52 4 3 (.int) false := ⟨RX4, TX4, 14, tyX4, rfl, by decide, fc4, tyX4_ok, nmX4, by decide +kernel, rfl, rfl, Or.inl (gtb_in 413 (by decide +kernel) (by decide +kernel))⟩
theorem flX4_68 : FL RX4 68 4 4 (.int) false := ⟨RX4, TX4, 14, tyX4, rfl, by decide, fc4, tyX4_ok, nmX4, by decide +kernel, rfl, rfl, Or.inl (gtb_in 414 (by decide +kernel) (by decide +kernel))⟩
theorem flX4_19 : FL RX4 19 4 5 (.array .int) true := ⟨RX4, TX4, 14, tyX4, rfl, by decide, fc4, tyX4_ok, nmX4, by decide +kernel, rfl, rfl, Or.inl (gtb_in 415 (by decide +kernel) (by decide +kernel))⟩
theorem flX4_22 : FL RX4 22 4 6 (.array .int) true := ⟨RX4, TX4, 14, tyX4, rfl, by decide, fc4, tyX4_ok, nmX4, by decide +kernel, rfl, rfl, Or.inl (gtb_in 416 (by decide +kernel) (by decide +kernel))⟩
theorem flX4_25 : FL RX4 25 4 7 (.array .int) true := ⟨RX4, TX4, 14, tyX4, rfl, by decide, fc4, tyX4_ok, nmX4, by decide +kernel, rfl, rfl, Or.inl (gtb_in 417 (by decide +kernel) (by decide +kernel))⟩
theorem flX4_144 : FL RX4 144 4 8 (.int) false := ⟨RX4, TX4, 14, tyX4, rfl, by decide, fc4, tyX4_ok, nmX4, by decide +kernel, rfl, rfl, Or.inl (gtb_in 418 (by decide +kernel) (by decide +kernel))⟩
theorem flX4_28 : FL RX4 28 4 9 (.array .int) true := ⟨RX4, TX4, 14, tyX4, rfl, by decide, fc4, tyX4_ok, nmX4, by decide +kernel, rfl, rfl, Or.inl (gtb_in 419 (by decide +kernel) (by decide +kernel))⟩
theorem flX4_31 : FL RX4 31 4 10 (.array .int) true := ⟨RX4, TX4, 14, tyX4, rfl, by decide, fc4, tyX4_ok, nmX4, by decide +kernel, rfl, rfl, Or.inl (gtb_in 420 (by decide +kernel) (by decide +kernel))⟩
theorem flX4_34 : FL RX4 34 4 11 (.array .boolean) true := ⟨RX4, TX4, 14, tyX4, rfl, by decide, fc4, tyX4_ok, nmX4, by decide +kernel, rfl, rfl, Or.inl (gtb_in 421 (by decide +kernel) (by decide +kernel))⟩
theorem flX4_197 : FL RX4 197 4 12 (.int) false := ⟨RX4, TX4, 14, tyX4, rfl, by decide, fc4, tyX4_ok, nmX4, by decide +kernel, rfl, rfl, Or.inl (gtb_in 422 (by decide +kernel) (by decide +kernel))⟩
theorem flX4_193 : FL RX4 193 4 13 (.boolean) false := ⟨RX4, TX4, 14, tyX4, rfl, by decide, fc4, tyX4_ok, nmX4, by decide +kernel, rfl, rfl, Or.inl (gtb_in 423 (by decide +kernel) (by decide +kernel))⟩
theorem flX3_179 : FL RX3 179 0 1 (.int) false := ⟨RX0, TX0, 2, tyX0, rfl, by decide, fc0, tyX0_ok, nmX0, by decide +kernel, rfl, rfl, Or.inr ⟨"RowForms", nst_in 69 (by decide +kernel) (by decide +kernel)⟩⟩
theorem flX3_61 : FL RX3 61 2 0 (.array (.array .int)) true := ⟨RX2, TX2, 3, tyX2, rfl, by decide, fc2, tyX2_ok, nmX2, by decide +kernel, rfl, rfl, Or.inr ⟨"RowForms", nst_in 85 (by decide +kernel) (by decide +kernel)⟩⟩
theorem flX3_69 : FL RX3 69 2 1 (.array .int) true := ⟨RX2, TX2, 3, tyX2, rfl, by decide, fc2, tyX2_ok, nmX2, by decide +kernel, rfl, rfl, Or.inr ⟨"RowForms", nst_in 87 (by decide +kernel) (by decide +kernel)⟩⟩
theorem flX3_175 : FL RX3 175 2 2 (.boolean) false := ⟨RX2, TX2, 3, tyX2, rfl, by decide, fc2, tyX2_ok, nmX2, by decide +kernel, rfl, rfl, Or.inr ⟨"RowForms", nst_in 89 (by decide +kernel) (by decide +kernel)⟩⟩
theorem mlL_9 : LKc RL 9 zX3_init 0 ∧ Cond.instanceMethod zX3_init.1 ∈ gtb := ⟨⟨okX3_init, gtb_in 45 (by decide +kernel) (by decide +kernel), ⟨by decide +kernel, by decide +kernel, by decide +kernel⟩, Or.inl (gtb_in 55 (by decide +kernel) (by decide +kernel))⟩, gtb_in 56 (by decide +kernel) (by decide +kernel)⟩
theorem mlL_13 : LVt RL 13 zX3_say 1 3 := ⟨⟨okX3_say, gtb_in 45 (by decide +kernel) (by decide +kernel), ⟨by decide +kernel, by decide +kernel, by decide +kernel⟩, Or.inl (gtb_in 139 (by decide +kernel) (by decide +kernel))⟩, gtb_in 140 (by decide +kernel) (by decide +kernel), gtb_in 141 (by decide +kernel) (by decide +kernel), TX3, 5, rfl⟩
theorem mlX0_19 : LVt RX0 19 zX0_isFull 0 0 := ⟨⟨okX0_isFull, gtb_in 46 (by decide +kernel) (by decide +kernel), ⟨by decide +kernel, by decide +kernel, by decide +kernel⟩, Or.inl (gtb_in 151 (by decide +kernel) (by decide +kernel))⟩, gtb_in 145 (by decide +kernel) (by decide +kernel), gtb_in 0 (by decide +kernel) (by decide +kernel), TX0, 2, rfl⟩
theorem mlL_18 : LVt RL 18 zX3_wipe 0 3 := ⟨⟨okX3_wipe, gtb_in 45 (by decide +kernel) (by decide +kernel), ⟨by decide +kernel, by decide +kernel, by decide +kernel⟩, Or.inl (gtb_in 152 (by decide +kernel) (by decide +kernel))⟩, gtb_in 153 (by decide +kernel) (by decide +kernel), gtb_in 154 (by decide +kernel) (by decide +kernel), TX3, 5, rfl⟩
theorem mlL_23 : LVt RL 23 zX3_fault 1 3 := ⟨⟨okX3_fault, gtb_in 45 (by decide +kernel) (by decide +kernel), ⟨by decide +kernel, by decide +kernel, by decide +kernel⟩, Or.inl (gtb_in 160 (by decide +kernel) (by decide +kernel))⟩, gtb_in 161 (by decide +kernel) (by decide +kernel), gtb_in 162 (by decide +kernel) (by decide +kernel), TX3, 5, rfl⟩
theorem mlX0_23 : LVt RX0 23 zX0_signAt 1 0 := ⟨⟨okX0_signAt, gtb_in 46 (by decide +kernel) (by decide +kernel), ⟨by decide +kernel, by decide +kernel, by decide +kernel⟩, Or.inl (gtb_in 168 (by decide +kernel) (by decide +kernel))⟩, gtb_in 170 (by decide +kernel) (by decide +kernel), gtb_in 4 (by decide +kernel) (by decide +kernel), TX0, 2, rfl⟩
theorem mlX0_30 : LVt RX0 30 zX0_kindSigns 0 0 := ⟨⟨okX0_kindSigns, gtb_in 46 (by decide +kernel) (by decide +kernel), ⟨by decide +kernel, by decide +kernel, by decide +kernel⟩, Or.inl (gtb_in 179 (by decide +kernel) (by decide +kernel))⟩, gtb_in 181 (by decide +kernel) (by decide +kernel), gtb_in 6 (by decide +kernel) (by decide +kernel), TX0, 2, rfl⟩
theorem mlL_27 : LVt RL 27 zX3_load 1 3 := ⟨⟨okX3_load, gtb_in 45 (by decide +kernel) (by decide +kernel), ⟨by decide +kernel, by decide +kernel, by decide +kernel⟩, Or.inl (gtb_in 183 (by decide +kernel) (by decide +kernel))⟩, gtb_in 184 (by decide +kernel) (by decide +kernel), gtb_in 185 (by decide +kernel) (by decide +kernel), TX3, 5, rfl⟩
theorem mlX3_57 : LSt RX3 57 zX3_isRow 1 := ⟨⟨okX3_isRow, gtb_in 45 (by decide +kernel) (by decide +kernel), ⟨by decide +kernel, by decide +kernel, by decide +kernel⟩, Or.inl (gtb_in 187 (by decide +kernel) (by decide +kernel))⟩, gtb_in 188 (by decide +kernel) (by decide +kernel)⟩
theorem mlL_31 : LVt RL 31 zX3_punch 0 3 := ⟨⟨okX3_punch, gtb_in 45 (by decide +kernel) (by decide +kernel), ⟨by decide +kernel, by decide +kernel, by decide +kernel⟩, Or.inl (gtb_in 194 (by decide +kernel) (by decide +kernel))⟩, gtb_in 195 (by decide +kernel) (by decide +kernel), gtb_in 196 (by decide +kernel) (by decide +kernel), TX3, 5, rfl⟩
theorem mlX3_72 : LSt RX3 72 zX3_holesOf 1 := ⟨⟨okX3_holesOf, gtb_in 45 (by decide +kernel) (by decide +kernel), ⟨by decide +kernel, by decide +kernel, by decide +kernel⟩, Or.inl (gtb_in 198 (by decide +kernel) (by decide +kernel))⟩, gtb_in 199 (by decide +kernel) (by decide +kernel)⟩
theorem mlL_35 : LVt RL 35 zX3_named 0 3 := ⟨⟨okX3_named, gtb_in 45 (by decide +kernel) (by decide +kernel), ⟨by decide +kernel, by decide +kernel, by decide +kernel⟩, Or.inl (gtb_in 201 (by decide +kernel) (by decide +kernel))⟩, gtb_in 202 (by decide +kernel) (by decide +kernel), gtb_in 203 (by decide +kernel) (by decide +kernel), TX3, 5, rfl⟩
theorem mlL_39 : LVt RL 39 zX3_tone 2 3 := ⟨⟨okX3_tone, gtb_in 45 (by decide +kernel) (by decide +kernel), ⟨by decide +kernel, by decide +kernel, by decide +kernel⟩, Or.inl (gtb_in 209 (by decide +kernel) (by decide +kernel))⟩, gtb_in 210 (by decide +kernel) (by decide +kernel), gtb_in 211 (by decide +kernel) (by decide +kernel), TX3, 5, rfl⟩
theorem mlX3_79 : LSt RX3 79 zX3_isPlace 1 := ⟨⟨okX3_isPlace, gtb_in 45 (by decide +kernel) (by decide +kernel), ⟨by decide +kernel, by decide +kernel, by decide +kernel⟩, Or.inl (gtb_in 213 (by decide +kernel) (by decide +kernel))⟩, gtb_in 214 (by decide +kernel) (by decide +kernel)⟩
theorem mlL_44 : LVt RL 44 zX3_turn 3 3 := ⟨⟨okX3_turn, gtb_in 45 (by decide +kernel) (by decide +kernel), ⟨by decide +kernel, by decide +kernel, by decide +kernel⟩, Or.inl (gtb_in 216 (by decide +kernel) (by decide +kernel))⟩, gtb_in 217 (by decide +kernel) (by decide +kernel), gtb_in 218 (by decide +kernel) (by decide +kernel), TX3, 5, rfl⟩
theorem mlX3_82 : LSt RX3 82 zX3_isForm 1 := ⟨⟨okX3_isForm, gtb_in 45 (by decide +kernel) (by decide +kernel), ⟨by decide +kernel, by decide +kernel, by decide +kernel⟩, Or.inl (gtb_in 220 (by decide +kernel) (by decide +kernel))⟩, gtb_in 221 (by decide +kernel) (by decide +kernel)⟩
theorem mlX3_85 : LSt RX3 85 zX3_formTone 4 := ⟨⟨okX3_formTone, gtb_in 45 (by decide +kernel) (by decide +kernel), ⟨by decide +kernel, by decide +kernel, by decide +kernel⟩, Or.inl (gtb_in 223 (by decide +kernel) (by decide +kernel))⟩, gtb_in 224 (by decide +kernel) (by decide +kernel)⟩
theorem mlX3_150 : LSt RX3 150 zX3_isBackwards 1 := ⟨⟨okX3_isBackwards, gtb_in 45 (by decide +kernel) (by decide +kernel), ⟨by decide +kernel, by decide +kernel, by decide +kernel⟩, Or.inl (gtb_in 226 (by decide +kernel) (by decide +kernel))⟩, gtb_in 227 (by decide +kernel) (by decide +kernel)⟩
theorem mlX3_95 : LSt RX3 95 zX3_turnedTone 2 := ⟨⟨okX3_turnedTone, gtb_in 45 (by decide +kernel) (by decide +kernel), ⟨by decide +kernel, by decide +kernel, by decide +kernel⟩, Or.inl (gtb_in 229 (by decide +kernel) (by decide +kernel))⟩, gtb_in 230 (by decide +kernel) (by decide +kernel)⟩
theorem mlX3_99 : LSt RX3 99 zX3_isMirrored 1 := ⟨⟨okX3_isMirrored, gtb_in 45 (by decide +kernel) (by decide +kernel), ⟨by decide +kernel, by decide +kernel, by decide +kernel⟩, Or.inl (gtb_in 232 (by decide +kernel) (by decide +kernel))⟩, gtb_in 233 (by decide +kernel) (by decide +kernel)⟩
theorem mlX3_102 : LSt RX3 102 zX3_wrapped 1 := ⟨⟨okX3_wrapped, gtb_in 45 (by decide +kernel) (by decide +kernel), ⟨by decide +kernel, by decide +kernel, by decide +kernel⟩, Or.inl (gtb_in 235 (by decide +kernel) (by decide +kernel))⟩, gtb_in 236 (by decide +kernel) (by decide +kernel)⟩
theorem mlX3_186 : LSt RX3 186 zJ9_floorMod_7cf53 2 := ⟨⟨okJ9_floorMod_7cf53, gtb_in 50 (by decide +kernel) (by decide +kernel), ⟨by decide +kernel, by decide +kernel, by decide +kernel⟩, Or.inl (gtb_in 238 (by decide +kernel) (by decide +kernel))⟩, gtb_in 239 (by decide +kernel) (by decide +kernel)⟩
theorem mlL_49 : LVt RL 49 zX3_behind 2 3 := ⟨⟨okX3_behind, gtb_in 45 (by decide +kernel) (by decide +kernel), ⟨by decide +kernel, by decide +kernel, by decide +kernel⟩, Or.inl (gtb_in 244 (by decide +kernel) (by decide +kernel))⟩, gtb_in 245 (by decide +kernel) (by decide +kernel), gtb_in 246 (by decide +kernel) (by decide +kernel), TX3, 5, rfl⟩
theorem mlL_53 : LVt RL 53 zX3_back 1 3 := ⟨⟨okX3_back, gtb_in 45 (by decide +kernel) (by decide +kernel), ⟨by decide +kernel, by decide +kernel, by decide +kernel⟩, Or.inl (gtb_in 248 (by decide +kernel) (by decide +kernel))⟩, gtb_in 249 (by decide +kernel) (by decide +kernel), gtb_in 250 (by decide +kernel) (by decide +kernel), TX3, 5, rfl⟩
theorem mlL_57 : LVt RL 57 zX3_canon 2 3 := ⟨⟨okX3_canon, gtb_in 45 (by decide +kernel) (by decide +kernel), ⟨by decide +kernel, by decide +kernel, by decide +kernel⟩, Or.inl (gtb_in 252 (by decide +kernel) (by decide +kernel))⟩, gtb_in 253 (by decide +kernel) (by decide +kernel), gtb_in 254 (by decide +kernel) (by decide +kernel), TX3, 5, rfl⟩
theorem mlX3_105 : LSt RX3 105 zX3_sizeOf 1 := ⟨⟨okX3_sizeOf, gtb_in 45 (by decide +kernel) (by decide +kernel), ⟨by decide +kernel, by decide +kernel, by decide +kernel⟩, Or.inl (gtb_in 256 (by decide +kernel) (by decide +kernel))⟩, gtb_in 257 (by decide +kernel) (by decide +kernel)⟩
theorem mlX3_111 : LSt RX3 111 zX3_isFormOf 5 := ⟨⟨okX3_isFormOf, gtb_in 45 (by decide +kernel) (by decide +kernel), ⟨by decide +kernel, by decide +kernel, by decide +kernel⟩, Or.inl (gtb_in 259 (by decide +kernel) (by decide +kernel))⟩, gtb_in 260 (by decide +kernel) (by decide +kernel)⟩
theorem mlX3_108 : LSt RX3 108 zX3_leastForm 1 := ⟨⟨okX3_leastForm, gtb_in 45 (by decide +kernel) (by decide +kernel), ⟨by decide +kernel, by decide +kernel, by decide +kernel⟩, Or.inl (gtb_in 262 (by decide +kernel) (by decide +kernel))⟩, gtb_in 263 (by decide +kernel) (by decide +kernel)⟩
theorem mlX3_191 : LSt RX3 191 zX3_isLess 3 := ⟨⟨okX3_isLess, gtb_in 45 (by decide +kernel) (by decide +kernel), ⟨by decide +kernel, by decide +kernel, by decide +kernel⟩, Or.inl (gtb_in 265 (by decide +kernel) (by decide +kernel))⟩, gtb_in 266 (by decide +kernel) (by decide +kernel)⟩
theorem mlL_61 : LVt RL 61 zX3_leads 3 3 := ⟨⟨okX3_leads, gtb_in 45 (by decide +kernel) (by decide +kernel), ⟨by decide +kernel, by decide +kernel, by decide +kernel⟩, Or.inl (gtb_in 268 (by decide +kernel) (by decide +kernel))⟩, gtb_in 269 (by decide +kernel) (by decide +kernel), gtb_in 270 (by decide +kernel) (by decide +kernel), TX3, 5, rfl⟩
theorem mlL_65 : LVt RL 65 zX3_step 2 3 := ⟨⟨okX3_step, gtb_in 45 (by decide +kernel) (by decide +kernel), ⟨by decide +kernel, by decide +kernel, by decide +kernel⟩, Or.inl (gtb_in 272 (by decide +kernel) (by decide +kernel))⟩, gtb_in 273 (by decide +kernel) (by decide +kernel), gtb_in 274 (by decide +kernel) (by decide +kernel), TX3, 5, rfl⟩
theorem mlX3_115 : LSt RX3 115 zX3_unlikeSteps 1 := ⟨⟨okX3_unlikeSteps, gtb_in 45 (by decide +kernel) (by decide +kernel), ⟨by decide +kernel, by decide +kernel, by decide +kernel⟩, Or.inl (gtb_in 276 (by decide +kernel) (by decide +kernel))⟩, gtb_in 277 (by decide +kernel) (by decide +kernel)⟩
theorem mlX3_118 : LSt RX3 118 zX3_stepAt 2 := ⟨⟨okX3_stepAt, gtb_in 45 (by decide +kernel) (by decide +kernel), ⟨by decide +kernel, by decide +kernel, by decide +kernel⟩, Or.inl (gtb_in 279 (by decide +kernel) (by decide +kernel))⟩, gtb_in 280 (by decide +kernel) (by decide +kernel)⟩
theorem mlX3_194 : LSt RX3 194 zJ6_bitCount_0f7a4 1 := ⟨⟨okJ6_bitCount_0f7a4, gtb_in 52 (by decide +kernel) (by decide +kernel), ⟨by decide +kernel, by decide +kernel, by decide +kernel⟩, Or.inl (gtb_in 282 (by decide +kernel) (by decide +kernel))⟩, gtb_in 283 (by decide +kernel) (by decide +kernel)⟩
theorem mlL_69 : LVt RL 69 zX3_shared 3 3 := ⟨⟨okX3_shared, gtb_in 45 (by decide +kernel) (by decide +kernel), ⟨by decide +kernel, by decide +kernel, by decide +kernel⟩, Or.inl (gtb_in 288 (by decide +kernel) (by decide +kernel))⟩, gtb_in 289 (by decide +kernel) (by decide +kernel), gtb_in 290 (by decide +kernel) (by decide +kernel), TX3, 5, rfl⟩
theorem mlX3_122 : LSt RX3 122 zX3_formSet 4 := ⟨⟨okX3_formSet, gtb_in 45 (by decide +kernel) (by decide +kernel), ⟨by decide +kernel, by decide +kernel, by decide +kernel⟩, Or.inl (gtb_in 292 (by decide +kernel) (by decide +kernel))⟩, gtb_in 293 (by decide +kernel) (by decide +kernel)⟩
theorem mlX3_125 : LSt RX3 125 zX3_hasSegment 4 := ⟨⟨okX3_hasSegment, gtb_in 45 (by decide +kernel) (by decide +kernel), ⟨by decide +kernel, by decide +kernel, by decide +kernel⟩, Or.inl (gtb_in 295 (by decide +kernel) (by decide +kernel))⟩, gtb_in 296 (by decide +kernel) (by decide +kernel)⟩
theorem mlL_73 : LVt RL 73 zX3_partner 2 3 := ⟨⟨okX3_partner, gtb_in 45 (by decide +kernel) (by decide +kernel), ⟨by decide +kernel, by decide +kernel, by decide +kernel⟩, Or.inl (gtb_in 298 (by decide +kernel) (by decide +kernel))⟩, gtb_in 299 (by decide +kernel) (by decide +kernel), gtb_in 300 (by decide +kernel) (by decide +kernel), TX3, 5, rfl⟩
theorem mlL_77 : LVt RL 77 zX3_derived 2 3 := ⟨⟨okX3_derived, gtb_in 45 (by decide +kernel) (by decide +kernel), ⟨by decide +kernel, by decide +kernel, by decide +kernel⟩, Or.inl (gtb_in 302 (by decide +kernel) (by decide +kernel))⟩, gtb_in 303 (by decide +kernel) (by decide +kernel), gtb_in 304 (by decide +kernel) (by decide +kernel), TX3, 5, rfl⟩
theorem mlX3_129 : LSt RX3 129 zX3_isAnyFormOf 3 := ⟨⟨okX3_isAnyFormOf, gtb_in 45 (by decide +kernel) (by decide +kernel), ⟨by decide +kernel, by decide +kernel, by decide +kernel⟩, Or.inl (gtb_in 306 (by decide +kernel) (by decide +kernel))⟩, gtb_in 307 (by decide +kernel) (by decide +kernel)⟩
theorem mlL_81 : LVt RL 81 zX3_making 4 3 := ⟨⟨okX3_making, gtb_in 45 (by decide +kernel) (by decide +kernel), ⟨by decide +kernel, by decide +kernel, by decide +kernel⟩, Or.inl (gtb_in 309 (by decide +kernel) (by decide +kernel))⟩, gtb_in 310 (by decide +kernel) (by decide +kernel), gtb_in 311 (by decide +kernel) (by decide +kernel), TX3, 5, rfl⟩
theorem mlX1_38 : LVt RX1 38 zX1_insert 2 1 := ⟨⟨okX1_insert, gtb_in 48 (by decide +kernel) (by decide +kernel), ⟨by decide +kernel, by decide +kernel, by decide +kernel⟩, Or.inl (gtb_in 319 (by decide +kernel) (by decide +kernel))⟩, gtb_in 321 (by decide +kernel) (by decide +kernel), gtb_in 10 (by decide +kernel) (by decide +kernel), TX1, 6, rfl⟩
theorem mlX1_42 : LSt RX1 42 zX1_countWays 4 := ⟨⟨okX1_countWays, gtb_in 48 (by decide +kernel) (by decide +kernel), ⟨by decide +kernel, by decide +kernel, by decide +kernel⟩, Or.inl (gtb_in 327 (by decide +kernel) (by decide +kernel))⟩, gtb_in 328 (by decide +kernel) (by decide +kernel)⟩
theorem mlL_86 : LVt RL 86 zX3_fillings 1 3 := ⟨⟨okX3_fillings, gtb_in 45 (by decide +kernel) (by decide +kernel), ⟨by decide +kernel, by decide +kernel, by decide +kernel⟩, Or.inl (gtb_in 334 (by decide +kernel) (by decide +kernel))⟩, gtb_in 335 (by decide +kernel) (by decide +kernel), gtb_in 336 (by decide +kernel) (by decide +kernel), TX3, 5, rfl⟩
theorem mlX3_143 : LSt RX3 143 zX3_canKeepRows 1 := ⟨⟨okX3_canKeepRows, gtb_in 45 (by decide +kernel) (by decide +kernel), ⟨by decide +kernel, by decide +kernel, by decide +kernel⟩, Or.inl (gtb_in 338 (by decide +kernel) (by decide +kernel))⟩, gtb_in 339 (by decide +kernel) (by decide +kernel)⟩
theorem mlX3_146 : LSt RX3 146 zX3_fillForced 3 := ⟨⟨okX3_fillForced, gtb_in 45 (by decide +kernel) (by decide +kernel), ⟨by decide +kernel, by decide +kernel, by decide +kernel⟩, Or.inl (gtb_in 341 (by decide +kernel) (by decide +kernel))⟩, gtb_in 342 (by decide +kernel) (by decide +kernel)⟩
theorem mlX3_199 : LSt RX3 199 zX3_toneBits 1 := ⟨⟨okX3_toneBits, gtb_in 45 (by decide +kernel) (by decide +kernel), ⟨by decide +kernel, by decide +kernel, by decide +kernel⟩, Or.inl (gtb_in 344 (by decide +kernel) (by decide +kernel))⟩, gtb_in 345 (by decide +kernel) (by decide +kernel)⟩
theorem mlX3_202 : LSt RX3 202 zX3_placeAcross 2 := ⟨⟨okX3_placeAcross, gtb_in 45 (by decide +kernel) (by decide +kernel), ⟨by decide +kernel, by decide +kernel, by decide +kernel⟩, Or.inl (gtb_in 347 (by decide +kernel) (by decide +kernel))⟩, gtb_in 348 (by decide +kernel) (by decide +kernel)⟩
theorem mlX3_153 : LSt RX3 153 zX3_factorial 1 := ⟨⟨okX3_factorial, gtb_in 45 (by decide +kernel) (by decide +kernel), ⟨by decide +kernel, by decide +kernel, by decide +kernel⟩, Or.inl (gtb_in 350 (by decide +kernel) (by decide +kernel))⟩, gtb_in 351 (by decide +kernel) (by decide +kernel)⟩
theorem mlL_90 : LVt RL 90 zX3_filling 2 3 := ⟨⟨okX3_filling, gtb_in 45 (by decide +kernel) (by decide +kernel), ⟨by decide +kernel, by decide +kernel, by decide +kernel⟩, Or.inl (gtb_in 353 (by decide +kernel) (by decide +kernel))⟩, gtb_in 354 (by decide +kernel) (by decide +kernel), gtb_in 355 (by decide +kernel) (by decide +kernel), TX3, 5, rfl⟩
theorem mlX3_156 : LSt RX3 156 zX3_fillFree 2 := ⟨⟨okX3_fillFree, gtb_in 45 (by decide +kernel) (by decide +kernel), ⟨by decide +kernel, by decide +kernel, by decide +kernel⟩, Or.inl (gtb_in 357 (by decide +kernel) (by decide +kernel))⟩, gtb_in 358 (by decide +kernel) (by decide +kernel)⟩
theorem mlX3_205 : LSt RX3 205 zJ6_numberOfTrailingZeros_0f7a4 1 := ⟨⟨okJ6_numberOfTrailingZeros_0f7a4, gtb_in 52 (by decide +kernel) (by decide +kernel), ⟨by decide +kernel, by decide +kernel, by decide +kernel⟩, Or.inl (gtb_in 360 (by decide +kernel) (by decide +kernel))⟩, gtb_in 361 (by decide +kernel) (by decide +kernel)⟩
theorem mlL_94 : LVt RL 94 zX3_sign 3 3 := ⟨⟨okX3_sign, gtb_in 45 (by decide +kernel) (by decide +kernel), ⟨by decide +kernel, by decide +kernel, by decide +kernel⟩, Or.inl (gtb_in 364 (by decide +kernel) (by decide +kernel))⟩, gtb_in 365 (by decide +kernel) (by decide +kernel), gtb_in 366 (by decide +kernel) (by decide +kernel), TX3, 5, rfl⟩
theorem mlX3_159 : LSt RX3 159 zX3_nameLength 1 := ⟨⟨okX3_nameLength, gtb_in 45 (by decide +kernel) (by decide +kernel), ⟨by decide +kernel, by decide +kernel, by decide +kernel⟩, Or.inl (gtb_in 368 (by decide +kernel) (by decide +kernel))⟩, gtb_in 369 (by decide +kernel) (by decide +kernel)⟩
theorem mlX3_208 : LSt RX3 208 zX3_kindLength 1 := ⟨⟨okX3_kindLength, gtb_in 45 (by decide +kernel) (by decide +kernel), ⟨by decide +kernel, by decide +kernel, by decide +kernel⟩, Or.inl (gtb_in 371 (by decide +kernel) (by decide +kernel))⟩, gtb_in 372 (by decide +kernel) (by decide +kernel)⟩
theorem mlX3_162 : LSt RX3 162 zX3_nameSign 2 := ⟨⟨okX3_nameSign, gtb_in 45 (by decide +kernel) (by decide +kernel), ⟨by decide +kernel, by decide +kernel, by decide +kernel⟩, Or.inl (gtb_in 374 (by decide +kernel) (by decide +kernel))⟩, gtb_in 375 (by decide +kernel) (by decide +kernel)⟩
theorem mlX3_165 : LSt RX3 165 zX3_toneSign 1 := ⟨⟨okX3_toneSign, gtb_in 45 (by decide +kernel) (by decide +kernel), ⟨by decide +kernel, by decide +kernel, by decide +kernel⟩, Or.inl (gtb_in 377 (by decide +kernel) (by decide +kernel))⟩, gtb_in 378 (by decide +kernel) (by decide +kernel)⟩
theorem mlL_98 : LVt RL 98 zX3_image 1 3 := ⟨⟨okX3_image, gtb_in 45 (by decide +kernel) (by decide +kernel), ⟨by decide +kernel, by decide +kernel, by decide +kernel⟩, Or.inl (gtb_in 380 (by decide +kernel) (by decide +kernel))⟩, gtb_in 381 (by decide +kernel) (by decide +kernel), gtb_in 382 (by decide +kernel) (by decide +kernel), TX3, 5, rfl⟩
theorem mlX3_168 : LSt RX3 168 zX3_isImage 1 := ⟨⟨okX3_isImage, gtb_in 45 (by decide +kernel) (by decide +kernel), ⟨by decide +kernel, by decide +kernel, by decide +kernel⟩, Or.inl (gtb_in 384 (by decide +kernel) (by decide +kernel))⟩, gtb_in 385 (by decide +kernel) (by decide +kernel)⟩
theorem mlL_102 : LVt RL 102 zX3_restore 1 3 := ⟨⟨okX3_restore, gtb_in 45 (by decide +kernel) (by decide +kernel), ⟨by decide +kernel, by decide +kernel, by decide +kernel⟩, Or.inl (gtb_in 392 (by decide +kernel) (by decide +kernel))⟩, gtb_in 393 (by decide +kernel) (by decide +kernel), gtb_in 394 (by decide +kernel) (by decide +kernel), TX3, 5, rfl⟩
theorem mlL_106 : LVt RL 106 zX3_told 1 3 := ⟨⟨okX3_told, gtb_in 45 (by decide +kernel) (by decide +kernel), ⟨by decide +kernel, by decide +kernel, by decide +kernel⟩, Or.inl (gtb_in 396 (by decide +kernel) (by decide +kernel))⟩, gtb_in 397 (by decide +kernel) (by decide +kernel), gtb_in 398 (by decide +kernel) (by decide +kernel), TX3, 5, rfl⟩
theorem mlX3_183 : LVt RX3 183 zX3_leastAlike 1 3 := ⟨⟨okX3_leastAlike, gtb_in 45 (by decide +kernel) (by decide +kernel), ⟨by decide +kernel, by decide +kernel, by decide +kernel⟩, Or.inl (gtb_in 400 (by decide +kernel) (by decide +kernel))⟩, gtb_in 402 (by decide +kernel) (by decide +kernel), gtb_in 14 (by decide +kernel) (by decide +kernel), TX3, 5, rfl⟩
theorem mlL_12 : LKc RL 12 zX4_init 0 ∧ Cond.instanceMethod zX4_init.1 ∈ gtb := ⟨⟨okX4_init, gtb_in 49 (by decide +kernel) (by decide +kernel), ⟨by decide +kernel, by decide +kernel, by decide +kernel⟩, Or.inl (gtb_in 406 (by decide +kernel) (by decide +kernel))⟩, gtb_in 407 (by decide +kernel) (by decide +kernel)⟩
theorem mlL_17 : LVt RL 17 zX4_say 1 4 := ⟨⟨okX4_say, gtb_in 49 (by decide +kernel) (by decide +kernel), ⟨by decide +kernel, by decide +kernel, by decide +kernel⟩, Or.inl (gtb_in 454 (by decide +kernel) (by decide +kernel))⟩, gtb_in 455 (by decide +kernel) (by decide +kernel), gtb_in 456 (by decide +kernel) (by decide +kernel), TX4, 14, rfl⟩
theorem mlX4_40 : LSt RX4 40 zX4_in 3 := ⟨⟨okX4_in, gtb_in 49 (by decide +kernel) (by decide +kernel), ⟨by decide +kernel, by decide +kernel, by decide +kernel⟩, Or.inl (gtb_in 460 (by decide +kernel) (by decide +kernel))⟩, gtb_in 461 (by decide +kernel) (by decide +kernel)⟩
theorem mlL_22 : LVt RL 22 zX4_wipe 0 4 := ⟨⟨okX4_wipe, gtb_in 49 (by decide +kernel) (by decide +kernel), ⟨by decide +kernel, by decide +kernel, by decide +kernel⟩, Or.inl (gtb_in 463 (by decide +kernel) (by decide +kernel))⟩, gtb_in 464 (by decide +kernel) (by decide +kernel), gtb_in 465 (by decide +kernel) (by decide +kernel), TX4, 14, rfl⟩
theorem mlL_26 : LVt RL 26 zX4_fault 1 4 := ⟨⟨okX4_fault, gtb_in 49 (by decide +kernel) (by decide +kernel), ⟨by decide +kernel, by decide +kernel, by decide +kernel⟩, Or.inl (gtb_in 467 (by decide +kernel) (by decide +kernel))⟩, gtb_in 468 (by decide +kernel) (by decide +kernel), gtb_in 469 (by decide +kernel) (by decide +kernel), TX4, 14, rfl⟩
theorem mlX4_71 : LVt RX4 71 zX4_faultOfTones 1 4 := ⟨⟨okX4_faultOfTones, gtb_in 49 (by decide +kernel) (by decide +kernel), ⟨by decide +kernel, by decide +kernel, by decide +kernel⟩, Or.inl (gtb_in 471 (by decide +kernel) (by decide +kernel))⟩, gtb_in 473 (by decide +kernel) (by decide +kernel), gtb_in 15 (by decide +kernel) (by decide +kernel), TX4, 14, rfl⟩
theorem mlX4_60 : LSt RX4 60 zX4_toneOf 1 := ⟨⟨okX4_toneOf, gtb_in 49 (by decide +kernel) (by decide +kernel), ⟨by decide +kernel, by decide +kernel, by decide +kernel⟩, Or.inl (gtb_in 475 (by decide +kernel) (by decide +kernel))⟩, gtb_in 476 (by decide +kernel) (by decide +kernel)⟩
theorem mlX4_75 : LVt RX4 75 zX4_faultOfForm 0 4 := ⟨⟨okX4_faultOfForm, gtb_in 49 (by decide +kernel) (by decide +kernel), ⟨by decide +kernel, by decide +kernel, by decide +kernel⟩, Or.inl (gtb_in 480 (by decide +kernel) (by decide +kernel))⟩, gtb_in 482 (by decide +kernel) (by decide +kernel), gtb_in 16 (by decide +kernel) (by decide +kernel), TX4, 14, rfl⟩
theorem mlX4_64 : LVt RX4 64 zX4_isSign 2 4 := ⟨⟨okX4_isSign, gtb_in 49 (by decide +kernel) (by decide +kernel), ⟨by decide +kernel, by decide +kernel, by decide +kernel⟩, Or.inl (gtb_in 484 (by decide +kernel) (by decide +kernel))⟩, gtb_in 486 (by decide +kernel) (by decide +kernel), gtb_in 17 (by decide +kernel) (by decide +kernel), TX4, 14, rfl⟩
theorem mlL_30 : LVt RL 30 zX4_load 1 4 := ⟨⟨okX4_load, gtb_in 49 (by decide +kernel) (by decide +kernel), ⟨by decide +kernel, by decide +kernel, by decide +kernel⟩, Or.inl (gtb_in 488 (by decide +kernel) (by decide +kernel))⟩, gtb_in 489 (by decide +kernel) (by decide +kernel), gtb_in 490 (by decide +kernel) (by decide +kernel), TX4, 14, rfl⟩
theorem mlX4_79 : LSt RX4 79 zX4_isRow 1 := ⟨⟨okX4_isRow, gtb_in 49 (by decide +kernel) (by decide +kernel), ⟨by decide +kernel, by decide +kernel, by decide +kernel⟩, Or.inl (gtb_in 492 (by decide +kernel) (by decide +kernel))⟩, gtb_in 493 (by decide +kernel) (by decide +kernel)⟩
theorem mlL_34 : LVt RL 34 zX4_punch 0 4 := ⟨⟨okX4_punch, gtb_in 49 (by decide +kernel) (by decide +kernel), ⟨by decide +kernel, by decide +kernel, by decide +kernel⟩, Or.inl (gtb_in 496 (by decide +kernel) (by decide +kernel))⟩, gtb_in 497 (by decide +kernel) (by decide +kernel), gtb_in 498 (by decide +kernel) (by decide +kernel), TX4, 14, rfl⟩
theorem mlX4_83 : LVt RX4 83 zX4_holesNow 0 4 := ⟨⟨okX4_holesNow, gtb_in 49 (by decide +kernel) (by decide +kernel), ⟨by decide +kernel, by decide +kernel, by decide +kernel⟩, Or.inl (gtb_in 500 (by decide +kernel) (by decide +kernel))⟩, gtb_in 502 (by decide +kernel) (by decide +kernel), gtb_in 18 (by decide +kernel) (by decide +kernel), TX4, 14, rfl⟩
theorem mlL_38 : LVt RL 38 zX4_named 0 4 := ⟨⟨okX4_named, gtb_in 49 (by decide +kernel) (by decide +kernel), ⟨by decide +kernel, by decide +kernel, by decide +kernel⟩, Or.inl (gtb_in 504 (by decide +kernel) (by decide +kernel))⟩, gtb_in 505 (by decide +kernel) (by decide +kernel), gtb_in 506 (by decide +kernel) (by decide +kernel), TX4, 14, rfl⟩
theorem mlL_43 : LVt RL 43 zX4_tone 2 4 := ⟨⟨okX4_tone, gtb_in 49 (by decide +kernel) (by decide +kernel), ⟨by decide +kernel, by decide +kernel, by decide +kernel⟩, Or.inl (gtb_in 508 (by decide +kernel) (by decide +kernel))⟩, gtb_in 509 (by decide +kernel) (by decide +kernel), gtb_in 510 (by decide +kernel) (by decide +kernel), TX4, 14, rfl⟩
theorem mlX4_86 : LSt RX4 86 zX4_isPlace 1 := ⟨⟨okX4_isPlace, gtb_in 49 (by decide +kernel) (by decide +kernel), ⟨by decide +kernel, by decide +kernel, by decide +kernel⟩, Or.inl (gtb_in 512 (by decide +kernel) (by decide +kernel))⟩, gtb_in 513 (by decide +kernel) (by decide +kernel)⟩
theorem mlX4_89 : LVt RX4 89 zX4_toneAt 2 4 := ⟨⟨okX4_toneAt, gtb_in 49 (by decide +kernel) (by decide +kernel), ⟨by decide +kernel, by decide +kernel, by decide +kernel⟩, Or.inl (gtb_in 516 (by decide +kernel) (by decide +kernel))⟩, gtb_in 518 (by decide +kernel) (by decide +kernel), gtb_in 19 (by decide +kernel) (by decide +kernel), TX4, 14, rfl⟩
theorem mlL_48 : LVt RL 48 zX4_turn 3 4 := ⟨⟨okX4_turn, gtb_in 49 (by decide +kernel) (by decide +kernel), ⟨by decide +kernel, by decide +kernel, by decide +kernel⟩, Or.inl (gtb_in 520 (by decide +kernel) (by decide +kernel))⟩, gtb_in 521 (by decide +kernel) (by decide +kernel), gtb_in 522 (by decide +kernel) (by decide +kernel), TX4, 14, rfl⟩
theorem mlX4_102 : LSt RX4 102 zX4_isForm 1 := ⟨⟨okX4_isForm, gtb_in 49 (by decide +kernel) (by decide +kernel), ⟨by decide +kernel, by decide +kernel, by decide +kernel⟩, Or.inl (gtb_in 524 (by decide +kernel) (by decide +kernel))⟩, gtb_in 525 (by decide +kernel) (by decide +kernel)⟩
theorem mlX4_105 : LVt RX4 105 zX4_formAt 3 4 := ⟨⟨okX4_formAt, gtb_in 49 (by decide +kernel) (by decide +kernel), ⟨by decide +kernel, by decide +kernel, by decide +kernel⟩, Or.inl (gtb_in 528 (by decide +kernel) (by decide +kernel))⟩, gtb_in 530 (by decide +kernel) (by decide +kernel), gtb_in 20 (by decide +kernel) (by decide +kernel), TX4, 14, rfl⟩
theorem mlX4_96 : LSt RX4 96 zX4_isBack 1 := ⟨⟨okX4_isBack, gtb_in 49 (by decide +kernel) (by decide +kernel), ⟨by decide +kernel, by decide +kernel, by decide +kernel⟩, Or.inl (gtb_in 532 (by decide +kernel) (by decide +kernel))⟩, gtb_in 533 (by decide +kernel) (by decide +kernel)⟩
theorem mlX4_99 : LSt RX4 99 zX4_moved 2 := ⟨⟨okX4_moved, gtb_in 49 (by decide +kernel) (by decide +kernel), ⟨by decide +kernel, by decide +kernel, by decide +kernel⟩, Or.inl (gtb_in 535 (by decide +kernel) (by decide +kernel))⟩, gtb_in 536 (by decide +kernel) (by decide +kernel)⟩
theorem mlX4_93 : LSt RX4 93 zX4_isMirror 1 := ⟨⟨okX4_isMirror, gtb_in 49 (by decide +kernel) (by decide +kernel), ⟨by decide +kernel, by decide +kernel, by decide +kernel⟩, Or.inl (gtb_in 538 (by decide +kernel) (by decide +kernel))⟩, gtb_in 539 (by decide +kernel) (by decide +kernel)⟩
theorem mlL_52 : LVt RL 52 zX4_behind 2 4 := ⟨⟨okX4_behind, gtb_in 49 (by decide +kernel) (by decide +kernel), ⟨by decide +kernel, by decide +kernel, by decide +kernel⟩, Or.inl (gtb_in 541 (by decide +kernel) (by decide +kernel))⟩, gtb_in 542 (by decide +kernel) (by decide +kernel), gtb_in 543 (by decide +kernel) (by decide +kernel), TX4, 14, rfl⟩
theorem mlL_56 : LVt RL 56 zX4_back 1 4 := ⟨⟨okX4_back, gtb_in 49 (by decide +kernel) (by decide +kernel), ⟨by decide +kernel, by decide +kernel, by decide +kernel⟩, Or.inl (gtb_in 545 (by decide +kernel) (by decide +kernel))⟩, gtb_in 546 (by decide +kernel) (by decide +kernel), gtb_in 547 (by decide +kernel) (by decide +kernel), TX4, 14, rfl⟩
theorem mlL_60 : LVt RL 60 zX4_canon 2 4 := ⟨⟨okX4_canon, gtb_in 49 (by decide +kernel) (by decide +kernel), ⟨by decide +kernel, by decide +kernel, by decide +kernel⟩, Or.inl (gtb_in 549 (by decide +kernel) (by decide +kernel))⟩, gtb_in 550 (by decide +kernel) (by decide +kernel), gtb_in 551 (by decide +kernel) (by decide +kernel), TX4, 14, rfl⟩
theorem mlX4_114 : LVt RX4 114 zX4_canonForm 1 4 := ⟨⟨okX4_canonForm, gtb_in 49 (by decide +kernel) (by decide +kernel), ⟨by decide +kernel, by decide +kernel, by decide +kernel⟩, Or.inl (gtb_in 554 (by decide +kernel) (by decide +kernel))⟩, gtb_in 556 (by decide +kernel) (by decide +kernel), gtb_in 21 (by decide +kernel) (by decide +kernel), TX4, 14, rfl⟩
theorem mlX4_109 : LVt RX4 109 zX4_compared 3 4 := ⟨⟨okX4_compared, gtb_in 49 (by decide +kernel) (by decide +kernel), ⟨by decide +kernel, by decide +kernel, by decide +kernel⟩, Or.inl (gtb_in 558 (by decide +kernel) (by decide +kernel))⟩, gtb_in 560 (by decide +kernel) (by decide +kernel), gtb_in 22 (by decide +kernel) (by decide +kernel), TX4, 14, rfl⟩
theorem mlX4_117 : LVt RX4 117 zX4_sizeOf 1 4 := ⟨⟨okX4_sizeOf, gtb_in 49 (by decide +kernel) (by decide +kernel), ⟨by decide +kernel, by decide +kernel, by decide +kernel⟩, Or.inl (gtb_in 562 (by decide +kernel) (by decide +kernel))⟩, gtb_in 564 (by decide +kernel) (by decide +kernel), gtb_in 23 (by decide +kernel) (by decide +kernel), TX4, 14, rfl⟩
theorem mlL_64 : LVt RL 64 zX4_leads 3 4 := ⟨⟨okX4_leads, gtb_in 49 (by decide +kernel) (by decide +kernel), ⟨by decide +kernel, by decide +kernel, by decide +kernel⟩, Or.inl (gtb_in 566 (by decide +kernel) (by decide +kernel))⟩, gtb_in 567 (by decide +kernel) (by decide +kernel), gtb_in 568 (by decide +kernel) (by decide +kernel), TX4, 14, rfl⟩
theorem mlX4_120 : LVt RX4 120 zX4_isLeading 3 4 := ⟨⟨okX4_isLeading, gtb_in 49 (by decide +kernel) (by decide +kernel), ⟨by decide +kernel, by decide +kernel, by decide +kernel⟩, Or.inl (gtb_in 570 (by decide +kernel) (by decide +kernel))⟩, gtb_in 572 (by decide +kernel) (by decide +kernel), gtb_in 24 (by decide +kernel) (by decide +kernel), TX4, 14, rfl⟩
theorem mlL_68 : LVt RL 68 zX4_step 2 4 := ⟨⟨okX4_step, gtb_in 49 (by decide +kernel) (by decide +kernel), ⟨by decide +kernel, by decide +kernel, by decide +kernel⟩, Or.inl (gtb_in 574 (by decide +kernel) (by decide +kernel))⟩, gtb_in 575 (by decide +kernel) (by decide +kernel), gtb_in 576 (by decide +kernel) (by decide +kernel), TX4, 14, rfl⟩
theorem mlX4_127 : LVt RX4 127 zX4_unlikeSteps 1 4 := ⟨⟨okX4_unlikeSteps, gtb_in 49 (by decide +kernel) (by decide +kernel), ⟨by decide +kernel, by decide +kernel, by decide +kernel⟩, Or.inl (gtb_in 578 (by decide +kernel) (by decide +kernel))⟩, gtb_in 580 (by decide +kernel) (by decide +kernel), gtb_in 25 (by decide +kernel) (by decide +kernel), TX4, 14, rfl⟩
theorem mlX4_124 : LVt RX4 124 zX4_stepAt 2 4 := ⟨⟨okX4_stepAt, gtb_in 49 (by decide +kernel) (by decide +kernel), ⟨by decide +kernel, by decide +kernel, by decide +kernel⟩, Or.inl (gtb_in 582 (by decide +kernel) (by decide +kernel))⟩, gtb_in 584 (by decide +kernel) (by decide +kernel), gtb_in 26 (by decide +kernel) (by decide +kernel), TX4, 14, rfl⟩
theorem mlL_72 : LVt RL 72 zX4_shared 3 4 := ⟨⟨okX4_shared, gtb_in 49 (by decide +kernel) (by decide +kernel), ⟨by decide +kernel, by decide +kernel, by decide +kernel⟩, Or.inl (gtb_in 586 (by decide +kernel) (by decide +kernel))⟩, gtb_in 587 (by decide +kernel) (by decide +kernel), gtb_in 588 (by decide +kernel) (by decide +kernel), TX4, 14, rfl⟩
theorem mlX4_134 : LVt RX4 134 zX4_setAt 4 4 := ⟨⟨okX4_setAt, gtb_in 49 (by decide +kernel) (by decide +kernel), ⟨by decide +kernel, by decide +kernel, by decide +kernel⟩, Or.inl (gtb_in 592 (by decide +kernel) (by decide +kernel))⟩, gtb_in 594 (by decide +kernel) (by decide +kernel), gtb_in 27 (by decide +kernel) (by decide +kernel), TX4, 14, rfl⟩
theorem mlL_76 : LVt RL 76 zX4_partner 2 4 := ⟨⟨okX4_partner, gtb_in 49 (by decide +kernel) (by decide +kernel), ⟨by decide +kernel, by decide +kernel, by decide +kernel⟩, Or.inl (gtb_in 596 (by decide +kernel) (by decide +kernel))⟩, gtb_in 597 (by decide +kernel) (by decide +kernel), gtb_in 598 (by decide +kernel) (by decide +kernel), TX4, 14, rfl⟩
theorem mlL_80 : LVt RL 80 zX4_derived 2 4 := ⟨⟨okX4_derived, gtb_in 49 (by decide +kernel) (by decide +kernel), ⟨by decide +kernel, by decide +kernel, by decide +kernel⟩, Or.inl (gtb_in 600 (by decide +kernel) (by decide +kernel))⟩, gtb_in 601 (by decide +kernel) (by decide +kernel), gtb_in 602 (by decide +kernel) (by decide +kernel), TX4, 14, rfl⟩
theorem mlX4_141 : LVt RX4 141 zX4_isGroup 3 4 := ⟨⟨okX4_isGroup, gtb_in 49 (by decide +kernel) (by decide +kernel), ⟨by decide +kernel, by decide +kernel, by decide +kernel⟩, Or.inl (gtb_in 604 (by decide +kernel) (by decide +kernel))⟩, gtb_in 606 (by decide +kernel) (by decide +kernel), gtb_in 28 (by decide +kernel) (by decide +kernel), TX4, 14, rfl⟩
theorem mlX4_138 : LVt RX4 138 zX4_groupAt 4 4 := ⟨⟨okX4_groupAt, gtb_in 49 (by decide +kernel) (by decide +kernel), ⟨by decide +kernel, by decide +kernel, by decide +kernel⟩, Or.inl (gtb_in 608 (by decide +kernel) (by decide +kernel))⟩, gtb_in 610 (by decide +kernel) (by decide +kernel), gtb_in 29 (by decide +kernel) (by decide +kernel), TX4, 14, rfl⟩
theorem mlL_85 : LVt RL 85 zX4_making 4 4 := ⟨⟨okX4_making, gtb_in 49 (by decide +kernel) (by decide +kernel), ⟨by decide +kernel, by decide +kernel, by decide +kernel⟩, Or.inl (gtb_in 612 (by decide +kernel) (by decide +kernel))⟩, gtb_in 613 (by decide +kernel) (by decide +kernel), gtb_in 614 (by decide +kernel) (by decide +kernel), TX4, 14, rfl⟩
theorem mlX4_162 : LVt RX4 162 zX4_isFirst 3 4 := ⟨⟨okX4_isFirst, gtb_in 49 (by decide +kernel) (by decide +kernel), ⟨by decide +kernel, by decide +kernel, by decide +kernel⟩, Or.inl (gtb_in 617 (by decide +kernel) (by decide +kernel))⟩, gtb_in 619 (by decide +kernel) (by decide +kernel), gtb_in 30 (by decide +kernel) (by decide +kernel), TX4, 14, rfl⟩
theorem mlX4_156 : LVt RX4 156 zX4_addGroup 3 4 := ⟨⟨okX4_addGroup, gtb_in 49 (by decide +kernel) (by decide +kernel), ⟨by decide +kernel, by decide +kernel, by decide +kernel⟩, Or.inl (gtb_in 621 (by decide +kernel) (by decide +kernel))⟩, gtb_in 623 (by decide +kernel) (by decide +kernel), gtb_in 31 (by decide +kernel) (by decide +kernel), TX4, 14, rfl⟩
theorem mlX4_147 : LVt RX4 147 zX4_comparedGroups 4 4 := ⟨⟨okX4_comparedGroups, gtb_in 49 (by decide +kernel) (by decide +kernel), ⟨by decide +kernel, by decide +kernel, by decide +kernel⟩, Or.inl (gtb_in 625 (by decide +kernel) (by decide +kernel))⟩, gtb_in 627 (by decide +kernel) (by decide +kernel), gtb_in 32 (by decide +kernel) (by decide +kernel), TX4, 14, rfl⟩
theorem mlX4_150 : LVt RX4 150 zX4_fits 3 4 := ⟨⟨okX4_fits, gtb_in 49 (by decide +kernel) (by decide +kernel), ⟨by decide +kernel, by decide +kernel, by decide +kernel⟩, Or.inl (gtb_in 629 (by decide +kernel) (by decide +kernel))⟩, gtb_in 631 (by decide +kernel) (by decide +kernel), gtb_in 33 (by decide +kernel) (by decide +kernel), TX4, 14, rfl⟩
theorem mlX4_153 : LVt RX4 153 zX4_firstSet 2 4 := ⟨⟨okX4_firstSet, gtb_in 49 (by decide +kernel) (by decide +kernel), ⟨by decide +kernel, by decide +kernel, by decide +kernel⟩, Or.inl (gtb_in 633 (by decide +kernel) (by decide +kernel))⟩, gtb_in 635 (by decide +kernel) (by decide +kernel), gtb_in 34 (by decide +kernel) (by decide +kernel), TX4, 14, rfl⟩
theorem mlX4_165 : LVt RX4 165 zX4_isNext 3 4 := ⟨⟨okX4_isNext, gtb_in 49 (by decide +kernel) (by decide +kernel), ⟨by decide +kernel, by decide +kernel, by decide +kernel⟩, Or.inl (gtb_in 637 (by decide +kernel) (by decide +kernel))⟩, gtb_in 639 (by decide +kernel) (by decide +kernel), gtb_in 35 (by decide +kernel) (by decide +kernel), TX4, 14, rfl⟩
theorem mlL_89 : LVt RL 89 zX4_fillings 1 4 := ⟨⟨okX4_fillings, gtb_in 49 (by decide +kernel) (by decide +kernel), ⟨by decide +kernel, by decide +kernel, by decide +kernel⟩, Or.inl (gtb_in 641 (by decide +kernel) (by decide +kernel))⟩, gtb_in 642 (by decide +kernel) (by decide +kernel), gtb_in 643 (by decide +kernel) (by decide +kernel), TX4, 14, rfl⟩
theorem mlX4_177 : LVt RX4 177 zX4_isWell 1 4 := ⟨⟨okX4_isWell, gtb_in 49 (by decide +kernel) (by decide +kernel), ⟨by decide +kernel, by decide +kernel, by decide +kernel⟩, Or.inl (gtb_in 645 (by decide +kernel) (by decide +kernel))⟩, gtb_in 647 (by decide +kernel) (by decide +kernel), gtb_in 36 (by decide +kernel) (by decide +kernel), TX4, 14, rfl⟩
theorem mlX4_168 : LSt RX4 168 zX4_isKeeping 1 := ⟨⟨okX4_isKeeping, gtb_in 49 (by decide +kernel) (by decide +kernel), ⟨by decide +kernel, by decide +kernel, by decide +kernel⟩, Or.inl (gtb_in 649 (by decide +kernel) (by decide +kernel))⟩, gtb_in 650 (by decide +kernel) (by decide +kernel)⟩
theorem mlX4_171 : LSt RX4 171 zX4_across 2 := ⟨⟨okX4_across, gtb_in 49 (by decide +kernel) (by decide +kernel), ⟨by decide +kernel, by decide +kernel, by decide +kernel⟩, Or.inl (gtb_in 652 (by decide +kernel) (by decide +kernel))⟩, gtb_in 653 (by decide +kernel) (by decide +kernel)⟩
theorem mlX4_174 : LVt RX4 174 zX4_placeOf 1 4 := ⟨⟨okX4_placeOf, gtb_in 49 (by decide +kernel) (by decide +kernel), ⟨by decide +kernel, by decide +kernel, by decide +kernel⟩, Or.inl (gtb_in 655 (by decide +kernel) (by decide +kernel))⟩, gtb_in 657 (by decide +kernel) (by decide +kernel), gtb_in 37 (by decide +kernel) (by decide +kernel), TX4, 14, rfl⟩
theorem mlL_93 : LVt RL 93 zX4_filling 2 4 := ⟨⟨okX4_filling, gtb_in 49 (by decide +kernel) (by decide +kernel), ⟨by decide +kernel, by decide +kernel, by decide +kernel⟩, Or.inl (gtb_in 659 (by decide +kernel) (by decide +kernel))⟩, gtb_in 660 (by decide +kernel) (by decide +kernel), gtb_in 661 (by decide +kernel) (by decide +kernel), TX4, 14, rfl⟩
theorem mlX4_186 : LVt RX4 186 zX4_fill 1 4 := ⟨⟨okX4_fill, gtb_in 49 (by decide +kernel) (by decide +kernel), ⟨by decide +kernel, by decide +kernel, by decide +kernel⟩, Or.inl (gtb_in 663 (by decide +kernel) (by decide +kernel))⟩, gtb_in 665 (by decide +kernel) (by decide +kernel), gtb_in 38 (by decide +kernel) (by decide +kernel), TX4, 14, rfl⟩
theorem mlX4_183 : LVt RX4 183 zX4_leastFree 1 4 := ⟨⟨okX4_leastFree, gtb_in 49 (by decide +kernel) (by decide +kernel), ⟨by decide +kernel, by decide +kernel, by decide +kernel⟩, Or.inl (gtb_in 667 (by decide +kernel) (by decide +kernel))⟩, gtb_in 669 (by decide +kernel) (by decide +kernel), gtb_in 39 (by decide +kernel) (by decide +kernel), TX4, 14, rfl⟩
theorem mlX4_180 : LVt RX4 180 zX4_isUsed 1 4 := ⟨⟨okX4_isUsed, gtb_in 49 (by decide +kernel) (by decide +kernel), ⟨by decide +kernel, by decide +kernel, by decide +kernel⟩, Or.inl (gtb_in 671 (by decide +kernel) (by decide +kernel))⟩, gtb_in 673 (by decide +kernel) (by decide +kernel), gtb_in 40 (by decide +kernel) (by decide +kernel), TX4, 14, rfl⟩
theorem mlL_97 : LVt RL 97 zX4_sign 3 4 := ⟨⟨okX4_sign, gtb_in 49 (by decide +kernel) (by decide +kernel), ⟨by decide +kernel, by decide +kernel, by decide +kernel⟩, Or.inl (gtb_in 675 (by decide +kernel) (by decide +kernel))⟩, gtb_in 676 (by decide +kernel) (by decide +kernel), gtb_in 677 (by decide +kernel) (by decide +kernel), TX4, 14, rfl⟩
theorem mlX4_190 : LSt RX4 190 zX4_signOf 1 := ⟨⟨okX4_signOf, gtb_in 49 (by decide +kernel) (by decide +kernel), ⟨by decide +kernel, by decide +kernel, by decide +kernel⟩, Or.inl (gtb_in 679 (by decide +kernel) (by decide +kernel))⟩, gtb_in 680 (by decide +kernel) (by decide +kernel)⟩
theorem mlL_101 : LVt RL 101 zX4_image 1 4 := ⟨⟨okX4_image, gtb_in 49 (by decide +kernel) (by decide +kernel), ⟨by decide +kernel, by decide +kernel, by decide +kernel⟩, Or.inl (gtb_in 682 (by decide +kernel) (by decide +kernel))⟩, gtb_in 683 (by decide +kernel) (by decide +kernel), gtb_in 684 (by decide +kernel) (by decide +kernel), TX4, 14, rfl⟩
theorem mlX4_204 : LVt RX4 204 zX4_passAll 0 4 := ⟨⟨okX4_passAll, gtb_in 49 (by decide +kernel) (by decide +kernel), ⟨by decide +kernel, by decide +kernel, by decide +kernel⟩, Or.inl (gtb_in 686 (by decide +kernel) (by decide +kernel))⟩, gtb_in 688 (by decide +kernel) (by decide +kernel), gtb_in 41 (by decide +kernel) (by decide +kernel), TX4, 14, rfl⟩
theorem mlX4_200 : LVt RX4 200 zX4_passRow 2 4 := ⟨⟨okX4_passRow, gtb_in 49 (by decide +kernel) (by decide +kernel), ⟨by decide +kernel, by decide +kernel, by decide +kernel⟩, Or.inl (gtb_in 690 (by decide +kernel) (by decide +kernel))⟩, gtb_in 692 (by decide +kernel) (by decide +kernel), gtb_in 42 (by decide +kernel) (by decide +kernel), TX4, 14, rfl⟩
theorem mlL_105 : LVt RL 105 zX4_restore 1 4 := ⟨⟨okX4_restore, gtb_in 49 (by decide +kernel) (by decide +kernel), ⟨by decide +kernel, by decide +kernel, by decide +kernel⟩, Or.inl (gtb_in 694 (by decide +kernel) (by decide +kernel))⟩, gtb_in 695 (by decide +kernel) (by decide +kernel), gtb_in 696 (by decide +kernel) (by decide +kernel), TX4, 14, rfl⟩
theorem mlL_109 : LVt RL 109 zX4_told 1 4 := ⟨⟨okX4_told, gtb_in 49 (by decide +kernel) (by decide +kernel), ⟨by decide +kernel, by decide +kernel, by decide +kernel⟩, Or.inl (gtb_in 698 (by decide +kernel) (by decide +kernel))⟩, gtb_in 699 (by decide +kernel) (by decide +kernel), gtb_in 700 (by decide +kernel) (by decide +kernel), TX4, 14, rfl⟩
theorem mlX4_207 : LVt RX4 207 zX4_firstLike 1 4 := ⟨⟨okX4_firstLike, gtb_in 49 (by decide +kernel) (by decide +kernel), ⟨by decide +kernel, by decide +kernel, by decide +kernel⟩, Or.inl (gtb_in 702 (by decide +kernel) (by decide +kernel))⟩, gtb_in 704 (by decide +kernel) (by decide +kernel), gtb_in 43 (by decide +kernel) (by decide +kernel), TX4, 14, rfl⟩
theorem mlX3_9 : LKc RX3 9 zX0_init 0 ∧ Cond.instanceMethod zX0_init.1 ∈ gtb := ⟨⟨okX0_init, gtb_in 46 (by decide +kernel) (by decide +kernel), ⟨by decide +kernel, by decide +kernel, by decide +kernel⟩, Or.inr ⟨"RowForms", nst_in 63 (by decide +kernel) (by decide +kernel)⟩⟩, gtb_in 64 (by decide +kernel) (by decide +kernel)⟩
theorem mlX3_18 : LKc RX3 18 zX2_init 0 ∧ Cond.instanceMethod zX2_init.1 ∈ gtb := ⟨⟨okX2_init, gtb_in 47 (by decide +kernel) (by decide +kernel), ⟨by decide +kernel, by decide +kernel, by decide +kernel⟩, Or.inr ⟨"RowForms", nst_in 78 (by decide +kernel) (by decide +kernel)⟩⟩, gtb_in 79 (by decide +kernel) (by decide +kernel)⟩
theorem mlX3_29 : LKc RX3 29 zX1_init 0 ∧ Cond.instanceMethod zX1_init.1 ∈ gtb := ⟨⟨okX1_init, gtb_in 48 (by decide +kernel) (by decide +kernel), ⟨by decide +kernel, by decide +kernel, by decide +kernel⟩, Or.inr ⟨"RowForms", nst_in 100 (by decide +kernel) (by decide +kernel)⟩⟩, gtb_in 101 (by decide +kernel) (by decide +kernel)⟩
theorem mlX3_38 : LVt RX3 38 zX0_isFull 0 0 := ⟨⟨okX0_isFull, gtb_in 46 (by decide +kernel) (by decide +kernel), ⟨by decide +kernel, by decide +kernel, by decide +kernel⟩, Or.inr ⟨"RowForms", nst_in 143 (by decide +kernel) (by decide +kernel)⟩⟩, gtb_in 145 (by decide +kernel) (by decide +kernel), gtb_in 0 (by decide +kernel) (by decide +kernel), TX0, 2, rfl⟩
theorem mlX3_42 : LVt RX3 42 zX0_add 1 0 := ⟨⟨okX0_add, gtb_in 46 (by decide +kernel) (by decide +kernel), ⟨by decide +kernel, by decide +kernel, by decide +kernel⟩, Or.inr ⟨"RowForms", nst_in 147 (by decide +kernel) (by decide +kernel)⟩⟩, gtb_in 149 (by decide +kernel) (by decide +kernel), gtb_in 1 (by decide +kernel) (by decide +kernel), TX0, 2, rfl⟩
theorem mlX3_46 : LVt RX3 46 zX0_empty 0 0 := ⟨⟨okX0_empty, gtb_in 46 (by decide +kernel) (by decide +kernel), ⟨by decide +kernel, by decide +kernel, by decide +kernel⟩, Or.inr ⟨"RowForms", nst_in 156 (by decide +kernel) (by decide +kernel)⟩⟩, gtb_in 158 (by decide +kernel) (by decide +kernel), gtb_in 2 (by decide +kernel) (by decide +kernel), TX0, 2, rfl⟩
theorem mlX3_50 : LVt RX3 50 zX0_rowFault 1 0 := ⟨⟨okX0_rowFault, gtb_in 46 (by decide +kernel) (by decide +kernel), ⟨by decide +kernel, by decide +kernel, by decide +kernel⟩, Or.inr ⟨"RowForms", nst_in 164 (by decide +kernel) (by decide +kernel)⟩⟩, gtb_in 166 (by decide +kernel) (by decide +kernel), gtb_in 3 (by decide +kernel) (by decide +kernel), TX0, 2, rfl⟩
theorem mlX0_27 : LSt RX0 27 zX3_signTone 1 := ⟨⟨okX3_signTone, gtb_in 45 (by decide +kernel) (by decide +kernel), ⟨by decide +kernel, by decide +kernel, by decide +kernel⟩, Or.inr ⟨"RowForms", nst_in 172 (by decide +kernel) (by decide +kernel)⟩⟩, gtb_in 173 (by decide +kernel) (by decide +kernel)⟩
theorem mlX3_54 : LVt RX3 54 zX0_formFault 0 0 := ⟨⟨okX0_formFault, gtb_in 46 (by decide +kernel) (by decide +kernel), ⟨by decide +kernel, by decide +kernel, by decide +kernel⟩, Or.inr ⟨"RowForms", nst_in 175 (by decide +kernel) (by decide +kernel)⟩⟩, gtb_in 177 (by decide +kernel) (by decide +kernel), gtb_in 5 (by decide +kernel) (by decide +kernel), TX0, 2, rfl⟩
theorem mlX3_65 : LVt RX3 65 zX0_copyTones 1 0 := ⟨⟨okX0_copyTones, gtb_in 46 (by decide +kernel) (by decide +kernel), ⟨by decide +kernel, by decide +kernel, by decide +kernel⟩, Or.inr ⟨"RowForms", nst_in 190 (by decide +kernel) (by decide +kernel)⟩⟩, gtb_in 192 (by decide +kernel) (by decide +kernel), gtb_in 7 (by decide +kernel) (by decide +kernel), TX0, 2, rfl⟩
theorem mlX3_76 : LVt RX3 76 zX0_formNumber 0 0 := ⟨⟨okX0_formNumber, gtb_in 46 (by decide +kernel) (by decide +kernel), ⟨by decide +kernel, by decide +kernel, by decide +kernel⟩, Or.inr ⟨"RowForms", nst_in 205 (by decide +kernel) (by decide +kernel)⟩⟩, gtb_in 207 (by decide +kernel) (by decide +kernel), gtb_in 8 (by decide +kernel) (by decide +kernel), TX0, 2, rfl⟩
theorem mlX3_133 : LVt RX3 133 zX1_gather 2 1 := ⟨⟨okX1_gather, gtb_in 48 (by decide +kernel) (by decide +kernel), ⟨by decide +kernel, by decide +kernel, by decide +kernel⟩, Or.inr ⟨"RowForms", nst_in 313 (by decide +kernel) (by decide +kernel)⟩⟩, gtb_in 315 (by decide +kernel) (by decide +kernel), gtb_in 9 (by decide +kernel) (by decide +kernel), TX1, 6, rfl⟩
theorem mlX1_31 : LSt RX1 31 zX3_formSet 4 := ⟨⟨okX3_formSet, gtb_in 45 (by decide +kernel) (by decide +kernel), ⟨by decide +kernel, by decide +kernel, by decide +kernel⟩, Or.inr ⟨"RowForms", nst_in 317 (by decide +kernel) (by decide +kernel)⟩⟩, gtb_in 293 (by decide +kernel) (by decide +kernel)⟩
theorem mlX1_35 : LSt RX1 35 zX3_formTone 4 := ⟨⟨okX3_formTone, gtb_in 45 (by decide +kernel) (by decide +kernel), ⟨by decide +kernel, by decide +kernel, by decide +kernel⟩, Or.inr ⟨"RowForms", nst_in 318 (by decide +kernel) (by decide +kernel)⟩⟩, gtb_in 224 (by decide +kernel) (by decide +kernel)⟩
theorem mlX3_137 : LVt RX3 137 zX1_countRows 0 1 := ⟨⟨okX1_countRows, gtb_in 48 (by decide +kernel) (by decide +kernel), ⟨by decide +kernel, by decide +kernel, by decide +kernel⟩, Or.inr ⟨"RowForms", nst_in 323 (by decide +kernel) (by decide +kernel)⟩⟩, gtb_in 325 (by decide +kernel) (by decide +kernel), gtb_in 11 (by decide +kernel) (by decide +kernel), TX1, 6, rfl⟩
theorem mlX3_140 : LVt RX3 140 zX1_toneOfRow 2 1 := ⟨⟨okX1_toneOfRow, gtb_in 48 (by decide +kernel) (by decide +kernel), ⟨by decide +kernel, by decide +kernel, by decide +kernel⟩, Or.inr ⟨"RowForms", nst_in 330 (by decide +kernel) (by decide +kernel)⟩⟩, gtb_in 332 (by decide +kernel) (by decide +kernel), gtb_in 12 (by decide +kernel) (by decide +kernel), TX1, 6, rfl⟩
theorem mlX3_171 : LVt RX3 171 zX2_copyFrom 1 2 := ⟨⟨okX2_copyFrom, gtb_in 47 (by decide +kernel) (by decide +kernel), ⟨by decide +kernel, by decide +kernel, by decide +kernel⟩, Or.inr ⟨"RowForms", nst_in 387 (by decide +kernel) (by decide +kernel)⟩⟩, gtb_in 389 (by decide +kernel) (by decide +kernel), gtb_in 13 (by decide +kernel) (by decide +kernel), TX2, 3, rfl⟩
theorem clX4_48 : Cond.constantLong RX4 48 (iL 33) ∈ gtb := gtb_in 458 (by decide +kernel) (by decide +kernel)
theorem clX4_50 : Cond.constantLong RX4 50 (iL 126) ∈ gtb := gtb_in 459 (by decide +kernel) (by decide +kernel)
theorem clX4_56 : Cond.constantLong RX4 56 (iL 48) ∈ gtb := gtb_in 478 (by decide +kernel) (by decide +kernel)
theorem clX4_58 : Cond.constantLong RX4 58 (iL 57) ∈ gtb := gtb_in 479 (by decide +kernel) (by decide +kernel)
theorem clX4_38 : Cond.constantLong RX4 38 (iL 3) ∈ gtb := gtb_in 495 (by decide +kernel) (by decide +kernel)
theorem clX4_46 : Cond.constantLong RX4 46 (iL 11) ∈ gtb := gtb_in 515 (by decide +kernel) (by decide +kernel)
theorem clX4_44 : Cond.constantLong RX4 44 (iL 47) ∈ gtb := gtb_in 527 (by decide +kernel) (by decide +kernel)
theorem clX4_112 : Cond.constantLong RX4 112 (iL 13) ∈ gtb := gtb_in 553 (by decide +kernel) (by decide +kernel)
theorem clX4_130 : Cond.constantLong RX4 130 (iL 2) ∈ gtb := gtb_in 590 (by decide +kernel) (by decide +kernel)
theorem clX4_132 : Cond.constantLong RX4 132 (iL 6) ∈ gtb := gtb_in 591 (by decide +kernel) (by decide +kernel)
theorem clX4_160 : Cond.constantLong RX4 160 (iL 4) ∈ gtb := gtb_in 616 (by decide +kernel) (by decide +kernel)
theorem cpX3_89 : Cond.methodLink RX3 89 arraycopyName ∈ gtb ∧ Cond.native arraycopyName ∈ gtb ∧ Cond.static arraycopyName ∈ gtb ∧ Cond.initialized "java/lang/System" ∈ gtb := ⟨gtb_in 241 (by decide +kernel) (by decide +kernel), gtb_in 243 (by decide +kernel) (by decide +kernel), gtb_in 242 (by decide +kernel) (by decide +kernel), gtb_in 51 (by decide +kernel) (by decide +kernel)⟩
theorem cpX2_24 : Cond.methodLink RX2 24 arraycopyName ∈ gtb ∧ Cond.native arraycopyName ∈ gtb ∧ Cond.static arraycopyName ∈ gtb ∧ Cond.initialized "java/lang/System" ∈ gtb := ⟨gtb_in 391 (by decide +kernel) (by decide +kernel), gtb_in 243 (by decide +kernel) (by decide +kernel), gtb_in 242 (by decide +kernel) (by decide +kernel), gtb_in 51 (by decide +kernel) (by decide +kernel)⟩
end
section
/-! contracts that name their answer -/
def bI (P : Prop) [Decidable P] : Int := if P then 1 else 0
theorem bI_t {P : Prop} [Decidable P] (h : P) : bI P = 1 := if_pos h
theorem bI_f {P : Prop} [Decidable P] (h : ¬ P) : bI P = 0 := if_neg h
theorem bI_01 (P : Prop) [Decidable P] : bI P = 0 ∨ bI P = 1 := by
  unfold bI; split <;> simp
theorem bI_c {P P' : Prop} [Decidable P] [Decidable P'] (h : P ↔ P') : bI P = bI P' := by
  unfold bI; simp only [h]
theorem bI_rng (P : Prop) [Decidable P] : rng (bI P) := by
  rcases bI_01 P with h | h <;> rw [h] <;> exact ⟨by decide, by decide⟩
abbrev MF (z : ZM) (d : Nat) (as : List AV) (h : List AC) (x : Int) (h' : List AC) : Prop := M0 z d as h (fun v u => v = some x ∧ u = h')
abbrev MV (z : ZM) (d : Nat) (as : List AV) (h : List AC) (h' : List AC) : Prop := M0 z d as h (fun v u => v = none ∧ u = h')
theorem set_self {h : List AC} {i : Nat} {c c' : AC} (hi : h[i]? = some c) : (h.set i c')[i]? = some c' := by
  rw [List.getElem?_set_self (List.getElem?_eq_some_iff.mp hi).1]
theorem set_ne {h : List AC} {i j : Nat} {c c' : AC} (hij : i ≠ j) (hj : h[j]? = some c) : (h.set i c')[j]? = some c := by
  rw [List.getElem?_set_ne hij]; exact hj
theorem set_same {h : List AC} {i : Nat} {c : AC} (hi : h[i]? = some c) : h.set i c = h := by
  apply List.ext_getElem?
  intro j
  by_cases hj : i = j
  · subst hj; rw [set_self hi, hi]
  · rw [List.getElem?_set_ne hj]
def lsb : List (Nat × AV) → List (Nat × AV) → Prop
  | [], _ => True
  | q :: l, ls => lkp ls q.1 = some q.2 ∧ lsb l ls
theorem lsb_mem {ls : List (Nat × AV)} : ∀ {l : List (Nat × AV)}, lsb l ls → ∀ q ∈ l, q ∈ ls
  | [], _, q, hq => by cases hq
  | r :: l, h, q, hq => by
    rcases List.mem_cons.mp hq with rfl | hq
    · exact lkp_mem h.1
    · exact lsb_mem h.2 q hq
section Rules
variable {z : ZM} {G : GG} {R : Room} {MC MS k n pc pn : Nat} {ls : List (Nat × AV)} {st : List AV} {h : List AC} {Q : Option Int → List AC → Prop}
theorem AW.lw {ls' : List (Nat × AV)} (hs : lsb ls' ls) (kk : AW z G R MC MS k n pc ls' st h Q) : AW z G R MC MS k n pc ls st h Q := by
  intro p l e s m args below meth c D τ A ρ0 ρ Zf C hK hA hG hZ H locs lsA hP hD hS hl
  refine kk p l e s m args below meth c D τ A ρ0 ρ Zf C hK hA hG hZ H locs lsA hP hD hS ⟨hl.1, hl.2.1, fun q hq => ?_⟩
  obtain ⟨r, hr, rfl⟩ := List.mem_map.mp hq
  exact hl.2.2 _ (List.mem_map.mpr ⟨r, lsb_mem hs r hr, rfl⟩)
theorem AW.callSF {z' : ZM} {idx d np : Nat} {as : List AV} {st0 : List AV} {x : Int} {h' : List AC} (hf : ftch z.2.2.2.2 pc = some (.invokestatic idx, 3)) (hn : pc + 3 = pn) (lk : LSt z.1.cls idx z' np) (hM : MF z' d as h x h') (hst : st0 = as.reverse ++ st) (hnp : as.length = np) (hw : (st.map acat).sum ≤ 8) (hR : d + 1 ≤ R.frames ∧ 40 * (d + 1) ≤ R.locals) (hc0 : k ≤ R.cells ∧ n ≤ R.slots)
    (kk : AW z G R MC MS k n pn ls (vi x :: st) h' Q) : AW z G R MC MS k n pc ls st0 h Q :=
  AW.callS hf hn lk hM hst hnp hw hR hc0 (fun v u hq => by obtain ⟨rfl, rfl⟩ := hq; exact kk)
theorem AW.callSV {z' : ZM} {idx d np : Nat} {as : List AV} {st0 : List AV} {h' : List AC} (hf : ftch z.2.2.2.2 pc = some (.invokestatic idx, 3)) (hn : pc + 3 = pn) (lk : LSt z.1.cls idx z' np) (hM : MV z' d as h h') (hst : st0 = as.reverse ++ st) (hnp : as.length = np) (hw : (st.map acat).sum ≤ 8) (hR : d + 1 ≤ R.frames ∧ 40 * (d + 1) ≤ R.locals) (hc0 : k ≤ R.cells ∧ n ≤ R.slots)
    (kk : AW z G R MC MS k n pn ls st h' Q) : AW z G R MC MS k n pc ls st0 h Q :=
  AW.callS hf hn lk hM hst hnp hw hR hc0 (fun v u hq => by obtain ⟨rfl, rfl⟩ := hq; exact kk)
theorem AW.callVF {z' : ZM} {idx d np ci i : Nat} {fs : List AV} {as : List AV} {st0 : List AV} {x : Int} {h' : List AC} (hf : ftch z.2.2.2.2 pc = some (.invokevirtual idx, 3)) (hn : pc + 3 = pn) (lk : LVt z.1.cls idx z' np ci) (hh : h[i]? = some (ao ci fs)) (hM : MF z' d (vr i :: as) h x h') (hst : st0 = as.reverse ++ vr i :: st) (hnp : as.length = np) (hw : (st.map acat).sum ≤ 8) (hR : d + 1 ≤ R.frames ∧ 40 * (d + 1) ≤ R.locals) (hc0 : k ≤ R.cells ∧ n ≤ R.slots)
    (kk : AW z G R MC MS k n pn ls (vi x :: st) h' Q) : AW z G R MC MS k n pc ls st0 h Q :=
  AW.callV hf hn lk hh hM hst hnp hw hR hc0 (fun v u hq => by obtain ⟨rfl, rfl⟩ := hq; exact kk)
theorem AW.callVV {z' : ZM} {idx d np ci i : Nat} {fs : List AV} {as : List AV} {st0 : List AV} {h' : List AC} (hf : ftch z.2.2.2.2 pc = some (.invokevirtual idx, 3)) (hn : pc + 3 = pn) (lk : LVt z.1.cls idx z' np ci) (hh : h[i]? = some (ao ci fs)) (hM : MV z' d (vr i :: as) h h') (hst : st0 = as.reverse ++ vr i :: st) (hnp : as.length = np) (hw : (st.map acat).sum ≤ 8) (hR : d + 1 ≤ R.frames ∧ 40 * (d + 1) ≤ R.locals) (hc0 : k ≤ R.cells ∧ n ≤ R.slots)
    (kk : AW z G R MC MS k n pn ls st h' Q) : AW z G R MC MS k n pc ls st0 h Q :=
  AW.callV hf hn lk hh hM hst hnp hw hR hc0 (fun v u hq => by obtain ⟨rfl, rfl⟩ := hq; exact kk)
/-- a branch on a truth: ifeq goes where it doesn't hold -/
theorem AW.bz {P : Prop} [Decidable P] {off : Int} {tgt : Nat} (hf : ftch z.2.2.2.2 pc = some (.ifCond .eq off, 3)) (ht : (pc : Int) + off = (tgt : Int)) (hn : pc + 3 = pn)
    (kt : ¬ P → AW z G R MC MS k n tgt ls st h Q) (kf : P → AW z G R MC MS k n pn ls st h Q) : AW z G R MC MS k n pc ls (vi (bI P) :: st) h Q := by
  refine AW.br hf ht hn (bI_rng P) (fun q => kt (fun w => ?_)) (fun q => kf (Decidable.byContradiction (fun w => q ?_)))
  · have q : bI P = 0 := q
    rw [bI_t w] at q; cases q
  · show bI P = 0
    exact bI_f w
theorem AW.bnz {P : Prop} [Decidable P] {off : Int} {tgt : Nat} (hf : ftch z.2.2.2.2 pc = some (.ifCond .ne off, 3)) (ht : (pc : Int) + off = (tgt : Int)) (hn : pc + 3 = pn)
    (kt : P → AW z G R MC MS k n tgt ls st h Q) (kf : ¬ P → AW z G R MC MS k n pn ls st h Q) : AW z G R MC MS k n pc ls (vi (bI P) :: st) h Q := by
  refine AW.br hf ht hn (bI_rng P) (fun q => kt (Decidable.byContradiction (fun w => q ?_))) (fun q => kf (fun w => q ?_))
  · exact bI_f w
  · intro (w2 : bI P = 0)
    rw [bI_t w] at w2; cases w2
end Rules
end
section
theorem iI_nI (a : Nat) : iI (a : Int) = nI a := by
  apply Int32.toBitVec_inj.mp
  rw [iI_bv]; rfl
def tmd (a b : Int) : Int := if 0 ≤ a then a % b else -((-a) % b)
theorem iI_remT {a b : Int} (h0 : rng a) (h2 : 0 < b) (h3 : b < 2147483648) : iI a - iI a / iI b * iI b = iI (tmd a b) := by
  unfold tmd
  split
  next h => exact iI_rem h h0.2 h2 h3
  next h =>
    have e1 : iI a / iI b = iI (a.tdiv b) := by
      apply Int32.toInt_inj.mp
      rw [Int32.toInt_div, iI_toInt h0, iI_toInt ⟨by omega, h3⟩]
      have e2 : a.tdiv b = -((-a) / b) := by
        rw [show a = -(-a) by omega, Int.neg_tdiv, Int.tdiv_eq_ediv_of_nonneg (by omega), Int.neg_neg]
      have g1 := Int.ediv_nonneg (show 0 ≤ -a by omega) (Int.le_of_lt h2)
      have g2 := Int.ediv_le_self b (show 0 ≤ -a by omega)
      have hr : rng (a.tdiv b) := by rw [e2]; exact ⟨by have := h0.1; omega, by omega⟩
      rw [iI_toInt hr]
      exact Int.bmod_eq_of_le (by have := hr.1; omega) (by have := hr.2; omega)
    rw [e1, iI_mul, iI_sub]
    congr 1
    rw [show a.tdiv b = -((-a) / b) by rw [show a = -(-a) by omega, Int.neg_tdiv, Int.tdiv_eq_ediv_of_nonneg (by omega), Int.neg_neg]]
    have := Int.mul_ediv_add_emod (-a) b
    rw [Int.mul_comm] at this
    rw [Int.neg_mul]
    omega
theorem xor_sign {a b : Int} (ha : rng a) (hb : rng b) (h0 : 0 ≤ b) : 0 ≤ (iI a ^^^ iI b).toInt ↔ 0 ≤ a := by
  have m : ∀ x : Int32, (0 ≤ x.toInt) ↔ x.toBitVec.msb = false := by
    intro x
    rw [show x.toInt = x.toBitVec.toInt from rfl]
    have := BitVec.msb_eq_toInt (x := x.toBitVec)
    rw [this]
    simp
  rw [m, Int32.toBitVec_xor, BitVec.msb_xor]
  have hb' := (m (iI b)).mp (by rw [iI_toInt hb]; exact h0)
  rw [hb', Bool.xor_false, ← m, iI_toInt ha]
section Rules
variable {z : ZM} {G : GG} {R : Room} {MC MS k n pc pn : Nat} {ls : List (Nat × AV)} {st : List AV} {h : List AC} {Q : Option Int → List AC → Prop}
theorem AW.iremT {a b : Int} (hf : ftch z.2.2.2.2 pc = some (.irem, 1)) (hn : pc + 1 = pn) (h0 : rng a) (h2 : 0 < b) (h3 : b < 2147483648)
    (kk : AW z G R MC MS k n pn ls (vi (tmd a b) :: st) h Q) : AW z G R MC MS k n pc ls (vi b :: vi a :: st) h Q := by
  subst hn
  refine AW.fr ?_ kk
  intro p l e s m args below meth c ρ H locs lsA Zf C hl K
  obtain ⟨hx, hb', -, -, -, hL, -, -, -⟩ := C
  refine lv_irem hx hb' (okL_at hL hf).1 (fun q => ?_) ?_
  · exact absurd ((iI_eq ⟨by omega, by omega⟩ rng0).mp q) (by omega)
  · rw [iI_remT h0 h2 h3]; exact K lsA hl
theorem AW.ixorS {a b : Int} (hf : ftch z.2.2.2.2 pc = some (.ixor, 1)) (hn : pc + 1 = pn) (h0 : rng a) (h1 : rng b) (h2 : 0 ≤ b)
    (kk : ∀ r : Int, rng r → (0 ≤ r ↔ 0 ≤ a) → AW z G R MC MS k n pn ls (vi r :: st) h Q) : AW z G R MC MS k n pc ls (vi b :: vi a :: st) h Q := by
  subst hn
  refine AW.fr ?_ (kk (iI a ^^^ iI b).toInt (rng_of _) (xor_sign h0 h1 h2))
  intro p l e s m args below meth c ρ H locs lsA Zf C hl K
  obtain ⟨hx, hb', -, -, -, hL, -, -, -⟩ := C
  refine lv_ixor hx hb' (okL_at hL hf).1 ?_
  have K1 := K lsA hl
  show W p l e R s m args below meth c H locs k n Zf (F0 m (pc + 1) lsA (Value.int (iI a ^^^ iI b) :: st.map (cv ρ)))
  rw [← iI_of (iI a ^^^ iI b)]
  exact K1
theorem AW.iandG {a b : Int} (hf : ftch z.2.2.2.2 pc = some (.iand, 1)) (hn : pc + 1 = pn)
    (kk : AW z G R MC MS k n pn ls (vi (iI a &&& iI b).toInt :: st) h Q) : AW z G R MC MS k n pc ls (vi b :: vi a :: st) h Q := by
  subst hn
  refine AW.fr ?_ kk
  intro p l e s m args below meth c ρ H locs lsA Zf C hl K
  obtain ⟨hx, hb', -, -, -, hL, -, -, -⟩ := C
  refine lv_iand hx hb' (okL_at hL hf).1 ?_
  have K1 := K lsA hl
  show W p l e R s m args below meth c H locs k n Zf (F0 m (pc + 1) lsA (Value.int (iI a &&& iI b) :: st.map (cv ρ)))
  rw [← iI_of (iI a &&& iI b)]
  exact K1
theorem AW.iushr {a b : Int} (hf : ftch z.2.2.2.2 pc = some (.iushr, 1)) (hn : pc + 1 = pn) (h0 : 0 ≤ a) (h00 : a < 2147483648) (h1 : 0 ≤ b) (h2 : b < 32)
    (kk : AW z G R MC MS k n pn ls (vi (a / 2 ^ b.toNat) :: st) h Q) : AW z G R MC MS k n pc ls (vi b :: vi a :: st) h Q := by
  subst hn
  refine AW.fr ?_ kk
  intro p l e s m args below meth c ρ H locs lsA Zf C hl K
  obtain ⟨hx, hb', -, -, -, hL, -, -, -⟩ := C
  obtain ⟨x, rfl⟩ := Int.eq_ofNat_of_zero_le h0
  obtain ⟨y, rfl⟩ := Int.eq_ofNat_of_zero_le h1
  have key : ∀ y : Nat, y < 32 → (((iI ((y : Nat) : Int)).toUInt32 &&& Int32.toUInt32 31).toBitVec % 32).toNat = y := by decide +kernel
  refine lv_iushr hx hb' (okL_at hL hf).1 (v := iI ((x : Int) / 2 ^ ((y : Int)).toNat)) ?_ (K lsA hl)
  rw [iI_nI x, pk_ushrN (by omega) _ y (key y (by omega)), ← iI_nI, Int.toNat_natCast]
  congr 1
theorem AW.ldcw {a : Int} {idx : Nat} (hf : ftch z.2.2.2.2 pc = some (.ldc_w idx, 3)) (hn : pc + 3 = pn) (hw : Cond.constant z.1.cls idx (iI a) ∈ gtb)
    (kk : AW z G R MC MS k n pn ls (vi a :: st) h Q) : AW z G R MC MS k n pc ls st h Q := by
  subst hn
  refine AW.fr ?_ kk
  intro p l e s m args below meth c ρ H locs lsA Zf C hl K
  obtain ⟨hx, hb', -, hown, hts, hL, -, -, -⟩ := C
  exact lv_ldcw hx hb' hown (hts _ hw) (okL_at hL hf).1 (K lsA hl)
end Rules
def allN (p : Nat → Bool) : Nat → Bool
  | 0 => true
  | n + 1 => allN p n && p n
def anyN (p : Nat → Bool) : Nat → Bool
  | 0 => false
  | n + 1 => anyN p n || p n
def cntN (p : Nat → Bool) : Nat → Nat
  | 0 => 0
  | n + 1 => cntN p n + (if p n then 1 else 0)
theorem allN_iff (p : Nat → Bool) : ∀ n, allN p n = true ↔ ∀ j, j < n → p j = true
  | 0 => ⟨fun _ j hj => absurd hj (Nat.not_lt_zero j), fun _ => rfl⟩
  | n + 1 => by
    unfold allN
    rw [Bool.and_eq_true, allN_iff p n]
    constructor
    · intro ⟨h1, h2⟩ j hj
      rcases Nat.lt_succ_iff_lt_or_eq.mp hj with h | rfl
      · exact h1 j h
      · exact h2
    · intro h1
      exact ⟨fun j hj => h1 j (by omega), h1 n (by omega)⟩
theorem anyN_iff (p : Nat → Bool) : ∀ n, anyN p n = true ↔ ∃ j, j < n ∧ p j = true
  | 0 => ⟨fun h => (by cases h), fun ⟨j, hj, _⟩ => absurd hj (Nat.not_lt_zero j)⟩
  | n + 1 => by
    unfold anyN
    rw [Bool.or_eq_true, anyN_iff p n]
    constructor
    · rintro (⟨j, h1, h2⟩ | h)
      · exact ⟨j, by omega, h2⟩
      · exact ⟨n, by omega, h⟩
    · rintro ⟨j, h1, h2⟩
      rcases Nat.lt_succ_iff_lt_or_eq.mp h1 with h | rfl
      · exact Or.inl ⟨j, h, h2⟩
      · exact Or.inr h2
theorem cntN_le (p : Nat → Bool) : ∀ n, cntN p n ≤ n
  | 0 => Nat.le_refl 0
  | n + 1 => by
    have := cntN_le p n
    unfold cntN
    split <;> omega
theorem cntN_congr {p q : Nat → Bool} : ∀ {n : Nat}, (∀ j, j < n → p j = q j) → cntN p n = cntN q n
  | 0, _ => rfl
  | n + 1, h => by
    unfold cntN
    rw [cntN_congr (fun j hj => h j (by omega)), h n (by omega)]
theorem allN_congr {p q : Nat → Bool} : ∀ {n : Nat}, (∀ j, j < n → p j = q j) → allN p n = allN q n
  | 0, _ => rfl
  | n + 1, h => by
    unfold allN
    rw [allN_congr (fun j hj => h j (by omega)), h n (by omega)]
theorem anyN_congr {p q : Nat → Bool} : ∀ {n : Nat}, (∀ j, j < n → p j = q j) → anyN p n = anyN q n
  | 0, _ => rfl
  | n + 1, h => by
    unfold anyN
    rw [anyN_congr (fun j hj => h j (by omega)), h n (by omega)]
set_option maxHeartbeats 2000000 in
theorem c_floorMod (d : Nat) (h : List AC) (a : Int) (ra : -2147483648 ≤ a ∧ a < 2147483648) : MF zJ9_floorMod_7cf53 d [vi a, vi 12] h (a % 12) h := by
  refine M0.of okJ9_floorMod_7cf53 (Nat.le_of_ble_eq_true rfl) ?_
  have hm : (tmd a 12 = a % 12 ∧ (0 ≤ a ∨ tmd a 12 = 0)) ∨ (a < 0 ∧ tmd a 12 < 0 ∧ tmd a 12 + 12 = a % 12) := by
    unfold tmd; split <;> omega
  have hm0 : 0 ≤ a → tmd a 12 = a % 12 := fun w => by unfold tmd; rw [if_pos w]
  have hr : -12 < tmd a 12 ∧ tmd a 12 < 12 := by unfold tmd; split <;> omega
  refine AW.go 2 (pc' := 2) rfl ?_
  refine AW.iremT (pn := 3) rfl rfl ra (by decide) (by decide) ?_
  refine AW.go 3 (pc' := 6) rfl ?_
  refine AW.ixorS (pn := 7) rfl rfl ra ⟨by decide, by decide⟩ (by decide) ?_
  intro w rw hw
  generalize hrr : tmd a 12 = r at hm hm0 hr ⊢
  refine AW.br (tgt := 18) (pn := 10) rfl (by decide) rfl rw (fun c7 => ?_) (fun c7 => ?_)
  · dsimp only [cmpI] at c7
    refine AW.go 1 (pc' := 19) rfl ?_
    refine AW.ret rfl rfl (Nat.le_refl _) (Nat.le_refl _) ?_
    exact ⟨congrArg some (hm0 (hw.mp c7)), rfl⟩
  · dsimp only [cmpI] at c7
    refine AW.go 1 (pc' := 11) rfl ?_
    refine AW.br (tgt := 18) (pn := 14) rfl (by decide) rfl ⟨by omega, by omega⟩ (fun c11 => ?_) (fun c11 => ?_)
    · dsimp only [cmpI] at c11
      refine AW.go 1 (pc' := 19) rfl ?_
      refine AW.ret rfl rfl (Nat.le_refl _) (Nat.le_refl _) ?_
      exact ⟨congrArg some (by omega), rfl⟩
    · dsimp only [cmpI] at c11
      refine AW.go 3 (pc' := 17) rfl ?_
      refine AW.ret rfl rfl (Nat.le_refl _) (Nat.le_refl _) ?_
      exact ⟨congrArg some (by have : ¬ 0 ≤ a := fun q => c7 (hw.mpr q); omega), rfl⟩
end
section
theorem kJ6_265 : Cond.constant RJ6 265 (iI 1431655765) ∈ gtb := gtb_in 285 (by decide +kernel) (by decide +kernel)
theorem kJ6_266 : Cond.constant RJ6 266 (iI 858993459) ∈ gtb := gtb_in 286 (by decide +kernel) (by decide +kernel)
theorem kJ6_267 : Cond.constant RJ6 267 (iI 252645135) ∈ gtb := gtb_in 287 (by decide +kernel) (by decide +kernel)
theorem kJ6_264 : Cond.constant RJ6 264 (iI 65536) ∈ gtb := gtb_in 363 (by decide +kernel) (by decide +kernel)
section Rules
variable {z : ZM} {G : GG} {R : Room} {MC MS k n pc pn : Nat} {ls : List (Nat × AV)} {st : List AV} {h : List AC} {Q : Option Int → List AC → Prop}
def ushG (a b : Int) : Int := ((iI a).toUInt32 >>> ((iI b).toUInt32 &&& Int32.toUInt32 31)).toInt32.toInt
def andG (a b : Int) : Int := (iI a &&& iI b).toInt
theorem AW.iandH {a b : Int} (hf : ftch z.2.2.2.2 pc = some (.iand, 1)) (hn : pc + 1 = pn)
    (kk : AW z G R MC MS k n pn ls (vi (andG a b) :: st) h Q) : AW z G R MC MS k n pc ls (vi b :: vi a :: st) h Q := AW.iandG hf hn kk
theorem AW.iushrG {a b : Int} (hf : ftch z.2.2.2.2 pc = some (.iushr, 1)) (hn : pc + 1 = pn)
    (kk : AW z G R MC MS k n pn ls (vi (ushG a b) :: st) h Q) : AW z G R MC MS k n pc ls (vi b :: vi a :: st) h Q := by
  subst hn
  refine AW.fr ?_ kk
  intro p l e s m args below meth c ρ H locs lsA Zf C hl K
  obtain ⟨hx, hb', -, -, -, hL, -, -, -⟩ := C
  refine lv_iushr hx hb' (okL_at hL hf).1 (v := iI (ushG a b)) ?_ (K lsA hl)
  exact (iI_of _).symm
end Rules
theorem andG_rng (a b : Int) : rng (andG a b) := rng_of _
theorem ushG_rng (a b : Int) : rng (ushG a b) := rng_of _
def bcx (a : Int) : Int :=
  let b := a - andG (ushG a 1) 1431655765
  let c := andG b 858993459 + andG (ushG b 2) 858993459
  let e := andG (c + ushG c 4) 252645135
  let f := e + ushG e 8
  let g := f + ushG f 16
  andG g 63
theorem bc_64 : ∀ a : Nat, a < 64 → ∀ b : Nat, b < 64 → bcx ((64 * a + b : Nat) : Int) = ((cntN (fun i => (64 * a + b).testBit i) 12 : Nat) : Int) := by decide +kernel
theorem bc_all (m : Nat) (hm : m < 4096) : bcx (m : Int) = ((cntN (fun i => m.testBit i) 12 : Nat) : Int) := by
  have := bc_64 (m / 64) (by omega) (m % 64) (by omega)
  rwa [Nat.div_add_mod m 64] at this
set_option maxHeartbeats 2000000 in
theorem c_bitCount (d : Nat) (h : List AC) (m : Nat) (hm : m < 4096) : MF zJ6_bitCount_0f7a4 d [vi (m : Int)] h ((cntN (fun i => m.testBit i) 12 : Nat) : Int) h := by
  refine M0.of okJ6_bitCount_0f7a4 (Nat.le_of_ble_eq_true rfl) ?_
  refine AW.go 3 (pc' := 3) rfl ?_
  refine AW.iushrG (pn := 4) rfl rfl ?_
  refine AW.ldcw (pn := 7) rfl rfl kJ6_265 ?_
  refine AW.iandH (pn := 8) rfl rfl ?_
  refine AW.go 3 (pc' := 11) rfl ?_
  refine AW.ldcw (pn := 14) rfl rfl kJ6_266 ?_
  refine AW.iandH (pn := 15) rfl rfl ?_
  refine AW.go 2 (pc' := 17) rfl ?_
  refine AW.iushrG (pn := 18) rfl rfl ?_
  refine AW.ldcw (pn := 21) rfl rfl kJ6_266 ?_
  refine AW.iandH (pn := 22) rfl rfl ?_
  refine AW.go 5 (pc' := 27) rfl ?_
  refine AW.iushrG (pn := 28) rfl rfl ?_
  refine AW.go 1 (pc' := 29) rfl ?_
  refine AW.ldcw (pn := 32) rfl rfl kJ6_267 ?_
  refine AW.iandH (pn := 33) rfl rfl ?_
  refine AW.go 4 (pc' := 38) rfl ?_
  refine AW.iushrG (pn := 39) rfl rfl ?_
  refine AW.go 5 (pc' := 45) rfl ?_
  refine AW.iushrG (pn := 46) rfl rfl ?_
  refine AW.go 4 (pc' := 51) rfl ?_
  refine AW.iandH (pn := 52) rfl rfl ?_
  refine AW.ret rfl rfl (Nat.le_refl _) (Nat.le_refl _) ?_
  exact ⟨congrArg some (bc_all m hm), rfl⟩
def lz (m : Nat) : Nat := cntN (fun t => allN (fun j => m.testBit j) (t + 1)) 13
theorem lz_64 : ∀ a : Nat, a < 64 → ∀ b : Nat, b < 64 → lz (64 * a + b) ≤ 12 ∧ andG (-(-((64 * a + b : Nat) : Int) - 1) - 1) (-((64 * a + b : Nat) : Int) - 1 - 1) = 2 ^ lz (64 * a + b) - 1 ∧ (64 * a + b).testBit (lz (64 * a + b)) = false ∧ allN (fun j => (64 * a + b).testBit j) (lz (64 * a + b)) = true := by decide +kernel
theorem lz_all (m : Nat) (hm : m < 4096) : lz m ≤ 12 ∧ andG (-(-(m : Int) - 1) - 1) (-(m : Int) - 1 - 1) = 2 ^ lz m - 1 ∧ m.testBit (lz m) = false ∧ allN (fun j => m.testBit j) (lz m) = true := by
  have := lz_64 (m / 64) (by omega) (m % 64) (by omega)
  rwa [Nat.div_add_mod m 64] at this
theorem ntz_0 (d : Nat) (h : List AC) (x : Option AV) (Q : Option Int → List AC → Prop) (hq : ∀ a : Int, a = 0 → Q (some a) h) : AW zJ6_numberOfTrailingZeros_0f7a4 Eq (rmd d) 0 0 0 0 8 [(0, vi 0)] [] h Q := by
  refine AW.go 1 (pc' := 9) rfl ?_
  refine AW.br (tgt := 17) (pn := 12) rfl (by decide) rfl ⟨by decide, by decide⟩  (fun c => absurd c (by decide : ¬ ((0:Int) < 0))) (fun c => ?_)
  refine AW.go 2 (pc' := 15) rfl ?_
  refine AW.iand (pn := 16) rfl rfl (by decide) (by decide) ?_
  refine AW.ret rfl rfl (Nat.le_refl _) (Nat.le_refl _) (hq _ ?_)
  decide
theorem ntz_1 (d : Nat) (h : List AC) (x : Option AV) (Q : Option Int → List AC → Prop) (hq : ∀ a : Int, a = 1 → Q (some a) h) : AW zJ6_numberOfTrailingZeros_0f7a4 Eq (rmd d) 0 0 0 0 8 [(0, vi 1)] [] h Q := by
  refine AW.go 1 (pc' := 9) rfl ?_
  refine AW.br (tgt := 17) (pn := 12) rfl (by decide) rfl ⟨by decide, by decide⟩  (fun c => ?_) (fun c => absurd (by decide : (0:Int) < 1) c)
  refine AW.go 3 (pc' := 20) rfl ?_
  refine AW.ldcw (pn := 23) rfl rfl kJ6_264 ?_
  refine AW.bi (tgt := 34) (pn := 26) rfl (by decide) rfl ⟨by decide, by decide⟩ ⟨by decide, by decide⟩ (fun c => ?_) (fun c => absurd (by decide : 1 ≤ (65536 : Int)) c)
  refine AW.go 2 (pc' := 38) rfl ?_
  refine AW.bi (tgt := 49) (pn := 41) rfl (by decide) rfl ⟨by decide, by decide⟩ ⟨by decide, by decide⟩ (fun c => ?_) (fun c => absurd (by decide : 1 ≤ (256 : Int)) c)
  refine AW.go 2 (pc' := 52) rfl ?_
  refine AW.bi (tgt := 62) (pn := 55) rfl (by decide) rfl ⟨by decide, by decide⟩ ⟨by decide, by decide⟩ (fun c => ?_) (fun c => absurd (by decide : 1 ≤ (16 : Int)) c)
  refine AW.go 2 (pc' := 64) rfl ?_
  refine AW.bi (tgt := 74) (pn := 67) rfl (by decide) rfl ⟨by decide, by decide⟩ ⟨by decide, by decide⟩ (fun c => ?_) (fun c => absurd (by decide : 1 ≤ (4 : Int)) c)
  refine AW.go 3 (pc' := 77) rfl ?_
  refine AW.iushr (pn := 78) rfl rfl (by decide) (by decide) (by decide) (by decide) ?_
  refine AW.go 1 (pc' := 79) rfl ?_
  refine AW.ret rfl rfl (Nat.le_refl _) (Nat.le_refl _) (hq _ ?_)
  decide
theorem ntz_2 (d : Nat) (h : List AC) (x : Option AV) (Q : Option Int → List AC → Prop) (hq : ∀ a : Int, a = 2 → Q (some a) h) : AW zJ6_numberOfTrailingZeros_0f7a4 Eq (rmd d) 0 0 0 0 8 [(0, vi 3)] [] h Q := by
  refine AW.go 1 (pc' := 9) rfl ?_
  refine AW.br (tgt := 17) (pn := 12) rfl (by decide) rfl ⟨by decide, by decide⟩  (fun c => ?_) (fun c => absurd (by decide : (0:Int) < 3) c)
  refine AW.go 3 (pc' := 20) rfl ?_
  refine AW.ldcw (pn := 23) rfl rfl kJ6_264 ?_
  refine AW.bi (tgt := 34) (pn := 26) rfl (by decide) rfl ⟨by decide, by decide⟩ ⟨by decide, by decide⟩ (fun c => ?_) (fun c => absurd (by decide : 3 ≤ (65536 : Int)) c)
  refine AW.go 2 (pc' := 38) rfl ?_
  refine AW.bi (tgt := 49) (pn := 41) rfl (by decide) rfl ⟨by decide, by decide⟩ ⟨by decide, by decide⟩ (fun c => ?_) (fun c => absurd (by decide : 3 ≤ (256 : Int)) c)
  refine AW.go 2 (pc' := 52) rfl ?_
  refine AW.bi (tgt := 62) (pn := 55) rfl (by decide) rfl ⟨by decide, by decide⟩ ⟨by decide, by decide⟩ (fun c => ?_) (fun c => absurd (by decide : 3 ≤ (16 : Int)) c)
  refine AW.go 2 (pc' := 64) rfl ?_
  refine AW.bi (tgt := 74) (pn := 67) rfl (by decide) rfl ⟨by decide, by decide⟩ ⟨by decide, by decide⟩ (fun c => ?_) (fun c => absurd (by decide : 3 ≤ (4 : Int)) c)
  refine AW.go 3 (pc' := 77) rfl ?_
  refine AW.iushr (pn := 78) rfl rfl (by decide) (by decide) (by decide) (by decide) ?_
  refine AW.go 1 (pc' := 79) rfl ?_
  refine AW.ret rfl rfl (Nat.le_refl _) (Nat.le_refl _) (hq _ ?_)
  decide
theorem ntz_3 (d : Nat) (h : List AC) (x : Option AV) (Q : Option Int → List AC → Prop) (hq : ∀ a : Int, a = 3 → Q (some a) h) : AW zJ6_numberOfTrailingZeros_0f7a4 Eq (rmd d) 0 0 0 0 8 [(0, vi 7)] [] h Q := by
  refine AW.go 1 (pc' := 9) rfl ?_
  refine AW.br (tgt := 17) (pn := 12) rfl (by decide) rfl ⟨by decide, by decide⟩  (fun c => ?_) (fun c => absurd (by decide : (0:Int) < 7) c)
  refine AW.go 3 (pc' := 20) rfl ?_
  refine AW.ldcw (pn := 23) rfl rfl kJ6_264 ?_
  refine AW.bi (tgt := 34) (pn := 26) rfl (by decide) rfl ⟨by decide, by decide⟩ ⟨by decide, by decide⟩ (fun c => ?_) (fun c => absurd (by decide : 7 ≤ (65536 : Int)) c)
  refine AW.go 2 (pc' := 38) rfl ?_
  refine AW.bi (tgt := 49) (pn := 41) rfl (by decide) rfl ⟨by decide, by decide⟩ ⟨by decide, by decide⟩ (fun c => ?_) (fun c => absurd (by decide : 7 ≤ (256 : Int)) c)
  refine AW.go 2 (pc' := 52) rfl ?_
  refine AW.bi (tgt := 62) (pn := 55) rfl (by decide) rfl ⟨by decide, by decide⟩ ⟨by decide, by decide⟩ (fun c => ?_) (fun c => absurd (by decide : 7 ≤ (16 : Int)) c)
  refine AW.go 2 (pc' := 64) rfl ?_
  refine AW.bi (tgt := 74) (pn := 67) rfl (by decide) rfl ⟨by decide, by decide⟩ ⟨by decide, by decide⟩ (fun c => absurd c (by decide : ¬ (7 ≤ (4 : Int)))) (fun c => ?_)
  refine AW.go 3 (pc' := 72) rfl ?_
  refine AW.iushr (pn := 73) rfl rfl (by decide) (by decide) (by decide) (by decide) ?_
  refine AW.go 4 (pc' := 77) rfl ?_
  refine AW.iushr (pn := 78) rfl rfl (by decide) (by decide) (by decide) (by decide) ?_
  refine AW.go 1 (pc' := 79) rfl ?_
  refine AW.ret rfl rfl (Nat.le_refl _) (Nat.le_refl _) (hq _ ?_)
  decide
theorem ntz_4 (d : Nat) (h : List AC) (x : Option AV) (Q : Option Int → List AC → Prop) (hq : ∀ a : Int, a = 4 → Q (some a) h) : AW zJ6_numberOfTrailingZeros_0f7a4 Eq (rmd d) 0 0 0 0 8 [(0, vi 15)] [] h Q := by
  refine AW.go 1 (pc' := 9) rfl ?_
  refine AW.br (tgt := 17) (pn := 12) rfl (by decide) rfl ⟨by decide, by decide⟩  (fun c => ?_) (fun c => absurd (by decide : (0:Int) < 15) c)
  refine AW.go 3 (pc' := 20) rfl ?_
  refine AW.ldcw (pn := 23) rfl rfl kJ6_264 ?_
  refine AW.bi (tgt := 34) (pn := 26) rfl (by decide) rfl ⟨by decide, by decide⟩ ⟨by decide, by decide⟩ (fun c => ?_) (fun c => absurd (by decide : 15 ≤ (65536 : Int)) c)
  refine AW.go 2 (pc' := 38) rfl ?_
  refine AW.bi (tgt := 49) (pn := 41) rfl (by decide) rfl ⟨by decide, by decide⟩ ⟨by decide, by decide⟩ (fun c => ?_) (fun c => absurd (by decide : 15 ≤ (256 : Int)) c)
  refine AW.go 2 (pc' := 52) rfl ?_
  refine AW.bi (tgt := 62) (pn := 55) rfl (by decide) rfl ⟨by decide, by decide⟩ ⟨by decide, by decide⟩ (fun c => ?_) (fun c => absurd (by decide : 15 ≤ (16 : Int)) c)
  refine AW.go 2 (pc' := 64) rfl ?_
  refine AW.bi (tgt := 74) (pn := 67) rfl (by decide) rfl ⟨by decide, by decide⟩ ⟨by decide, by decide⟩ (fun c => absurd c (by decide : ¬ (15 ≤ (4 : Int)))) (fun c => ?_)
  refine AW.go 3 (pc' := 72) rfl ?_
  refine AW.iushr (pn := 73) rfl rfl (by decide) (by decide) (by decide) (by decide) ?_
  refine AW.go 4 (pc' := 77) rfl ?_
  refine AW.iushr (pn := 78) rfl rfl (by decide) (by decide) (by decide) (by decide) ?_
  refine AW.go 1 (pc' := 79) rfl ?_
  refine AW.ret rfl rfl (Nat.le_refl _) (Nat.le_refl _) (hq _ ?_)
  decide
theorem ntz_5 (d : Nat) (h : List AC) (x : Option AV) (Q : Option Int → List AC → Prop) (hq : ∀ a : Int, a = 5 → Q (some a) h) : AW zJ6_numberOfTrailingZeros_0f7a4 Eq (rmd d) 0 0 0 0 8 [(0, vi 31)] [] h Q := by
  refine AW.go 1 (pc' := 9) rfl ?_
  refine AW.br (tgt := 17) (pn := 12) rfl (by decide) rfl ⟨by decide, by decide⟩  (fun c => ?_) (fun c => absurd (by decide : (0:Int) < 31) c)
  refine AW.go 3 (pc' := 20) rfl ?_
  refine AW.ldcw (pn := 23) rfl rfl kJ6_264 ?_
  refine AW.bi (tgt := 34) (pn := 26) rfl (by decide) rfl ⟨by decide, by decide⟩ ⟨by decide, by decide⟩ (fun c => ?_) (fun c => absurd (by decide : 31 ≤ (65536 : Int)) c)
  refine AW.go 2 (pc' := 38) rfl ?_
  refine AW.bi (tgt := 49) (pn := 41) rfl (by decide) rfl ⟨by decide, by decide⟩ ⟨by decide, by decide⟩ (fun c => ?_) (fun c => absurd (by decide : 31 ≤ (256 : Int)) c)
  refine AW.go 2 (pc' := 52) rfl ?_
  refine AW.bi (tgt := 62) (pn := 55) rfl (by decide) rfl ⟨by decide, by decide⟩ ⟨by decide, by decide⟩ (fun c => absurd c (by decide : ¬ (31 ≤ (16 : Int)))) (fun c => ?_)
  refine AW.go 3 (pc' := 60) rfl ?_
  refine AW.iushr (pn := 61) rfl rfl (by decide) (by decide) (by decide) (by decide) ?_
  refine AW.go 3 (pc' := 64) rfl ?_
  refine AW.bi (tgt := 74) (pn := 67) rfl (by decide) rfl ⟨by decide, by decide⟩ ⟨by decide, by decide⟩ (fun c => ?_) (fun c => absurd (by decide : 1 ≤ (4 : Int)) c)
  refine AW.go 3 (pc' := 77) rfl ?_
  refine AW.iushr (pn := 78) rfl rfl (by decide) (by decide) (by decide) (by decide) ?_
  refine AW.go 1 (pc' := 79) rfl ?_
  refine AW.ret rfl rfl (Nat.le_refl _) (Nat.le_refl _) (hq _ ?_)
  decide
theorem ntz_6 (d : Nat) (h : List AC) (x : Option AV) (Q : Option Int → List AC → Prop) (hq : ∀ a : Int, a = 6 → Q (some a) h) : AW zJ6_numberOfTrailingZeros_0f7a4 Eq (rmd d) 0 0 0 0 8 [(0, vi 63)] [] h Q := by
  refine AW.go 1 (pc' := 9) rfl ?_
  refine AW.br (tgt := 17) (pn := 12) rfl (by decide) rfl ⟨by decide, by decide⟩  (fun c => ?_) (fun c => absurd (by decide : (0:Int) < 63) c)
  refine AW.go 3 (pc' := 20) rfl ?_
  refine AW.ldcw (pn := 23) rfl rfl kJ6_264 ?_
  refine AW.bi (tgt := 34) (pn := 26) rfl (by decide) rfl ⟨by decide, by decide⟩ ⟨by decide, by decide⟩ (fun c => ?_) (fun c => absurd (by decide : 63 ≤ (65536 : Int)) c)
  refine AW.go 2 (pc' := 38) rfl ?_
  refine AW.bi (tgt := 49) (pn := 41) rfl (by decide) rfl ⟨by decide, by decide⟩ ⟨by decide, by decide⟩ (fun c => ?_) (fun c => absurd (by decide : 63 ≤ (256 : Int)) c)
  refine AW.go 2 (pc' := 52) rfl ?_
  refine AW.bi (tgt := 62) (pn := 55) rfl (by decide) rfl ⟨by decide, by decide⟩ ⟨by decide, by decide⟩ (fun c => absurd c (by decide : ¬ (63 ≤ (16 : Int)))) (fun c => ?_)
  refine AW.go 3 (pc' := 60) rfl ?_
  refine AW.iushr (pn := 61) rfl rfl (by decide) (by decide) (by decide) (by decide) ?_
  refine AW.go 3 (pc' := 64) rfl ?_
  refine AW.bi (tgt := 74) (pn := 67) rfl (by decide) rfl ⟨by decide, by decide⟩ ⟨by decide, by decide⟩ (fun c => ?_) (fun c => absurd (by decide : 3 ≤ (4 : Int)) c)
  refine AW.go 3 (pc' := 77) rfl ?_
  refine AW.iushr (pn := 78) rfl rfl (by decide) (by decide) (by decide) (by decide) ?_
  refine AW.go 1 (pc' := 79) rfl ?_
  refine AW.ret rfl rfl (Nat.le_refl _) (Nat.le_refl _) (hq _ ?_)
  decide
theorem ntz_7 (d : Nat) (h : List AC) (x : Option AV) (Q : Option Int → List AC → Prop) (hq : ∀ a : Int, a = 7 → Q (some a) h) : AW zJ6_numberOfTrailingZeros_0f7a4 Eq (rmd d) 0 0 0 0 8 [(0, vi 127)] [] h Q := by
  refine AW.go 1 (pc' := 9) rfl ?_
  refine AW.br (tgt := 17) (pn := 12) rfl (by decide) rfl ⟨by decide, by decide⟩  (fun c => ?_) (fun c => absurd (by decide : (0:Int) < 127) c)
  refine AW.go 3 (pc' := 20) rfl ?_
  refine AW.ldcw (pn := 23) rfl rfl kJ6_264 ?_
  refine AW.bi (tgt := 34) (pn := 26) rfl (by decide) rfl ⟨by decide, by decide⟩ ⟨by decide, by decide⟩ (fun c => ?_) (fun c => absurd (by decide : 127 ≤ (65536 : Int)) c)
  refine AW.go 2 (pc' := 38) rfl ?_
  refine AW.bi (tgt := 49) (pn := 41) rfl (by decide) rfl ⟨by decide, by decide⟩ ⟨by decide, by decide⟩ (fun c => ?_) (fun c => absurd (by decide : 127 ≤ (256 : Int)) c)
  refine AW.go 2 (pc' := 52) rfl ?_
  refine AW.bi (tgt := 62) (pn := 55) rfl (by decide) rfl ⟨by decide, by decide⟩ ⟨by decide, by decide⟩ (fun c => absurd c (by decide : ¬ (127 ≤ (16 : Int)))) (fun c => ?_)
  refine AW.go 3 (pc' := 60) rfl ?_
  refine AW.iushr (pn := 61) rfl rfl (by decide) (by decide) (by decide) (by decide) ?_
  refine AW.go 3 (pc' := 64) rfl ?_
  refine AW.bi (tgt := 74) (pn := 67) rfl (by decide) rfl ⟨by decide, by decide⟩ ⟨by decide, by decide⟩ (fun c => absurd c (by decide : ¬ (7 ≤ (4 : Int)))) (fun c => ?_)
  refine AW.go 3 (pc' := 72) rfl ?_
  refine AW.iushr (pn := 73) rfl rfl (by decide) (by decide) (by decide) (by decide) ?_
  refine AW.go 4 (pc' := 77) rfl ?_
  refine AW.iushr (pn := 78) rfl rfl (by decide) (by decide) (by decide) (by decide) ?_
  refine AW.go 1 (pc' := 79) rfl ?_
  refine AW.ret rfl rfl (Nat.le_refl _) (Nat.le_refl _) (hq _ ?_)
  decide
theorem ntz_8 (d : Nat) (h : List AC) (x : Option AV) (Q : Option Int → List AC → Prop) (hq : ∀ a : Int, a = 8 → Q (some a) h) : AW zJ6_numberOfTrailingZeros_0f7a4 Eq (rmd d) 0 0 0 0 8 [(0, vi 255)] [] h Q := by
  refine AW.go 1 (pc' := 9) rfl ?_
  refine AW.br (tgt := 17) (pn := 12) rfl (by decide) rfl ⟨by decide, by decide⟩  (fun c => ?_) (fun c => absurd (by decide : (0:Int) < 255) c)
  refine AW.go 3 (pc' := 20) rfl ?_
  refine AW.ldcw (pn := 23) rfl rfl kJ6_264 ?_
  refine AW.bi (tgt := 34) (pn := 26) rfl (by decide) rfl ⟨by decide, by decide⟩ ⟨by decide, by decide⟩ (fun c => ?_) (fun c => absurd (by decide : 255 ≤ (65536 : Int)) c)
  refine AW.go 2 (pc' := 38) rfl ?_
  refine AW.bi (tgt := 49) (pn := 41) rfl (by decide) rfl ⟨by decide, by decide⟩ ⟨by decide, by decide⟩ (fun c => ?_) (fun c => absurd (by decide : 255 ≤ (256 : Int)) c)
  refine AW.go 2 (pc' := 52) rfl ?_
  refine AW.bi (tgt := 62) (pn := 55) rfl (by decide) rfl ⟨by decide, by decide⟩ ⟨by decide, by decide⟩ (fun c => absurd c (by decide : ¬ (255 ≤ (16 : Int)))) (fun c => ?_)
  refine AW.go 3 (pc' := 60) rfl ?_
  refine AW.iushr (pn := 61) rfl rfl (by decide) (by decide) (by decide) (by decide) ?_
  refine AW.go 3 (pc' := 64) rfl ?_
  refine AW.bi (tgt := 74) (pn := 67) rfl (by decide) rfl ⟨by decide, by decide⟩ ⟨by decide, by decide⟩ (fun c => absurd c (by decide : ¬ (15 ≤ (4 : Int)))) (fun c => ?_)
  refine AW.go 3 (pc' := 72) rfl ?_
  refine AW.iushr (pn := 73) rfl rfl (by decide) (by decide) (by decide) (by decide) ?_
  refine AW.go 4 (pc' := 77) rfl ?_
  refine AW.iushr (pn := 78) rfl rfl (by decide) (by decide) (by decide) (by decide) ?_
  refine AW.go 1 (pc' := 79) rfl ?_
  refine AW.ret rfl rfl (Nat.le_refl _) (Nat.le_refl _) (hq _ ?_)
  decide
theorem ntz_9 (d : Nat) (h : List AC) (x : Option AV) (Q : Option Int → List AC → Prop) (hq : ∀ a : Int, a = 9 → Q (some a) h) : AW zJ6_numberOfTrailingZeros_0f7a4 Eq (rmd d) 0 0 0 0 8 [(0, vi 511)] [] h Q := by
  refine AW.go 1 (pc' := 9) rfl ?_
  refine AW.br (tgt := 17) (pn := 12) rfl (by decide) rfl ⟨by decide, by decide⟩  (fun c => ?_) (fun c => absurd (by decide : (0:Int) < 511) c)
  refine AW.go 3 (pc' := 20) rfl ?_
  refine AW.ldcw (pn := 23) rfl rfl kJ6_264 ?_
  refine AW.bi (tgt := 34) (pn := 26) rfl (by decide) rfl ⟨by decide, by decide⟩ ⟨by decide, by decide⟩ (fun c => ?_) (fun c => absurd (by decide : 511 ≤ (65536 : Int)) c)
  refine AW.go 2 (pc' := 38) rfl ?_
  refine AW.bi (tgt := 49) (pn := 41) rfl (by decide) rfl ⟨by decide, by decide⟩ ⟨by decide, by decide⟩ (fun c => absurd c (by decide : ¬ (511 ≤ (256 : Int)))) (fun c => ?_)
  refine AW.go 3 (pc' := 47) rfl ?_
  refine AW.iushr (pn := 48) rfl rfl (by decide) (by decide) (by decide) (by decide) ?_
  refine AW.go 3 (pc' := 52) rfl ?_
  refine AW.bi (tgt := 62) (pn := 55) rfl (by decide) rfl ⟨by decide, by decide⟩ ⟨by decide, by decide⟩ (fun c => ?_) (fun c => absurd (by decide : 1 ≤ (16 : Int)) c)
  refine AW.go 2 (pc' := 64) rfl ?_
  refine AW.bi (tgt := 74) (pn := 67) rfl (by decide) rfl ⟨by decide, by decide⟩ ⟨by decide, by decide⟩ (fun c => ?_) (fun c => absurd (by decide : 1 ≤ (4 : Int)) c)
  refine AW.go 3 (pc' := 77) rfl ?_
  refine AW.iushr (pn := 78) rfl rfl (by decide) (by decide) (by decide) (by decide) ?_
  refine AW.go 1 (pc' := 79) rfl ?_
  refine AW.ret rfl rfl (Nat.le_refl _) (Nat.le_refl _) (hq _ ?_)
  decide
theorem ntz_10 (d : Nat) (h : List AC) (x : Option AV) (Q : Option Int → List AC → Prop) (hq : ∀ a : Int, a = 10 → Q (some a) h) : AW zJ6_numberOfTrailingZeros_0f7a4 Eq (rmd d) 0 0 0 0 8 [(0, vi 1023)] [] h Q := by
  refine AW.go 1 (pc' := 9) rfl ?_
  refine AW.br (tgt := 17) (pn := 12) rfl (by decide) rfl ⟨by decide, by decide⟩  (fun c => ?_) (fun c => absurd (by decide : (0:Int) < 1023) c)
  refine AW.go 3 (pc' := 20) rfl ?_
  refine AW.ldcw (pn := 23) rfl rfl kJ6_264 ?_
  refine AW.bi (tgt := 34) (pn := 26) rfl (by decide) rfl ⟨by decide, by decide⟩ ⟨by decide, by decide⟩ (fun c => ?_) (fun c => absurd (by decide : 1023 ≤ (65536 : Int)) c)
  refine AW.go 2 (pc' := 38) rfl ?_
  refine AW.bi (tgt := 49) (pn := 41) rfl (by decide) rfl ⟨by decide, by decide⟩ ⟨by decide, by decide⟩ (fun c => absurd c (by decide : ¬ (1023 ≤ (256 : Int)))) (fun c => ?_)
  refine AW.go 3 (pc' := 47) rfl ?_
  refine AW.iushr (pn := 48) rfl rfl (by decide) (by decide) (by decide) (by decide) ?_
  refine AW.go 3 (pc' := 52) rfl ?_
  refine AW.bi (tgt := 62) (pn := 55) rfl (by decide) rfl ⟨by decide, by decide⟩ ⟨by decide, by decide⟩ (fun c => ?_) (fun c => absurd (by decide : 3 ≤ (16 : Int)) c)
  refine AW.go 2 (pc' := 64) rfl ?_
  refine AW.bi (tgt := 74) (pn := 67) rfl (by decide) rfl ⟨by decide, by decide⟩ ⟨by decide, by decide⟩ (fun c => ?_) (fun c => absurd (by decide : 3 ≤ (4 : Int)) c)
  refine AW.go 3 (pc' := 77) rfl ?_
  refine AW.iushr (pn := 78) rfl rfl (by decide) (by decide) (by decide) (by decide) ?_
  refine AW.go 1 (pc' := 79) rfl ?_
  refine AW.ret rfl rfl (Nat.le_refl _) (Nat.le_refl _) (hq _ ?_)
  decide
theorem ntz_11 (d : Nat) (h : List AC) (x : Option AV) (Q : Option Int → List AC → Prop) (hq : ∀ a : Int, a = 11 → Q (some a) h) : AW zJ6_numberOfTrailingZeros_0f7a4 Eq (rmd d) 0 0 0 0 8 [(0, vi 2047)] [] h Q := by
  refine AW.go 1 (pc' := 9) rfl ?_
  refine AW.br (tgt := 17) (pn := 12) rfl (by decide) rfl ⟨by decide, by decide⟩  (fun c => ?_) (fun c => absurd (by decide : (0:Int) < 2047) c)
  refine AW.go 3 (pc' := 20) rfl ?_
  refine AW.ldcw (pn := 23) rfl rfl kJ6_264 ?_
  refine AW.bi (tgt := 34) (pn := 26) rfl (by decide) rfl ⟨by decide, by decide⟩ ⟨by decide, by decide⟩ (fun c => ?_) (fun c => absurd (by decide : 2047 ≤ (65536 : Int)) c)
  refine AW.go 2 (pc' := 38) rfl ?_
  refine AW.bi (tgt := 49) (pn := 41) rfl (by decide) rfl ⟨by decide, by decide⟩ ⟨by decide, by decide⟩ (fun c => absurd c (by decide : ¬ (2047 ≤ (256 : Int)))) (fun c => ?_)
  refine AW.go 3 (pc' := 47) rfl ?_
  refine AW.iushr (pn := 48) rfl rfl (by decide) (by decide) (by decide) (by decide) ?_
  refine AW.go 3 (pc' := 52) rfl ?_
  refine AW.bi (tgt := 62) (pn := 55) rfl (by decide) rfl ⟨by decide, by decide⟩ ⟨by decide, by decide⟩ (fun c => ?_) (fun c => absurd (by decide : 7 ≤ (16 : Int)) c)
  refine AW.go 2 (pc' := 64) rfl ?_
  refine AW.bi (tgt := 74) (pn := 67) rfl (by decide) rfl ⟨by decide, by decide⟩ ⟨by decide, by decide⟩ (fun c => absurd c (by decide : ¬ (7 ≤ (4 : Int)))) (fun c => ?_)
  refine AW.go 3 (pc' := 72) rfl ?_
  refine AW.iushr (pn := 73) rfl rfl (by decide) (by decide) (by decide) (by decide) ?_
  refine AW.go 4 (pc' := 77) rfl ?_
  refine AW.iushr (pn := 78) rfl rfl (by decide) (by decide) (by decide) (by decide) ?_
  refine AW.go 1 (pc' := 79) rfl ?_
  refine AW.ret rfl rfl (Nat.le_refl _) (Nat.le_refl _) (hq _ ?_)
  decide
theorem ntz_12 (d : Nat) (h : List AC) (x : Option AV) (Q : Option Int → List AC → Prop) (hq : ∀ a : Int, a = 12 → Q (some a) h) : AW zJ6_numberOfTrailingZeros_0f7a4 Eq (rmd d) 0 0 0 0 8 [(0, vi 4095)] [] h Q := by
  refine AW.go 1 (pc' := 9) rfl ?_
  refine AW.br (tgt := 17) (pn := 12) rfl (by decide) rfl ⟨by decide, by decide⟩  (fun c => ?_) (fun c => absurd (by decide : (0:Int) < 4095) c)
  refine AW.go 3 (pc' := 20) rfl ?_
  refine AW.ldcw (pn := 23) rfl rfl kJ6_264 ?_
  refine AW.bi (tgt := 34) (pn := 26) rfl (by decide) rfl ⟨by decide, by decide⟩ ⟨by decide, by decide⟩ (fun c => ?_) (fun c => absurd (by decide : 4095 ≤ (65536 : Int)) c)
  refine AW.go 2 (pc' := 38) rfl ?_
  refine AW.bi (tgt := 49) (pn := 41) rfl (by decide) rfl ⟨by decide, by decide⟩ ⟨by decide, by decide⟩ (fun c => absurd c (by decide : ¬ (4095 ≤ (256 : Int)))) (fun c => ?_)
  refine AW.go 3 (pc' := 47) rfl ?_
  refine AW.iushr (pn := 48) rfl rfl (by decide) (by decide) (by decide) (by decide) ?_
  refine AW.go 3 (pc' := 52) rfl ?_
  refine AW.bi (tgt := 62) (pn := 55) rfl (by decide) rfl ⟨by decide, by decide⟩ ⟨by decide, by decide⟩ (fun c => ?_) (fun c => absurd (by decide : 15 ≤ (16 : Int)) c)
  refine AW.go 2 (pc' := 64) rfl ?_
  refine AW.bi (tgt := 74) (pn := 67) rfl (by decide) rfl ⟨by decide, by decide⟩ ⟨by decide, by decide⟩ (fun c => absurd c (by decide : ¬ (15 ≤ (4 : Int)))) (fun c => ?_)
  refine AW.go 3 (pc' := 72) rfl ?_
  refine AW.iushr (pn := 73) rfl rfl (by decide) (by decide) (by decide) (by decide) ?_
  refine AW.go 4 (pc' := 77) rfl ?_
  refine AW.iushr (pn := 78) rfl rfl (by decide) (by decide) (by decide) (by decide) ?_
  refine AW.go 1 (pc' := 79) rfl ?_
  refine AW.ret rfl rfl (Nat.le_refl _) (Nat.le_refl _) (hq _ ?_)
  decide
set_option maxHeartbeats 2000000 in
theorem c_ntz (d : Nat) (h : List AC) (m : Nat) (hm : m < 4096) : MF zJ6_numberOfTrailingZeros_0f7a4 d [vi (-(m : Int) - 1)] h (lz m : Int) h := by
  refine M0.of okJ6_numberOfTrailingZeros_0f7a4 (Nat.le_of_ble_eq_true rfl) ?_
  obtain ⟨g1, g2, -, -⟩ := lz_all m hm
  refine AW.go 2 (pc' := 2) rfl ?_
  refine AW.inot (pn := 3) rfl rfl ?_
  refine AW.go 3 (pc' := 6) rfl ?_
  refine AW.iandH (pn := 7) rfl rfl ?_
  rw [g2]
  refine AW.go 1 (pc' := 8) rfl ?_
  generalize lz m = t at g1 ⊢
  have hq : ∀ a : Int, a = (t : Int) → (fun v u => v = some (t : Int) ∧ u = h) (some a) h := fun a ha => ⟨congrArg some ha, rfl⟩
  by_cases e0 : t = 0
  · subst e0
    refine AW.lw ?_ (ntz_0 d h none _ hq)
    exact And.intro rfl trivial
  by_cases e1 : t = 1
  · subst e1
    refine AW.lw ?_ (ntz_1 d h none _ hq)
    exact And.intro rfl trivial
  by_cases e2 : t = 2
  · subst e2
    refine AW.lw ?_ (ntz_2 d h none _ hq)
    exact And.intro rfl trivial
  by_cases e3 : t = 3
  · subst e3
    refine AW.lw ?_ (ntz_3 d h none _ hq)
    exact And.intro rfl trivial
  by_cases e4 : t = 4
  · subst e4
    refine AW.lw ?_ (ntz_4 d h none _ hq)
    exact And.intro rfl trivial
  by_cases e5 : t = 5
  · subst e5
    refine AW.lw ?_ (ntz_5 d h none _ hq)
    exact And.intro rfl trivial
  by_cases e6 : t = 6
  · subst e6
    refine AW.lw ?_ (ntz_6 d h none _ hq)
    exact And.intro rfl trivial
  by_cases e7 : t = 7
  · subst e7
    refine AW.lw ?_ (ntz_7 d h none _ hq)
    exact And.intro rfl trivial
  by_cases e8 : t = 8
  · subst e8
    refine AW.lw ?_ (ntz_8 d h none _ hq)
    exact And.intro rfl trivial
  by_cases e9 : t = 9
  · subst e9
    refine AW.lw ?_ (ntz_9 d h none _ hq)
    exact And.intro rfl trivial
  by_cases e10 : t = 10
  · subst e10
    refine AW.lw ?_ (ntz_10 d h none _ hq)
    exact And.intro rfl trivial
  by_cases e11 : t = 11
  · subst e11
    refine AW.lw ?_ (ntz_11 d h none _ hq)
    exact And.intro rfl trivial
  by_cases e12 : t = 12
  · subst e12
    refine AW.lw ?_ (ntz_12 d h none _ hq)
    exact And.intro rfl trivial
  omega
end
section
section Rules
variable {z : ZM} {G : GG} {R : Room} {MC MS k n pc pn : Nat} {ls : List (Nat × AV)} {st : List AV} {h : List AC} {Q : Option Int → List AC → Prop}
theorem AW.shl1 {t : Int} (hf : ftch z.2.2.2.2 pc = some (.ishl, 1)) (hn : pc + 1 = pn) (h1 : 0 ≤ t) (h2 : t < 31)
    (kk : AW z G R MC MS k n pn ls (vi ((2 ^ t.toNat : Nat) : Int) :: st) h Q) : AW z G R MC MS k n pc ls (vi t :: vi 1 :: st) h Q := by
  refine AW.ishl hf hn (by decide) h1 (by omega) ?_
  have e : (1 : Int) * 2 ^ t.toNat = ((2 ^ t.toNat : Nat) : Int) := by rw [Int.one_mul]; push_cast; rfl
  rw [e]; exact kk
theorem AW.orN {x y : Nat} (hf : ftch z.2.2.2.2 pc = some (.ior, 1)) (hn : pc + 1 = pn)
    (kk : AW z G R MC MS k n pn ls (vi ((x ||| y : Nat) : Int) :: st) h Q) : AW z G R MC MS k n pc ls (vi (y : Int) :: vi (x : Int) :: st) h Q := by
  refine AW.ior hf hn (by omega) (by omega) ?_
  rw [Int.toNat_natCast, Int.toNat_natCast]; exact kk
theorem AW.andN {x y : Nat} (hf : ftch z.2.2.2.2 pc = some (.iand, 1)) (hn : pc + 1 = pn)
    (kk : AW z G R MC MS k n pn ls (vi ((x &&& y : Nat) : Int) :: st) h Q) : AW z G R MC MS k n pc ls (vi (y : Int) :: vi (x : Int) :: st) h Q := by
  refine AW.iand hf hn (by omega) (by omega) ?_
  rw [Int.toNat_natCast, Int.toNat_natCast]; exact kk
end Rules
def mv (F t : Int) : Int := if F / 12 % 2 = 1 then (F - t) % 12 else (F + t) % 12
def px (F n p : Int) : Int := if 24 ≤ F then n - 1 - p else p
def ft (f : Nat → Int) (n F p : Int) : Int := mv F (f (px F n p).toNat)
theorem mv_b (F t : Int) : 0 ≤ mv F t ∧ mv F t < 12 := by
  unfold mv; split <;> omega
theorem ft_b (f : Nat → Int) (n F p : Int) : 0 ≤ ft f n F p ∧ ft f n F p < 12 := mv_b _ _
theorem and1 {a : Int} (h : 0 ≤ a) : ((a.toNat &&& (1 : Int).toNat : Nat) : Int) = a % 2 := by
  rw [show (1 : Int).toNat = 1 from rfl, Nat.and_one_is_mod]
  omega
theorem and2 {a : Int} (h : 0 ≤ a) (h2 : a < 4) : ((a.toNat &&& (2 : Int).toNat : Nat) : Int) = if 2 ≤ a then 2 else 0 := by
  have key : ∀ x : Nat, x < 4 → ((((x : Int)).toNat &&& (2 : Int).toNat : Nat) : Int) = if 2 ≤ (x : Int) then 2 else 0 := by decide
  have := key a.toNat (by omega)
  rwa [Int.toNat_of_nonneg h] at this
abbrev RQ (x : Int) (h : List AC) : Option Int → List AC → Prop := fun v u => v = some x ∧ u = h
def tn (f : Nat → Int) : Prop := ∀ j : Nat, j < 12 → 0 ≤ f j ∧ f j < 12

set_option maxHeartbeats 2000000 in
theorem c_X3_isRow (d : Nat) (hd : 0 ≤ d) (h : List AC) (a : Int) (ra : -2147483648 ≤ a ∧ a < 2147483648) : MF zX3_isRow d [vi a] h (bI (0 ≤ a ∧ a < 4)) h := by
  refine M0.of okX3_isRow (Nat.le_of_ble_eq_true rfl) ?_
  refine AW.go 1 (pc' := 1) rfl ?_
  refine AW.br (tgt := 13) (pn := 4) rfl (by decide) rfl (by first | exact bI_rng _ | exact ⟨by omega, by omega⟩) (fun c1 => ?_) (fun c1 => ?_)
  · dsimp only [cmpI] at c1
    refine AW.go 1 (pc' := 14) rfl ?_
    refine AW.retz rfl rfl (by first | exact bI_01 _ | decide) (Nat.le_refl _) (Nat.le_refl _) ?_
    refine ⟨congrArg some ?_, rfl⟩
    first | rfl | (symm; first | exact bI_t (by omega) | exact bI_f (by omega)) | omega
  · dsimp only [cmpI] at c1
    refine AW.go 2 (pc' := 6) rfl ?_
    refine AW.bi (tgt := 13) (pn := 9) rfl (by decide) rfl (by first | exact bI_rng _ | exact ⟨by omega, by omega⟩) (by first | exact bI_rng _ | exact ⟨by omega, by omega⟩) (fun c6 => ?_) (fun c6 => ?_)
    · dsimp only [cmpI] at c6
      refine AW.go 1 (pc' := 14) rfl ?_
      refine AW.retz rfl rfl (by first | exact bI_01 _ | decide) (Nat.le_refl _) (Nat.le_refl _) ?_
      refine ⟨congrArg some ?_, rfl⟩
      first | rfl | (symm; first | exact bI_t (by omega) | exact bI_f (by omega)) | omega
    · dsimp only [cmpI] at c6
      refine AW.go 2 (pc' := 14) rfl ?_
      refine AW.retz rfl rfl (by first | exact bI_01 _ | decide) (Nat.le_refl _) (Nat.le_refl _) ?_
      refine ⟨congrArg some ?_, rfl⟩
      first | rfl | (symm; first | exact bI_t (by omega) | exact bI_f (by omega)) | omega
set_option maxHeartbeats 2000000 in
theorem c_X3_isForm (d : Nat) (hd : 0 ≤ d) (h : List AC) (a : Int) (ra : -2147483648 ≤ a ∧ a < 2147483648) : MF zX3_isForm d [vi a] h (bI (0 ≤ a ∧ a < 48)) h := by
  refine M0.of okX3_isForm (Nat.le_of_ble_eq_true rfl) ?_
  refine AW.go 1 (pc' := 1) rfl ?_
  refine AW.br (tgt := 14) (pn := 4) rfl (by decide) rfl (by first | exact bI_rng _ | exact ⟨by omega, by omega⟩) (fun c1 => ?_) (fun c1 => ?_)
  · dsimp only [cmpI] at c1
    refine AW.go 1 (pc' := 15) rfl ?_
    refine AW.retz rfl rfl (by first | exact bI_01 _ | decide) (Nat.le_refl _) (Nat.le_refl _) ?_
    refine ⟨congrArg some ?_, rfl⟩
    first | rfl | (symm; first | exact bI_t (by omega) | exact bI_f (by omega)) | omega
  · dsimp only [cmpI] at c1
    refine AW.go 2 (pc' := 7) rfl ?_
    refine AW.bi (tgt := 14) (pn := 10) rfl (by decide) rfl (by first | exact bI_rng _ | exact ⟨by omega, by omega⟩) (by first | exact bI_rng _ | exact ⟨by omega, by omega⟩) (fun c7 => ?_) (fun c7 => ?_)
    · dsimp only [cmpI] at c7
      refine AW.go 1 (pc' := 15) rfl ?_
      refine AW.retz rfl rfl (by first | exact bI_01 _ | decide) (Nat.le_refl _) (Nat.le_refl _) ?_
      refine ⟨congrArg some ?_, rfl⟩
      first | rfl | (symm; first | exact bI_t (by omega) | exact bI_f (by omega)) | omega
    · dsimp only [cmpI] at c7
      refine AW.go 2 (pc' := 15) rfl ?_
      refine AW.retz rfl rfl (by first | exact bI_01 _ | decide) (Nat.le_refl _) (Nat.le_refl _) ?_
      refine ⟨congrArg some ?_, rfl⟩
      first | rfl | (symm; first | exact bI_t (by omega) | exact bI_f (by omega)) | omega
set_option maxHeartbeats 2000000 in
theorem c_X3_isPlace (d : Nat) (hd : 0 ≤ d) (h : List AC) (a : Int) (ra : -2147483648 ≤ a ∧ a < 2147483648) : MF zX3_isPlace d [vi a] h (bI (0 ≤ a ∧ a < 12)) h := by
  refine M0.of okX3_isPlace (Nat.le_of_ble_eq_true rfl) ?_
  refine AW.go 1 (pc' := 1) rfl ?_
  refine AW.br (tgt := 14) (pn := 4) rfl (by decide) rfl (by first | exact bI_rng _ | exact ⟨by omega, by omega⟩) (fun c1 => ?_) (fun c1 => ?_)
  · dsimp only [cmpI] at c1
    refine AW.go 1 (pc' := 15) rfl ?_
    refine AW.retz rfl rfl (by first | exact bI_01 _ | decide) (Nat.le_refl _) (Nat.le_refl _) ?_
    refine ⟨congrArg some ?_, rfl⟩
    first | rfl | (symm; first | exact bI_t (by omega) | exact bI_f (by omega)) | omega
  · dsimp only [cmpI] at c1
    refine AW.go 2 (pc' := 7) rfl ?_
    refine AW.bi (tgt := 14) (pn := 10) rfl (by decide) rfl (by first | exact bI_rng _ | exact ⟨by omega, by omega⟩) (by first | exact bI_rng _ | exact ⟨by omega, by omega⟩) (fun c7 => ?_) (fun c7 => ?_)
    · dsimp only [cmpI] at c7
      refine AW.go 1 (pc' := 15) rfl ?_
      refine AW.retz rfl rfl (by first | exact bI_01 _ | decide) (Nat.le_refl _) (Nat.le_refl _) ?_
      refine ⟨congrArg some ?_, rfl⟩
      first | rfl | (symm; first | exact bI_t (by omega) | exact bI_f (by omega)) | omega
    · dsimp only [cmpI] at c7
      refine AW.go 2 (pc' := 15) rfl ?_
      refine AW.retz rfl rfl (by first | exact bI_01 _ | decide) (Nat.le_refl _) (Nat.le_refl _) ?_
      refine ⟨congrArg some ?_, rfl⟩
      first | rfl | (symm; first | exact bI_t (by omega) | exact bI_f (by omega)) | omega
set_option maxHeartbeats 2000000 in
theorem c_X3_isImage (d : Nat) (hd : 0 ≤ d) (h : List AC) (a : Int) (ra : -2147483648 ≤ a ∧ a < 2147483648) : MF zX3_isImage d [vi a] h (bI (0 ≤ a ∧ a < 2)) h := by
  refine M0.of okX3_isImage (Nat.le_of_ble_eq_true rfl) ?_
  refine AW.go 1 (pc' := 1) rfl ?_
  refine AW.br (tgt := 13) (pn := 4) rfl (by decide) rfl (by first | exact bI_rng _ | exact ⟨by omega, by omega⟩) (fun c1 => ?_) (fun c1 => ?_)
  · dsimp only [cmpI] at c1
    refine AW.go 1 (pc' := 14) rfl ?_
    refine AW.retz rfl rfl (by first | exact bI_01 _ | decide) (Nat.le_refl _) (Nat.le_refl _) ?_
    refine ⟨congrArg some ?_, rfl⟩
    first | rfl | (symm; first | exact bI_t (by omega) | exact bI_f (by omega)) | omega
  · dsimp only [cmpI] at c1
    refine AW.go 2 (pc' := 6) rfl ?_
    refine AW.bi (tgt := 13) (pn := 9) rfl (by decide) rfl (by first | exact bI_rng _ | exact ⟨by omega, by omega⟩) (by first | exact bI_rng _ | exact ⟨by omega, by omega⟩) (fun c6 => ?_) (fun c6 => ?_)
    · dsimp only [cmpI] at c6
      refine AW.go 1 (pc' := 14) rfl ?_
      refine AW.retz rfl rfl (by first | exact bI_01 _ | decide) (Nat.le_refl _) (Nat.le_refl _) ?_
      refine ⟨congrArg some ?_, rfl⟩
      first | rfl | (symm; first | exact bI_t (by omega) | exact bI_f (by omega)) | omega
    · dsimp only [cmpI] at c6
      refine AW.go 2 (pc' := 14) rfl ?_
      refine AW.retz rfl rfl (by first | exact bI_01 _ | decide) (Nat.le_refl _) (Nat.le_refl _) ?_
      refine ⟨congrArg some ?_, rfl⟩
      first | rfl | (symm; first | exact bI_t (by omega) | exact bI_f (by omega)) | omega
set_option maxHeartbeats 2000000 in
theorem c_X3_isMirrored (d : Nat) (hd : 0 ≤ d) (h : List AC) (F : Int) (rF : 0 ≤ F ∧ F < 48) : MF zX3_isMirrored d [vi F] h (bI (F / 12 % 2 = 1)) h := by
  refine M0.of okX3_isMirrored (Nat.le_of_ble_eq_true rfl) ?_
  refine AW.go 2 (pc' := 3) rfl ?_
  refine AW.idiv (pn := 4) rfl rfl (by omega) (by omega) (by omega) (by omega) ?_
  refine AW.go 1 (pc' := 5) rfl ?_
  refine AW.iand (pn := 6) rfl rfl (by omega) (by omega) ?_
  rw [and1 (by omega)]
  refine AW.br (tgt := 13) (pn := 9) rfl (by decide) rfl (by first | exact bI_rng _ | exact ⟨by omega, by omega⟩) (fun c6 => ?_) (fun c6 => ?_)
  · dsimp only [cmpI] at c6
    refine AW.go 1 (pc' := 14) rfl ?_
    refine AW.retz rfl rfl (by first | exact bI_01 _ | decide) (Nat.le_refl _) (Nat.le_refl _) ?_
    refine ⟨congrArg some ?_, rfl⟩
    first | rfl | (symm; first | exact bI_t (by omega) | exact bI_f (by omega)) | omega
  · dsimp only [cmpI] at c6
    refine AW.go 2 (pc' := 14) rfl ?_
    refine AW.retz rfl rfl (by first | exact bI_01 _ | decide) (Nat.le_refl _) (Nat.le_refl _) ?_
    refine ⟨congrArg some ?_, rfl⟩
    first | rfl | (symm; first | exact bI_t (by omega) | exact bI_f (by omega)) | omega
set_option maxHeartbeats 2000000 in
theorem c_X3_isBackwards (d : Nat) (hd : 0 ≤ d) (h : List AC) (F : Int) (rF : 0 ≤ F ∧ F < 48) : MF zX3_isBackwards d [vi F] h (bI (24 ≤ F)) h := by
  refine M0.of okX3_isBackwards (Nat.le_of_ble_eq_true rfl) ?_
  refine AW.go 2 (pc' := 3) rfl ?_
  refine AW.idiv (pn := 4) rfl rfl (by omega) (by omega) (by omega) (by omega) ?_
  refine AW.go 1 (pc' := 5) rfl ?_
  refine AW.iand (pn := 6) rfl rfl (by omega) (by omega) ?_
  rw [and2 (by omega) (by omega)]
  have hgg : -5 < (if 2 ≤ F / 12 then (2 : Int) else 0) ∧ (if 2 ≤ F / 12 then (2 : Int) else 0) < 5 := by split <;> omega
  refine AW.br (tgt := 13) (pn := 9) rfl (by decide) rfl (by first | exact bI_rng _ | exact ⟨by omega, by omega⟩) (fun c6 => ?_) (fun c6 => ?_)
  · dsimp only [cmpI] at c6
    refine AW.go 1 (pc' := 14) rfl ?_
    refine AW.retz rfl rfl (by first | exact bI_01 _ | decide) (Nat.le_refl _) (Nat.le_refl _) ?_
    split at c6 <;> (refine ⟨congrArg some ?_, rfl⟩; first | omega | (symm; first | exact bI_t (by omega) | exact bI_f (by omega)))
  · dsimp only [cmpI] at c6
    refine AW.go 2 (pc' := 14) rfl ?_
    refine AW.retz rfl rfl (by first | exact bI_01 _ | decide) (Nat.le_refl _) (Nat.le_refl _) ?_
    split at c6 <;> (refine ⟨congrArg some ?_, rfl⟩; first | omega | (symm; first | exact bI_t (by omega) | exact bI_f (by omega)))
set_option maxHeartbeats 2000000 in
theorem c_X3_wrapped (d : Nat) (hd : 1 ≤ d) (h : List AC) (a : Int) (ra : -2147483648 ≤ a ∧ a < 2147483648) : MF zX3_wrapped d [vi a] h (a % 12) h := by
  refine M0.of okX3_wrapped (Nat.le_of_ble_eq_true rfl) ?_
  refine AW.go 2 (pc' := 3) rfl ?_
  refine AW.callSF (pn := 6) rfl rfl mlX3_186 (c_floorMod (d - 1) _ _ (by omega)) rfl rfl (Nat.le_of_ble_eq_true rfl) ⟨by show d - 1 + 1 ≤ d; omega, by show 40 * (d - 1 + 1) ≤ 40 * d; omega⟩ ⟨Nat.zero_le _, Nat.zero_le _⟩ ?_
  refine AW.ret rfl rfl (Nat.le_refl _) (Nat.le_refl _) ?_
  exact ⟨rfl, rfl⟩
set_option maxHeartbeats 2000000 in
theorem c_X3_turnedTone (d : Nat) (hd : 2 ≤ d) (h : List AC) (t F : Int) (rt : 0 ≤ t ∧ t < 12) (rF : 0 ≤ F ∧ F < 48) : MF zX3_turnedTone d [vi t, vi F] h (mv F t) h := by
  refine M0.of okX3_turnedTone (Nat.le_of_ble_eq_true rfl) ?_
  refine AW.go 1 (pc' := 1) rfl ?_
  refine AW.callSF (pn := 4) rfl rfl mlX3_99 (c_X3_isMirrored (d - 1) (by omega) _ _ (by omega)) rfl rfl (Nat.le_of_ble_eq_true rfl) ⟨by show d - 1 + 1 ≤ d; omega, by show 40 * (d - 1 + 1) ≤ 40 * d; omega⟩ ⟨Nat.zero_le _, Nat.zero_le _⟩ ?_
  refine AW.bz (tgt := 13) (pn := 7) rfl (by decide) rfl (fun c4 => ?_) (fun c4 => ?_)
  · refine AW.go 3 (pc' := 16) rfl ?_
    refine AW.callSF (pn := 19) rfl rfl mlX3_102 (c_X3_wrapped (d - 1) (by omega) _ _ (by omega)) rfl rfl (Nat.le_of_ble_eq_true rfl) ⟨by show d - 1 + 1 ≤ d; omega, by show 40 * (d - 1 + 1) ≤ 40 * d; omega⟩ ⟨Nat.zero_le _, Nat.zero_le _⟩ ?_
    refine AW.ret rfl rfl (Nat.le_refl _) (Nat.le_refl _) ?_
    refine ⟨congrArg some ?_, rfl⟩
    unfold mv
    first | rw [if_pos (by assumption)] | rw [if_neg (by assumption)]
  · refine AW.go 4 (pc' := 16) rfl ?_
    refine AW.callSF (pn := 19) rfl rfl mlX3_102 (c_X3_wrapped (d - 1) (by omega) _ _ (by omega)) rfl rfl (Nat.le_of_ble_eq_true rfl) ⟨by show d - 1 + 1 ≤ d; omega, by show 40 * (d - 1 + 1) ≤ 40 * d; omega⟩ ⟨Nat.zero_le _, Nat.zero_le _⟩ ?_
    refine AW.ret rfl rfl (Nat.le_refl _) (Nat.le_refl _) ?_
    refine ⟨congrArg some ?_, rfl⟩
    unfold mv
    first | rw [if_pos (by assumption)] | rw [if_neg (by assumption)]
set_option maxHeartbeats 2000000 in
theorem c_X3_formTone (d : Nat) (hd : 3 ≤ d) (h : List AC) (A : Nat) (f : Nat → Int) (hA : h[A]? = some (ai 0 12 f)) (hf : tn f) (N F p : Int) (rN : N ≤ 12) (rF : 0 ≤ F ∧ F < 48) (rp : 0 ≤ p ∧ p < N) : MF zX3_formTone d [vr A, vi N, vi F, vi p] h (ft f N F p) h := by
  refine M0.of okX3_formTone (Nat.le_of_ble_eq_true rfl) ?_
  refine AW.go 2 (pc' := 2) rfl ?_
  refine AW.callSF (pn := 5) rfl rfl mlX3_150 (c_X3_isBackwards (d - 1) (by omega) _ _ (by omega)) rfl rfl (Nat.le_of_ble_eq_true rfl) ⟨by show d - 1 + 1 ≤ d; omega, by show 40 * (d - 1 + 1) ≤ 40 * d; omega⟩ ⟨Nat.zero_le _, Nat.zero_le _⟩ ?_
  refine AW.bz (tgt := 16) (pn := 8) rfl (by decide) rfl (fun c5 => ?_) (fun c5 => ?_)
  · refine AW.go 1 (pc' := 17) rfl ?_
    refine AW.iald (pn := 18) rfl rfl (by first | assumption | exact set_self (by assumption) | exact set_ne (by first | assumption | omega | decide) (by first | assumption | exact set_self (by assumption) | exact set_ne (by first | assumption | omega | decide) (by assumption))) (by decide) (by omega) (by omega) ?_
    refine AW.go 1 (pc' := 19) rfl ?_
    have g1 := hf (N - 1 - p).toNat (by omega)
    have g2 := hf p.toNat (by omega)
    refine AW.callSF (pn := 22) rfl rfl mlX3_95 (c_X3_turnedTone (d - 1) (by omega) _ _ _ (by omega) (by omega)) rfl rfl (Nat.le_of_ble_eq_true rfl) ⟨by show d - 1 + 1 ≤ d; omega, by show 40 * (d - 1 + 1) ≤ 40 * d; omega⟩ ⟨Nat.zero_le _, Nat.zero_le _⟩ ?_
    refine AW.ret rfl rfl (Nat.le_refl _) (Nat.le_refl _) ?_
    refine ⟨congrArg some ?_, rfl⟩
    unfold ft px
    first | rw [if_pos (by assumption)] | rw [if_neg (by assumption)]
  · refine AW.go 6 (pc' := 17) rfl ?_
    refine AW.iald (pn := 18) rfl rfl (by first | assumption | exact set_self (by assumption) | exact set_ne (by first | assumption | omega | decide) (by first | assumption | exact set_self (by assumption) | exact set_ne (by first | assumption | omega | decide) (by assumption))) (by decide) (by omega) (by omega) ?_
    refine AW.go 1 (pc' := 19) rfl ?_
    have g1 := hf (N - 1 - p).toNat (by omega)
    have g2 := hf p.toNat (by omega)
    refine AW.callSF (pn := 22) rfl rfl mlX3_95 (c_X3_turnedTone (d - 1) (by omega) _ _ _ (by omega) (by omega)) rfl rfl (Nat.le_of_ble_eq_true rfl) ⟨by show d - 1 + 1 ≤ d; omega, by show 40 * (d - 1 + 1) ≤ 40 * d; omega⟩ ⟨Nat.zero_le _, Nat.zero_le _⟩ ?_
    refine AW.ret rfl rfl (Nat.le_refl _) (Nat.le_refl _) ?_
    refine ⟨congrArg some ?_, rfl⟩
    unfold ft px
    first | rw [if_pos (by assumption)] | rw [if_neg (by assumption)]
end
section
def isf (f : Nat → Int) (N F : Int) (g : Nat → Int) (S : Int) : Bool := allN (fun j => decide (ft f N F (j : Int) = g (S + (j : Int)).toNat)) N.toNat
def cpd (a b : Nat → Int) : Nat → Nat → Int
  | 0, _ => 0
  | n + 1, k => if a k - b k = 0 then cpd a b n (k + 1) else a k - b k
def cpF (f : Nat → Int) (F G : Int) : Int := cpd (fun j => ft f 12 F (j : Int)) (fun j => ft f 12 G (j : Int)) 12 0
def lfm (f : Nat → Int) : Nat → Int
  | 0 => 0
  | n + 1 => if cpF f (n + 1 : Int) (lfm f n) < 0 then (n + 1 : Int) else lfm f n
theorem lfm_b (f : Nat → Int) : ∀ n : Nat, 0 ≤ lfm f n ∧ lfm f n ≤ n
  | 0 => ⟨Int.le_refl 0, Int.le_refl 0⟩
  | n + 1 => by
    have := lfm_b f n
    unfold lfm
    split <;> omega
def kps (f : Nat → Int) (n : Nat) : Nat := cntN (fun F => isf f 12 (F : Int) f 0) n
def stp (f : Nat → Int) (i : Int) : Int := (f (i + 1).toNat - f i.toNat) % 12
def sbt (f : Nat → Int) : Nat → Nat
  | 0 => 0
  | n + 1 => sbt f n ||| 2 ^ (stp f (n : Int)).toNat
theorem pow12 {t : Int} (h0 : 0 ≤ t) (h : t < 12) : 2 ^ t.toNat < 2 ^ 12 := Nat.pow_lt_pow_right (by decide) (by omega)
theorem sbt_lt (f : Nat → Int) : ∀ n, sbt f n < 4096
  | 0 => Nat.zero_lt_succ _
  | n + 1 => Nat.or_lt_two_pow (n := 12) (sbt_lt f n) (pow12 (by unfold stp; omega) (by unfold stp; omega))
def fst12 (f : Nat → Int) (F S : Int) : Nat → Nat
  | 0 => 0
  | n + 1 => fst12 f F S n ||| 2 ^ (ft f 12 F (S + (n : Int))).toNat
theorem fst12_lt (f : Nat → Int) (F S : Int) : ∀ n, fst12 f F S n < 4096
  | 0 => Nat.zero_lt_succ _
  | n + 1 => Nat.or_lt_two_pow (n := 12) (fst12_lt f F S n) (pow12 (ft_b _ _ _ _).1 (ft_b _ _ _ _).2)
def hsg (f : Nat → Int) (F N set : Int) : Bool := anyN (fun s => decide ((fst12 f F (s : Int) N.toNat : Int) = set)) (13 - N).toNat
def hol (f : Nat → Int) (n : Nat) : Nat := cntN (fun j => decide (f j = -6)) n
def pn (f : Nat → Int) : Prop := ∀ j : Nat, j < 12 → f j = -6 ∨ (0 ≤ f j ∧ f j < 12)
def tbt (f : Nat → Int) : Nat → Nat
  | 0 => 0
  | n + 1 => if f n = -6 then tbt f n else tbt f n ||| 2 ^ (f n).toNat
theorem tbt_lt {f : Nat → Int} (hf : pn f) : ∀ n, n ≤ 12 → tbt f n < 4096
  | 0, _ => Nat.zero_lt_succ _
  | n + 1, h => by
    have h1 := tbt_lt hf n (by omega)
    have h2 := hf n (by omega)
    unfold tbt
    split
    · exact h1
    · exact Nat.or_lt_two_pow (n := 12) h1 (pow12 (by omega) (by omega))
def fac : Nat → Int
  | 0 => 1
  | n + 1 => fac n * (n + 1 : Int)
theorem k1 {k : Int} (h : 0 ≤ k) : (k + 1).toNat = k.toNat + 1 := by omega
theorem kk {k : Int} (h : 0 ≤ k) : ((k.toNat : Nat) : Int) = k := Int.toNat_of_nonneg h

set_option maxHeartbeats 4000000 in
theorem l_X3_isFormOf (d : Nat) (hd : 4 ≤ d) (h : List AC) (A : Nat) (f : Nat → Int) (hA : h[A]? = some (ai 0 12 f)) (hf : tn f) (B : Nat) (g : Nat → Int) (hB : h[B]? = some (ai 0 12 g)) (hg : tn g) (N F S : Int) (rN : 0 ≤ N ∧ N ≤ 12) (rF : 0 ≤ F ∧ F < 48) (rS : 0 ≤ S ∧ S + N ≤ 12) : ∀ (n : Nat) (k : Int), (0 ≤ k) → (k ≤ N) → (∀ j : Nat, (j : Int) < k → ft f N F (j : Int) = g (S + (j : Int)).toNat) → ((N - k).toNat) < n → AW zX3_isFormOf Eq (rmd d) 0 0 0 0 3 [(5, vi k), (0, vr A), (1, vi N), (2, vi F), (3, vr B), (4, vi S)] [] h (RQ (bI (isf f N F g S = true)) h) := by
  intro n
  induction n with
  | zero =>
    intro k h0 h1 hi hn
    exact absurd hn (Nat.not_lt_zero _)
  | succ n ih =>
    intro k h0 h1 hi hn
    refine AW.go 2 (pc' := 6) rfl ?_
    refine AW.bi (tgt := 35) (pn := 9) rfl (by decide) rfl (by first | exact bI_rng _ | exact ⟨by omega, by omega⟩) (by first | exact bI_rng _ | exact ⟨by omega, by omega⟩) (fun c6 => ?_) (fun c6 => ?_)
    · dsimp only [cmpI] at c6
      refine AW.go 1 (pc' := 36) rfl ?_
      refine AW.retz rfl rfl (by first | exact bI_01 _ | decide) (Nat.le_refl _) (Nat.le_refl _) ?_
      refine ⟨congrArg some (bI_t ?_).symm, rfl⟩
      exact (allN_iff _ _).mpr (fun j hj => decide_eq_true (hi j (by omega)))
    · dsimp only [cmpI] at c6
      refine AW.go 4 (pc' := 14) rfl ?_
      refine AW.callSF (pn := 17) rfl rfl mlX3_85 (c_X3_formTone (d - 1) (by omega) _ _ _ (by assumption) (by assumption) _ _ _ (by omega) (by omega) (by omega)) rfl rfl (Nat.le_of_ble_eq_true rfl) ⟨by show d - 1 + 1 ≤ d; omega, by show 40 * (d - 1 + 1) ≤ 40 * d; omega⟩ ⟨Nat.zero_le _, Nat.zero_le _⟩ ?_
      refine AW.go 4 (pc' := 23) rfl ?_
      refine AW.iald (pn := 24) rfl rfl (by first | assumption | exact set_self (by assumption) | exact set_ne (by first | assumption | omega | decide) (by first | assumption | exact set_self (by assumption) | exact set_ne (by first | assumption | omega | decide) (by assumption))) (by decide) (by omega) (by omega) ?_
      have g1 := hg (S + k).toNat (by omega)
      have g2 := ft_b f N F k
      refine AW.bi (tgt := 29) (pn := 27) rfl (by decide) rfl (by first | exact bI_rng _ | exact ⟨by omega, by omega⟩) (by first | exact bI_rng _ | exact ⟨by omega, by omega⟩) (fun c24 => ?_) (fun c24 => ?_)
      · dsimp only [cmpI] at c24
        refine AW.go 2 (pc' := 3) rfl ?_
        refine AW.lw ?_ (ih (k + 1) (by omega) (by omega) (fun j hj => by by_cases q : (j : Int) < k; exact hi j q; rw [show (j : Int) = k by omega]; exact c24) (by omega))
        exact (And.intro rfl (And.intro rfl (And.intro rfl (And.intro rfl (And.intro rfl (And.intro rfl trivial))))))
      · dsimp only [cmpI] at c24
        refine AW.go 1 (pc' := 28) rfl ?_
        refine AW.retz rfl rfl (by first | exact bI_01 _ | decide) (Nat.le_refl _) (Nat.le_refl _) ?_
        refine ⟨congrArg some (bI_f (fun q => ?_)).symm, rfl⟩
        have q1 := (allN_iff _ _).mp q k.toNat (by omega)
        rw [decide_eq_true_eq, kk h0] at q1
        exact c24 q1
set_option maxHeartbeats 2000000 in
theorem c_X3_isFormOf (d : Nat) (hd : 4 ≤ d) (h : List AC) (A : Nat) (f : Nat → Int) (hA : h[A]? = some (ai 0 12 f)) (hf : tn f) (B : Nat) (g : Nat → Int) (hB : h[B]? = some (ai 0 12 g)) (hg : tn g) (N F S : Int) (rN : 0 ≤ N ∧ N ≤ 12) (rF : 0 ≤ F ∧ F < 48) (rS : 0 ≤ S ∧ S + N ≤ 12) : MF zX3_isFormOf d [vr A, vi N, vi F, vr B, vi S] h (bI (isf f N F g S = true)) h := by
  refine M0.of okX3_isFormOf (Nat.le_of_ble_eq_true rfl) ?_
  refine AW.go 2 (pc' := 3) rfl ?_
  refine AW.lw ?_ (l_X3_isFormOf d hd h A f hA hf B g hB hg N F S rN rF rS _ 0 (by omega) (by omega) (fun j hj => by omega) (Nat.lt_succ_self _))
  exact (And.intro rfl (And.intro rfl (And.intro rfl (And.intro rfl (And.intro rfl (And.intro rfl trivial))))))
set_option maxHeartbeats 4000000 in
theorem l_X3_isAnyFormOf (d : Nat) (hd : 5 ≤ d) (h : List AC) (A : Nat) (f : Nat → Int) (hA : h[A]? = some (ai 0 12 f)) (hf : tn f) (N S : Int) (rN : 0 ≤ N ∧ N ≤ 12) (rS : 0 ≤ S ∧ S + N ≤ 12) : ∀ (n : Nat) (k : Int), (0 ≤ k) → (k ≤ 48) → (∀ j : Nat, (j : Int) < k → isf f N (j : Int) f S = false) → ((48 - k).toNat) < n → AW zX3_isAnyFormOf Eq (rmd d) 0 0 0 0 2 [(3, vi k), (0, vr A), (1, vi N), (2, vi S)] [] h (RQ (bI (anyN (fun F => isf f N (F : Int) f S) 48 = true)) h) := by
  intro n
  induction n with
  | zero =>
    intro k h0 h1 hi hn
    exact absurd hn (Nat.not_lt_zero _)
  | succ n ih =>
    intro k h0 h1 hi hn
    refine AW.go 2 (pc' := 5) rfl ?_
    refine AW.bi (tgt := 27) (pn := 8) rfl (by decide) rfl (by first | exact bI_rng _ | exact ⟨by omega, by omega⟩) (by first | exact bI_rng _ | exact ⟨by omega, by omega⟩) (fun c5 => ?_) (fun c5 => ?_)
    · dsimp only [cmpI] at c5
      refine AW.go 1 (pc' := 28) rfl ?_
      refine AW.retz rfl rfl (by first | exact bI_01 _ | decide) (Nat.le_refl _) (Nat.le_refl _) ?_
      refine ⟨congrArg some (bI_f (fun q => ?_)).symm, rfl⟩
      obtain ⟨j, hj, q1⟩ := (anyN_iff _ _).mp q
      rw [hi j (by omega)] at q1
      cases q1
    · dsimp only [cmpI] at c5
      refine AW.go 5 (pc' := 13) rfl ?_
      refine AW.callSF (pn := 16) rfl rfl mlX3_111 (c_X3_isFormOf (d - 1) (by omega) _ _ _ (by assumption) (by assumption) _ _ (by assumption) (by assumption) _ _ _ (by omega) (by omega) (by omega)) rfl rfl (Nat.le_of_ble_eq_true rfl) ⟨by show d - 1 + 1 ≤ d; omega, by show 40 * (d - 1 + 1) ≤ 40 * d; omega⟩ ⟨Nat.zero_le _, Nat.zero_le _⟩ ?_
      refine AW.bz (tgt := 21) (pn := 19) rfl (by decide) rfl (fun c16 => ?_) (fun c16 => ?_)
      · refine AW.go 2 (pc' := 2) rfl ?_
        refine AW.lw ?_ (ih (k + 1) (by omega) (by omega) (fun j hj => by by_cases q : (j : Int) < k; exact hi j q; rw [show (j : Int) = k by omega]; exact Bool.eq_false_iff.mpr c16) (by omega))
        exact (And.intro rfl (And.intro rfl (And.intro rfl (And.intro rfl trivial))))
      · refine AW.go 1 (pc' := 20) rfl ?_
        refine AW.retz rfl rfl (by first | exact bI_01 _ | decide) (Nat.le_refl _) (Nat.le_refl _) ?_
        refine ⟨congrArg some (bI_t ?_).symm, rfl⟩
        exact (anyN_iff _ _).mpr ⟨k.toNat, by omega, by rw [kk h0]; exact c16⟩
set_option maxHeartbeats 2000000 in
theorem c_X3_isAnyFormOf (d : Nat) (hd : 5 ≤ d) (h : List AC) (A : Nat) (f : Nat → Int) (hA : h[A]? = some (ai 0 12 f)) (hf : tn f) (N S : Int) (rN : 0 ≤ N ∧ N ≤ 12) (rS : 0 ≤ S ∧ S + N ≤ 12) : MF zX3_isAnyFormOf d [vr A, vi N, vi S] h (bI (anyN (fun F => isf f N (F : Int) f S) 48 = true)) h := by
  refine M0.of okX3_isAnyFormOf (Nat.le_of_ble_eq_true rfl) ?_
  refine AW.go 2 (pc' := 2) rfl ?_
  refine AW.lw ?_ (l_X3_isAnyFormOf d hd h A f hA hf N S rN rS _ 0 (by omega) (by omega) (fun j hj => by omega) (Nat.lt_succ_self _))
  exact (And.intro rfl (And.intro rfl (And.intro rfl (And.intro rfl trivial))))
set_option maxHeartbeats 4000000 in
theorem l_X3_isLess (d : Nat) (hd : 4 ≤ d) (h : List AC) (A : Nat) (f : Nat → Int) (hA : h[A]? = some (ai 0 12 f)) (hf : tn f) (F G : Int) (rF : 0 ≤ F ∧ F < 48) (rG : 0 ≤ G ∧ G < 48) : ∀ (n : Nat) (k : Int), (0 ≤ k) → (k ≤ 12) → (cpF f F G = cpd (fun j => ft f 12 F (j : Int)) (fun j => ft f 12 G (j : Int)) (12 - k).toNat k.toNat) → ((12 - k).toNat) < n → AW zX3_isLess Eq (rmd d) 0 0 0 0 2 [(3, vi k), (0, vr A), (1, vi F), (2, vi G)] [] h (RQ (bI (cpF f F G < 0)) h) := by
  intro n
  induction n with
  | zero =>
    intro k h0 h1 hi hn
    exact absurd hn (Nat.not_lt_zero _)
  | succ n ih =>
    intro k h0 h1 hi hn
    refine AW.go 2 (pc' := 5) rfl ?_
    refine AW.bi (tgt := 49) (pn := 8) rfl (by decide) rfl (by first | exact bI_rng _ | exact ⟨by omega, by omega⟩) (by first | exact bI_rng _ | exact ⟨by omega, by omega⟩) (fun c5 => ?_) (fun c5 => ?_)
    · dsimp only [cmpI] at c5
      refine AW.go 1 (pc' := 50) rfl ?_
      refine AW.retz rfl rfl (by first | exact bI_01 _ | decide) (Nat.le_refl _) (Nat.le_refl _) ?_
      refine ⟨congrArg some ?_, rfl⟩
      rw [hi, show (12 - k).toNat = 0 by omega]
      exact (bI_f (by unfold cpd; decide)).symm
    · dsimp only [cmpI] at c5
      refine AW.go 4 (pc' := 13) rfl ?_
      refine AW.callSF (pn := 16) rfl rfl mlX3_85 (c_X3_formTone (d - 1) (by omega) _ _ _ (by assumption) (by assumption) _ _ _ (by omega) (by omega) (by omega)) rfl rfl (Nat.le_of_ble_eq_true rfl) ⟨by show d - 1 + 1 ≤ d; omega, by show 40 * (d - 1 + 1) ≤ 40 * d; omega⟩ ⟨Nat.zero_le _, Nat.zero_le _⟩ ?_
      refine AW.go 4 (pc' := 21) rfl ?_
      refine AW.callSF (pn := 24) rfl rfl mlX3_85 (c_X3_formTone (d - 1) (by omega) _ _ _ (by assumption) (by assumption) _ _ _ (by omega) (by omega) (by omega)) rfl rfl (Nat.le_of_ble_eq_true rfl) ⟨by show d - 1 + 1 ≤ d; omega, by show 40 * (d - 1 + 1) ≤ 40 * d; omega⟩ ⟨Nat.zero_le _, Nat.zero_le _⟩ ?_
      refine AW.go 3 (pc' := 29) rfl ?_
      have g1 := ft_b f 12 F k
      have g2 := ft_b f 12 G k
      have hs : cpd (fun j => ft f 12 F (j : Int)) (fun j => ft f 12 G (j : Int)) (12 - k).toNat k.toNat = if ft f 12 F k - ft f 12 G k = 0 then cpd (fun j => ft f 12 F (j : Int)) (fun j => ft f 12 G (j : Int)) ((12 - k).toNat - 1) (k.toNat + 1) else ft f 12 F k - ft f 12 G k := by
        obtain ⟨m, hm⟩ : ∃ m, (12 - k).toNat = m + 1 := ⟨(12 - k).toNat - 1, by omega⟩
        rw [hm]
        show (if ft f 12 F (k.toNat : Int) - ft f 12 G (k.toNat : Int) = 0 then _ else ft f 12 F (k.toNat : Int) - ft f 12 G (k.toNat : Int)) = _
        rw [kk h0]
        rfl
      refine AW.br (tgt := 43) (pn := 32) rfl (by decide) rfl (by first | exact bI_rng _ | exact ⟨by omega, by omega⟩) (fun c29 => ?_) (fun c29 => ?_)
      · dsimp only [cmpI] at c29
        refine AW.go 2 (pc' := 2) rfl ?_
        refine AW.lw ?_ (ih (k + 1) (by omega) (by omega) (by rw [k1 h0, show (12 - (k + 1)).toNat = (12 - k).toNat - 1 by omega]; rw [hs, if_pos c29] at hi; exact hi) (by omega))
        exact (And.intro rfl (And.intro rfl (And.intro rfl (And.intro rfl trivial))))
      · dsimp only [cmpI] at c29
        refine AW.go 1 (pc' := 34) rfl ?_
        refine AW.br (tgt := 41) (pn := 37) rfl (by decide) rfl (by first | exact bI_rng _ | exact ⟨by omega, by omega⟩) (fun c34 => ?_) (fun c34 => ?_)
        · dsimp only [cmpI] at c34
          refine AW.go 1 (pc' := 42) rfl ?_
          refine AW.retz rfl rfl (by first | exact bI_01 _ | decide) (Nat.le_refl _) (Nat.le_refl _) ?_
          refine ⟨congrArg some ?_, rfl⟩
          rw [hi, hs, if_neg c29]
          first | rfl | (symm; first | exact bI_t (by omega) | exact bI_f (by omega))
        · dsimp only [cmpI] at c34
          refine AW.go 2 (pc' := 42) rfl ?_
          refine AW.retz rfl rfl (by first | exact bI_01 _ | decide) (Nat.le_refl _) (Nat.le_refl _) ?_
          refine ⟨congrArg some ?_, rfl⟩
          rw [hi, hs, if_neg c29]
          first | rfl | (symm; first | exact bI_t (by omega) | exact bI_f (by omega))
set_option maxHeartbeats 2000000 in
theorem c_X3_isLess (d : Nat) (hd : 4 ≤ d) (h : List AC) (A : Nat) (f : Nat → Int) (hA : h[A]? = some (ai 0 12 f)) (hf : tn f) (F G : Int) (rF : 0 ≤ F ∧ F < 48) (rG : 0 ≤ G ∧ G < 48) : MF zX3_isLess d [vr A, vi F, vi G] h (bI (cpF f F G < 0)) h := by
  refine M0.of okX3_isLess (Nat.le_of_ble_eq_true rfl) ?_
  refine AW.go 2 (pc' := 2) rfl ?_
  refine AW.lw ?_ (l_X3_isLess d hd h A f hA hf F G rF rG _ 0 (by omega) (by omega) rfl (Nat.lt_succ_self _))
  exact (And.intro rfl (And.intro rfl (And.intro rfl (And.intro rfl trivial))))
set_option maxHeartbeats 4000000 in
theorem l_X3_leastForm (d : Nat) (hd : 5 ≤ d) (h : List AC) (A : Nat) (f : Nat → Int) (hA : h[A]? = some (ai 0 12 f)) (hf : tn f) : ∀ (n : Nat) (k : Int) (c : Int), (1 ≤ k) → (k ≤ 48) → (c = lfm f (k - 1).toNat) → ((48 - k).toNat) < n → AW zX3_leastForm Eq (rmd d) 0 0 0 0 4 [(2, vi k), (1, vi c), (0, vr A)] [] h (RQ (lfm f 47) h) := by
  intro n
  induction n with
  | zero =>
    intro k c h0 h1 hc hn
    exact absurd hn (Nat.not_lt_zero _)
  | succ n ih =>
    intro k c h0 h1 hc hn
    have hb := lfm_b f (k - 1).toNat
    rw [← hc] at hb
    have hk1 : (((k - 1).toNat : Int) + 1) = k := by omega
    refine AW.go 2 (pc' := 7) rfl ?_
    refine AW.bi (tgt := 27) (pn := 10) rfl (by decide) rfl (by first | exact bI_rng _ | exact ⟨by omega, by omega⟩) (by first | exact bI_rng _ | exact ⟨by omega, by omega⟩) (fun c7 => ?_) (fun c7 => ?_)
    · dsimp only [cmpI] at c7
      refine AW.go 1 (pc' := 28) rfl ?_
      refine AW.ret rfl rfl (Nat.le_refl _) (Nat.le_refl _) ?_
      refine ⟨congrArg some ?_, rfl⟩
      rw [hc, show (k - 1).toNat = 47 by omega]
    · dsimp only [cmpI] at c7
      refine AW.go 3 (pc' := 13) rfl ?_
      refine AW.callSF (pn := 16) rfl rfl mlX3_191 (c_X3_isLess (d - 1) (by omega) _ _ _ (by assumption) (by assumption) _ _ (by omega) (by omega)) rfl rfl (Nat.le_of_ble_eq_true rfl) ⟨by show d - 1 + 1 ≤ d; omega, by show 40 * (d - 1 + 1) ≤ 40 * d; omega⟩ ⟨Nat.zero_le _, Nat.zero_le _⟩ ?_
      refine AW.bz (tgt := 21) (pn := 19) rfl (by decide) rfl (fun c16 => ?_) (fun c16 => ?_)
      · refine AW.go 2 (pc' := 4) rfl ?_
        first | (refine AW.lw ?_ (ih (k + 1) (k) (by omega) (by omega) ?_ (by omega)); exact (And.intro rfl (And.intro rfl (And.intro rfl trivial))); rw [show (k + 1 - 1).toNat = (k - 1).toNat + 1 by omega]; unfold lfm; rw [← hc, hk1]; (first | rw [if_pos c16] | rw [if_neg c16])) | (refine AW.lw ?_ (ih (k + 1) (c) (by omega) (by omega) ?_ (by omega)); exact (And.intro rfl (And.intro rfl (And.intro rfl trivial))); rw [show (k + 1 - 1).toNat = (k - 1).toNat + 1 by omega]; unfold lfm; rw [← hc, hk1]; (first | rw [if_pos c16] | rw [if_neg c16]))
      · refine AW.go 4 (pc' := 4) rfl ?_
        first | (refine AW.lw ?_ (ih (k + 1) (k) (by omega) (by omega) ?_ (by omega)); exact (And.intro rfl (And.intro rfl (And.intro rfl trivial))); rw [show (k + 1 - 1).toNat = (k - 1).toNat + 1 by omega]; unfold lfm; rw [← hc, hk1]; (first | rw [if_pos c16] | rw [if_neg c16])) | (refine AW.lw ?_ (ih (k + 1) (c) (by omega) (by omega) ?_ (by omega)); exact (And.intro rfl (And.intro rfl (And.intro rfl trivial))); rw [show (k + 1 - 1).toNat = (k - 1).toNat + 1 by omega]; unfold lfm; rw [← hc, hk1]; (first | rw [if_pos c16] | rw [if_neg c16]))
set_option maxHeartbeats 2000000 in
theorem c_X3_leastForm (d : Nat) (hd : 5 ≤ d) (h : List AC) (A : Nat) (f : Nat → Int) (hA : h[A]? = some (ai 0 12 f)) (hf : tn f) : MF zX3_leastForm d [vr A] h (lfm f 47) h := by
  refine M0.of okX3_leastForm (Nat.le_of_ble_eq_true rfl) ?_
  refine AW.go 4 (pc' := 4) rfl ?_
  refine AW.lw ?_ (l_X3_leastForm d hd h A f hA hf _ 1 0 (by omega) (by omega) rfl (Nat.lt_succ_self _))
  exact (And.intro rfl (And.intro rfl (And.intro rfl trivial)))
set_option maxHeartbeats 4000000 in
theorem l_X3_sizeOf (d : Nat) (hd : 5 ≤ d) (h : List AC) (A : Nat) (f : Nat → Int) (hA : h[A]? = some (ai 0 12 f)) (hf : tn f) : ∀ (n : Nat) (k : Int) (c : Int), (0 ≤ k) → (k ≤ 48) → (c = (kps f k.toNat : Int)) → ((48 - k).toNat) < n → AW zX3_sizeOf Eq (rmd d) 0 0 0 0 4 [(2, vi k), (1, vi c), (0, vr A)] [] h (RQ (if (kps f 48 : Int) = 0 then 48 else 48 / (kps f 48 : Int)) h) := by
  intro n
  induction n with
  | zero =>
    intro k c h0 h1 hc hn
    exact absurd hn (Nat.not_lt_zero _)
  | succ n ih =>
    intro k c h0 h1 hc hn
    have hb := cntN_le (fun F => isf f 12 (F : Int) f 0) k.toNat
    have hb2 : 0 ≤ c ∧ c ≤ 48 := by rw [hc]; unfold kps; omega
    refine AW.go 2 (pc' := 7) rfl ?_
    refine AW.bi (tgt := 31) (pn := 10) rfl (by decide) rfl (by first | exact bI_rng _ | exact ⟨by omega, by omega⟩) (by first | exact bI_rng _ | exact ⟨by omega, by omega⟩) (fun c7 => ?_) (fun c7 => ?_)
    · dsimp only [cmpI] at c7
      refine AW.go 1 (pc' := 32) rfl ?_
      refine AW.br (tgt := 40) (pn := 35) rfl (by decide) rfl (by first | exact bI_rng _ | exact ⟨by omega, by omega⟩) (fun c32 => ?_) (fun c32 => ?_)
      · dsimp only [cmpI] at c32
        refine AW.go 2 (pc' := 43) rfl ?_
        refine AW.idiv (pn := 44) rfl rfl (by omega) (by omega) (by omega) (by omega) ?_
        refine AW.ret rfl rfl (Nat.le_refl _) (Nat.le_refl _) ?_
        have e : k.toNat = 48 := by omega
        rw [e] at hc
        refine ⟨congrArg some ?_, rfl⟩
        rw [← hc]
        first | rw [if_pos (by omega)] | rw [if_neg (by omega)]
      · dsimp only [cmpI] at c32
        refine AW.go 2 (pc' := 44) rfl ?_
        refine AW.ret rfl rfl (Nat.le_refl _) (Nat.le_refl _) ?_
        have e : k.toNat = 48 := by omega
        rw [e] at hc
        refine ⟨congrArg some ?_, rfl⟩
        rw [← hc]
        first | rw [if_pos (by omega)] | rw [if_neg (by omega)]
    · dsimp only [cmpI] at c7
      refine AW.go 5 (pc' := 16) rfl ?_
      refine AW.callSF (pn := 19) rfl rfl mlX3_111 (c_X3_isFormOf (d - 1) (by omega) _ _ _ (by assumption) (by assumption) _ _ (by assumption) (by assumption) _ _ _ (by omega) (by omega) (by omega)) rfl rfl (Nat.le_of_ble_eq_true rfl) ⟨by show d - 1 + 1 ≤ d; omega, by show 40 * (d - 1 + 1) ≤ 40 * d; omega⟩ ⟨Nat.zero_le _, Nat.zero_le _⟩ ?_
      refine AW.bz (tgt := 25) (pn := 22) rfl (by decide) rfl (fun c19 => ?_) (fun c19 => ?_)
      · refine AW.go 2 (pc' := 4) rfl ?_
        first | (refine AW.lw ?_ (ih (k + 1) (c + 1) (by omega) (by omega) ?_ (by omega)); exact (And.intro rfl (And.intro rfl (And.intro rfl trivial))); rw [k1 h0]; unfold kps cntN; rw [kk h0]; (first | (rw [if_pos c19, hc]; rfl) | (rw [if_neg c19, hc]; rfl))) | (refine AW.lw ?_ (ih (k + 1) (c) (by omega) (by omega) ?_ (by omega)); exact (And.intro rfl (And.intro rfl (And.intro rfl trivial))); rw [k1 h0]; unfold kps cntN; rw [kk h0]; (first | (rw [if_pos c19, hc]; rfl) | (rw [if_neg c19, hc]; rfl)))
      · refine AW.go 3 (pc' := 4) rfl ?_
        first | (refine AW.lw ?_ (ih (k + 1) (c + 1) (by omega) (by omega) ?_ (by omega)); exact (And.intro rfl (And.intro rfl (And.intro rfl trivial))); rw [k1 h0]; unfold kps cntN; rw [kk h0]; (first | (rw [if_pos c19, hc]; rfl) | (rw [if_neg c19, hc]; rfl))) | (refine AW.lw ?_ (ih (k + 1) (c) (by omega) (by omega) ?_ (by omega)); exact (And.intro rfl (And.intro rfl (And.intro rfl trivial))); rw [k1 h0]; unfold kps cntN; rw [kk h0]; (first | (rw [if_pos c19, hc]; rfl) | (rw [if_neg c19, hc]; rfl)))
set_option maxHeartbeats 2000000 in
theorem c_X3_sizeOf (d : Nat) (hd : 5 ≤ d) (h : List AC) (A : Nat) (f : Nat → Int) (hA : h[A]? = some (ai 0 12 f)) (hf : tn f) : MF zX3_sizeOf d [vr A] h (if (kps f 48 : Int) = 0 then 48 else 48 / (kps f 48 : Int)) h := by
  refine M0.of okX3_sizeOf (Nat.le_of_ble_eq_true rfl) ?_
  refine AW.go 4 (pc' := 4) rfl ?_
  refine AW.lw ?_ (l_X3_sizeOf d hd h A f hA hf _ 0 0 (by omega) (by omega) rfl (Nat.lt_succ_self _))
  exact (And.intro rfl (And.intro rfl (And.intro rfl trivial)))
set_option maxHeartbeats 2000000 in
theorem c_X3_stepAt (d : Nat) (hd : 2 ≤ d) (h : List AC) (A : Nat) (f : Nat → Int) (hA : h[A]? = some (ai 0 12 f)) (hf : tn f) (i : Int) (ri : 0 ≤ i ∧ i < 11) : MF zX3_stepAt d [vr A, vi i] h (stp f i) h := by
  refine M0.of okX3_stepAt (Nat.le_of_ble_eq_true rfl) ?_
  refine AW.go 4 (pc' := 4) rfl ?_
  refine AW.iald (pn := 5) rfl rfl (by first | assumption | exact set_self (by assumption) | exact set_ne (by first | assumption | omega | decide) (by first | assumption | exact set_self (by assumption) | exact set_ne (by first | assumption | omega | decide) (by assumption))) (by decide) (by omega) (by omega) ?_
  refine AW.go 2 (pc' := 7) rfl ?_
  refine AW.iald (pn := 8) rfl rfl (by first | assumption | exact set_self (by assumption) | exact set_ne (by first | assumption | omega | decide) (by first | assumption | exact set_self (by assumption) | exact set_ne (by first | assumption | omega | decide) (by assumption))) (by decide) (by omega) (by omega) ?_
  refine AW.go 1 (pc' := 9) rfl ?_
  have g1 := hf (i + 1).toNat (by omega)
  have g2 := hf i.toNat (by omega)
  refine AW.callSF (pn := 12) rfl rfl mlX3_102 (c_X3_wrapped (d - 1) (by omega) _ _ (by omega)) rfl rfl (Nat.le_of_ble_eq_true rfl) ⟨by show d - 1 + 1 ≤ d; omega, by show 40 * (d - 1 + 1) ≤ 40 * d; omega⟩ ⟨Nat.zero_le _, Nat.zero_le _⟩ ?_
  refine AW.ret rfl rfl (Nat.le_refl _) (Nat.le_refl _) ?_
  exact ⟨rfl, rfl⟩
set_option maxHeartbeats 4000000 in
theorem l_X3_unlikeSteps (d : Nat) (hd : 3 ≤ d) (h : List AC) (A : Nat) (f : Nat → Int) (hA : h[A]? = some (ai 0 12 f)) (hf : tn f) : ∀ (n : Nat) (k : Int) (x : Nat), (0 ≤ k) → (k ≤ 11) → (x = sbt f k.toNat) → ((11 - k).toNat) < n → AW zX3_unlikeSteps Eq (rmd d) 0 0 0 0 4 [(2, vi k), (1, vi (x : Int)), (0, vr A)] [] h (RQ ((cntN (fun i => (sbt f 11).testBit i) 12 : Nat) : Int) h) := by
  intro n
  induction n with
  | zero =>
    intro k x h0 h1 hc hn
    exact absurd hn (Nat.not_lt_zero _)
  | succ n ih =>
    intro k x h0 h1 hc hn
    refine AW.go 2 (pc' := 7) rfl ?_
    refine AW.bi (tgt := 26) (pn := 10) rfl (by decide) rfl (by first | exact bI_rng _ | exact ⟨by omega, by omega⟩) (by first | exact bI_rng _ | exact ⟨by omega, by omega⟩) (fun c7 => ?_) (fun c7 => ?_)
    · dsimp only [cmpI] at c7
      refine AW.go 1 (pc' := 27) rfl ?_
      have e : k.toNat = 11 := by omega
      rw [e] at hc
      subst hc
      refine AW.callSF (pn := 30) rfl rfl mlX3_194 (c_bitCount (d - 1) _ _ (by first | assumption | exact sbt_lt _ _)) rfl rfl (Nat.le_of_ble_eq_true rfl) ⟨by show d - 1 + 1 ≤ d; omega, by show 40 * (d - 1 + 1) ≤ 40 * d; omega⟩ ⟨Nat.zero_le _, Nat.zero_le _⟩ ?_
      refine AW.ret rfl rfl (Nat.le_refl _) (Nat.le_refl _) ?_
      exact ⟨rfl, rfl⟩
    · dsimp only [cmpI] at c7
      refine AW.go 4 (pc' := 14) rfl ?_
      refine AW.callSF (pn := 17) rfl rfl mlX3_118 (c_X3_stepAt (d - 1) (by omega) _ _ _ (by assumption) (by assumption) _ (by omega)) rfl rfl (Nat.le_of_ble_eq_true rfl) ⟨by show d - 1 + 1 ≤ d; omega, by show 40 * (d - 1 + 1) ≤ 40 * d; omega⟩ ⟨Nat.zero_le _, Nat.zero_le _⟩ ?_
      have g1 : 0 ≤ stp f k ∧ stp f k < 12 := by unfold stp; omega
      refine AW.shl1 (pn := 18) rfl rfl (by omega) (by omega) ?_
      refine AW.orN (pn := 19) rfl rfl ?_
      refine AW.go 3 (pc' := 4) rfl ?_
      first | (refine AW.lw ?_ (ih (k + 1) (x ||| 2 ^ (stp f k).toNat) (by omega) (by omega) ?_ (by omega)); exact (And.intro rfl (And.intro rfl (And.intro rfl trivial))); rw [k1 h0]; unfold sbt; rw [← hc, kk h0])
set_option maxHeartbeats 2000000 in
theorem c_X3_unlikeSteps (d : Nat) (hd : 3 ≤ d) (h : List AC) (A : Nat) (f : Nat → Int) (hA : h[A]? = some (ai 0 12 f)) (hf : tn f) : MF zX3_unlikeSteps d [vr A] h ((cntN (fun i => (sbt f 11).testBit i) 12 : Nat) : Int) h := by
  refine M0.of okX3_unlikeSteps (Nat.le_of_ble_eq_true rfl) ?_
  refine AW.go 4 (pc' := 4) rfl ?_
  refine AW.lw ?_ (l_X3_unlikeSteps d hd h A f hA hf _ 0 0 (by omega) (by omega) rfl (Nat.lt_succ_self _))
  exact (And.intro rfl (And.intro rfl (And.intro rfl trivial)))
set_option maxHeartbeats 4000000 in
theorem l_X3_formSet (d : Nat) (hd : 4 ≤ d) (h : List AC) (A : Nat) (f : Nat → Int) (hA : h[A]? = some (ai 0 12 f)) (hf : tn f) (F S N : Int) (rF : 0 ≤ F ∧ F < 48) (rS : 0 ≤ S ∧ 0 ≤ N ∧ S + N ≤ 12) : ∀ (n : Nat) (k : Int) (x : Nat), (S ≤ k) → (k ≤ S + N) → (x = fst12 f F S (k - S).toNat) → ((S + N - k).toNat) < n → AW zX3_formSet Eq (rmd d) 0 0 0 0 6 [(5, vi k), (4, vi (x : Int)), (0, vr A), (1, vi F), (2, vi S), (3, vi N)] [] h (RQ (fst12 f F S N.toNat : Int) h) := by
  intro n
  induction n with
  | zero =>
    intro k x h0 h1 hc hn
    exact absurd hn (Nat.not_lt_zero _)
  | succ n ih =>
    intro k x h0 h1 hc hn
    refine AW.go 4 (pc' := 11) rfl ?_
    refine AW.bi (tgt := 36) (pn := 14) rfl (by decide) rfl (by first | exact bI_rng _ | exact ⟨by omega, by omega⟩) (by first | exact bI_rng _ | exact ⟨by omega, by omega⟩) (fun c11 => ?_) (fun c11 => ?_)
    · dsimp only [cmpI] at c11
      refine AW.go 1 (pc' := 38) rfl ?_
      refine AW.ret rfl rfl (Nat.le_refl _) (Nat.le_refl _) ?_
      have e : (k - S).toNat = N.toNat := by omega
      rw [e] at hc
      subst hc
      exact ⟨rfl, rfl⟩
    · dsimp only [cmpI] at c11
      refine AW.go 6 (pc' := 23) rfl ?_
      refine AW.callSF (pn := 26) rfl rfl mlX3_85 (c_X3_formTone (d - 1) (by omega) _ _ _ (by assumption) (by assumption) _ _ _ (by omega) (by omega) (by omega)) rfl rfl (Nat.le_of_ble_eq_true rfl) ⟨by show d - 1 + 1 ≤ d; omega, by show 40 * (d - 1 + 1) ≤ 40 * d; omega⟩ ⟨Nat.zero_le _, Nat.zero_le _⟩ ?_
      have g1 := ft_b f 12 F k
      refine AW.shl1 (pn := 27) rfl rfl (by omega) (by omega) ?_
      refine AW.orN (pn := 28) rfl rfl ?_
      refine AW.go 3 (pc' := 6) rfl ?_
      first | (refine AW.lw ?_ (ih (k + 1) (x ||| 2 ^ (ft f 12 F k).toNat) (by omega) (by omega) ?_ (by omega)); exact (And.intro rfl (And.intro rfl (And.intro rfl (And.intro rfl (And.intro rfl (And.intro rfl trivial)))))); rw [show (k + 1 - S).toNat = (k - S).toNat + 1 by omega]; unfold fst12; rw [← hc, show S + ((k - S).toNat : Int) = k by omega])
set_option maxHeartbeats 2000000 in
theorem c_X3_formSet (d : Nat) (hd : 4 ≤ d) (h : List AC) (A : Nat) (f : Nat → Int) (hA : h[A]? = some (ai 0 12 f)) (hf : tn f) (F S N : Int) (rF : 0 ≤ F ∧ F < 48) (rS : 0 ≤ S ∧ 0 ≤ N ∧ S + N ≤ 12) : MF zX3_formSet d [vr A, vi F, vi S, vi N] h (fst12 f F S N.toNat : Int) h := by
  refine M0.of okX3_formSet (Nat.le_of_ble_eq_true rfl) ?_
  refine AW.go 4 (pc' := 6) rfl ?_
  refine AW.lw ?_ (l_X3_formSet d hd h A f hA hf F S N rF rS _ S 0 (by omega) (by omega) (by rw [Int.sub_self]; rfl) (Nat.lt_succ_self _))
  exact (And.intro rfl (And.intro rfl (And.intro rfl (And.intro rfl (And.intro rfl (And.intro rfl trivial))))))
set_option maxHeartbeats 4000000 in
theorem l_X3_hasSegment (d : Nat) (hd : 5 ≤ d) (h : List AC) (A : Nat) (f : Nat → Int) (hA : h[A]? = some (ai 0 12 f)) (hf : tn f) (F N s : Int) (rF : 0 ≤ F ∧ F < 48) (rN : 0 ≤ N ∧ N ≤ 12) (rs : -2147483648 ≤ s ∧ s < 2147483648) : ∀ (n : Nat) (k : Int), (0 ≤ k) → (k ≤ 13 - N) → (∀ j : Nat, (j : Int) < k → ¬ (fst12 f F (j : Int) N.toNat : Int) = s) → ((13 - N - k).toNat) < n → AW zX3_hasSegment Eq (rmd d) 0 0 0 0 3 [(4, vi k), (0, vr A), (1, vi F), (2, vi N), (3, vi s)] [] h (RQ (bI (hsg f F N s = true)) h) := by
  intro n
  induction n with
  | zero =>
    intro k h0 h1 hi hn
    exact absurd hn (Nat.not_lt_zero _)
  | succ n ih =>
    intro k h0 h1 hi hn
    refine AW.go 4 (pc' := 9) rfl ?_
    refine AW.bi (tgt := 32) (pn := 12) rfl (by decide) rfl (by first | exact bI_rng _ | exact ⟨by omega, by omega⟩) (by first | exact bI_rng _ | exact ⟨by omega, by omega⟩) (fun c9 => ?_) (fun c9 => ?_)
    · dsimp only [cmpI] at c9
      refine AW.go 1 (pc' := 33) rfl ?_
      refine AW.retz rfl rfl (by first | exact bI_01 _ | decide) (Nat.le_refl _) (Nat.le_refl _) ?_
      refine ⟨congrArg some (bI_f (fun q => ?_)).symm, rfl⟩
      obtain ⟨j, hj, q1⟩ := (anyN_iff _ _).mp q
      exact hi j (by omega) (of_decide_eq_true q1)
    · dsimp only [cmpI] at c9
      refine AW.go 4 (pc' := 17) rfl ?_
      refine AW.callSF (pn := 20) rfl rfl mlX3_122 (c_X3_formSet (d - 1) (by omega) _ _ _ (by assumption) (by assumption) _ _ _ (by omega) (by omega)) rfl rfl (Nat.le_of_ble_eq_true rfl) ⟨by show d - 1 + 1 ≤ d; omega, by show 40 * (d - 1 + 1) ≤ 40 * d; omega⟩ ⟨Nat.zero_le _, Nat.zero_le _⟩ ?_
      refine AW.go 1 (pc' := 21) rfl ?_
      have g1 := fst12_lt f F k N.toNat
      refine AW.bi (tgt := 26) (pn := 24) rfl (by decide) rfl (by first | exact bI_rng _ | exact ⟨by omega, by omega⟩) (by first | exact bI_rng _ | exact ⟨by omega, by omega⟩) (fun c21 => ?_) (fun c21 => ?_)
      · dsimp only [cmpI] at c21
        refine AW.go 2 (pc' := 3) rfl ?_
        refine AW.lw ?_ (ih (k + 1) (by omega) (by omega) (fun j hj => by by_cases q : (j : Int) < k; exact hi j q; rw [show (j : Int) = k by omega]; exact c21) (by omega))
        exact (And.intro rfl (And.intro rfl (And.intro rfl (And.intro rfl (And.intro rfl trivial)))))
      · dsimp only [cmpI] at c21
        refine AW.go 1 (pc' := 25) rfl ?_
        refine AW.retz rfl rfl (by first | exact bI_01 _ | decide) (Nat.le_refl _) (Nat.le_refl _) ?_
        refine ⟨congrArg some (bI_t ?_).symm, rfl⟩
        exact (anyN_iff _ _).mpr ⟨k.toNat, by omega, by rw [kk h0]; exact decide_eq_true (Decidable.not_not.mp c21)⟩
set_option maxHeartbeats 2000000 in
theorem c_X3_hasSegment (d : Nat) (hd : 5 ≤ d) (h : List AC) (A : Nat) (f : Nat → Int) (hA : h[A]? = some (ai 0 12 f)) (hf : tn f) (F N s : Int) (rF : 0 ≤ F ∧ F < 48) (rN : 0 ≤ N ∧ N ≤ 12) (rs : -2147483648 ≤ s ∧ s < 2147483648) : MF zX3_hasSegment d [vr A, vi F, vi N, vi s] h (bI (hsg f F N s = true)) h := by
  refine M0.of okX3_hasSegment (Nat.le_of_ble_eq_true rfl) ?_
  refine AW.go 2 (pc' := 3) rfl ?_
  refine AW.lw ?_ (l_X3_hasSegment d hd h A f hA hf F N s rF rN rs _ 0 (by omega) (by omega) (fun j hj => by omega) (Nat.lt_succ_self _))
  exact (And.intro rfl (And.intro rfl (And.intro rfl (And.intro rfl (And.intro rfl trivial)))))
set_option maxHeartbeats 4000000 in
theorem l_X3_holesOf (d : Nat) (hd : 0 ≤ d) (h : List AC) (A : Nat) (f : Nat → Int) (hA : h[A]? = some (ai 0 12 f)) (hf : pn f) : ∀ (n : Nat) (k : Int) (c : Int), (0 ≤ k) → (k ≤ 12) → (c = (hol f k.toNat : Int)) → ((12 - k).toNat) < n → AW zX3_holesOf Eq (rmd d) 0 0 0 0 4 [(2, vi k), (1, vi c), (0, vr A)] [] h (RQ (hol f 12 : Int) h) := by
  intro n
  induction n with
  | zero =>
    intro k c h0 h1 hc hn
    exact absurd hn (Nat.not_lt_zero _)
  | succ n ih =>
    intro k c h0 h1 hc hn
    refine AW.go 2 (pc' := 7) rfl ?_
    refine AW.bi (tgt := 27) (pn := 10) rfl (by decide) rfl (by first | exact bI_rng _ | exact ⟨by omega, by omega⟩) (by first | exact bI_rng _ | exact ⟨by omega, by omega⟩) (fun c7 => ?_) (fun c7 => ?_)
    · dsimp only [cmpI] at c7
      refine AW.go 1 (pc' := 28) rfl ?_
      refine AW.ret rfl rfl (Nat.le_refl _) (Nat.le_refl _) ?_
      have e : k.toNat = 12 := by omega
      rw [e] at hc
      subst hc
      exact ⟨rfl, rfl⟩
    · dsimp only [cmpI] at c7
      refine AW.go 2 (pc' := 12) rfl ?_
      refine AW.iald (pn := 13) rfl rfl (by first | assumption | exact set_self (by assumption) | exact set_ne (by first | assumption | omega | decide) (by first | assumption | exact set_self (by assumption) | exact set_ne (by first | assumption | omega | decide) (by assumption))) (by decide) (by omega) (by omega) ?_
      refine AW.go 1 (pc' := 15) rfl ?_
      have g1 := hf k.toNat (by omega)
      refine AW.bi (tgt := 21) (pn := 18) rfl (by decide) rfl (by first | exact bI_rng _ | exact ⟨by omega, by omega⟩) (by first | exact bI_rng _ | exact ⟨by omega, by omega⟩) (fun c15 => ?_) (fun c15 => ?_)
      · dsimp only [cmpI] at c15
        refine AW.go 2 (pc' := 4) rfl ?_
        first | (refine AW.lw ?_ (ih (k + 1) (c + 1) (by omega) (by omega) ?_ (by omega)); exact (And.intro rfl (And.intro rfl (And.intro rfl trivial))); rw [k1 h0]; unfold hol cntN; (first | (rw [if_pos (decide_eq_true (Decidable.not_not.mp c15)), hc]; rfl) | (rw [if_neg (fun q => c15 (of_decide_eq_true q)), hc]; rfl))) | (refine AW.lw ?_ (ih (k + 1) (c) (by omega) (by omega) ?_ (by omega)); exact (And.intro rfl (And.intro rfl (And.intro rfl trivial))); rw [k1 h0]; unfold hol cntN; (first | (rw [if_pos (decide_eq_true (Decidable.not_not.mp c15)), hc]; rfl) | (rw [if_neg (fun q => c15 (of_decide_eq_true q)), hc]; rfl)))
      · dsimp only [cmpI] at c15
        refine AW.go 3 (pc' := 4) rfl ?_
        first | (refine AW.lw ?_ (ih (k + 1) (c + 1) (by omega) (by omega) ?_ (by omega)); exact (And.intro rfl (And.intro rfl (And.intro rfl trivial))); rw [k1 h0]; unfold hol cntN; (first | (rw [if_pos (decide_eq_true (Decidable.not_not.mp c15)), hc]; rfl) | (rw [if_neg (fun q => c15 (of_decide_eq_true q)), hc]; rfl))) | (refine AW.lw ?_ (ih (k + 1) (c) (by omega) (by omega) ?_ (by omega)); exact (And.intro rfl (And.intro rfl (And.intro rfl trivial))); rw [k1 h0]; unfold hol cntN; (first | (rw [if_pos (decide_eq_true (Decidable.not_not.mp c15)), hc]; rfl) | (rw [if_neg (fun q => c15 (of_decide_eq_true q)), hc]; rfl)))
set_option maxHeartbeats 2000000 in
theorem c_X3_holesOf (d : Nat) (hd : 0 ≤ d) (h : List AC) (A : Nat) (f : Nat → Int) (hA : h[A]? = some (ai 0 12 f)) (hf : pn f) : MF zX3_holesOf d [vr A] h (hol f 12 : Int) h := by
  refine M0.of okX3_holesOf (Nat.le_of_ble_eq_true rfl) ?_
  refine AW.go 4 (pc' := 4) rfl ?_
  refine AW.lw ?_ (l_X3_holesOf d hd h A f hA hf _ 0 0 (by omega) (by omega) rfl (Nat.lt_succ_self _))
  exact (And.intro rfl (And.intro rfl (And.intro rfl trivial)))
def ckp (F : Int) : Prop := F = 0 ∨ F = 30 ∨ 36 < F ∧ F % 2 = 1
noncomputable section
end
set_option maxHeartbeats 2000000 in
theorem c_X3_canKeepRows (d : Nat) (hd : 1 ≤ d) (h : List AC) (F : Int) (rF : 0 ≤ F ∧ F < 48) : MF zX3_canKeepRows d [vi F] h (bI (F = 0 ∨ F = 30 ∨ 36 < F ∧ F % 2 = 1)) h := by
  refine M0.of okX3_canKeepRows (Nat.le_of_ble_eq_true rfl) ?_
  refine AW.go 1 (pc' := 1) rfl ?_
  refine AW.callSF (pn := 4) rfl rfl mlX3_150 (c_X3_isBackwards (d - 1) (by omega) _ _ (by omega)) rfl rfl (Nat.le_of_ble_eq_true rfl) ⟨by show d - 1 + 1 ≤ d; omega, by show 40 * (d - 1 + 1) ≤ 40 * d; omega⟩ ⟨Nat.zero_le _, Nat.zero_le _⟩ ?_
  refine AW.bnz (tgt := 17) (pn := 7) rfl (by decide) rfl (fun c4 => ?_) (fun c4 => ?_)
  · refine AW.go 1 (pc' := 18) rfl ?_
    refine AW.callSF (pn := 21) rfl rfl mlX3_99 (c_X3_isMirrored (d - 1) (by omega) _ _ (by omega)) rfl rfl (Nat.le_of_ble_eq_true rfl) ⟨by show d - 1 + 1 ≤ d; omega, by show 40 * (d - 1 + 1) ≤ 40 * d; omega⟩ ⟨Nat.zero_le _, Nat.zero_le _⟩ ?_
    refine AW.bz (tgt := 39) (pn := 24) rfl (by decide) rfl (fun c21 => ?_) (fun c21 => ?_)
    · refine AW.go 2 (pc' := 42) rfl ?_
      refine AW.irem (pn := 43) rfl rfl (by omega) (by omega) (by omega) (by omega) ?_
      refine AW.go 1 (pc' := 45) rfl ?_
      refine AW.bi (tgt := 52) (pn := 48) rfl (by decide) rfl (by first | exact bI_rng _ | exact ⟨by omega, by omega⟩) (by first | exact bI_rng _ | exact ⟨by omega, by omega⟩) (fun c45 => ?_) (fun c45 => ?_)
      · dsimp only [cmpI] at c45
        refine AW.go 1 (pc' := 53) rfl ?_
        refine AW.retz rfl rfl (by first | exact bI_01 _ | decide) (Nat.le_refl _) (Nat.le_refl _) ?_
        refine ⟨congrArg some ?_, rfl⟩
        first | rfl | (symm; first | exact bI_t (by omega) | exact bI_f (by omega)) | omega
      · dsimp only [cmpI] at c45
        refine AW.go 2 (pc' := 53) rfl ?_
        refine AW.retz rfl rfl (by first | exact bI_01 _ | decide) (Nat.le_refl _) (Nat.le_refl _) ?_
        refine ⟨congrArg some ?_, rfl⟩
        first | rfl | (symm; first | exact bI_t (by omega) | exact bI_f (by omega)) | omega
    · refine AW.go 2 (pc' := 26) rfl ?_
      refine AW.irem (pn := 27) rfl rfl (by omega) (by omega) (by omega) (by omega) ?_
      refine AW.go 1 (pc' := 28) rfl ?_
      refine AW.bi (tgt := 35) (pn := 31) rfl (by decide) rfl (by first | exact bI_rng _ | exact ⟨by omega, by omega⟩) (by first | exact bI_rng _ | exact ⟨by omega, by omega⟩) (fun c28 => ?_) (fun c28 => ?_)
      · dsimp only [cmpI] at c28
        refine AW.go 2 (pc' := 53) rfl ?_
        refine AW.retz rfl rfl (by first | exact bI_01 _ | decide) (Nat.le_refl _) (Nat.le_refl _) ?_
        refine ⟨congrArg some ?_, rfl⟩
        first | rfl | (symm; first | exact bI_t (by omega) | exact bI_f (by omega)) | omega
      · dsimp only [cmpI] at c28
        refine AW.go 2 (pc' := 53) rfl ?_
        refine AW.retz rfl rfl (by first | exact bI_01 _ | decide) (Nat.le_refl _) (Nat.le_refl _) ?_
        refine ⟨congrArg some ?_, rfl⟩
        first | rfl | (symm; first | exact bI_t (by omega) | exact bI_f (by omega)) | omega
  · refine AW.go 1 (pc' := 8) rfl ?_
    refine AW.br (tgt := 15) (pn := 11) rfl (by decide) rfl (by first | exact bI_rng _ | exact ⟨by omega, by omega⟩) (fun c8 => ?_) (fun c8 => ?_)
    · dsimp only [cmpI] at c8
      refine AW.go 1 (pc' := 16) rfl ?_
      refine AW.retz rfl rfl (by first | exact bI_01 _ | decide) (Nat.le_refl _) (Nat.le_refl _) ?_
      refine ⟨congrArg some ?_, rfl⟩
      first | rfl | (symm; first | exact bI_t (by omega) | exact bI_f (by omega)) | omega
    · dsimp only [cmpI] at c8
      refine AW.go 2 (pc' := 16) rfl ?_
      refine AW.retz rfl rfl (by first | exact bI_01 _ | decide) (Nat.le_refl _) (Nat.le_refl _) ?_
      refine ⟨congrArg some ?_, rfl⟩
      first | rfl | (symm; first | exact bI_t (by omega) | exact bI_f (by omega)) | omega
set_option maxHeartbeats 2000000 in
theorem c_X3_placeAcross (d : Nat) (hd : 1 ≤ d) (h : List AC) (F p : Int) (rF : 0 ≤ F ∧ F < 48) : MF zX3_placeAcross d [vi F, vi p] h (if 24 ≤ F then 11 - p else p) h := by
  refine M0.of okX3_placeAcross (Nat.le_of_ble_eq_true rfl) ?_
  refine AW.go 1 (pc' := 1) rfl ?_
  refine AW.callSF (pn := 4) rfl rfl mlX3_150 (c_X3_isBackwards (d - 1) (by omega) _ _ (by omega)) rfl rfl (Nat.le_of_ble_eq_true rfl) ⟨by show d - 1 + 1 ≤ d; omega, by show 40 * (d - 1 + 1) ≤ 40 * d; omega⟩ ⟨Nat.zero_le _, Nat.zero_le _⟩ ?_
  refine AW.bz (tgt := 14) (pn := 7) rfl (by decide) rfl (fun c4 => ?_) (fun c4 => ?_)
  · refine AW.go 1 (pc' := 15) rfl ?_
    refine AW.ret rfl rfl (Nat.le_refl _) (Nat.le_refl _) ?_
    refine ⟨congrArg some ?_, rfl⟩
    first | rw [if_pos (by assumption)] | rw [if_neg (by assumption)]
  · refine AW.go 4 (pc' := 15) rfl ?_
    refine AW.ret rfl rfl (Nat.le_refl _) (Nat.le_refl _) ?_
    refine ⟨congrArg some ?_, rfl⟩
    first | rw [if_pos (by assumption)] | rw [if_neg (by assumption)]
set_option maxHeartbeats 4000000 in
theorem l_X3_toneBits (d : Nat) (hd : 0 ≤ d) (h : List AC) (A : Nat) (f : Nat → Int) (hA : h[A]? = some (ai 0 12 f)) (hf : pn f) : ∀ (n : Nat) (k : Int) (x : Nat), (0 ≤ k) → (k ≤ 12) → (x = tbt f k.toNat) → ((12 - k).toNat) < n → AW zX3_toneBits Eq (rmd d) 0 0 0 0 4 [(2, vi k), (1, vi (x : Int)), (0, vr A)] [] h (RQ (tbt f 12 : Int) h) := by
  intro n
  induction n with
  | zero =>
    intro k x h0 h1 hc hn
    exact absurd hn (Nat.not_lt_zero _)
  | succ n ih =>
    intro k x h0 h1 hc hn
    refine AW.go 2 (pc' := 7) rfl ?_
    refine AW.bi (tgt := 32) (pn := 10) rfl (by decide) rfl (by first | exact bI_rng _ | exact ⟨by omega, by omega⟩) (by first | exact bI_rng _ | exact ⟨by omega, by omega⟩) (fun c7 => ?_) (fun c7 => ?_)
    · dsimp only [cmpI] at c7
      refine AW.go 1 (pc' := 33) rfl ?_
      refine AW.ret rfl rfl (Nat.le_refl _) (Nat.le_refl _) ?_
      have e : k.toNat = 12 := by omega
      rw [e] at hc
      subst hc
      exact ⟨rfl, rfl⟩
    · dsimp only [cmpI] at c7
      refine AW.go 2 (pc' := 12) rfl ?_
      refine AW.iald (pn := 13) rfl rfl (by first | assumption | exact set_self (by assumption) | exact set_ne (by first | assumption | omega | decide) (by first | assumption | exact set_self (by assumption) | exact set_ne (by first | assumption | omega | decide) (by assumption))) (by decide) (by omega) (by omega) ?_
      refine AW.go 1 (pc' := 15) rfl ?_
      have g1 := hf k.toNat (by omega)
      refine AW.bi (tgt := 26) (pn := 18) rfl (by decide) rfl (by first | exact bI_rng _ | exact ⟨by omega, by omega⟩) (by first | exact bI_rng _ | exact ⟨by omega, by omega⟩) (fun c15 => ?_) (fun c15 => ?_)
      · dsimp only [cmpI] at c15
        refine AW.go 2 (pc' := 4) rfl ?_
        first | (refine AW.lw ?_ (ih (k + 1) (x) (by omega) (by omega) ?_ (by omega)); exact (And.intro rfl (And.intro rfl (And.intro rfl trivial))); rw [k1 h0]; unfold tbt; rw [← hc]; (first | rw [if_pos c15] | rw [if_neg c15])) | (refine AW.lw ?_ (ih (k + 1) (x ||| 2 ^ (f k.toNat).toNat) (by omega) (by omega) ?_ (by omega)); exact (And.intro rfl (And.intro rfl (And.intro rfl trivial))); rw [k1 h0]; unfold tbt; rw [← hc]; (first | rw [if_pos c15] | rw [if_neg c15]))
      · dsimp only [cmpI] at c15
        refine AW.go 4 (pc' := 22) rfl ?_
        refine AW.iald (pn := 23) rfl rfl (by first | assumption | exact set_self (by assumption) | exact set_ne (by first | assumption | omega | decide) (by first | assumption | exact set_self (by assumption) | exact set_ne (by first | assumption | omega | decide) (by assumption))) (by decide) (by omega) (by omega) ?_
        refine AW.shl1 (pn := 24) rfl rfl (by omega) (by omega) ?_
        refine AW.orN (pn := 25) rfl rfl ?_
        refine AW.go 3 (pc' := 4) rfl ?_
        first | (refine AW.lw ?_ (ih (k + 1) (x) (by omega) (by omega) ?_ (by omega)); exact (And.intro rfl (And.intro rfl (And.intro rfl trivial))); rw [k1 h0]; unfold tbt; rw [← hc]; (first | rw [if_pos c15] | rw [if_neg c15])) | (refine AW.lw ?_ (ih (k + 1) (x ||| 2 ^ (f k.toNat).toNat) (by omega) (by omega) ?_ (by omega)); exact (And.intro rfl (And.intro rfl (And.intro rfl trivial))); rw [k1 h0]; unfold tbt; rw [← hc]; (first | rw [if_pos c15] | rw [if_neg c15]))
set_option maxHeartbeats 2000000 in
theorem c_X3_toneBits (d : Nat) (hd : 0 ≤ d) (h : List AC) (A : Nat) (f : Nat → Int) (hA : h[A]? = some (ai 0 12 f)) (hf : pn f) : MF zX3_toneBits d [vr A] h (tbt f 12 : Int) h := by
  refine M0.of okX3_toneBits (Nat.le_of_ble_eq_true rfl) ?_
  refine AW.go 4 (pc' := 4) rfl ?_
  refine AW.lw ?_ (l_X3_toneBits d hd h A f hA hf _ 0 0 (by omega) (by omega) rfl (Nat.lt_succ_self _))
  exact (And.intro rfl (And.intro rfl (And.intro rfl trivial)))
set_option maxHeartbeats 4000000 in
theorem l_X3_factorial (d : Nat) (hd : 0 ≤ d) (h : List AC) (m : Int) (rm : 0 ≤ m ∧ m ≤ 12) : ∀ (n : Nat) (k : Int) (c : Int), (1 ≤ k) → (k ≤ m + 1 ∨ k = 2) → (c = fac (k - 1).toNat) → ((m + 1 - k).toNat) < n → AW zX3_factorial Eq (rmd d) 0 0 0 0 4 [(2, vi k), (1, vi c), (0, vi m)] [] h (RQ (fac m.toNat) h) := by
  intro n
  induction n with
  | zero =>
    intro k c h0 h1 hc hn
    exact absurd hn (Nat.not_lt_zero _)
  | succ n ih =>
    intro k c h0 h1 hc hn
    refine AW.go 2 (pc' := 6) rfl ?_
    refine AW.bi (tgt := 19) (pn := 9) rfl (by decide) rfl (by first | exact bI_rng _ | exact ⟨by omega, by omega⟩) (by first | exact bI_rng _ | exact ⟨by omega, by omega⟩) (fun c6 => ?_) (fun c6 => ?_)
    · dsimp only [cmpI] at c6
      refine AW.go 1 (pc' := 20) rfl ?_
      refine AW.ret rfl rfl (Nat.le_refl _) (Nat.le_refl _) ?_
      refine ⟨congrArg some ?_, rfl⟩
      rw [hc]
      rcases (show m = k - 1 ∨ (m = 0 ∧ k = 2) by omega) with q | ⟨q1, q2⟩
      · rw [q]
      · rw [q1, q2]; rfl
    · dsimp only [cmpI] at c6
      refine AW.go 6 (pc' := 4) rfl ?_
      first | (refine AW.lw ?_ (ih (k + 1) (c * k) (by omega) (by omega) ?_ (by omega)); exact (And.intro rfl (And.intro rfl (And.intro rfl trivial))); rw [show (k + 1 - 1).toNat = (k - 1).toNat + 1 by omega]; unfold fac; rw [← hc, show (((k - 1).toNat : Int) + 1) = k by omega])
set_option maxHeartbeats 2000000 in
theorem c_X3_factorial (d : Nat) (hd : 0 ≤ d) (h : List AC) (m : Int) (rm : 0 ≤ m ∧ m ≤ 12) : MF zX3_factorial d [vi m] h (fac m.toNat) h := by
  refine M0.of okX3_factorial (Nat.le_of_ble_eq_true rfl) ?_
  refine AW.go 4 (pc' := 4) rfl ?_
  refine AW.lw ?_ (l_X3_factorial d hd h m rm _ 2 1 (by omega) (by omega) rfl (Nat.lt_succ_self _))
  exact (And.intro rfl (And.intro rfl (And.intro rfl trivial)))
end
section
abbrev mo (pm rf gm ka wr : Int) : List AV := [vr 30, vr 31, vr 32, vi pm, vi rf, vr 33, vr 34, vr 35, vi gm, vr 36, vr 37, vr 38, vi ka, vi wr]
def mt (m : Nat → Int) : Prop := ∀ j : Nat, j < 48 → 0 ≤ m j ∧ m j < 12
def rwm (m : Nat → Int) (r : Int) : Nat → Int := fun j => m (12 * r.toNat + j)
theorem rwm_tn {m : Nat → Int} (h : mt m) {r : Int} (hr : 0 ≤ r ∧ r < 4) : tn (rwm m r) := fun j hj => h _ (by omega)
theorem lcmpI_s (a b : Int) : (lcmpI a b < 0 ↔ a < b) ∧ (0 < lcmpI a b ↔ b < a) ∧ -1 ≤ lcmpI a b ∧ lcmpI a b ≤ 1 := by
  unfold lcmpI
  split
  · omega
  · split <;> omega
def frs (f : Nat → Int) (n : Nat) : Nat := cntN (fun F => allN (fun G => decide (¬ cpF f (F : Int) (G : Int) = 0)) F) n
def ust (f : Nat → Int) : Nat → Nat
  | 0 => 0
  | n + 1 => ust f n + if (sbt f n).testBit (stp f (n : Int)).toNat then 0 else 1
def cpG (f : Nat → Int) (N F G : Int) : Int := cpd (fun j => ft f N F (j : Int)) (fun j => ft f N G (j : Int)) N.toNat 0
def fs0 (f : Nat → Int) : Nat → Nat
  | 0 => 0
  | n + 1 => fs0 f n ||| 2 ^ (f n).toNat
theorem allN_s {p : Nat → Bool} {k : Int} (h : 0 ≤ k) : allN p (k + 1).toNat = (allN p k.toNat && p k.toNat) := by
  rw [k1 h]; rfl
theorem anyN_s {p : Nat → Bool} {k : Int} (h : 0 ≤ k) : anyN p (k + 1).toNat = (anyN p k.toNat || p k.toNat) := by
  rw [k1 h]; rfl
theorem cntN_s {p : Nat → Bool} {k : Int} (h : 0 ≤ k) : cntN p (k + 1).toNat = cntN p k.toNat + (if p k.toNat then 1 else 0) := by
  rw [k1 h]; rfl
theorem shr_bit {x : Nat} {t : Int} (h : 0 ≤ t) : (((((x : Int) / 2 ^ t.toNat).toNat &&& (1 : Int).toNat : Nat)) : Int) = if x.testBit t.toNat then 1 else 0 := by
  have e : ((x : Int) / 2 ^ t.toNat).toNat = x / 2 ^ t.toNat := by
    rw [show ((x : Int) / 2 ^ t.toNat) = ((x / 2 ^ t.toNat : Nat) : Int) by push_cast; rfl, Int.toNat_natCast]
  rw [e, show (1 : Int).toNat = 1 from rfl, Nat.and_one_is_mod, Nat.testBit_eq_decide_div_mod_eq]
  have : x / 2 ^ t.toNat % 2 < 2 := Nat.mod_lt _ (by decide)
  by_cases q : x / 2 ^ t.toNat % 2 = 1
  · rw [q]; rfl
  · rw [show x / 2 ^ t.toNat % 2 = 0 by omega]; rfl
theorem shr_nn {x : Nat} {t : Int} : 0 ≤ (x : Int) / 2 ^ t.toNat := Int.ediv_nonneg (by omega) (Int.le_of_lt (Int.pow_pos (by decide)))

set_option maxHeartbeats 2000000 in
theorem c_X4_in (d : Nat) (hd : 0 ≤ d) (h : List AC) (v a b : Int) (rv : -9223372036854775808 ≤ v ∧ v < 9223372036854775808) (ra : -9223372036854775808 ≤ a ∧ a < 9223372036854775808) (rb : -9223372036854775808 ≤ b ∧ b < 9223372036854775808) : MF zX4_in d [vl v, vl a, vl b] h (bI (a ≤ v ∧ v ≤ b)) h := by
  refine M0.of okX4_in (Nat.le_of_ble_eq_true rfl) ?_
  refine AW.go 2 (pc' := 2) rfl ?_
  refine AW.lcmp (pn := 3) rfl rfl ⟨by omega, by omega⟩ ⟨by omega, by omega⟩ ?_
  have e1 := lcmpI_s v a
  refine AW.br (tgt := 17) (pn := 6) rfl (by decide) rfl (by first | exact bI_rng _ | exact ⟨by omega, by omega⟩) (fun c3 => ?_) (fun c3 => ?_)
  · dsimp only [cmpI] at c3
    refine AW.go 1 (pc' := 18) rfl ?_
    refine AW.retz rfl rfl (by first | exact bI_01 _ | decide) (Nat.le_refl _) (Nat.le_refl _) ?_
    refine ⟨congrArg some ?_, rfl⟩
    first | rfl | (symm; first | exact bI_t (by omega) | exact bI_f (by omega)) | omega
  · dsimp only [cmpI] at c3
    refine AW.go 2 (pc' := 9) rfl ?_
    refine AW.lcmp (pn := 10) rfl rfl ⟨by omega, by omega⟩ ⟨by omega, by omega⟩ ?_
    have e2 := lcmpI_s v b
    refine AW.br (tgt := 17) (pn := 13) rfl (by decide) rfl (by first | exact bI_rng _ | exact ⟨by omega, by omega⟩) (fun c10 => ?_) (fun c10 => ?_)
    · dsimp only [cmpI] at c10
      refine AW.go 1 (pc' := 18) rfl ?_
      refine AW.retz rfl rfl (by first | exact bI_01 _ | decide) (Nat.le_refl _) (Nat.le_refl _) ?_
      refine ⟨congrArg some ?_, rfl⟩
      first | rfl | (symm; first | exact bI_t (by omega) | exact bI_f (by omega)) | omega
    · dsimp only [cmpI] at c10
      refine AW.go 2 (pc' := 18) rfl ?_
      refine AW.retz rfl rfl (by first | exact bI_01 _ | decide) (Nat.le_refl _) (Nat.le_refl _) ?_
      refine ⟨congrArg some ?_, rfl⟩
      first | rfl | (symm; first | exact bI_t (by omega) | exact bI_f (by omega)) | omega
set_option maxHeartbeats 2000000 in
theorem c_X4_isRow (d : Nat) (hd : 1 ≤ d) (h : List AC) (a : Int) (ra : -2147483648 ≤ a ∧ a < 2147483648) : MF zX4_isRow d [vi a] h (bI (0 ≤ a ∧ a < 4)) h := by
  refine M0.of okX4_isRow (Nat.le_of_ble_eq_true rfl) ?_
  refine AW.go 1 (pc' := 1) rfl ?_
  refine AW.i2l (pn := 2) rfl rfl (by first | exact bI_rng _ | exact ⟨by omega, by omega⟩) ?_
  refine AW.go 1 (pc' := 3) rfl ?_
  refine AW.ldc2 (pn := 6) rfl rfl clX4_38 ?_
  refine AW.callSF (pn := 9) rfl rfl mlX4_40 (c_X4_in (d - 1) (by omega) _ _ _ _ (by omega) (by omega) (by omega)) rfl rfl (Nat.le_of_ble_eq_true rfl) ⟨by show d - 1 + 1 ≤ d; omega, by show 40 * (d - 1 + 1) ≤ 40 * d; omega⟩ ⟨Nat.zero_le _, Nat.zero_le _⟩ ?_
  refine AW.retz rfl rfl (by first | exact bI_01 _ | decide) (Nat.le_refl _) (Nat.le_refl _) ?_
  exact ⟨congrArg some (bI_c (by omega)), rfl⟩
set_option maxHeartbeats 2000000 in
theorem c_X4_isForm (d : Nat) (hd : 1 ≤ d) (h : List AC) (a : Int) (ra : -2147483648 ≤ a ∧ a < 2147483648) : MF zX4_isForm d [vi a] h (bI (0 ≤ a ∧ a < 48)) h := by
  refine M0.of okX4_isForm (Nat.le_of_ble_eq_true rfl) ?_
  refine AW.go 1 (pc' := 1) rfl ?_
  refine AW.i2l (pn := 2) rfl rfl (by first | exact bI_rng _ | exact ⟨by omega, by omega⟩) ?_
  refine AW.go 1 (pc' := 3) rfl ?_
  refine AW.ldc2 (pn := 6) rfl rfl clX4_44 ?_
  refine AW.callSF (pn := 9) rfl rfl mlX4_40 (c_X4_in (d - 1) (by omega) _ _ _ _ (by omega) (by omega) (by omega)) rfl rfl (Nat.le_of_ble_eq_true rfl) ⟨by show d - 1 + 1 ≤ d; omega, by show 40 * (d - 1 + 1) ≤ 40 * d; omega⟩ ⟨Nat.zero_le _, Nat.zero_le _⟩ ?_
  refine AW.retz rfl rfl (by first | exact bI_01 _ | decide) (Nat.le_refl _) (Nat.le_refl _) ?_
  exact ⟨congrArg some (bI_c (by omega)), rfl⟩
set_option maxHeartbeats 2000000 in
theorem c_X4_isPlace (d : Nat) (hd : 1 ≤ d) (h : List AC) (a : Int) (ra : -2147483648 ≤ a ∧ a < 2147483648) : MF zX4_isPlace d [vi a] h (bI (0 ≤ a ∧ a < 12)) h := by
  refine M0.of okX4_isPlace (Nat.le_of_ble_eq_true rfl) ?_
  refine AW.go 1 (pc' := 1) rfl ?_
  refine AW.i2l (pn := 2) rfl rfl (by first | exact bI_rng _ | exact ⟨by omega, by omega⟩) ?_
  refine AW.go 1 (pc' := 3) rfl ?_
  refine AW.ldc2 (pn := 6) rfl rfl clX4_46 ?_
  refine AW.callSF (pn := 9) rfl rfl mlX4_40 (c_X4_in (d - 1) (by omega) _ _ _ _ (by omega) (by omega) (by omega)) rfl rfl (Nat.le_of_ble_eq_true rfl) ⟨by show d - 1 + 1 ≤ d; omega, by show 40 * (d - 1 + 1) ≤ 40 * d; omega⟩ ⟨Nat.zero_le _, Nat.zero_le _⟩ ?_
  refine AW.retz rfl rfl (by first | exact bI_01 _ | decide) (Nat.le_refl _) (Nat.le_refl _) ?_
  exact ⟨congrArg some (bI_c (by omega)), rfl⟩
def tof (a : Int) : Int := if 48 ≤ a ∧ a ≤ 57 then a - 48 else if a = 116 then 10 else if a = 101 then 11 else -6
def sof (a : Int) : Int := if a = 10 then 116 else if a = 11 then 101 else 48 + a
set_option maxHeartbeats 2000000 in
theorem c_X4_toneOf (d : Nat) (hd : 1 ≤ d) (h : List AC) (a : Int) (ra : -2147483648 ≤ a ∧ a < 2147483648) : MF zX4_toneOf d [vi a] h (tof a) h := by
  refine M0.of okX4_toneOf (Nat.le_of_ble_eq_true rfl) ?_
  refine AW.go 1 (pc' := 1) rfl ?_
  refine AW.i2l (pn := 2) rfl rfl (by first | exact bI_rng _ | exact ⟨by omega, by omega⟩) ?_
  refine AW.ldc2 (pn := 5) rfl rfl clX4_56 ?_
  refine AW.ldc2 (pn := 8) rfl rfl clX4_58 ?_
  refine AW.callSF (pn := 11) rfl rfl mlX4_40 (c_X4_in (d - 1) (by omega) _ _ _ _ (by omega) (by omega) (by omega)) rfl rfl (Nat.le_of_ble_eq_true rfl) ⟨by show d - 1 + 1 ≤ d; omega, by show 40 * (d - 1 + 1) ≤ 40 * d; omega⟩ ⟨Nat.zero_le _, Nat.zero_le _⟩ ?_
  refine AW.bz (tgt := 21) (pn := 14) rfl (by decide) rfl (fun c11 => ?_) (fun c11 => ?_)
  · refine AW.go 2 (pc' := 24) rfl ?_
    refine AW.bi (tgt := 32) (pn := 27) rfl (by decide) rfl (by first | exact bI_rng _ | exact ⟨by omega, by omega⟩) (by first | exact bI_rng _ | exact ⟨by omega, by omega⟩) (fun c24 => ?_) (fun c24 => ?_)
    · dsimp only [cmpI] at c24
      refine AW.go 2 (pc' := 35) rfl ?_
      refine AW.bi (tgt := 43) (pn := 38) rfl (by decide) rfl (by first | exact bI_rng _ | exact ⟨by omega, by omega⟩) (by first | exact bI_rng _ | exact ⟨by omega, by omega⟩) (fun c35 => ?_) (fun c35 => ?_)
      · dsimp only [cmpI] at c35
        refine AW.go 1 (pc' := 45) rfl ?_
        refine AW.ret rfl rfl (Nat.le_refl _) (Nat.le_refl _) ?_
        refine ⟨congrArg some ?_, rfl⟩
        unfold tof
        (repeat' split) <;> omega
      · dsimp only [cmpI] at c35
        refine AW.go 2 (pc' := 45) rfl ?_
        refine AW.ret rfl rfl (Nat.le_refl _) (Nat.le_refl _) ?_
        refine ⟨congrArg some ?_, rfl⟩
        unfold tof
        (repeat' split) <;> omega
    · dsimp only [cmpI] at c24
      refine AW.go 2 (pc' := 45) rfl ?_
      refine AW.ret rfl rfl (Nat.le_refl _) (Nat.le_refl _) ?_
      refine ⟨congrArg some ?_, rfl⟩
      unfold tof
      (repeat' split) <;> omega
  · refine AW.go 4 (pc' := 45) rfl ?_
    refine AW.ret rfl rfl (Nat.le_refl _) (Nat.le_refl _) ?_
    refine ⟨congrArg some ?_, rfl⟩
    unfold tof
    (repeat' split) <;> omega
set_option maxHeartbeats 2000000 in
theorem c_X4_signOf (d : Nat) (hd : 0 ≤ d) (h : List AC) (a : Int) (ra : -2147483648 ≤ a ∧ a < 2147483648) : MF zX4_signOf d [vi a] h (sof a) h := by
  refine M0.of okX4_signOf (Nat.le_of_ble_eq_true rfl) ?_
  refine AW.go 2 (pc' := 3) rfl ?_
  refine AW.bi (tgt := 11) (pn := 6) rfl (by decide) rfl (by first | exact bI_rng _ | exact ⟨by omega, by omega⟩) (by first | exact bI_rng _ | exact ⟨by omega, by omega⟩) (fun c3 => ?_) (fun c3 => ?_)
  · dsimp only [cmpI] at c3
    refine AW.go 2 (pc' := 14) rfl ?_
    refine AW.bi (tgt := 22) (pn := 17) rfl (by decide) rfl (by first | exact bI_rng _ | exact ⟨by omega, by omega⟩) (by first | exact bI_rng _ | exact ⟨by omega, by omega⟩) (fun c14 => ?_) (fun c14 => ?_)
    · dsimp only [cmpI] at c14
      refine AW.go 3 (pc' := 26) rfl ?_
      refine AW.ret rfl rfl (Nat.le_refl _) (Nat.le_refl _) ?_
      refine ⟨congrArg some ?_, rfl⟩
      unfold sof
      (repeat' split) <;> omega
    · dsimp only [cmpI] at c14
      refine AW.go 2 (pc' := 26) rfl ?_
      refine AW.ret rfl rfl (Nat.le_refl _) (Nat.le_refl _) ?_
      refine ⟨congrArg some ?_, rfl⟩
      unfold sof
      (repeat' split) <;> omega
  · dsimp only [cmpI] at c3
    refine AW.go 2 (pc' := 26) rfl ?_
    refine AW.ret rfl rfl (Nat.le_refl _) (Nat.le_refl _) ?_
    refine ⟨congrArg some ?_, rfl⟩
    unfold sof
    (repeat' split) <;> omega
set_option maxHeartbeats 2000000 in
theorem c_X4_toneAt (d : Nat) (hd : 0 ≤ d) (h : List AC) (pm rf gm ka wr : Int) (hO : h[29]? = some (ao 4 (mo pm rf gm ka wr))) (m : Nat → Int) (hM : h[30]? = some (ai 0 48 m)) (hm : mt m) (r p : Int) (rr : 0 ≤ r ∧ r < 4) (rp : 0 ≤ p ∧ p < 12) : MF zX4_toneAt d [vr 29, vi r, vi p] h (rwm m r p.toNat) h := by
  refine M0.of okX4_toneAt (Nat.le_of_ble_eq_true rfl) ?_
  refine AW.go 1 (pc' := 1) rfl ?_
  refine AW.getf (pn := 4) rfl rfl flX4_7 (by first | assumption | exact set_self (by assumption) | exact set_ne (by first | assumption | omega | decide) (by first | assumption | exact set_self (by assumption) | exact set_ne (by first | assumption | omega | decide) (by assumption))) rfl ?_
  refine AW.go 5 (pc' := 10) rfl ?_
  refine AW.iald (pn := 11) rfl rfl (by first | assumption | exact set_self (by assumption) | exact set_ne (by first | assumption | omega | decide) (by first | assumption | exact set_self (by assumption) | exact set_ne (by first | assumption | omega | decide) (by assumption))) (by decide) (by omega) (by omega) ?_
  refine AW.ret rfl rfl (Nat.le_refl _) (Nat.le_refl _) ?_
  refine ⟨congrArg some (congrArg m ?_), rfl⟩
  omega
set_option maxHeartbeats 2000000 in
theorem c_X4_isMirror (d : Nat) (hd : 0 ≤ d) (h : List AC) (F : Int) (rF : 0 ≤ F ∧ F < 48) : MF zX4_isMirror d [vi F] h (bI (F / 12 % 2 = 1)) h := by
  refine M0.of okX4_isMirror (Nat.le_of_ble_eq_true rfl) ?_
  refine AW.go 2 (pc' := 3) rfl ?_
  refine AW.idiv (pn := 4) rfl rfl (by omega) (by omega) (by omega) (by omega) ?_
  refine AW.go 1 (pc' := 5) rfl ?_
  refine AW.irem (pn := 6) rfl rfl (by omega) (by omega) (by omega) (by omega) ?_
  refine AW.go 1 (pc' := 7) rfl ?_
  refine AW.bi (tgt := 14) (pn := 10) rfl (by decide) rfl (by first | exact bI_rng _ | exact ⟨by omega, by omega⟩) (by first | exact bI_rng _ | exact ⟨by omega, by omega⟩) (fun c7 => ?_) (fun c7 => ?_)
  · dsimp only [cmpI] at c7
    refine AW.go 1 (pc' := 15) rfl ?_
    refine AW.retz rfl rfl (by first | exact bI_01 _ | decide) (Nat.le_refl _) (Nat.le_refl _) ?_
    refine ⟨congrArg some ?_, rfl⟩
    first | rfl | (symm; first | exact bI_t (by omega) | exact bI_f (by omega)) | omega
  · dsimp only [cmpI] at c7
    refine AW.go 2 (pc' := 15) rfl ?_
    refine AW.retz rfl rfl (by first | exact bI_01 _ | decide) (Nat.le_refl _) (Nat.le_refl _) ?_
    refine ⟨congrArg some ?_, rfl⟩
    first | rfl | (symm; first | exact bI_t (by omega) | exact bI_f (by omega)) | omega
set_option maxHeartbeats 2000000 in
theorem c_X4_isBack (d : Nat) (hd : 0 ≤ d) (h : List AC) (F : Int) (rF : 0 ≤ F ∧ F < 48) : MF zX4_isBack d [vi F] h (bI (24 ≤ F)) h := by
  refine M0.of okX4_isBack (Nat.le_of_ble_eq_true rfl) ?_
  refine AW.go 2 (pc' := 3) rfl ?_
  refine AW.idiv (pn := 4) rfl rfl (by omega) (by omega) (by omega) (by omega) ?_
  refine AW.go 1 (pc' := 5) rfl ?_
  refine AW.bi (tgt := 12) (pn := 8) rfl (by decide) rfl (by first | exact bI_rng _ | exact ⟨by omega, by omega⟩) (by first | exact bI_rng _ | exact ⟨by omega, by omega⟩) (fun c5 => ?_) (fun c5 => ?_)
  · dsimp only [cmpI] at c5
    refine AW.go 1 (pc' := 13) rfl ?_
    refine AW.retz rfl rfl (by first | exact bI_01 _ | decide) (Nat.le_refl _) (Nat.le_refl _) ?_
    refine ⟨congrArg some ?_, rfl⟩
    first | rfl | (symm; first | exact bI_t (by omega) | exact bI_f (by omega)) | omega
  · dsimp only [cmpI] at c5
    refine AW.go 2 (pc' := 13) rfl ?_
    refine AW.retz rfl rfl (by first | exact bI_01 _ | decide) (Nat.le_refl _) (Nat.le_refl _) ?_
    refine ⟨congrArg some ?_, rfl⟩
    first | rfl | (symm; first | exact bI_t (by omega) | exact bI_f (by omega)) | omega
set_option maxHeartbeats 2000000 in
theorem c_X4_isKeeping (d : Nat) (hd : 0 ≤ d) (h : List AC) (F : Int) (rF : 0 ≤ F ∧ F < 48) : MF zX4_isKeeping d [vi F] h (bI (F = 0 ∨ F = 30 ∨ 36 < F ∧ F % 2 = 1)) h := by
  refine M0.of okX4_isKeeping (Nat.le_of_ble_eq_true rfl) ?_
  refine AW.go 1 (pc' := 1) rfl ?_
  refine AW.br (tgt := 23) (pn := 4) rfl (by decide) rfl (by first | exact bI_rng _ | exact ⟨by omega, by omega⟩) (fun c1 => ?_) (fun c1 => ?_)
  · dsimp only [cmpI] at c1
    refine AW.go 2 (pc' := 28) rfl ?_
    refine AW.retz rfl rfl (by first | exact bI_01 _ | decide) (Nat.le_refl _) (Nat.le_refl _) ?_
    refine ⟨congrArg some ?_, rfl⟩
    first | rfl | (symm; first | exact bI_t (by omega) | exact bI_f (by omega)) | omega
  · dsimp only [cmpI] at c1
    refine AW.go 2 (pc' := 7) rfl ?_
    refine AW.bi (tgt := 23) (pn := 10) rfl (by decide) rfl (by first | exact bI_rng _ | exact ⟨by omega, by omega⟩) (by first | exact bI_rng _ | exact ⟨by omega, by omega⟩) (fun c7 => ?_) (fun c7 => ?_)
    · dsimp only [cmpI] at c7
      refine AW.go 2 (pc' := 28) rfl ?_
      refine AW.retz rfl rfl (by first | exact bI_01 _ | decide) (Nat.le_refl _) (Nat.le_refl _) ?_
      refine ⟨congrArg some ?_, rfl⟩
      first | rfl | (symm; first | exact bI_t (by omega) | exact bI_f (by omega)) | omega
    · dsimp only [cmpI] at c7
      refine AW.go 2 (pc' := 13) rfl ?_
      refine AW.bi (tgt := 27) (pn := 16) rfl (by decide) rfl (by first | exact bI_rng _ | exact ⟨by omega, by omega⟩) (by first | exact bI_rng _ | exact ⟨by omega, by omega⟩) (fun c13 => ?_) (fun c13 => ?_)
      · dsimp only [cmpI] at c13
        refine AW.go 1 (pc' := 28) rfl ?_
        refine AW.retz rfl rfl (by first | exact bI_01 _ | decide) (Nat.le_refl _) (Nat.le_refl _) ?_
        refine ⟨congrArg some ?_, rfl⟩
        first | rfl | (symm; first | exact bI_t (by omega) | exact bI_f (by omega)) | omega
      · dsimp only [cmpI] at c13
        refine AW.go 2 (pc' := 18) rfl ?_
        refine AW.irem (pn := 19) rfl rfl (by omega) (by omega) (by omega) (by omega) ?_
        refine AW.go 1 (pc' := 20) rfl ?_
        refine AW.bi (tgt := 27) (pn := 23) rfl (by decide) rfl (by first | exact bI_rng _ | exact ⟨by omega, by omega⟩) (by first | exact bI_rng _ | exact ⟨by omega, by omega⟩) (fun c20 => ?_) (fun c20 => ?_)
        · dsimp only [cmpI] at c20
          refine AW.go 1 (pc' := 28) rfl ?_
          refine AW.retz rfl rfl (by first | exact bI_01 _ | decide) (Nat.le_refl _) (Nat.le_refl _) ?_
          refine ⟨congrArg some ?_, rfl⟩
          first | rfl | (symm; first | exact bI_t (by omega) | exact bI_f (by omega)) | omega
        · dsimp only [cmpI] at c20
          refine AW.go 2 (pc' := 28) rfl ?_
          refine AW.retz rfl rfl (by first | exact bI_01 _ | decide) (Nat.le_refl _) (Nat.le_refl _) ?_
          refine ⟨congrArg some ?_, rfl⟩
          first | rfl | (symm; first | exact bI_t (by omega) | exact bI_f (by omega)) | omega
set_option maxHeartbeats 2000000 in
theorem c_X4_moved (d : Nat) (hd : 1 ≤ d) (h : List AC) (F t : Int) (rF : 0 ≤ F ∧ F < 48) (rt : 0 ≤ t ∧ t < 12) : MF zX4_moved d [vi F, vi t] h (mv F t) h := by
  refine M0.of okX4_moved (Nat.le_of_ble_eq_true rfl) ?_
  refine AW.go 2 (pc' := 3) rfl ?_
  refine AW.irem (pn := 4) rfl rfl (by omega) (by omega) (by omega) (by omega) ?_
  refine AW.go 2 (pc' := 6) rfl ?_
  refine AW.callSF (pn := 9) rfl rfl mlX4_93 (c_X4_isMirror (d - 1) (by omega) _ _ (by omega)) rfl rfl (Nat.le_of_ble_eq_true rfl) ⟨by show d - 1 + 1 ≤ d; omega, by show 40 * (d - 1 + 1) ≤ 40 * d; omega⟩ ⟨Nat.zero_le _, Nat.zero_le _⟩ ?_
  refine AW.bz (tgt := 24) (pn := 12) rfl (by decide) rfl (fun c9 => ?_) (fun c9 => ?_)
  · refine AW.go 4 (pc' := 29) rfl ?_
    refine AW.irem (pn := 30) rfl rfl (by omega) (by omega) (by omega) (by omega) ?_
    refine AW.ret rfl rfl (Nat.le_refl _) (Nat.le_refl _) ?_
    refine ⟨congrArg some ?_, rfl⟩
    unfold mv
    first | (rw [if_pos (by assumption)]; omega) | (rw [if_neg (by assumption)]; omega)
  · refine AW.go 6 (pc' := 20) rfl ?_
    refine AW.irem (pn := 21) rfl rfl (by omega) (by omega) (by omega) (by omega) ?_
    refine AW.go 1 (pc' := 30) rfl ?_
    refine AW.ret rfl rfl (Nat.le_refl _) (Nat.le_refl _) ?_
    refine ⟨congrArg some ?_, rfl⟩
    unfold mv
    first | (rw [if_pos (by assumption)]; omega) | (rw [if_neg (by assumption)]; omega)
set_option maxHeartbeats 2000000 in
theorem c_X4_across (d : Nat) (hd : 2 ≤ d) (h : List AC) (F t : Int) (rF : 0 ≤ F ∧ F < 48) (rt : 0 ≤ t ∧ t < 12) : MF zX4_across d [vi F, vi t] h (mv F t) h := by
  refine M0.of okX4_across (Nat.le_of_ble_eq_true rfl) ?_
  refine AW.go 2 (pc' := 2) rfl ?_
  refine AW.callSF (pn := 5) rfl rfl mlX4_99 (c_X4_moved (d - 1) (by omega) _ _ _ (by omega) (by omega)) rfl rfl (Nat.le_of_ble_eq_true rfl) ⟨by show d - 1 + 1 ≤ d; omega, by show 40 * (d - 1 + 1) ≤ 40 * d; omega⟩ ⟨Nat.zero_le _, Nat.zero_le _⟩ ?_
  refine AW.ret rfl rfl (Nat.le_refl _) (Nat.le_refl _) ?_
  exact ⟨rfl, rfl⟩
set_option maxHeartbeats 2000000 in
theorem c_X4_formAt (d : Nat) (hd : 2 ≤ d) (h : List AC) (pm rf gm ka wr : Int) (hO : h[29]? = some (ao 4 (mo pm rf gm ka wr))) (m : Nat → Int) (hM : h[30]? = some (ai 0 48 m)) (hm : mt m) (r F p : Int) (rr : 0 ≤ r ∧ r < 4) (rF : 0 ≤ F ∧ F < 48) (rp : 0 ≤ p ∧ p < 12) : MF zX4_formAt d [vr 29, vi r, vi F, vi p] h (ft (rwm m r) 12 F p) h := by
  refine M0.of okX4_formAt (Nat.le_of_ble_eq_true rfl) ?_
  refine AW.go 4 (pc' := 4) rfl ?_
  refine AW.callSF (pn := 7) rfl rfl mlX4_96 (c_X4_isBack (d - 1) (by omega) _ _ (by omega)) rfl rfl (Nat.le_of_ble_eq_true rfl) ⟨by show d - 1 + 1 ≤ d; omega, by show 40 * (d - 1 + 1) ≤ 40 * d; omega⟩ ⟨Nat.zero_le _, Nat.zero_le _⟩ ?_
  refine AW.bz (tgt := 17) (pn := 10) rfl (by decide) rfl (fun c7 => ?_) (fun c7 => ?_)
  · refine AW.go 1 (pc' := 18) rfl ?_
    refine AW.callVF (pn := 21) rfl rfl mlX4_89 (by first | assumption | exact set_self (by assumption) | exact set_ne (by first | assumption | omega | decide) (by first | assumption | exact set_self (by assumption) | exact set_ne (by first | assumption | omega | decide) (by assumption))) (c_X4_toneAt (d - 1) (by omega) _ _ _ _ _ _ (by assumption) _ (by assumption) (by assumption) _ _ (by omega) (by omega)) rfl rfl (Nat.le_of_ble_eq_true rfl) ⟨by show d - 1 + 1 ≤ d; omega, by show 40 * (d - 1 + 1) ≤ 40 * d; omega⟩ ⟨Nat.zero_le _, Nat.zero_le _⟩ ?_
    have g1 := rwm_tn hm rr (11 - p).toNat (by omega)
    have g2 := rwm_tn hm rr p.toNat (by omega)
    refine AW.callSF (pn := 24) rfl rfl mlX4_99 (c_X4_moved (d - 1) (by omega) _ _ _ (by omega) (by omega)) rfl rfl (Nat.le_of_ble_eq_true rfl) ⟨by show d - 1 + 1 ≤ d; omega, by show 40 * (d - 1 + 1) ≤ 40 * d; omega⟩ ⟨Nat.zero_le _, Nat.zero_le _⟩ ?_
    refine AW.ret rfl rfl (Nat.le_refl _) (Nat.le_refl _) ?_
    refine ⟨congrArg some ?_, rfl⟩
    unfold ft px
    first | (rw [if_pos (by assumption)]; rfl) | rw [if_neg (by assumption)]
  · refine AW.go 4 (pc' := 18) rfl ?_
    refine AW.callVF (pn := 21) rfl rfl mlX4_89 (by first | assumption | exact set_self (by assumption) | exact set_ne (by first | assumption | omega | decide) (by first | assumption | exact set_self (by assumption) | exact set_ne (by first | assumption | omega | decide) (by assumption))) (c_X4_toneAt (d - 1) (by omega) _ _ _ _ _ _ (by assumption) _ (by assumption) (by assumption) _ _ (by omega) (by omega)) rfl rfl (Nat.le_of_ble_eq_true rfl) ⟨by show d - 1 + 1 ≤ d; omega, by show 40 * (d - 1 + 1) ≤ 40 * d; omega⟩ ⟨Nat.zero_le _, Nat.zero_le _⟩ ?_
    have g1 := rwm_tn hm rr (11 - p).toNat (by omega)
    have g2 := rwm_tn hm rr p.toNat (by omega)
    refine AW.callSF (pn := 24) rfl rfl mlX4_99 (c_X4_moved (d - 1) (by omega) _ _ _ (by omega) (by omega)) rfl rfl (Nat.le_of_ble_eq_true rfl) ⟨by show d - 1 + 1 ≤ d; omega, by show 40 * (d - 1 + 1) ≤ 40 * d; omega⟩ ⟨Nat.zero_le _, Nat.zero_le _⟩ ?_
    refine AW.ret rfl rfl (Nat.le_refl _) (Nat.le_refl _) ?_
    refine ⟨congrArg some ?_, rfl⟩
    unfold ft px
    first | (rw [if_pos (by assumption)]; rfl) | rw [if_neg (by assumption)]
set_option maxHeartbeats 2000000 in
theorem c_X4_groupAt (d : Nat) (hd : 2 ≤ d) (h : List AC) (pm rf gm ka wr : Int) (hO : h[29]? = some (ao 4 (mo pm rf gm ka wr))) (m : Nat → Int) (hM : h[30]? = some (ai 0 48 m)) (hm : mt m) (r N F p : Int) (rr : 0 ≤ r ∧ r < 4) (rN : N ≤ 12) (rF : 0 ≤ F ∧ F < 48) (rp : 0 ≤ p ∧ p < N) : MF zX4_groupAt d [vr 29, vi r, vi N, vi F, vi p] h (ft (rwm m r) N F p) h := by
  refine M0.of okX4_groupAt (Nat.le_of_ble_eq_true rfl) ?_
  refine AW.go 4 (pc' := 4) rfl ?_
  refine AW.callSF (pn := 7) rfl rfl mlX4_96 (c_X4_isBack (d - 1) (by omega) _ _ (by omega)) rfl rfl (Nat.le_of_ble_eq_true rfl) ⟨by show d - 1 + 1 ≤ d; omega, by show 40 * (d - 1 + 1) ≤ 40 * d; omega⟩ ⟨Nat.zero_le _, Nat.zero_le _⟩ ?_
  refine AW.bz (tgt := 19) (pn := 10) rfl (by decide) rfl (fun c7 => ?_) (fun c7 => ?_)
  · refine AW.go 1 (pc' := 21) rfl ?_
    refine AW.callVF (pn := 24) rfl rfl mlX4_89 (by first | assumption | exact set_self (by assumption) | exact set_ne (by first | assumption | omega | decide) (by first | assumption | exact set_self (by assumption) | exact set_ne (by first | assumption | omega | decide) (by assumption))) (c_X4_toneAt (d - 1) (by omega) _ _ _ _ _ _ (by assumption) _ (by assumption) (by assumption) _ _ (by omega) (by omega)) rfl rfl (Nat.le_of_ble_eq_true rfl) ⟨by show d - 1 + 1 ≤ d; omega, by show 40 * (d - 1 + 1) ≤ 40 * d; omega⟩ ⟨Nat.zero_le _, Nat.zero_le _⟩ ?_
    have g1 := rwm_tn hm rr (N - 1 - p).toNat (by omega)
    have g2 := rwm_tn hm rr p.toNat (by omega)
    refine AW.callSF (pn := 27) rfl rfl mlX4_99 (c_X4_moved (d - 1) (by omega) _ _ _ (by omega) (by omega)) rfl rfl (Nat.le_of_ble_eq_true rfl) ⟨by show d - 1 + 1 ≤ d; omega, by show 40 * (d - 1 + 1) ≤ 40 * d; omega⟩ ⟨Nat.zero_le _, Nat.zero_le _⟩ ?_
    refine AW.ret rfl rfl (Nat.le_refl _) (Nat.le_refl _) ?_
    refine ⟨congrArg some ?_, rfl⟩
    unfold ft px
    first | rw [if_pos (by assumption)] | rw [if_neg (by assumption)]
  · refine AW.go 6 (pc' := 21) rfl ?_
    refine AW.callVF (pn := 24) rfl rfl mlX4_89 (by first | assumption | exact set_self (by assumption) | exact set_ne (by first | assumption | omega | decide) (by first | assumption | exact set_self (by assumption) | exact set_ne (by first | assumption | omega | decide) (by assumption))) (c_X4_toneAt (d - 1) (by omega) _ _ _ _ _ _ (by assumption) _ (by assumption) (by assumption) _ _ (by omega) (by omega)) rfl rfl (Nat.le_of_ble_eq_true rfl) ⟨by show d - 1 + 1 ≤ d; omega, by show 40 * (d - 1 + 1) ≤ 40 * d; omega⟩ ⟨Nat.zero_le _, Nat.zero_le _⟩ ?_
    have g1 := rwm_tn hm rr (N - 1 - p).toNat (by omega)
    have g2 := rwm_tn hm rr p.toNat (by omega)
    refine AW.callSF (pn := 27) rfl rfl mlX4_99 (c_X4_moved (d - 1) (by omega) _ _ _ (by omega) (by omega)) rfl rfl (Nat.le_of_ble_eq_true rfl) ⟨by show d - 1 + 1 ≤ d; omega, by show 40 * (d - 1 + 1) ≤ 40 * d; omega⟩ ⟨Nat.zero_le _, Nat.zero_le _⟩ ?_
    refine AW.ret rfl rfl (Nat.le_refl _) (Nat.le_refl _) ?_
    refine ⟨congrArg some ?_, rfl⟩
    unfold ft px
    first | rw [if_pos (by assumption)] | rw [if_neg (by assumption)]
set_option maxHeartbeats 4000000 in
theorem l_X4_compared (d : Nat) (hd : 3 ≤ d) (h : List AC) (pm rf gm ka wr : Int) (hO : h[29]? = some (ao 4 (mo pm rf gm ka wr))) (m : Nat → Int) (hM : h[30]? = some (ai 0 48 m)) (hm : mt m) (r F G : Int) (rr : 0 ≤ r ∧ r < 4) (rF : 0 ≤ F ∧ F < 48) (rG : 0 ≤ G ∧ G < 48) : ∀ (n : Nat) (k : Int), (0 ≤ k) → (k ≤ 12) → ((cpF (rwm m r) F G) = cpd (fun j => ft (rwm m r) 12 F (j : Int)) (fun j => ft (rwm m r) 12 G (j : Int)) (12 - k).toNat k.toNat) → ((12 - k).toNat) < n → AW zX4_compared Eq (rmd d) 0 0 0 0 3 [(4, vi k), (0, vr 29), (1, vi r), (2, vi F), (3, vi G)] [] h (RQ (cpF (rwm m r) F G) h) := by
  intro n
  induction n with
  | zero =>
    intro k h0 h1 hi hn
    exact absurd hn (Nat.not_lt_zero _)
  | succ n ih =>
    intro k h0 h1 hi hn
    refine AW.go 2 (pc' := 7) rfl ?_
    refine AW.bi (tgt := 43) (pn := 10) rfl (by decide) rfl (by first | exact bI_rng _ | exact ⟨by omega, by omega⟩) (by first | exact bI_rng _ | exact ⟨by omega, by omega⟩) (fun c7 => ?_) (fun c7 => ?_)
    · dsimp only [cmpI] at c7
      refine AW.go 1 (pc' := 44) rfl ?_
      refine AW.ret rfl rfl (Nat.le_refl _) (Nat.le_refl _) ?_
      refine ⟨congrArg some ?_, rfl⟩
      rw [hi, show (12 - k).toNat = 0 by omega]
      rfl
    · dsimp only [cmpI] at c7
      refine AW.go 4 (pc' := 15) rfl ?_
      refine AW.callVF (pn := 18) rfl rfl mlX4_105 (by first | assumption | exact set_self (by assumption) | exact set_ne (by first | assumption | omega | decide) (by first | assumption | exact set_self (by assumption) | exact set_ne (by first | assumption | omega | decide) (by assumption))) (c_X4_formAt (d - 1) (by omega) _ _ _ _ _ _ (by assumption) _ (by assumption) (by assumption) _ _ _ (by omega) (by omega) (by omega)) rfl rfl (Nat.le_of_ble_eq_true rfl) ⟨by show d - 1 + 1 ≤ d; omega, by show 40 * (d - 1 + 1) ≤ 40 * d; omega⟩ ⟨Nat.zero_le _, Nat.zero_le _⟩ ?_
      refine AW.go 4 (pc' := 23) rfl ?_
      refine AW.callVF (pn := 26) rfl rfl mlX4_105 (by first | assumption | exact set_self (by assumption) | exact set_ne (by first | assumption | omega | decide) (by first | assumption | exact set_self (by assumption) | exact set_ne (by first | assumption | omega | decide) (by assumption))) (c_X4_formAt (d - 1) (by omega) _ _ _ _ _ _ (by assumption) _ (by assumption) (by assumption) _ _ _ (by omega) (by omega) (by omega)) rfl rfl (Nat.le_of_ble_eq_true rfl) ⟨by show d - 1 + 1 ≤ d; omega, by show 40 * (d - 1 + 1) ≤ 40 * d; omega⟩ ⟨Nat.zero_le _, Nat.zero_le _⟩ ?_
      refine AW.go 3 (pc' := 31) rfl ?_
      have g1 := ft_b (rwm m r) 12 F k
      have g2 := ft_b (rwm m r) 12 G k
      have hs : cpd (fun j => ft (rwm m r) 12 F (j : Int)) (fun j => ft (rwm m r) 12 G (j : Int)) (12 - k).toNat k.toNat = if ft (rwm m r) 12 F k - ft (rwm m r) 12 G k = 0 then cpd (fun j => ft (rwm m r) 12 F (j : Int)) (fun j => ft (rwm m r) 12 G (j : Int)) ((12 - k).toNat - 1) (k.toNat + 1) else ft (rwm m r) 12 F k - ft (rwm m r) 12 G k := by
        obtain ⟨q, hq⟩ : ∃ q, (12 - k).toNat = q + 1 := ⟨(12 - k).toNat - 1, by omega⟩
        rw [hq]
        show (if ft (rwm m r) 12 F (k.toNat : Int) - ft (rwm m r) 12 G (k.toNat : Int) = 0 then _ else ft (rwm m r) 12 F (k.toNat : Int) - ft (rwm m r) 12 G (k.toNat : Int)) = _
        rw [kk h0]
        rfl
      refine AW.br (tgt := 37) (pn := 34) rfl (by decide) rfl (by first | exact bI_rng _ | exact ⟨by omega, by omega⟩) (fun c31 => ?_) (fun c31 => ?_)
      · dsimp only [cmpI] at c31
        refine AW.go 2 (pc' := 3) rfl ?_
        refine AW.lw ?_ (ih (k + 1) (by omega) (by omega) (by rw [k1 h0, show (12 - (k + 1)).toNat = (12 - k).toNat - 1 by omega]; rw [hs, if_pos c31] at hi; exact hi) (by omega))
        exact (And.intro rfl (And.intro rfl (And.intro rfl (And.intro rfl (And.intro rfl trivial)))))
      · dsimp only [cmpI] at c31
        refine AW.go 1 (pc' := 36) rfl ?_
        refine AW.ret rfl rfl (Nat.le_refl _) (Nat.le_refl _) ?_
        refine ⟨congrArg some ?_, rfl⟩
        rw [hi, hs, if_neg c31]
set_option maxHeartbeats 2000000 in
theorem c_X4_compared (d : Nat) (hd : 3 ≤ d) (h : List AC) (pm rf gm ka wr : Int) (hO : h[29]? = some (ao 4 (mo pm rf gm ka wr))) (m : Nat → Int) (hM : h[30]? = some (ai 0 48 m)) (hm : mt m) (r F G : Int) (rr : 0 ≤ r ∧ r < 4) (rF : 0 ≤ F ∧ F < 48) (rG : 0 ≤ G ∧ G < 48) : MF zX4_compared d [vr 29, vi r, vi F, vi G] h (cpF (rwm m r) F G) h := by
  refine M0.of okX4_compared (Nat.le_of_ble_eq_true rfl) ?_
  refine AW.go 2 (pc' := 3) rfl ?_
  refine AW.lw ?_ (l_X4_compared d hd h pm rf gm ka wr hO m hM hm r F G rr rF rG _ 0 (by omega) (by omega) (by first | rfl | (rw [Int.sub_zero]; rfl)) (Nat.lt_succ_self _))
  exact (And.intro rfl (And.intro rfl (And.intro rfl (And.intro rfl (And.intro rfl trivial)))))
set_option maxHeartbeats 4000000 in
theorem l_X4_comparedGroups (d : Nat) (hd : 3 ≤ d) (h : List AC) (pm rf gm ka wr : Int) (hO : h[29]? = some (ao 4 (mo pm rf gm ka wr))) (m : Nat → Int) (hM : h[30]? = some (ai 0 48 m)) (hm : mt m) (r N F G : Int) (rr : 0 ≤ r ∧ r < 4) (rN : 0 ≤ N ∧ N ≤ 12) (rF : 0 ≤ F ∧ F < 48) (rG : 0 ≤ G ∧ G < 48) : ∀ (n : Nat) (k : Int), (0 ≤ k) → (k ≤ N) → ((cpG (rwm m r) N F G) = cpd (fun j => ft (rwm m r) N F (j : Int)) (fun j => ft (rwm m r) N G (j : Int)) (N - k).toNat k.toNat) → ((N - k).toNat) < n → AW zX4_comparedGroups Eq (rmd d) 0 0 0 0 3 [(5, vi k), (0, vr 29), (1, vi r), (2, vi N), (3, vi F), (4, vi G)] [] h (RQ (cpG (rwm m r) N F G) h) := by
  intro n
  induction n with
  | zero =>
    intro k h0 h1 hi hn
    exact absurd hn (Nat.not_lt_zero _)
  | succ n ih =>
    intro k h0 h1 hi hn
    refine AW.go 2 (pc' := 6) rfl ?_
    refine AW.bi (tgt := 45) (pn := 9) rfl (by decide) rfl (by first | exact bI_rng _ | exact ⟨by omega, by omega⟩) (by first | exact bI_rng _ | exact ⟨by omega, by omega⟩) (fun c6 => ?_) (fun c6 => ?_)
    · dsimp only [cmpI] at c6
      refine AW.go 1 (pc' := 46) rfl ?_
      refine AW.ret rfl rfl (Nat.le_refl _) (Nat.le_refl _) ?_
      refine ⟨congrArg some ?_, rfl⟩
      rw [hi, show (N - k).toNat = 0 by omega]
      rfl
    · dsimp only [cmpI] at c6
      refine AW.go 5 (pc' := 15) rfl ?_
      refine AW.callVF (pn := 18) rfl rfl mlX4_138 (by first | assumption | exact set_self (by assumption) | exact set_ne (by first | assumption | omega | decide) (by first | assumption | exact set_self (by assumption) | exact set_ne (by first | assumption | omega | decide) (by assumption))) (c_X4_groupAt (d - 1) (by omega) _ _ _ _ _ _ (by assumption) _ (by assumption) (by assumption) _ _ _ _ (by omega) (by omega) (by omega) (by omega)) rfl rfl (Nat.le_of_ble_eq_true rfl) ⟨by show d - 1 + 1 ≤ d; omega, by show 40 * (d - 1 + 1) ≤ 40 * d; omega⟩ ⟨Nat.zero_le _, Nat.zero_le _⟩ ?_
      refine AW.go 5 (pc' := 25) rfl ?_
      refine AW.callVF (pn := 28) rfl rfl mlX4_138 (by first | assumption | exact set_self (by assumption) | exact set_ne (by first | assumption | omega | decide) (by first | assumption | exact set_self (by assumption) | exact set_ne (by first | assumption | omega | decide) (by assumption))) (c_X4_groupAt (d - 1) (by omega) _ _ _ _ _ _ (by assumption) _ (by assumption) (by assumption) _ _ _ _ (by omega) (by omega) (by omega) (by omega)) rfl rfl (Nat.le_of_ble_eq_true rfl) ⟨by show d - 1 + 1 ≤ d; omega, by show 40 * (d - 1 + 1) ≤ 40 * d; omega⟩ ⟨Nat.zero_le _, Nat.zero_le _⟩ ?_
      refine AW.go 3 (pc' := 33) rfl ?_
      have g1 := ft_b (rwm m r) N F k
      have g2 := ft_b (rwm m r) N G k
      have hs : cpd (fun j => ft (rwm m r) N F (j : Int)) (fun j => ft (rwm m r) N G (j : Int)) (N - k).toNat k.toNat = if ft (rwm m r) N F k - ft (rwm m r) N G k = 0 then cpd (fun j => ft (rwm m r) N F (j : Int)) (fun j => ft (rwm m r) N G (j : Int)) ((N - k).toNat - 1) (k.toNat + 1) else ft (rwm m r) N F k - ft (rwm m r) N G k := by
        obtain ⟨q, hq⟩ : ∃ q, (N - k).toNat = q + 1 := ⟨(N - k).toNat - 1, by omega⟩
        rw [hq]
        show (if ft (rwm m r) N F (k.toNat : Int) - ft (rwm m r) N G (k.toNat : Int) = 0 then _ else ft (rwm m r) N F (k.toNat : Int) - ft (rwm m r) N G (k.toNat : Int)) = _
        rw [kk h0]
        rfl
      refine AW.br (tgt := 39) (pn := 36) rfl (by decide) rfl (by first | exact bI_rng _ | exact ⟨by omega, by omega⟩) (fun c33 => ?_) (fun c33 => ?_)
      · dsimp only [cmpI] at c33
        refine AW.go 2 (pc' := 3) rfl ?_
        refine AW.lw ?_ (ih (k + 1) (by omega) (by omega) (by rw [k1 h0, show (N - (k + 1)).toNat = (N - k).toNat - 1 by omega]; rw [hs, if_pos c33] at hi; exact hi) (by omega))
        exact (And.intro rfl (And.intro rfl (And.intro rfl (And.intro rfl (And.intro rfl (And.intro rfl trivial))))))
      · dsimp only [cmpI] at c33
        refine AW.go 1 (pc' := 38) rfl ?_
        refine AW.ret rfl rfl (Nat.le_refl _) (Nat.le_refl _) ?_
        refine ⟨congrArg some ?_, rfl⟩
        rw [hi, hs, if_neg c33]
set_option maxHeartbeats 2000000 in
theorem c_X4_comparedGroups (d : Nat) (hd : 3 ≤ d) (h : List AC) (pm rf gm ka wr : Int) (hO : h[29]? = some (ao 4 (mo pm rf gm ka wr))) (m : Nat → Int) (hM : h[30]? = some (ai 0 48 m)) (hm : mt m) (r N F G : Int) (rr : 0 ≤ r ∧ r < 4) (rN : 0 ≤ N ∧ N ≤ 12) (rF : 0 ≤ F ∧ F < 48) (rG : 0 ≤ G ∧ G < 48) : MF zX4_comparedGroups d [vr 29, vi r, vi N, vi F, vi G] h (cpG (rwm m r) N F G) h := by
  refine M0.of okX4_comparedGroups (Nat.le_of_ble_eq_true rfl) ?_
  refine AW.go 2 (pc' := 3) rfl ?_
  refine AW.lw ?_ (l_X4_comparedGroups d hd h pm rf gm ka wr hO m hM hm r N F G rr rN rF rG _ 0 (by omega) (by omega) (by first | rfl | (rw [Int.sub_zero]; rfl)) (Nat.lt_succ_self _))
  exact (And.intro rfl (And.intro rfl (And.intro rfl (And.intro rfl (And.intro rfl (And.intro rfl trivial))))))
theorem cpd_b (a b : Nat → Int) (ha : ∀ j, 0 ≤ a j ∧ a j < 12) (hb : ∀ j, 0 ≤ b j ∧ b j < 12) : ∀ n k, -12 < cpd a b n k ∧ cpd a b n k < 12
  | 0, k => ⟨by show (-12 : Int) < 0; decide, by show (0 : Int) < 12; decide⟩
  | n + 1, k => by
    have h1 := ha k
    have h2 := hb k
    have h3 := cpd_b a b ha hb n (k + 1)
    unfold cpd
    split <;> omega
theorem cpF_b (f : Nat → Int) (F G : Int) : -12 < cpF f F G ∧ cpF f F G < 12 := cpd_b _ _ (fun _ => ft_b _ _ _ _) (fun _ => ft_b _ _ _ _) _ _
theorem cpG_b (f : Nat → Int) (N F G : Int) : -12 < cpG f N F G ∧ cpG f N F G < 12 := cpd_b _ _ (fun _ => ft_b _ _ _ _) (fun _ => ft_b _ _ _ _) _ _
set_option maxHeartbeats 4000000 in
theorem l_X4_canonForm (d : Nat) (hd : 4 ≤ d) (h : List AC) (pm rf gm ka wr : Int) (hO : h[29]? = some (ao 4 (mo pm rf gm ka wr))) (m : Nat → Int) (hM : h[30]? = some (ai 0 48 m)) (hm : mt m) (r : Int) (rr : 0 ≤ r ∧ r < 4) : ∀ (n : Nat) (k : Int) (c : Int), (1 ≤ k) → (k ≤ 48) → (c = lfm (rwm m r) (k - 1).toNat) → ((48 - k).toNat) < n → AW zX4_canonForm Eq (rmd d) 0 0 0 0 4 [(3, vi k), (2, vi c), (0, vr 29), (1, vi r)] [] h (RQ (lfm (rwm m r) 47) h) := by
  intro n
  induction n with
  | zero =>
    intro k c h0 h1 hc hn
    exact absurd hn (Nat.not_lt_zero _)
  | succ n ih =>
    intro k c h0 h1 hc hn
    have hb := lfm_b (rwm m r) (k - 1).toNat
    rw [← hc] at hb
    have hk1 : (((k - 1).toNat : Int) + 1) = k := by omega
    refine AW.go 2 (pc' := 7) rfl ?_
    refine AW.bi (tgt := 32) (pn := 10) rfl (by decide) rfl (by first | exact bI_rng _ | exact ⟨by omega, by omega⟩) (by first | exact bI_rng _ | exact ⟨by omega, by omega⟩) (fun c7 => ?_) (fun c7 => ?_)
    · dsimp only [cmpI] at c7
      refine AW.go 1 (pc' := 33) rfl ?_
      refine AW.ret rfl rfl (Nat.le_refl _) (Nat.le_refl _) ?_
      refine ⟨congrArg some ?_, rfl⟩
      rw [hc, show (k - 1).toNat = 47 by omega]
    · dsimp only [cmpI] at c7
      refine AW.go 4 (pc' := 14) rfl ?_
      refine AW.callVF (pn := 17) rfl rfl mlX4_109 (by first | assumption | exact set_self (by assumption) | exact set_ne (by first | assumption | omega | decide) (by first | assumption | exact set_self (by assumption) | exact set_ne (by first | assumption | omega | decide) (by assumption))) (c_X4_compared (d - 1) (by omega) _ _ _ _ _ _ (by assumption) _ (by assumption) (by assumption) _ _ _ (by omega) (by omega) (by omega)) rfl rfl (Nat.le_of_ble_eq_true rfl) ⟨by show d - 1 + 1 ≤ d; omega, by show 40 * (d - 1 + 1) ≤ 40 * d; omega⟩ ⟨Nat.zero_le _, Nat.zero_le _⟩ ?_
      have g1 := cpF_b (rwm m r) k c
      refine AW.br (tgt := 24) (pn := 20) rfl (by decide) rfl (by first | exact bI_rng _ | exact ⟨by omega, by omega⟩) (fun c17 => ?_) (fun c17 => ?_)
      · dsimp only [cmpI] at c17
        refine AW.go 4 (pc' := 4) rfl ?_
        first | (refine AW.lw ?_ (ih (k + 1) (k) (by omega) (by omega) ?_ (by omega)); exact (And.intro rfl (And.intro rfl (And.intro rfl (And.intro rfl trivial)))); rw [show (k + 1 - 1).toNat = (k - 1).toNat + 1 by omega]; unfold lfm; rw [← hc, hk1]; (first | rw [if_pos (by omega)] | rw [if_neg (by omega)])) | (refine AW.lw ?_ (ih (k + 1) (c) (by omega) (by omega) ?_ (by omega)); exact (And.intro rfl (And.intro rfl (And.intro rfl (And.intro rfl trivial)))); rw [show (k + 1 - 1).toNat = (k - 1).toNat + 1 by omega]; unfold lfm; rw [← hc, hk1]; (first | rw [if_pos (by omega)] | rw [if_neg (by omega)]))
      · dsimp only [cmpI] at c17
        refine AW.go 5 (pc' := 4) rfl ?_
        first | (refine AW.lw ?_ (ih (k + 1) (k) (by omega) (by omega) ?_ (by omega)); exact (And.intro rfl (And.intro rfl (And.intro rfl (And.intro rfl trivial)))); rw [show (k + 1 - 1).toNat = (k - 1).toNat + 1 by omega]; unfold lfm; rw [← hc, hk1]; (first | rw [if_pos (by omega)] | rw [if_neg (by omega)])) | (refine AW.lw ?_ (ih (k + 1) (c) (by omega) (by omega) ?_ (by omega)); exact (And.intro rfl (And.intro rfl (And.intro rfl (And.intro rfl trivial)))); rw [show (k + 1 - 1).toNat = (k - 1).toNat + 1 by omega]; unfold lfm; rw [← hc, hk1]; (first | rw [if_pos (by omega)] | rw [if_neg (by omega)]))
set_option maxHeartbeats 2000000 in
theorem c_X4_canonForm (d : Nat) (hd : 4 ≤ d) (h : List AC) (pm rf gm ka wr : Int) (hO : h[29]? = some (ao 4 (mo pm rf gm ka wr))) (m : Nat → Int) (hM : h[30]? = some (ai 0 48 m)) (hm : mt m) (r : Int) (rr : 0 ≤ r ∧ r < 4) : MF zX4_canonForm d [vr 29, vi r] h (lfm (rwm m r) 47) h := by
  refine M0.of okX4_canonForm (Nat.le_of_ble_eq_true rfl) ?_
  refine AW.go 4 (pc' := 4) rfl ?_
  refine AW.lw ?_ (l_X4_canonForm d hd h pm rf gm ka wr hO m hM hm r rr _ 1 0 (by omega) (by omega) rfl (Nat.lt_succ_self _))
  exact (And.intro rfl (And.intro rfl (And.intro rfl (And.intro rfl trivial))))
set_option maxHeartbeats 4000000 in
theorem li_X4_sizeOf (d : Nat) (hd : 4 ≤ d) (h : List AC) (pm rf gm ka wr : Int) (hO : h[29]? = some (ao 4 (mo pm rf gm ka wr))) (m : Nat → Int) (hM : h[30]? = some (ai 0 48 m)) (hm : mt m) (r : Int) (rr : 0 ≤ r ∧ r < 4) (k c : Int) (hk : 0 ≤ k ∧ k < 48) (Q : Option Int → List AC → Prop) (K : AW zX4_sizeOf Eq (rmd d) 0 0 0 0 51 [(4, vi (bI (allN (fun G => decide (¬ cpF (rwm m r) k (G : Int) = 0)) k.toNat = true))), (3, vi k), (2, vi c), (0, vr 29), (1, vi r)] [] h Q) : ∀ (n : Nat) (g : Int) (b : Bool), (0 ≤ g) → (g ≤ k) → (b = allN (fun G => decide (¬ cpF (rwm m r) k (G : Int) = 0)) g.toNat) → ((k - g).toNat) < n → AW zX4_sizeOf Eq (rmd d) 0 0 0 0 16 [(5, vi g), (4, vi (bI (b = true))), (3, vi k), (2, vi c), (0, vr 29), (1, vi r)] [] h Q := by
  intro n
  induction n with
  | zero =>
    intro g b h0 h1 hb hn
    exact absurd hn (Nat.not_lt_zero _)
  | succ n ih =>
    intro g b h0 h1 hb hn
    refine AW.go 2 (pc' := 19) rfl ?_
    refine AW.bi (tgt := 51) (pn := 22) rfl (by decide) rfl (by first | exact bI_rng _ | exact ⟨by omega, by omega⟩) (by first | exact bI_rng _ | exact ⟨by omega, by omega⟩) (fun c19 => ?_) (fun c19 => ?_)
    · dsimp only [cmpI] at c19
      have e : g = k := by omega
      subst e
      rw [hb]
      refine AW.lw ?_ K
      exact (And.intro rfl (And.intro rfl (And.intro rfl (And.intro rfl (And.intro rfl trivial)))))
    · dsimp only [cmpI] at c19
      refine AW.go 1 (pc' := 24) rfl ?_
      refine AW.bz (tgt := 42) (pn := 27) rfl (by decide) rfl (fun c24 => ?_) (fun c24 => ?_)
      · refine AW.go 4 (pc' := 16) rfl ?_
        first | (refine AW.lw ?_ (ih (g + 1) (true) (by omega) (by omega) ?_ (by omega)); exact (And.intro rfl (And.intro rfl (And.intro rfl (And.intro rfl (And.intro rfl (And.intro rfl trivial)))))); rw [allN_s h0, ← hb, kk h0]; (first | (rw [eq_false_of_ne_true c24]; rfl) | (rw [c24, decide_eq_false (Decidable.not_not.mpr c35)]; rfl) | (rw [c24, decide_eq_true c35]; rfl))) | (refine AW.lw ?_ (ih (g + 1) (false) (by omega) (by omega) ?_ (by omega)); exact (And.intro rfl (And.intro rfl (And.intro rfl (And.intro rfl (And.intro rfl (And.intro rfl trivial)))))); rw [allN_s h0, ← hb, kk h0]; (first | (rw [eq_false_of_ne_true c24]; rfl) | (rw [c24, decide_eq_false (Decidable.not_not.mpr c35)]; rfl) | (rw [c24, decide_eq_true c35]; rfl)))
      · refine AW.go 4 (pc' := 32) rfl ?_
        refine AW.callVF (pn := 35) rfl rfl mlX4_109 (by first | assumption | exact set_self (by assumption) | exact set_ne (by first | assumption | omega | decide) (by first | assumption | exact set_self (by assumption) | exact set_ne (by first | assumption | omega | decide) (by assumption))) (c_X4_compared (d - 1) (by omega) _ _ _ _ _ _ (by assumption) _ (by assumption) (by assumption) _ _ _ (by omega) (by omega) (by omega)) rfl rfl (Nat.le_of_ble_eq_true rfl) ⟨by show d - 1 + 1 ≤ d; omega, by show 40 * (d - 1 + 1) ≤ 40 * d; omega⟩ ⟨Nat.zero_le _, Nat.zero_le _⟩ ?_
        have g1 := cpF_b (rwm m r) k g
        refine AW.br (tgt := 42) (pn := 38) rfl (by decide) rfl (by first | exact bI_rng _ | exact ⟨by omega, by omega⟩) (fun c35 => ?_) (fun c35 => ?_)
        · dsimp only [cmpI] at c35
          refine AW.go 4 (pc' := 16) rfl ?_
          first | (refine AW.lw ?_ (ih (g + 1) (true) (by omega) (by omega) ?_ (by omega)); exact (And.intro rfl (And.intro rfl (And.intro rfl (And.intro rfl (And.intro rfl (And.intro rfl trivial)))))); rw [allN_s h0, ← hb, kk h0]; (first | (rw [eq_false_of_ne_true c24]; rfl) | (rw [c24, decide_eq_false (Decidable.not_not.mpr c35)]; rfl) | (rw [c24, decide_eq_true c35]; rfl))) | (refine AW.lw ?_ (ih (g + 1) (false) (by omega) (by omega) ?_ (by omega)); exact (And.intro rfl (And.intro rfl (And.intro rfl (And.intro rfl (And.intro rfl (And.intro rfl trivial)))))); rw [allN_s h0, ← hb, kk h0]; (first | (rw [eq_false_of_ne_true c24]; rfl) | (rw [c24, decide_eq_false (Decidable.not_not.mpr c35)]; rfl) | (rw [c24, decide_eq_true c35]; rfl)))
        · dsimp only [cmpI] at c35
          refine AW.go 5 (pc' := 16) rfl ?_
          first | (refine AW.lw ?_ (ih (g + 1) (true) (by omega) (by omega) ?_ (by omega)); exact (And.intro rfl (And.intro rfl (And.intro rfl (And.intro rfl (And.intro rfl (And.intro rfl trivial)))))); rw [allN_s h0, ← hb, kk h0]; (first | (rw [eq_false_of_ne_true c24]; rfl) | (rw [c24, decide_eq_false (Decidable.not_not.mpr c35)]; rfl) | (rw [c24, decide_eq_true c35]; rfl))) | (refine AW.lw ?_ (ih (g + 1) (false) (by omega) (by omega) ?_ (by omega)); exact (And.intro rfl (And.intro rfl (And.intro rfl (And.intro rfl (And.intro rfl (And.intro rfl trivial)))))); rw [allN_s h0, ← hb, kk h0]; (first | (rw [eq_false_of_ne_true c24]; rfl) | (rw [c24, decide_eq_false (Decidable.not_not.mpr c35)]; rfl) | (rw [c24, decide_eq_true c35]; rfl)))
set_option maxHeartbeats 4000000 in
theorem l_X4_sizeOf (d : Nat) (hd : 4 ≤ d) (h : List AC) (pm rf gm ka wr : Int) (hO : h[29]? = some (ao 4 (mo pm rf gm ka wr))) (m : Nat → Int) (hM : h[30]? = some (ai 0 48 m)) (hm : mt m) (r : Int) (rr : 0 ≤ r ∧ r < 4) : ∀ (n : Nat) (k : Int) (c : Int), (0 ≤ k) → (k ≤ 48) → (c = (frs (rwm m r) k.toNat : Int)) → ((48 - k).toNat) < n → AW zX4_sizeOf Eq (rmd d) 0 0 0 0 4 [(3, vi k), (2, vi c), (0, vr 29), (1, vi r)] [] h (RQ (frs (rwm m r) 48 : Int) h) := by
  intro n
  induction n with
  | zero =>
    intro k c h0 h1 hc hn
    exact absurd hn (Nat.not_lt_zero _)
  | succ n ih =>
    intro k c h0 h1 hc hn
    refine AW.go 2 (pc' := 7) rfl ?_
    refine AW.bi (tgt := 70) (pn := 10) rfl (by decide) rfl (by first | exact bI_rng _ | exact ⟨by omega, by omega⟩) (by first | exact bI_rng _ | exact ⟨by omega, by omega⟩) (fun c7 => ?_) (fun c7 => ?_)
    · dsimp only [cmpI] at c7
      refine AW.go 1 (pc' := 71) rfl ?_
      refine AW.ret rfl rfl (Nat.le_refl _) (Nat.le_refl _) ?_
      refine ⟨congrArg some ?_, rfl⟩
      rw [hc, show k.toNat = 48 by omega]
    · dsimp only [cmpI] at c7
      refine AW.go 4 (pc' := 16) rfl ?_
      refine AW.lw ?_ (li_X4_sizeOf d hd h pm rf gm ka wr hO m hM hm r rr k c ⟨h0, by omega⟩ _ ?_ _ 0 true (by omega) (by omega) rfl (Nat.lt_succ_self _))
      · exact (And.intro rfl (And.intro rfl (And.intro rfl (And.intro rfl (And.intro rfl (And.intro rfl trivial))))))
      · refine AW.go 2 (pc' := 54) rfl ?_
        refine AW.bz (tgt := 61) (pn := 57) rfl (by decide) rfl (fun c54 => ?_) (fun c54 => ?_)
        · refine AW.go 5 (pc' := 4) rfl ?_
          first | (refine AW.lw ?_ (ih (k + 1) (c + 1) (by omega) (by omega) ?_ (by omega)); exact (And.intro rfl (And.intro rfl (And.intro rfl (And.intro rfl trivial)))); unfold frs; rw [cntN_s h0, kk h0]; (first | rw [if_pos c54] | rw [if_neg c54]); rw [hc]; rfl) | (refine AW.lw ?_ (ih (k + 1) (c + 0) (by omega) (by omega) ?_ (by omega)); exact (And.intro rfl (And.intro rfl (And.intro rfl (And.intro rfl trivial)))); unfold frs; rw [cntN_s h0, kk h0]; (first | rw [if_pos c54] | rw [if_neg c54]); rw [hc]; rfl)
        · refine AW.go 6 (pc' := 4) rfl ?_
          first | (refine AW.lw ?_ (ih (k + 1) (c + 1) (by omega) (by omega) ?_ (by omega)); exact (And.intro rfl (And.intro rfl (And.intro rfl (And.intro rfl trivial)))); unfold frs; rw [cntN_s h0, kk h0]; (first | rw [if_pos c54] | rw [if_neg c54]); rw [hc]; rfl) | (refine AW.lw ?_ (ih (k + 1) (c + 0) (by omega) (by omega) ?_ (by omega)); exact (And.intro rfl (And.intro rfl (And.intro rfl (And.intro rfl trivial)))); unfold frs; rw [cntN_s h0, kk h0]; (first | rw [if_pos c54] | rw [if_neg c54]); rw [hc]; rfl)
set_option maxHeartbeats 2000000 in
theorem c_X4_sizeOf (d : Nat) (hd : 4 ≤ d) (h : List AC) (pm rf gm ka wr : Int) (hO : h[29]? = some (ao 4 (mo pm rf gm ka wr))) (m : Nat → Int) (hM : h[30]? = some (ai 0 48 m)) (hm : mt m) (r : Int) (rr : 0 ≤ r ∧ r < 4) : MF zX4_sizeOf d [vr 29, vi r] h (frs (rwm m r) 48 : Int) h := by
  refine M0.of okX4_sizeOf (Nat.le_of_ble_eq_true rfl) ?_
  refine AW.go 4 (pc' := 4) rfl ?_
  refine AW.lw ?_ (l_X4_sizeOf d hd h pm rf gm ka wr hO m hM hm r rr _ 0 0 (by omega) (by omega) rfl (Nat.lt_succ_self _))
  exact (And.intro rfl (And.intro rfl (And.intro rfl (And.intro rfl trivial))))
set_option maxHeartbeats 4000000 in
theorem l_X4_isLeading (d : Nat) (hd : 3 ≤ d) (h : List AC) (pm rf gm ka wr : Int) (hO : h[29]? = some (ao 4 (mo pm rf gm ka wr))) (m : Nat → Int) (hM : h[30]? = some (ai 0 48 m)) (hm : mt m) (r F o : Int) (rr : 0 ≤ r ∧ r < 4) (rF : 0 ≤ F ∧ F < 48) (ro : 0 ≤ o ∧ o < 4) : ∀ (n : Nat) (k : Int) (b : Bool), (0 ≤ k) → (k ≤ 12) → (b = allN (fun j => decide (ft (rwm m r) 12 F (j : Int) = rwm m o (0 + (j : Int)).toNat)) k.toNat) → ((12 - k).toNat) < n → AW zX4_isLeading Eq (rmd d) 0 0 0 0 6 [(5, vi k), (4, vi (bI (b = true))), (0, vr 29), (1, vi r), (2, vi F), (3, vi o)] [] h (RQ (bI (isf (rwm m r) 12 F (rwm m o) 0 = true)) h) := by
  intro n
  induction n with
  | zero =>
    intro k b h0 h1 hb hn
    exact absurd hn (Nat.not_lt_zero _)
  | succ n ih =>
    intro k b h0 h1 hb hn
    refine AW.go 2 (pc' := 10) rfl ?_
    refine AW.bi (tgt := 49) (pn := 13) rfl (by decide) rfl (by first | exact bI_rng _ | exact ⟨by omega, by omega⟩) (by first | exact bI_rng _ | exact ⟨by omega, by omega⟩) (fun c10 => ?_) (fun c10 => ?_)
    · dsimp only [cmpI] at c10
      refine AW.go 1 (pc' := 51) rfl ?_
      refine AW.retz rfl rfl (by first | exact bI_01 _ | decide) (Nat.le_refl _) (Nat.le_refl _) ?_
      refine ⟨congrArg some ?_, rfl⟩
      rw [hb, show k.toNat = 12 by omega]
      rfl
    · dsimp only [cmpI] at c10
      refine AW.go 1 (pc' := 15) rfl ?_
      refine AW.bz (tgt := 40) (pn := 18) rfl (by decide) rfl (fun c15 => ?_) (fun c15 => ?_)
      · refine AW.go 4 (pc' := 6) rfl ?_
        first | (refine AW.lw ?_ (ih (k + 1) (true) (by omega) (by omega) ?_ (by omega)); exact (And.intro rfl (And.intro rfl (And.intro rfl (And.intro rfl (And.intro rfl (And.intro rfl trivial)))))); rw [allN_s h0, ← hb, kk h0, Int.zero_add]; (first | (rw [eq_false_of_ne_true c15]; rfl) | (rw [c15, decide_eq_false c33]; rfl) | (rw [c15, decide_eq_true (Decidable.not_not.mp c33)]; rfl))) | (refine AW.lw ?_ (ih (k + 1) (false) (by omega) (by omega) ?_ (by omega)); exact (And.intro rfl (And.intro rfl (And.intro rfl (And.intro rfl (And.intro rfl (And.intro rfl trivial)))))); rw [allN_s h0, ← hb, kk h0, Int.zero_add]; (first | (rw [eq_false_of_ne_true c15]; rfl) | (rw [c15, decide_eq_false c33]; rfl) | (rw [c15, decide_eq_true (Decidable.not_not.mp c33)]; rfl)))
      · refine AW.go 4 (pc' := 23) rfl ?_
        refine AW.callVF (pn := 26) rfl rfl mlX4_105 (by first | assumption | exact set_self (by assumption) | exact set_ne (by first | assumption | omega | decide) (by first | assumption | exact set_self (by assumption) | exact set_ne (by first | assumption | omega | decide) (by assumption))) (c_X4_formAt (d - 1) (by omega) _ _ _ _ _ _ (by assumption) _ (by assumption) (by assumption) _ _ _ (by omega) (by omega) (by omega)) rfl rfl (Nat.le_of_ble_eq_true rfl) ⟨by show d - 1 + 1 ≤ d; omega, by show 40 * (d - 1 + 1) ≤ 40 * d; omega⟩ ⟨Nat.zero_le _, Nat.zero_le _⟩ ?_
        refine AW.go 3 (pc' := 30) rfl ?_
        refine AW.callVF (pn := 33) rfl rfl mlX4_89 (by first | assumption | exact set_self (by assumption) | exact set_ne (by first | assumption | omega | decide) (by first | assumption | exact set_self (by assumption) | exact set_ne (by first | assumption | omega | decide) (by assumption))) (c_X4_toneAt (d - 1) (by omega) _ _ _ _ _ _ (by assumption) _ (by assumption) (by assumption) _ _ (by omega) (by omega)) rfl rfl (Nat.le_of_ble_eq_true rfl) ⟨by show d - 1 + 1 ≤ d; omega, by show 40 * (d - 1 + 1) ≤ 40 * d; omega⟩ ⟨Nat.zero_le _, Nat.zero_le _⟩ ?_
        have g1 := ft_b (rwm m r) 12 F k
        have g2 := rwm_tn hm ro k.toNat (by omega)
        refine AW.bi (tgt := 40) (pn := 36) rfl (by decide) rfl (by first | exact bI_rng _ | exact ⟨by omega, by omega⟩) (by first | exact bI_rng _ | exact ⟨by omega, by omega⟩) (fun c33 => ?_) (fun c33 => ?_)
        · dsimp only [cmpI] at c33
          refine AW.go 4 (pc' := 6) rfl ?_
          first | (refine AW.lw ?_ (ih (k + 1) (true) (by omega) (by omega) ?_ (by omega)); exact (And.intro rfl (And.intro rfl (And.intro rfl (And.intro rfl (And.intro rfl (And.intro rfl trivial)))))); rw [allN_s h0, ← hb, kk h0, Int.zero_add]; (first | (rw [eq_false_of_ne_true c15]; rfl) | (rw [c15, decide_eq_false c33]; rfl) | (rw [c15, decide_eq_true (Decidable.not_not.mp c33)]; rfl))) | (refine AW.lw ?_ (ih (k + 1) (false) (by omega) (by omega) ?_ (by omega)); exact (And.intro rfl (And.intro rfl (And.intro rfl (And.intro rfl (And.intro rfl (And.intro rfl trivial)))))); rw [allN_s h0, ← hb, kk h0, Int.zero_add]; (first | (rw [eq_false_of_ne_true c15]; rfl) | (rw [c15, decide_eq_false c33]; rfl) | (rw [c15, decide_eq_true (Decidable.not_not.mp c33)]; rfl)))
        · dsimp only [cmpI] at c33
          refine AW.go 5 (pc' := 6) rfl ?_
          first | (refine AW.lw ?_ (ih (k + 1) (true) (by omega) (by omega) ?_ (by omega)); exact (And.intro rfl (And.intro rfl (And.intro rfl (And.intro rfl (And.intro rfl (And.intro rfl trivial)))))); rw [allN_s h0, ← hb, kk h0, Int.zero_add]; (first | (rw [eq_false_of_ne_true c15]; rfl) | (rw [c15, decide_eq_false c33]; rfl) | (rw [c15, decide_eq_true (Decidable.not_not.mp c33)]; rfl))) | (refine AW.lw ?_ (ih (k + 1) (false) (by omega) (by omega) ?_ (by omega)); exact (And.intro rfl (And.intro rfl (And.intro rfl (And.intro rfl (And.intro rfl (And.intro rfl trivial)))))); rw [allN_s h0, ← hb, kk h0, Int.zero_add]; (first | (rw [eq_false_of_ne_true c15]; rfl) | (rw [c15, decide_eq_false c33]; rfl) | (rw [c15, decide_eq_true (Decidable.not_not.mp c33)]; rfl)))
set_option maxHeartbeats 2000000 in
theorem c_X4_isLeading (d : Nat) (hd : 3 ≤ d) (h : List AC) (pm rf gm ka wr : Int) (hO : h[29]? = some (ao 4 (mo pm rf gm ka wr))) (m : Nat → Int) (hM : h[30]? = some (ai 0 48 m)) (hm : mt m) (r F o : Int) (rr : 0 ≤ r ∧ r < 4) (rF : 0 ≤ F ∧ F < 48) (ro : 0 ≤ o ∧ o < 4) : MF zX4_isLeading d [vr 29, vi r, vi F, vi o] h (bI (isf (rwm m r) 12 F (rwm m o) 0 = true)) h := by
  refine M0.of okX4_isLeading (Nat.le_of_ble_eq_true rfl) ?_
  refine AW.go 4 (pc' := 6) rfl ?_
  refine AW.lw ?_ (l_X4_isLeading d hd h pm rf gm ka wr hO m hM hm r F o rr rF ro _ 0 true (by omega) (by omega) rfl (Nat.lt_succ_self _))
  exact (And.intro rfl (And.intro rfl (And.intro rfl (And.intro rfl (And.intro rfl (And.intro rfl trivial))))))
set_option maxHeartbeats 2000000 in
theorem c_X4_stepAt (d : Nat) (hd : 1 ≤ d) (h : List AC) (pm rf gm ka wr : Int) (hO : h[29]? = some (ao 4 (mo pm rf gm ka wr))) (m : Nat → Int) (hM : h[30]? = some (ai 0 48 m)) (hm : mt m) (r i : Int) (rr : 0 ≤ r ∧ r < 4) (ri : 0 ≤ i ∧ i < 11) : MF zX4_stepAt d [vr 29, vi r, vi i] h (stp (rwm m r) i) h := by
  refine M0.of okX4_stepAt (Nat.le_of_ble_eq_true rfl) ?_
  refine AW.go 5 (pc' := 5) rfl ?_
  refine AW.callVF (pn := 8) rfl rfl mlX4_89 (by first | assumption | exact set_self (by assumption) | exact set_ne (by first | assumption | omega | decide) (by first | assumption | exact set_self (by assumption) | exact set_ne (by first | assumption | omega | decide) (by assumption))) (c_X4_toneAt (d - 1) (by omega) _ _ _ _ _ _ (by assumption) _ (by assumption) (by assumption) _ _ (by omega) (by omega)) rfl rfl (Nat.le_of_ble_eq_true rfl) ⟨by show d - 1 + 1 ≤ d; omega, by show 40 * (d - 1 + 1) ≤ 40 * d; omega⟩ ⟨Nat.zero_le _, Nat.zero_le _⟩ ?_
  refine AW.go 3 (pc' := 11) rfl ?_
  refine AW.callVF (pn := 14) rfl rfl mlX4_89 (by first | assumption | exact set_self (by assumption) | exact set_ne (by first | assumption | omega | decide) (by first | assumption | exact set_self (by assumption) | exact set_ne (by first | assumption | omega | decide) (by assumption))) (c_X4_toneAt (d - 1) (by omega) _ _ _ _ _ _ (by assumption) _ (by assumption) (by assumption) _ _ (by omega) (by omega)) rfl rfl (Nat.le_of_ble_eq_true rfl) ⟨by show d - 1 + 1 ≤ d; omega, by show 40 * (d - 1 + 1) ≤ 40 * d; omega⟩ ⟨Nat.zero_le _, Nat.zero_le _⟩ ?_
  refine AW.go 4 (pc' := 20) rfl ?_
  have g1 := rwm_tn hm rr (i + 1).toNat (by omega)
  have g2 := rwm_tn hm rr i.toNat (by omega)
  refine AW.irem (pn := 21) rfl rfl (by omega) (by omega) (by omega) (by omega) ?_
  refine AW.ret rfl rfl (Nat.le_refl _) (Nat.le_refl _) ?_
  refine ⟨congrArg some ?_, rfl⟩
  unfold stp
  omega
set_option maxHeartbeats 4000000 in
theorem l_X4_unlikeSteps (d : Nat) (hd : 2 ≤ d) (h : List AC) (pm rf gm ka wr : Int) (hO : h[29]? = some (ao 4 (mo pm rf gm ka wr))) (m : Nat → Int) (hM : h[30]? = some (ai 0 48 m)) (hm : mt m) (r : Int) (rr : 0 ≤ r ∧ r < 4) : ∀ (n : Nat) (k : Int) (c : Int) (x : Nat), (0 ≤ k) → (k ≤ 11) → (c = (ust (rwm m r) k.toNat : Int)) → (x = sbt (rwm m r) k.toNat) → ((11 - k).toNat) < n → AW zX4_unlikeSteps Eq (rmd d) 0 0 0 0 7 [(4, vi k), (3, vi c), (2, vi (x : Int)), (0, vr 29), (1, vi r)] [] h (RQ (ust (rwm m r) 11 : Int) h) := by
  intro n
  induction n with
  | zero =>
    intro k c x h0 h1 hc hx hn
    exact absurd hn (Nat.not_lt_zero _)
  | succ n ih =>
    intro k c x h0 h1 hc hx hn
    refine AW.go 2 (pc' := 11) rfl ?_
    refine AW.bi (tgt := 53) (pn := 14) rfl (by decide) rfl (by first | exact bI_rng _ | exact ⟨by omega, by omega⟩) (by first | exact bI_rng _ | exact ⟨by omega, by omega⟩) (fun c11 => ?_) (fun c11 => ?_)
    · dsimp only [cmpI] at c11
      refine AW.go 1 (pc' := 54) rfl ?_
      refine AW.ret rfl rfl (Nat.le_refl _) (Nat.le_refl _) ?_
      refine ⟨congrArg some ?_, rfl⟩
      rw [hc, show k.toNat = 11 by omega]
    · dsimp only [cmpI] at c11
      refine AW.go 3 (pc' := 18) rfl ?_
      refine AW.callVF (pn := 21) rfl rfl mlX4_124 (by first | assumption | exact set_self (by assumption) | exact set_ne (by first | assumption | omega | decide) (by first | assumption | exact set_self (by assumption) | exact set_ne (by first | assumption | omega | decide) (by assumption))) (c_X4_stepAt (d - 1) (by omega) _ _ _ _ _ _ (by assumption) _ (by assumption) (by assumption) _ _ (by omega) (by omega)) rfl rfl (Nat.le_of_ble_eq_true rfl) ⟨by show d - 1 + 1 ≤ d; omega, by show 40 * (d - 1 + 1) ≤ 40 * d; omega⟩ ⟨Nat.zero_le _, Nat.zero_le _⟩ ?_
      refine AW.go 4 (pc' := 27) rfl ?_
      have g1 : 0 ≤ stp (rwm m r) k ∧ stp (rwm m r) k < 12 := by unfold stp; omega
      have g2 := sbt_lt (rwm m r) k.toNat
      rw [← hx] at g2
      have g3 := @shr_nn x (stp (rwm m r) k)
      refine AW.ishr (pn := 28) rfl rfl (by first | exact bI_rng _ | exact ⟨by omega, by omega⟩) (by omega) (by omega) ?_
      refine AW.go 1 (pc' := 29) rfl ?_
      refine AW.iand (pn := 30) rfl rfl (by omega) (by omega) ?_
      rw [shr_bit g1.1]
      have hbb : (if x.testBit (stp (rwm m r) k).toNat = true then (1 : Int) else 0) = bI (x.testBit (stp (rwm m r) k).toNat = true) := rfl
      rw [hbb]
      refine AW.bnz (tgt := 37) (pn := 33) rfl (by decide) rfl (fun c30 => ?_) (fun c30 => ?_)
      · refine AW.go 6 (pc' := 44) rfl ?_
        refine AW.shl1 (pn := 45) rfl rfl (by omega) (by omega) ?_
        refine AW.orN (pn := 46) rfl rfl ?_
        refine AW.go 3 (pc' := 7) rfl ?_
        first | (refine AW.lw ?_ (ih (k + 1) (c + 1) (x ||| 2 ^ (stp (rwm m r) k).toNat) (by omega) (by omega) ?_ ?_ (by omega)); exact (And.intro rfl (And.intro rfl (And.intro rfl (And.intro rfl (And.intro rfl trivial))))); (rw [k1 h0]; unfold ust; rw [kk h0, ← hx, hc]; (first | (rw [if_pos c30]; rfl) | (rw [if_neg c30]; rfl))); (rw [k1 h0]; unfold sbt; rw [kk h0, ← hx])) | (refine AW.lw ?_ (ih (k + 1) (c + 0) (x ||| 2 ^ (stp (rwm m r) k).toNat) (by omega) (by omega) ?_ ?_ (by omega)); exact (And.intro rfl (And.intro rfl (And.intro rfl (And.intro rfl (And.intro rfl trivial))))); (rw [k1 h0]; unfold ust; rw [kk h0, ← hx, hc]; (first | (rw [if_pos c30]; rfl) | (rw [if_neg c30]; rfl))); (rw [k1 h0]; unfold sbt; rw [kk h0, ← hx]))
      · refine AW.go 7 (pc' := 44) rfl ?_
        refine AW.shl1 (pn := 45) rfl rfl (by omega) (by omega) ?_
        refine AW.orN (pn := 46) rfl rfl ?_
        refine AW.go 3 (pc' := 7) rfl ?_
        first | (refine AW.lw ?_ (ih (k + 1) (c + 1) (x ||| 2 ^ (stp (rwm m r) k).toNat) (by omega) (by omega) ?_ ?_ (by omega)); exact (And.intro rfl (And.intro rfl (And.intro rfl (And.intro rfl (And.intro rfl trivial))))); (rw [k1 h0]; unfold ust; rw [kk h0, ← hx, hc]; (first | (rw [if_pos c30]; rfl) | (rw [if_neg c30]; rfl))); (rw [k1 h0]; unfold sbt; rw [kk h0, ← hx])) | (refine AW.lw ?_ (ih (k + 1) (c + 0) (x ||| 2 ^ (stp (rwm m r) k).toNat) (by omega) (by omega) ?_ ?_ (by omega)); exact (And.intro rfl (And.intro rfl (And.intro rfl (And.intro rfl (And.intro rfl trivial))))); (rw [k1 h0]; unfold ust; rw [kk h0, ← hx, hc]; (first | (rw [if_pos c30]; rfl) | (rw [if_neg c30]; rfl))); (rw [k1 h0]; unfold sbt; rw [kk h0, ← hx]))
set_option maxHeartbeats 2000000 in
theorem c_X4_unlikeSteps (d : Nat) (hd : 2 ≤ d) (h : List AC) (pm rf gm ka wr : Int) (hO : h[29]? = some (ao 4 (mo pm rf gm ka wr))) (m : Nat → Int) (hM : h[30]? = some (ai 0 48 m)) (hm : mt m) (r : Int) (rr : 0 ≤ r ∧ r < 4) : MF zX4_unlikeSteps d [vr 29, vi r] h (ust (rwm m r) 11 : Int) h := by
  refine M0.of okX4_unlikeSteps (Nat.le_of_ble_eq_true rfl) ?_
  refine AW.go 6 (pc' := 7) rfl ?_
  refine AW.lw ?_ (l_X4_unlikeSteps d hd h pm rf gm ka wr hO m hM hm r rr _ 0 0 0 (by omega) (by omega) rfl rfl (Nat.lt_succ_self _))
  exact (And.intro rfl (And.intro rfl (And.intro rfl (And.intro rfl (And.intro rfl trivial)))))
set_option maxHeartbeats 4000000 in
theorem l_X4_setAt (d : Nat) (hd : 3 ≤ d) (h : List AC) (pm rf gm ka wr : Int) (hO : h[29]? = some (ao 4 (mo pm rf gm ka wr))) (m : Nat → Int) (hM : h[30]? = some (ai 0 48 m)) (hm : mt m) (r F S N : Int) (rr : 0 ≤ r ∧ r < 4) (rF : 0 ≤ F ∧ F < 48) (rS : 0 ≤ S ∧ 0 ≤ N ∧ S + N ≤ 12) : ∀ (n : Nat) (k : Int) (x : Nat), (S ≤ k) → (k ≤ S + N) → (x = fst12 (rwm m r) F S (k - S).toNat) → ((S + N - k).toNat) < n → AW zX4_setAt Eq (rmd d) 0 0 0 0 6 [(6, vi k), (5, vi (x : Int)), (0, vr 29), (1, vi r), (2, vi F), (3, vi S), (4, vi N)] [] h (RQ (fst12 (rwm m r) F S N.toNat : Int) h) := by
  intro n
  induction n with
  | zero =>
    intro k x h0 h1 hc hn
    exact absurd hn (Nat.not_lt_zero _)
  | succ n ih =>
    intro k x h0 h1 hc hn
    refine AW.go 4 (pc' := 12) rfl ?_
    refine AW.bi (tgt := 36) (pn := 15) rfl (by decide) rfl (by first | exact bI_rng _ | exact ⟨by omega, by omega⟩) (by first | exact bI_rng _ | exact ⟨by omega, by omega⟩) (fun c12 => ?_) (fun c12 => ?_)
    · dsimp only [cmpI] at c12
      refine AW.go 1 (pc' := 38) rfl ?_
      refine AW.ret rfl rfl (Nat.le_refl _) (Nat.le_refl _) ?_
      have e : (k - S).toNat = N.toNat := by omega
      rw [e] at hc
      subst hc
      exact ⟨rfl, rfl⟩
    · dsimp only [cmpI] at c12
      refine AW.go 6 (pc' := 23) rfl ?_
      refine AW.callVF (pn := 26) rfl rfl mlX4_105 (by first | assumption | exact set_self (by assumption) | exact set_ne (by first | assumption | omega | decide) (by first | assumption | exact set_self (by assumption) | exact set_ne (by first | assumption | omega | decide) (by assumption))) (c_X4_formAt (d - 1) (by omega) _ _ _ _ _ _ (by assumption) _ (by assumption) (by assumption) _ _ _ (by omega) (by omega) (by omega)) rfl rfl (Nat.le_of_ble_eq_true rfl) ⟨by show d - 1 + 1 ≤ d; omega, by show 40 * (d - 1 + 1) ≤ 40 * d; omega⟩ ⟨Nat.zero_le _, Nat.zero_le _⟩ ?_
      have g1 := ft_b (rwm m r) 12 F k
      refine AW.shl1 (pn := 27) rfl rfl (by omega) (by omega) ?_
      refine AW.orN (pn := 28) rfl rfl ?_
      refine AW.go 3 (pc' := 6) rfl ?_
      first | (refine AW.lw ?_ (ih (k + 1) (x ||| 2 ^ (ft (rwm m r) 12 F k).toNat) (by omega) (by omega) ?_ (by omega)); exact (And.intro rfl (And.intro rfl (And.intro rfl (And.intro rfl (And.intro rfl (And.intro rfl (And.intro rfl trivial))))))); rw [show (k + 1 - S).toNat = (k - S).toNat + 1 by omega]; unfold fst12; rw [← hc, show S + ((k - S).toNat : Int) = k by omega])
set_option maxHeartbeats 2000000 in
theorem c_X4_setAt (d : Nat) (hd : 3 ≤ d) (h : List AC) (pm rf gm ka wr : Int) (hO : h[29]? = some (ao 4 (mo pm rf gm ka wr))) (m : Nat → Int) (hM : h[30]? = some (ai 0 48 m)) (hm : mt m) (r F S N : Int) (rr : 0 ≤ r ∧ r < 4) (rF : 0 ≤ F ∧ F < 48) (rS : 0 ≤ S ∧ 0 ≤ N ∧ S + N ≤ 12) : MF zX4_setAt d [vr 29, vi r, vi F, vi S, vi N] h (fst12 (rwm m r) F S N.toNat : Int) h := by
  refine M0.of okX4_setAt (Nat.le_of_ble_eq_true rfl) ?_
  refine AW.go 4 (pc' := 6) rfl ?_
  refine AW.lw ?_ (l_X4_setAt d hd h pm rf gm ka wr hO m hM hm r F S N rr rF rS _ S 0 (by omega) (by omega) (by rw [Int.sub_self]; rfl) (Nat.lt_succ_self _))
  exact (And.intro rfl (And.intro rfl (And.intro rfl (And.intro rfl (And.intro rfl (And.intro rfl (And.intro rfl trivial)))))))
set_option maxHeartbeats 4000000 in
theorem li_X4_isGroup (d : Nat) (hd : 3 ≤ d) (h : List AC) (pm rf gm ka wr : Int) (hO : h[29]? = some (ao 4 (mo pm rf gm ka wr))) (m : Nat → Int) (hM : h[30]? = some (ai 0 48 m)) (hm : mt m) (r N S : Int) (rr : 0 ≤ r ∧ r < 4) (rN : 0 ≤ N ∧ N ≤ 12) (rS : 0 ≤ S ∧ S + N ≤ 12) (k : Int) (a : Bool) (hk : 0 ≤ k ∧ k < 48) (Q : Option Int → List AC → Prop) (K : AW zX4_isGroup Eq (rmd d) 0 0 0 0 65 [(6, vi (bI (isf (rwm m r) N k (rwm m r) S = true))), (5, vi k), (4, vi (bI (a = true))), (0, vr 29), (1, vi r), (2, vi N), (3, vi S)] [] h Q) : ∀ (n : Nat) (g : Int) (b : Bool), (0 ≤ g) → (g ≤ N) → (b = allN (fun j => decide (ft (rwm m r) N k (j : Int) = rwm m r (S + (j : Int)).toNat)) g.toNat) → ((N - g).toNat) < n → AW zX4_isGroup Eq (rmd d) 0 0 0 0 19 [(7, vi g), (6, vi (bI (b = true))), (5, vi k), (4, vi (bI (a = true))), (0, vr 29), (1, vi r), (2, vi N), (3, vi S)] [] h Q := by
  intro n
  induction n with
  | zero =>
    intro g b h0 h1 hb hn
    exact absurd hn (Nat.not_lt_zero _)
  | succ n ih =>
    intro g b h0 h1 hb hn
    refine AW.go 2 (pc' := 22) rfl ?_
    refine AW.bi (tgt := 65) (pn := 25) rfl (by decide) rfl (by first | exact bI_rng _ | exact ⟨by omega, by omega⟩) (by first | exact bI_rng _ | exact ⟨by omega, by omega⟩) (fun c22 => ?_) (fun c22 => ?_)
    · dsimp only [cmpI] at c22
      have e : g = N := by omega
      subst e
      rw [hb]
      refine AW.lw ?_ K
      exact (And.intro rfl (And.intro rfl (And.intro rfl (And.intro rfl (And.intro rfl (And.intro rfl (And.intro rfl trivial)))))))
    · dsimp only [cmpI] at c22
      refine AW.go 1 (pc' := 27) rfl ?_
      refine AW.bz (tgt := 56) (pn := 30) rfl (by decide) rfl (fun c27 => ?_) (fun c27 => ?_)
      · refine AW.go 4 (pc' := 19) rfl ?_
        first | (refine AW.lw ?_ (ih (g + 1) (true) (by omega) (by omega) ?_ (by omega)); exact (And.intro rfl (And.intro rfl (And.intro rfl (And.intro rfl (And.intro rfl (And.intro rfl (And.intro rfl (And.intro rfl trivial)))))))); rw [allN_s h0, ← hb, kk h0]; (first | (rw [eq_false_of_ne_true c27]; rfl) | (rw [c27, decide_eq_false c49]; rfl) | (rw [c27, decide_eq_true (Decidable.not_not.mp c49)]; rfl))) | (refine AW.lw ?_ (ih (g + 1) (false) (by omega) (by omega) ?_ (by omega)); exact (And.intro rfl (And.intro rfl (And.intro rfl (And.intro rfl (And.intro rfl (And.intro rfl (And.intro rfl (And.intro rfl trivial)))))))); rw [allN_s h0, ← hb, kk h0]; (first | (rw [eq_false_of_ne_true c27]; rfl) | (rw [c27, decide_eq_false c49]; rfl) | (rw [c27, decide_eq_true (Decidable.not_not.mp c49)]; rfl)))
      · refine AW.go 5 (pc' := 37) rfl ?_
        refine AW.callVF (pn := 40) rfl rfl mlX4_138 (by first | assumption | exact set_self (by assumption) | exact set_ne (by first | assumption | omega | decide) (by first | assumption | exact set_self (by assumption) | exact set_ne (by first | assumption | omega | decide) (by assumption))) (c_X4_groupAt (d - 1) (by omega) _ _ _ _ _ _ (by assumption) _ (by assumption) (by assumption) _ _ _ _ (by omega) (by omega) (by omega) (by omega)) rfl rfl (Nat.le_of_ble_eq_true rfl) ⟨by show d - 1 + 1 ≤ d; omega, by show 40 * (d - 1 + 1) ≤ 40 * d; omega⟩ ⟨Nat.zero_le _, Nat.zero_le _⟩ ?_
        refine AW.go 5 (pc' := 46) rfl ?_
        refine AW.callVF (pn := 49) rfl rfl mlX4_89 (by first | assumption | exact set_self (by assumption) | exact set_ne (by first | assumption | omega | decide) (by first | assumption | exact set_self (by assumption) | exact set_ne (by first | assumption | omega | decide) (by assumption))) (c_X4_toneAt (d - 1) (by omega) _ _ _ _ _ _ (by assumption) _ (by assumption) (by assumption) _ _ (by omega) (by omega)) rfl rfl (Nat.le_of_ble_eq_true rfl) ⟨by show d - 1 + 1 ≤ d; omega, by show 40 * (d - 1 + 1) ≤ 40 * d; omega⟩ ⟨Nat.zero_le _, Nat.zero_le _⟩ ?_
        have g1 := ft_b (rwm m r) N k g
        have g2 := rwm_tn hm rr (S + g).toNat (by omega)
        refine AW.bi (tgt := 56) (pn := 52) rfl (by decide) rfl (by first | exact bI_rng _ | exact ⟨by omega, by omega⟩) (by first | exact bI_rng _ | exact ⟨by omega, by omega⟩) (fun c49 => ?_) (fun c49 => ?_)
        · dsimp only [cmpI] at c49
          refine AW.go 4 (pc' := 19) rfl ?_
          first | (refine AW.lw ?_ (ih (g + 1) (true) (by omega) (by omega) ?_ (by omega)); exact (And.intro rfl (And.intro rfl (And.intro rfl (And.intro rfl (And.intro rfl (And.intro rfl (And.intro rfl (And.intro rfl trivial)))))))); rw [allN_s h0, ← hb, kk h0]; (first | (rw [eq_false_of_ne_true c27]; rfl) | (rw [c27, decide_eq_false c49]; rfl) | (rw [c27, decide_eq_true (Decidable.not_not.mp c49)]; rfl))) | (refine AW.lw ?_ (ih (g + 1) (false) (by omega) (by omega) ?_ (by omega)); exact (And.intro rfl (And.intro rfl (And.intro rfl (And.intro rfl (And.intro rfl (And.intro rfl (And.intro rfl (And.intro rfl trivial)))))))); rw [allN_s h0, ← hb, kk h0]; (first | (rw [eq_false_of_ne_true c27]; rfl) | (rw [c27, decide_eq_false c49]; rfl) | (rw [c27, decide_eq_true (Decidable.not_not.mp c49)]; rfl)))
        · dsimp only [cmpI] at c49
          refine AW.go 5 (pc' := 19) rfl ?_
          first | (refine AW.lw ?_ (ih (g + 1) (true) (by omega) (by omega) ?_ (by omega)); exact (And.intro rfl (And.intro rfl (And.intro rfl (And.intro rfl (And.intro rfl (And.intro rfl (And.intro rfl (And.intro rfl trivial)))))))); rw [allN_s h0, ← hb, kk h0]; (first | (rw [eq_false_of_ne_true c27]; rfl) | (rw [c27, decide_eq_false c49]; rfl) | (rw [c27, decide_eq_true (Decidable.not_not.mp c49)]; rfl))) | (refine AW.lw ?_ (ih (g + 1) (false) (by omega) (by omega) ?_ (by omega)); exact (And.intro rfl (And.intro rfl (And.intro rfl (And.intro rfl (And.intro rfl (And.intro rfl (And.intro rfl (And.intro rfl trivial)))))))); rw [allN_s h0, ← hb, kk h0]; (first | (rw [eq_false_of_ne_true c27]; rfl) | (rw [c27, decide_eq_false c49]; rfl) | (rw [c27, decide_eq_true (Decidable.not_not.mp c49)]; rfl)))
set_option maxHeartbeats 4000000 in
theorem l_X4_isGroup (d : Nat) (hd : 3 ≤ d) (h : List AC) (pm rf gm ka wr : Int) (hO : h[29]? = some (ao 4 (mo pm rf gm ka wr))) (m : Nat → Int) (hM : h[30]? = some (ai 0 48 m)) (hm : mt m) (r N S : Int) (rr : 0 ≤ r ∧ r < 4) (rN : 0 ≤ N ∧ N ≤ 12) (rS : 0 ≤ S ∧ S + N ≤ 12) : ∀ (n : Nat) (k : Int) (a : Bool), (0 ≤ k) → (k ≤ 48) → (a = anyN (fun F => isf (rwm m r) N (F : Int) (rwm m r) S) k.toNat) → ((48 - k).toNat) < n → AW zX4_isGroup Eq (rmd d) 0 0 0 0 6 [(5, vi k), (4, vi (bI (a = true))), (0, vr 29), (1, vi r), (2, vi N), (3, vi S)] [] h (RQ (bI (anyN (fun F => isf (rwm m r) N (F : Int) (rwm m r) S) 48 = true)) h) := by
  intro n
  induction n with
  | zero =>
    intro k a h0 h1 ha hn
    exact absurd hn (Nat.not_lt_zero _)
  | succ n ih =>
    intro k a h0 h1 ha hn
    refine AW.go 2 (pc' := 10) rfl ?_
    refine AW.bi (tgt := 88) (pn := 13) rfl (by decide) rfl (by first | exact bI_rng _ | exact ⟨by omega, by omega⟩) (by first | exact bI_rng _ | exact ⟨by omega, by omega⟩) (fun c10 => ?_) (fun c10 => ?_)
    · dsimp only [cmpI] at c10
      refine AW.go 1 (pc' := 90) rfl ?_
      refine AW.retz rfl rfl (by first | exact bI_01 _ | decide) (Nat.le_refl _) (Nat.le_refl _) ?_
      refine ⟨congrArg some ?_, rfl⟩
      rw [ha, show k.toNat = 48 by omega]
    · dsimp only [cmpI] at c10
      refine AW.go 4 (pc' := 19) rfl ?_
      refine AW.lw ?_ (li_X4_isGroup d hd h pm rf gm ka wr hO m hM hm r N S rr rN rS k a ⟨h0, by omega⟩ _ ?_ _ 0 true (by omega) (by omega) rfl (Nat.lt_succ_self _))
      · exact (And.intro rfl (And.intro rfl (And.intro rfl (And.intro rfl (And.intro rfl (And.intro rfl (And.intro rfl (And.intro rfl trivial))))))))
      · refine AW.go 1 (pc' := 67) rfl ?_
        refine AW.bnz (tgt := 75) (pn := 70) rfl (by decide) rfl (fun c67 => ?_) (fun c67 => ?_)
        · refine AW.go 5 (pc' := 6) rfl ?_
          first | (refine AW.lw ?_ (ih (k + 1) (true) (by omega) (by omega) ?_ (by omega)); exact (And.intro rfl (And.intro rfl (And.intro rfl (And.intro rfl (And.intro rfl (And.intro rfl trivial)))))); rw [anyN_s h0, ← ha, kk h0]; (first | (rw [c67]; rfl) | (rw [eq_false_of_ne_true c67, c72]; rfl) | (rw [eq_false_of_ne_true c67, eq_false_of_ne_true c72]; rfl))) | (refine AW.lw ?_ (ih (k + 1) (false) (by omega) (by omega) ?_ (by omega)); exact (And.intro rfl (And.intro rfl (And.intro rfl (And.intro rfl (And.intro rfl (And.intro rfl trivial)))))); rw [anyN_s h0, ← ha, kk h0]; (first | (rw [c67]; rfl) | (rw [eq_false_of_ne_true c67, c72]; rfl) | (rw [eq_false_of_ne_true c67, eq_false_of_ne_true c72]; rfl)))
        · refine AW.go 1 (pc' := 72) rfl ?_
          refine AW.bz (tgt := 79) (pn := 75) rfl (by decide) rfl (fun c72 => ?_) (fun c72 => ?_)
          · refine AW.go 4 (pc' := 6) rfl ?_
            first | (refine AW.lw ?_ (ih (k + 1) (true) (by omega) (by omega) ?_ (by omega)); exact (And.intro rfl (And.intro rfl (And.intro rfl (And.intro rfl (And.intro rfl (And.intro rfl trivial)))))); rw [anyN_s h0, ← ha, kk h0]; (first | (rw [c67]; rfl) | (rw [eq_false_of_ne_true c67, c72]; rfl) | (rw [eq_false_of_ne_true c67, eq_false_of_ne_true c72]; rfl))) | (refine AW.lw ?_ (ih (k + 1) (false) (by omega) (by omega) ?_ (by omega)); exact (And.intro rfl (And.intro rfl (And.intro rfl (And.intro rfl (And.intro rfl (And.intro rfl trivial)))))); rw [anyN_s h0, ← ha, kk h0]; (first | (rw [c67]; rfl) | (rw [eq_false_of_ne_true c67, c72]; rfl) | (rw [eq_false_of_ne_true c67, eq_false_of_ne_true c72]; rfl)))
          · refine AW.go 5 (pc' := 6) rfl ?_
            first | (refine AW.lw ?_ (ih (k + 1) (true) (by omega) (by omega) ?_ (by omega)); exact (And.intro rfl (And.intro rfl (And.intro rfl (And.intro rfl (And.intro rfl (And.intro rfl trivial)))))); rw [anyN_s h0, ← ha, kk h0]; (first | (rw [c67]; rfl) | (rw [eq_false_of_ne_true c67, c72]; rfl) | (rw [eq_false_of_ne_true c67, eq_false_of_ne_true c72]; rfl))) | (refine AW.lw ?_ (ih (k + 1) (false) (by omega) (by omega) ?_ (by omega)); exact (And.intro rfl (And.intro rfl (And.intro rfl (And.intro rfl (And.intro rfl (And.intro rfl trivial)))))); rw [anyN_s h0, ← ha, kk h0]; (first | (rw [c67]; rfl) | (rw [eq_false_of_ne_true c67, c72]; rfl) | (rw [eq_false_of_ne_true c67, eq_false_of_ne_true c72]; rfl)))
set_option maxHeartbeats 2000000 in
theorem c_X4_isGroup (d : Nat) (hd : 3 ≤ d) (h : List AC) (pm rf gm ka wr : Int) (hO : h[29]? = some (ao 4 (mo pm rf gm ka wr))) (m : Nat → Int) (hM : h[30]? = some (ai 0 48 m)) (hm : mt m) (r N S : Int) (rr : 0 ≤ r ∧ r < 4) (rN : 0 ≤ N ∧ N ≤ 12) (rS : 0 ≤ S ∧ S + N ≤ 12) : MF zX4_isGroup d [vr 29, vi r, vi N, vi S] h (bI (anyN (fun F => isf (rwm m r) N (F : Int) (rwm m r) S) 48 = true)) h := by
  refine M0.of okX4_isGroup (Nat.le_of_ble_eq_true rfl) ?_
  refine AW.go 4 (pc' := 6) rfl ?_
  refine AW.lw ?_ (l_X4_isGroup d hd h pm rf gm ka wr hO m hM hm r N S rr rN rS _ 0 false (by omega) (by omega) rfl (Nat.lt_succ_self _))
  exact (And.intro rfl (And.intro rfl (And.intro rfl (And.intro rfl (And.intro rfl (And.intro rfl trivial))))))
set_option maxHeartbeats 4000000 in
theorem l_X4_firstSet (d : Nat) (hd : 1 ≤ d) (h : List AC) (pm rf gm ka wr : Int) (hO : h[29]? = some (ao 4 (mo pm rf gm ka wr))) (m : Nat → Int) (hM : h[30]? = some (ai 0 48 m)) (hm : mt m) (r N : Int) (rr : 0 ≤ r ∧ r < 4) (rN : 0 ≤ N ∧ N ≤ 12) : ∀ (n : Nat) (k : Int) (x : Nat), (0 ≤ k) → (k ≤ N) → (x = fs0 (rwm m r) k.toNat) → ((N - k).toNat) < n → AW zX4_firstSet Eq (rmd d) 0 0 0 0 5 [(4, vi k), (3, vi (x : Int)), (0, vr 29), (1, vi r), (2, vi N)] [] h (RQ (fs0 (rwm m r) N.toNat : Int) h) := by
  intro n
  induction n with
  | zero =>
    intro k x h0 h1 hc hn
    exact absurd hn (Nat.not_lt_zero _)
  | succ n ih =>
    intro k x h0 h1 hc hn
    refine AW.go 2 (pc' := 8) rfl ?_
    refine AW.bi (tgt := 29) (pn := 11) rfl (by decide) rfl (by first | exact bI_rng _ | exact ⟨by omega, by omega⟩) (by first | exact bI_rng _ | exact ⟨by omega, by omega⟩) (fun c8 => ?_) (fun c8 => ?_)
    · dsimp only [cmpI] at c8
      refine AW.go 1 (pc' := 30) rfl ?_
      refine AW.ret rfl rfl (Nat.le_refl _) (Nat.le_refl _) ?_
      have e : k = N := by omega
      subst e
      subst hc
      exact ⟨rfl, rfl⟩
    · dsimp only [cmpI] at c8
      refine AW.go 5 (pc' := 17) rfl ?_
      refine AW.callVF (pn := 20) rfl rfl mlX4_89 (by first | assumption | exact set_self (by assumption) | exact set_ne (by first | assumption | omega | decide) (by first | assumption | exact set_self (by assumption) | exact set_ne (by first | assumption | omega | decide) (by assumption))) (c_X4_toneAt (d - 1) (by omega) _ _ _ _ _ _ (by assumption) _ (by assumption) (by assumption) _ _ (by omega) (by omega)) rfl rfl (Nat.le_of_ble_eq_true rfl) ⟨by show d - 1 + 1 ≤ d; omega, by show 40 * (d - 1 + 1) ≤ 40 * d; omega⟩ ⟨Nat.zero_le _, Nat.zero_le _⟩ ?_
      have g1 := rwm_tn hm rr k.toNat (by omega)
      refine AW.shl1 (pn := 21) rfl rfl (by omega) (by omega) ?_
      refine AW.orN (pn := 22) rfl rfl ?_
      refine AW.go 3 (pc' := 5) rfl ?_
      first | (refine AW.lw ?_ (ih (k + 1) (x ||| 2 ^ (rwm m r k.toNat).toNat) (by omega) (by omega) ?_ (by omega)); exact (And.intro rfl (And.intro rfl (And.intro rfl (And.intro rfl (And.intro rfl trivial))))); rw [k1 h0]; unfold fs0; rw [← hc])
set_option maxHeartbeats 2000000 in
theorem c_X4_firstSet (d : Nat) (hd : 1 ≤ d) (h : List AC) (pm rf gm ka wr : Int) (hO : h[29]? = some (ao 4 (mo pm rf gm ka wr))) (m : Nat → Int) (hM : h[30]? = some (ai 0 48 m)) (hm : mt m) (r N : Int) (rr : 0 ≤ r ∧ r < 4) (rN : 0 ≤ N ∧ N ≤ 12) : MF zX4_firstSet d [vr 29, vi r, vi N] h (fs0 (rwm m r) N.toNat : Int) h := by
  refine M0.of okX4_firstSet (Nat.le_of_ble_eq_true rfl) ?_
  refine AW.go 4 (pc' := 5) rfl ?_
  refine AW.lw ?_ (l_X4_firstSet d hd h pm rf gm ka wr hO m hM hm r N rr rN _ 0 0 (by omega) (by omega) rfl (Nat.lt_succ_self _))
  exact (And.intro rfl (And.intro rfl (And.intro rfl (And.intro rfl (And.intro rfl trivial)))))
end
section
def rw4 : Nat → Option Nat := fun i => if i < 4 then some (5 + i) else none
theorem rw4_at {a : Int} (h : 0 ≤ a ∧ a < 4) : rw4 a.toNat = some (5 + a.toNat) := if_pos (by omega)
def okR (r : Int) : Prop := 0 ≤ r ∧ r < 4
def okF (F : Int) : Prop := 0 ≤ F ∧ F < 48
def V_tone (m : Nat → Int) (r p : Int) : Int := if 0 ≤ r ∧ r < 4 then (if 0 ≤ p ∧ p < 12 then rwm m r p.toNat else -2) else -1
def xk (F G : Int) : Int := 12 * ((if bI (24 ≤ F) = bI (24 ≤ G) then 0 else 2) + (if bI (F / 12 % 2 = 1) = bI (G / 12 % 2 = 1) then 0 else 1))
theorem xk_xor {F G : Int} (hF : 0 ≤ F ∧ F < 48) (hG : 0 ≤ G ∧ G < 48) : (((F / 12).toNat ^^^ (G / 12).toNat : Nat) : Int) * 12 = xk F G := by
  have key : ∀ a : Nat, a < 4 → ∀ b : Nat, b < 4 → (((a : Int).toNat ^^^ (b : Int).toNat : Nat) : Int) * 12 = 12 * ((if bI (2 ≤ (a : Int)) = bI (2 ≤ (b : Int)) then 0 else 2) + (if bI ((a : Int) % 2 = 1) = bI ((b : Int) % 2 = 1) then 0 else 1)) := by decide
  have := key (F / 12).toNat (by omega) (G / 12).toNat (by omega)
  rw [kk (k := F / 12) (by omega), kk (k := G / 12) (by omega)] at this
  rw [this]
  unfold xk
  rw [bI_c (show 2 ≤ F / 12 ↔ 24 ≤ F by omega), bI_c (show 2 ≤ G / 12 ↔ 24 ≤ G by omega)]
def V_behind (F G : Int) : Int := if (0 ≤ F ∧ F < 48) ∧ (0 ≤ G ∧ G < 48) then xk F G + mv F (G % 12) else -1
def V_back (F : Int) : Int := if 0 ≤ F ∧ F < 48 then (if F / 12 % 2 = 1 then F else F - F % 12 + (-F) % 12) else -1
def V_canon (sz : (Nat → Int) → Int) (m : Nat → Int) (r w : Int) : Int := if 0 ≤ r ∧ r < 4 then (if 0 ≤ w ∧ w ≤ 13 then (if w = 13 then sz (rwm m r) else if w = 12 then lfm (rwm m r) 47 else ft (rwm m r) 12 (lfm (rwm m r) 47) w) else -2) else -1
def szC (f : Nat → Int) : Int := if (kps f 48 : Int) = 0 then 48 else 48 / (kps f 48 : Int)
def szM (f : Nat → Int) : Int := (frs f 48 : Int)
def sel (p : Nat → Bool) (i : Int) : Nat → Nat → Int → Int
  | 0, _, c => if i = -1 then c else -6
  | n + 1, k, c => if p k then (if c = i then (k : Int) else sel p i n (k + 1) (c + 1)) else sel p i n (k + 1) c
def V_leads (m : Nat → Int) (r o i : Int) : Int := if (0 ≤ r ∧ r < 4) ∧ (0 ≤ o ∧ o < 4) then sel (fun F => isf (rwm m r) 12 (F : Int) (rwm m o) 0) i 48 0 0 else -1
def V_step (us : (Nat → Int) → Int) (m : Nat → Int) (r w : Int) : Int := if 0 ≤ r ∧ r < 4 then (if 0 ≤ w ∧ w ≤ 11 then (if w = 11 then us (rwm m r) else stp (rwm m r) w) else -2) else -1
def usC (f : Nat → Int) : Int := ((cntN (fun i => (sbt f 11).testBit i) 12 : Nat) : Int)
def usM (f : Nat → Int) : Int := (ust f 11 : Int)
def V_shared (m : Nat → Int) (r F N : Int) : Int := if (0 ≤ r ∧ r < 4) ∧ (0 ≤ F ∧ F < 48) then (if 2 ≤ N ∧ N ≤ 6 then ((cntN (fun s => hsg (rwm m r) F N (fst12 (rwm m r) 0 (s : Int) N.toNat : Int)) (13 - N).toNat : Nat) : Int) else -2) else -1
def prt (f : Nat → Int) (F : Nat) : Bool := decide (fst12 f (F : Int) 0 6 &&& fst12 f 0 0 6 = 0)
def V_partner (m : Nat → Int) (r i : Int) : Int := if 0 ≤ r ∧ r < 4 then sel (prt (rwm m r)) i 48 0 0 else -1
def drv (f : Nat → Int) (N : Int) (n : Nat) : Bool := allN (fun q => anyN (fun F => isf f N (F : Int) f (N * ((q : Int) + 1))) 48) n
def V_derived (m : Nat → Int) (r N : Int) : Int := if 0 ≤ r ∧ r < 4 then (if N = 2 ∨ N = 3 ∨ N = 4 ∨ N = 6 then bI (drv (rwm m r) N ((12 / N).toNat - 1) = true) else -2) else -1
def kl (F : Int) : Int := if 36 ≤ F then 2 else 1
def nl (F : Int) : Int := kl F + (if F % 12 < 10 then 1 else 2)
def nsg (F j : Int) : Int := if j < kl F then (if F < 12 then 80 else if F < 24 ∨ j = 1 then 73 else 82) else 48 + (if 9 < F % 12 ∧ j = kl F then 1 else F % 12 % 10)
def V_sign (m : Nat → Int) (r F j : Int) : Int := if (0 ≤ r ∧ r < 4) ∧ (0 ≤ F ∧ F < 48) then (if j = -1 then nl F + 13 else if 0 ≤ j ∧ j ≤ nl F + 12 then (if j < nl F then nsg F j else if j = nl F then 58 else sof (ft (rwm m r) 12 F (j - nl F - 1))) else -6) else -1
def lik (m : Nat → Int) (r : Int) : Nat → Int → Int
  | 0, o => o
  | n + 1, o => if isf (rwm m r) 12 0 (rwm m o) 0 = true then o else lik m r n (o + 1)
def V_told (cnt : Int) (pat m : Nat → Int) (w : Int) : Int := if w = 0 then cnt else if w = 1 then (hol pat 12 : Int) else if 100 ≤ w ∧ w < 112 then pat (w - 100).toNat else if 200 ≤ w ∧ w < 204 then lik m (w - 200) (w - 200).toNat 0 else -2
theorem kl_b (F : Int) : 1 ≤ kl F ∧ kl F ≤ 2 := by unfold kl; split <;> omega
theorem kl_c (F : Int) : (36 ≤ F ∧ kl F = 2) ∨ (F < 36 ∧ kl F = 1) := by unfold kl; split <;> omega
theorem nl_c (F : Int) : (F % 12 < 10 ∧ nl F = kl F + 1) ∨ (10 ≤ F % 12 ∧ nl F = kl F + 2) := by unfold nl; split <;> omega
theorem nl_b (F : Int) : kl F + 1 ≤ nl F ∧ nl F ≤ kl F + 2 := by unfold nl; split <;> omega

set_option maxHeartbeats 2000000 in
theorem c_X3_toneSign (d : Nat) (hd : 0 ≤ d) (h : List AC) (a : Int) (ra : 0 ≤ a ∧ a < 12) : MF zX3_toneSign d [vi a] h (sof a) h := by
  refine M0.of okX3_toneSign (Nat.le_of_ble_eq_true rfl) ?_
  refine AW.go 2 (pc' := 3) rfl ?_
  refine AW.bi (tgt := 11) (pn := 6) rfl (by decide) rfl (by first | exact bI_rng _ | exact ⟨by omega, by omega⟩) (by first | exact bI_rng _ | exact ⟨by omega, by omega⟩) (fun c3 => ?_) (fun c3 => ?_)
  · dsimp only [cmpI] at c3
    refine AW.go 2 (pc' := 14) rfl ?_
    refine AW.bi (tgt := 22) (pn := 17) rfl (by decide) rfl (by first | exact bI_rng _ | exact ⟨by omega, by omega⟩) (by first | exact bI_rng _ | exact ⟨by omega, by omega⟩) (fun c14 => ?_) (fun c14 => ?_)
    · dsimp only [cmpI] at c14
      refine AW.go 1 (pc' := 24) rfl ?_
      refine AW.ret rfl rfl (Nat.le_refl _) (Nat.le_refl _) ?_
      refine ⟨congrArg some ?_, rfl⟩
      unfold sof
      (repeat' split) <;> omega
    · dsimp only [cmpI] at c14
      refine AW.go 2 (pc' := 24) rfl ?_
      refine AW.ret rfl rfl (Nat.le_refl _) (Nat.le_refl _) ?_
      refine ⟨congrArg some ?_, rfl⟩
      unfold sof
      (repeat' split) <;> omega
  · dsimp only [cmpI] at c3
    refine AW.go 3 (pc' := 10) rfl ?_
    refine AW.ret rfl rfl (Nat.le_refl _) (Nat.le_refl _) ?_
    refine ⟨congrArg some ?_, rfl⟩
    unfold sof
    (repeat' split) <;> omega
set_option maxHeartbeats 2000000 in
theorem c_X3_signTone (d : Nat) (hd : 0 ≤ d) (h : List AC) (a : Int) (ra : -2147483648 ≤ a ∧ a < 2147483648) : MF zX3_signTone d [vi a] h (tof a) h := by
  refine M0.of okX3_signTone (Nat.le_of_ble_eq_true rfl) ?_
  refine AW.go 2 (pc' := 3) rfl ?_
  refine AW.bi (tgt := 17) (pn := 6) rfl (by decide) rfl (by first | exact bI_rng _ | exact ⟨by omega, by omega⟩) (by first | exact bI_rng _ | exact ⟨by omega, by omega⟩) (fun c3 => ?_) (fun c3 => ?_)
  · dsimp only [cmpI] at c3
    refine AW.go 2 (pc' := 20) rfl ?_
    refine AW.bi (tgt := 26) (pn := 23) rfl (by decide) rfl (by first | exact bI_rng _ | exact ⟨by omega, by omega⟩) (by first | exact bI_rng _ | exact ⟨by omega, by omega⟩) (fun c20 => ?_) (fun c20 => ?_)
    · dsimp only [cmpI] at c20
      refine AW.go 2 (pc' := 29) rfl ?_
      refine AW.bi (tgt := 37) (pn := 32) rfl (by decide) rfl (by first | exact bI_rng _ | exact ⟨by omega, by omega⟩) (by first | exact bI_rng _ | exact ⟨by omega, by omega⟩) (fun c29 => ?_) (fun c29 => ?_)
      · dsimp only [cmpI] at c29
        refine AW.go 1 (pc' := 39) rfl ?_
        refine AW.ret rfl rfl (Nat.le_refl _) (Nat.le_refl _) ?_
        refine ⟨congrArg some ?_, rfl⟩
        unfold tof
        (repeat' split) <;> omega
      · dsimp only [cmpI] at c29
        refine AW.go 2 (pc' := 39) rfl ?_
        refine AW.ret rfl rfl (Nat.le_refl _) (Nat.le_refl _) ?_
        refine ⟨congrArg some ?_, rfl⟩
        unfold tof
        (repeat' split) <;> omega
    · dsimp only [cmpI] at c20
      refine AW.go 1 (pc' := 25) rfl ?_
      refine AW.ret rfl rfl (Nat.le_refl _) (Nat.le_refl _) ?_
      refine ⟨congrArg some ?_, rfl⟩
      unfold tof
      (repeat' split) <;> omega
  · dsimp only [cmpI] at c3
    refine AW.go 2 (pc' := 9) rfl ?_
    refine AW.bi (tgt := 17) (pn := 12) rfl (by decide) rfl (by first | exact bI_rng _ | exact ⟨by omega, by omega⟩) (by first | exact bI_rng _ | exact ⟨by omega, by omega⟩) (fun c9 => ?_) (fun c9 => ?_)
    · dsimp only [cmpI] at c9
      refine AW.go 2 (pc' := 20) rfl ?_
      refine AW.bi (tgt := 26) (pn := 23) rfl (by decide) rfl (by first | exact bI_rng _ | exact ⟨by omega, by omega⟩) (by first | exact bI_rng _ | exact ⟨by omega, by omega⟩) (fun c20 => ?_) (fun c20 => ?_)
      · dsimp only [cmpI] at c20
        refine AW.go 2 (pc' := 29) rfl ?_
        refine AW.bi (tgt := 37) (pn := 32) rfl (by decide) rfl (by first | exact bI_rng _ | exact ⟨by omega, by omega⟩) (by first | exact bI_rng _ | exact ⟨by omega, by omega⟩) (fun c29 => ?_) (fun c29 => ?_)
        · dsimp only [cmpI] at c29
          refine AW.go 1 (pc' := 39) rfl ?_
          refine AW.ret rfl rfl (Nat.le_refl _) (Nat.le_refl _) ?_
          refine ⟨congrArg some ?_, rfl⟩
          unfold tof
          (repeat' split) <;> omega
        · dsimp only [cmpI] at c29
          refine AW.go 2 (pc' := 39) rfl ?_
          refine AW.ret rfl rfl (Nat.le_refl _) (Nat.le_refl _) ?_
          refine ⟨congrArg some ?_, rfl⟩
          unfold tof
          (repeat' split) <;> omega
      · dsimp only [cmpI] at c20
        refine AW.go 1 (pc' := 25) rfl ?_
        refine AW.ret rfl rfl (Nat.le_refl _) (Nat.le_refl _) ?_
        refine ⟨congrArg some ?_, rfl⟩
        unfold tof
        (repeat' split) <;> omega
    · dsimp only [cmpI] at c9
      refine AW.go 3 (pc' := 16) rfl ?_
      refine AW.ret rfl rfl (Nat.le_refl _) (Nat.le_refl _) ?_
      refine ⟨congrArg some ?_, rfl⟩
      unfold tof
      (repeat' split) <;> omega
set_option maxHeartbeats 2000000 in
theorem c_X3_kindLength (d : Nat) (hd : 1 ≤ d) (h : List AC) (F : Int) (rF : 0 ≤ F ∧ F < 48) : MF zX3_kindLength d [vi F] h (kl F) h := by
  refine M0.of okX3_kindLength (Nat.le_of_ble_eq_true rfl) ?_
  refine AW.go 1 (pc' := 1) rfl ?_
  refine AW.callSF (pn := 4) rfl rfl mlX3_150 (c_X3_isBackwards (d - 1) (by omega) _ _ (by omega)) rfl rfl (Nat.le_of_ble_eq_true rfl) ⟨by show d - 1 + 1 ≤ d; omega, by show 40 * (d - 1 + 1) ≤ 40 * d; omega⟩ ⟨Nat.zero_le _, Nat.zero_le _⟩ ?_
  refine AW.bz (tgt := 18) (pn := 7) rfl (by decide) rfl (fun c4 => ?_) (fun c4 => ?_)
  · refine AW.go 1 (pc' := 19) rfl ?_
    refine AW.ret rfl rfl (Nat.le_refl _) (Nat.le_refl _) ?_
    refine ⟨congrArg some ?_, rfl⟩
    unfold kl
    (repeat' split) <;> omega
  · refine AW.go 1 (pc' := 8) rfl ?_
    refine AW.callSF (pn := 11) rfl rfl mlX3_99 (c_X3_isMirrored (d - 1) (by omega) _ _ (by omega)) rfl rfl (Nat.le_of_ble_eq_true rfl) ⟨by show d - 1 + 1 ≤ d; omega, by show 40 * (d - 1 + 1) ≤ 40 * d; omega⟩ ⟨Nat.zero_le _, Nat.zero_le _⟩ ?_
    refine AW.bz (tgt := 18) (pn := 14) rfl (by decide) rfl (fun c11 => ?_) (fun c11 => ?_)
    · refine AW.go 1 (pc' := 19) rfl ?_
      refine AW.ret rfl rfl (Nat.le_refl _) (Nat.le_refl _) ?_
      refine ⟨congrArg some ?_, rfl⟩
      unfold kl
      (repeat' split) <;> omega
    · refine AW.go 2 (pc' := 19) rfl ?_
      refine AW.ret rfl rfl (Nat.le_refl _) (Nat.le_refl _) ?_
      refine ⟨congrArg some ?_, rfl⟩
      unfold kl
      (repeat' split) <;> omega
set_option maxHeartbeats 2000000 in
theorem c_X3_nameLength (d : Nat) (hd : 2 ≤ d) (h : List AC) (F : Int) (rF : 0 ≤ F ∧ F < 48) : MF zX3_nameLength d [vi F] h (nl F) h := by
  refine M0.of okX3_nameLength (Nat.le_of_ble_eq_true rfl) ?_
  refine AW.go 1 (pc' := 1) rfl ?_
  refine AW.callSF (pn := 4) rfl rfl mlX3_208 (c_X3_kindLength (d - 1) (by omega) _ _ (by omega)) rfl rfl (Nat.le_of_ble_eq_true rfl) ⟨by show d - 1 + 1 ≤ d; omega, by show 40 * (d - 1 + 1) ≤ 40 * d; omega⟩ ⟨Nat.zero_le _, Nat.zero_le _⟩ ?_
  refine AW.go 2 (pc' := 7) rfl ?_
  refine AW.irem (pn := 8) rfl rfl (by omega) (by omega) (by omega) (by omega) ?_
  refine AW.go 1 (pc' := 10) rfl ?_
  refine AW.bi (tgt := 17) (pn := 13) rfl (by decide) rfl (by first | exact bI_rng _ | exact ⟨by omega, by omega⟩) (by first | exact bI_rng _ | exact ⟨by omega, by omega⟩) (fun c10 => ?_) (fun c10 => ?_)
  · dsimp only [cmpI] at c10
    refine AW.go 2 (pc' := 19) rfl ?_
    refine AW.ret rfl rfl (Nat.le_refl _) (Nat.le_refl _) ?_
    refine ⟨congrArg some ?_, rfl⟩
    unfold nl
    (repeat' split) <;> omega
  · dsimp only [cmpI] at c10
    refine AW.go 3 (pc' := 19) rfl ?_
    refine AW.ret rfl rfl (Nat.le_refl _) (Nat.le_refl _) ?_
    refine ⟨congrArg some ?_, rfl⟩
    unfold nl
    (repeat' split) <;> omega
set_option maxHeartbeats 2000000 in
theorem c_X3_nameSign (d : Nat) (hd : 3 ≤ d) (h : List AC) (F j : Int) (rF : 0 ≤ F ∧ F < 48) (rj : 0 ≤ j ∧ j < nl F) : MF zX3_nameSign d [vi F, vi j] h (nsg F j) h := by
  refine M0.of okX3_nameSign (Nat.le_of_ble_eq_true rfl) ?_
  refine AW.go 1 (pc' := 1) rfl ?_
  refine AW.callSF (pn := 4) rfl rfl mlX3_208 (c_X3_kindLength (d - 1) (by omega) _ _ (by omega)) rfl rfl (Nat.le_of_ble_eq_true rfl) ⟨by show d - 1 + 1 ≤ d; omega, by show 40 * (d - 1 + 1) ≤ 40 * d; omega⟩ ⟨Nat.zero_le _, Nat.zero_le _⟩ ?_
  refine AW.go 3 (pc' := 7) rfl ?_
  have b1 := kl_b F
  have b2 := nl_b F
  refine AW.bi (tgt := 40) (pn := 10) rfl (by decide) rfl (by first | exact bI_rng _ | exact ⟨by omega, by omega⟩) (by first | exact bI_rng _ | exact ⟨by omega, by omega⟩) (fun c7 => ?_) (fun c7 => ?_)
  · dsimp only [cmpI] at c7
    refine AW.go 1 (pc' := 41) rfl ?_
    refine AW.br (tgt := 54) (pn := 44) rfl (by decide) rfl (by first | exact bI_rng _ | exact ⟨by omega, by omega⟩) (fun c41 => ?_) (fun c41 => ?_)
    · dsimp only [cmpI] at c41
      refine AW.go 1 (pc' := 55) rfl ?_
      refine AW.callSF (pn := 58) rfl rfl mlX3_99 (c_X3_isMirrored (d - 1) (by omega) _ _ (by omega)) rfl rfl (Nat.le_of_ble_eq_true rfl) ⟨by show d - 1 + 1 ≤ d; omega, by show 40 * (d - 1 + 1) ≤ 40 * d; omega⟩ ⟨Nat.zero_le _, Nat.zero_le _⟩ ?_
      refine AW.bz (tgt := 66) (pn := 61) rfl (by decide) rfl (fun c58 => ?_) (fun c58 => ?_)
      · refine AW.go 1 (pc' := 68) rfl ?_
        refine AW.ret rfl rfl (Nat.le_refl _) (Nat.le_refl _) ?_
        refine ⟨congrArg some ?_, rfl⟩
        have e1 := kl_c F
        have e2 := nl_c F
        unfold nsg
        (repeat' split) <;> omega
      · refine AW.go 2 (pc' := 68) rfl ?_
        refine AW.ret rfl rfl (Nat.le_refl _) (Nat.le_refl _) ?_
        refine ⟨congrArg some ?_, rfl⟩
        have e1 := kl_c F
        have e2 := nl_c F
        unfold nsg
        (repeat' split) <;> omega
    · dsimp only [cmpI] at c41
      refine AW.go 1 (pc' := 45) rfl ?_
      refine AW.callSF (pn := 48) rfl rfl mlX3_150 (c_X3_isBackwards (d - 1) (by omega) _ _ (by omega)) rfl rfl (Nat.le_of_ble_eq_true rfl) ⟨by show d - 1 + 1 ≤ d; omega, by show 40 * (d - 1 + 1) ≤ 40 * d; omega⟩ ⟨Nat.zero_le _, Nat.zero_le _⟩ ?_
      refine AW.bz (tgt := 54) (pn := 51) rfl (by decide) rfl (fun c48 => ?_) (fun c48 => ?_)
      · refine AW.go 1 (pc' := 55) rfl ?_
        refine AW.callSF (pn := 58) rfl rfl mlX3_99 (c_X3_isMirrored (d - 1) (by omega) _ _ (by omega)) rfl rfl (Nat.le_of_ble_eq_true rfl) ⟨by show d - 1 + 1 ≤ d; omega, by show 40 * (d - 1 + 1) ≤ 40 * d; omega⟩ ⟨Nat.zero_le _, Nat.zero_le _⟩ ?_
        refine AW.bz (tgt := 66) (pn := 61) rfl (by decide) rfl (fun c58 => ?_) (fun c58 => ?_)
        · refine AW.go 1 (pc' := 68) rfl ?_
          refine AW.ret rfl rfl (Nat.le_refl _) (Nat.le_refl _) ?_
          refine ⟨congrArg some ?_, rfl⟩
          have e1 := kl_c F
          have e2 := nl_c F
          unfold nsg
          (repeat' split) <;> omega
        · refine AW.go 2 (pc' := 68) rfl ?_
          refine AW.ret rfl rfl (Nat.le_refl _) (Nat.le_refl _) ?_
          refine ⟨congrArg some ?_, rfl⟩
          have e1 := kl_c F
          have e2 := nl_c F
          unfold nsg
          (repeat' split) <;> omega
      · refine AW.go 1 (pc' := 53) rfl ?_
        refine AW.ret rfl rfl (Nat.le_refl _) (Nat.le_refl _) ?_
        refine ⟨congrArg some ?_, rfl⟩
        have e1 := kl_c F
        have e2 := nl_c F
        unfold nsg
        (repeat' split) <;> omega
  · dsimp only [cmpI] at c7
    refine AW.go 2 (pc' := 13) rfl ?_
    refine AW.irem (pn := 14) rfl rfl (by omega) (by omega) (by omega) (by omega) ?_
    refine AW.go 6 (pc' := 21) rfl ?_
    refine AW.callSF (pn := 24) rfl rfl mlX3_159 (c_X3_nameLength (d - 1) (by omega) _ _ (by omega)) rfl rfl (Nat.le_of_ble_eq_true rfl) ⟨by show d - 1 + 1 ≤ d; omega, by show 40 * (d - 1 + 1) ≤ 40 * d; omega⟩ ⟨Nat.zero_le _, Nat.zero_le _⟩ ?_
    refine AW.bi (tgt := 34) (pn := 27) rfl (by decide) rfl (by first | exact bI_rng _ | exact ⟨by omega, by omega⟩) (by first | exact bI_rng _ | exact ⟨by omega, by omega⟩) (fun c24 => ?_) (fun c24 => ?_)
    · dsimp only [cmpI] at c24
      refine AW.go 2 (pc' := 37) rfl ?_
      refine AW.idiv (pn := 38) rfl rfl (by omega) (by omega) (by omega) (by omega) ?_
      refine AW.go 1 (pc' := 39) rfl ?_
      refine AW.ret rfl rfl (Nat.le_refl _) (Nat.le_refl _) ?_
      refine ⟨congrArg some ?_, rfl⟩
      have e1 := kl_c F
      have e2 := nl_c F
      unfold nsg
      (repeat' split) <;> omega
    · dsimp only [cmpI] at c24
      refine AW.go 2 (pc' := 30) rfl ?_
      refine AW.irem (pn := 31) rfl rfl (by omega) (by omega) (by omega) (by omega) ?_
      refine AW.go 2 (pc' := 39) rfl ?_
      refine AW.ret rfl rfl (Nat.le_refl _) (Nat.le_refl _) ?_
      refine ⟨congrArg some ?_, rfl⟩
      have e1 := kl_c F
      have e2 := nl_c F
      unfold nsg
      (repeat' split) <;> omega
set_option maxHeartbeats 2000000 in
theorem c_X3_tone (d : Nat) (hd : 1 ≤ d) (h : List AC) (g0 : h[0]? = some (ao 3 [vr 1, vr 3, vr 10, vr 25, vr 28])) (kp : Int) (g3 : h[3]? = some (ao 2 [vr 4, vr 9, vi kp])) (g4 : h[4]? = some (aq 3 4 rw4)) (m : Nat → Int) (hm : mt m) (hR : ∀ r : Int, 0 ≤ r → r < 4 → h[5 + r.toNat]? = some (ai 0 12 (rwm m r))) (r p : Int) (rr : -2147483648 ≤ r ∧ r < 2147483648) (rp : -2147483648 ≤ p ∧ p < 2147483648) : MF zX3_tone d [vr 0, vi r, vi p] h (V_tone m r p) h := by
  refine M0.of okX3_tone (Nat.le_of_ble_eq_true rfl) ?_
  refine AW.go 1 (pc' := 1) rfl ?_
  refine AW.callSF (pn := 4) rfl rfl mlX3_57 (c_X3_isRow (d - 1) (by omega) _ _ (by omega)) rfl rfl (Nat.le_of_ble_eq_true rfl) ⟨by show d - 1 + 1 ≤ d; omega, by show 40 * (d - 1 + 1) ≤ 40 * d; omega⟩ ⟨Nat.zero_le _, Nat.zero_le _⟩ ?_
  refine AW.bnz (tgt := 9) (pn := 7) rfl (by decide) rfl (fun c4 => ?_) (fun c4 => ?_)
  · refine AW.go 1 (pc' := 10) rfl ?_
    refine AW.callSF (pn := 13) rfl rfl mlX3_79 (c_X3_isPlace (d - 1) (by omega) _ _ (by omega)) rfl rfl (Nat.le_of_ble_eq_true rfl) ⟨by show d - 1 + 1 ≤ d; omega, by show 40 * (d - 1 + 1) ≤ 40 * d; omega⟩ ⟨Nat.zero_le _, Nat.zero_le _⟩ ?_
    refine AW.bz (tgt := 30) (pn := 16) rfl (by decide) rfl (fun c13 => ?_) (fun c13 => ?_)
    · refine AW.go 1 (pc' := 32) rfl ?_
      refine AW.ret rfl rfl (Nat.le_refl _) (Nat.le_refl _) ?_
      refine ⟨congrArg some ?_, rfl⟩
      unfold V_tone
      (repeat' split) <;> first | rfl | omega
    · have hwr := hR r (by omega) (by omega)
      have htr := rwm_tn hm (r := r) (by omega)
      refine AW.go 1 (pc' := 17) rfl ?_
      refine AW.getf (pn := 20) rfl rfl flX3_19 (by first | assumption | exact set_self (by assumption) | exact set_ne (by first | assumption | omega | decide) (by first | assumption | exact set_self (by assumption) | exact set_ne (by first | assumption | omega | decide) (by assumption))) rfl ?_
      refine AW.getf (pn := 23) rfl rfl flX3_61 (by first | assumption | exact set_self (by assumption) | exact set_ne (by first | assumption | omega | decide) (by first | assumption | exact set_self (by assumption) | exact set_ne (by first | assumption | omega | decide) (by assumption))) rfl ?_
      refine AW.go 1 (pc' := 24) rfl ?_
      refine AW.aald (pn := 25) rfl rfl (by first | assumption | exact set_self (by assumption) | exact set_ne (by first | assumption | omega | decide) (by first | assumption | exact set_self (by assumption) | exact set_ne (by first | assumption | omega | decide) (by assumption))) (by decide) (by decide) (by omega) (by omega) (rw4_at (by omega)) ?_
      refine AW.go 1 (pc' := 26) rfl ?_
      refine AW.iald (pn := 27) rfl rfl (by first | assumption | exact set_self (by assumption) | exact set_ne (by first | assumption | omega | decide) (by first | assumption | exact set_self (by assumption) | exact set_ne (by first | assumption | omega | decide) (by assumption))) (by decide) (by omega) (by omega) ?_
      refine AW.go 1 (pc' := 32) rfl ?_
      refine AW.ret rfl rfl (Nat.le_refl _) (Nat.le_refl _) ?_
      refine ⟨congrArg some ?_, rfl⟩
      unfold V_tone
      (repeat' split) <;> first | rfl | omega
  · refine AW.go 1 (pc' := 8) rfl ?_
    refine AW.ret rfl rfl (Nat.le_refl _) (Nat.le_refl _) ?_
    refine ⟨congrArg some ?_, rfl⟩
    unfold V_tone
    (repeat' split) <;> first | rfl | omega
set_option maxHeartbeats 2000000 in
theorem c_X3_behind (d : Nat) (hd : 3 ≤ d) (h : List AC) (F G : Int) (rF : -2147483648 ≤ F ∧ F < 2147483648) (rG : -2147483648 ≤ G ∧ G < 2147483648) : MF zX3_behind d [vr 0, vi F, vi G] h (V_behind F G) h := by
  refine M0.of okX3_behind (Nat.le_of_ble_eq_true rfl) ?_
  refine AW.go 1 (pc' := 1) rfl ?_
  refine AW.callSF (pn := 4) rfl rfl mlX3_82 (c_X3_isForm (d - 1) (by omega) _ _ (by omega)) rfl rfl (Nat.le_of_ble_eq_true rfl) ⟨by show d - 1 + 1 ≤ d; omega, by show 40 * (d - 1 + 1) ≤ 40 * d; omega⟩ ⟨Nat.zero_le _, Nat.zero_le _⟩ ?_
  refine AW.bz (tgt := 14) (pn := 7) rfl (by decide) rfl (fun c4 => ?_) (fun c4 => ?_)
  · refine AW.go 1 (pc' := 15) rfl ?_
    refine AW.ret rfl rfl (Nat.le_refl _) (Nat.le_refl _) ?_
    refine ⟨congrArg some ?_, rfl⟩
    unfold V_behind
    (repeat' split) <;> first | rfl | omega
  · refine AW.go 1 (pc' := 8) rfl ?_
    refine AW.callSF (pn := 11) rfl rfl mlX3_82 (c_X3_isForm (d - 1) (by omega) _ _ (by omega)) rfl rfl (Nat.le_of_ble_eq_true rfl) ⟨by show d - 1 + 1 ≤ d; omega, by show 40 * (d - 1 + 1) ≤ 40 * d; omega⟩ ⟨Nat.zero_le _, Nat.zero_le _⟩ ?_
    refine AW.bnz (tgt := 16) (pn := 14) rfl (by decide) rfl (fun c11 => ?_) (fun c11 => ?_)
    · refine AW.go 2 (pc' := 19) rfl ?_
      refine AW.idiv (pn := 20) rfl rfl (by omega) (by omega) (by omega) (by omega) ?_
      refine AW.go 2 (pc' := 23) rfl ?_
      refine AW.idiv (pn := 24) rfl rfl (by omega) (by omega) (by omega) (by omega) ?_
      refine AW.ixor (pn := 25) rfl rfl (by omega) (by omega) ?_
      refine AW.go 4 (pc' := 31) rfl ?_
      refine AW.irem (pn := 32) rfl rfl (by omega) (by omega) (by omega) (by omega) ?_
      refine AW.go 1 (pc' := 33) rfl ?_
      refine AW.callSF (pn := 36) rfl rfl mlX3_95 (c_X3_turnedTone (d - 1) (by omega) _ _ _ (by omega) (by omega)) rfl rfl (Nat.le_of_ble_eq_true rfl) ⟨by show d - 1 + 1 ≤ d; omega, by show 40 * (d - 1 + 1) ≤ 40 * d; omega⟩ ⟨Nat.zero_le _, Nat.zero_le _⟩ ?_
      refine AW.go 1 (pc' := 37) rfl ?_
      refine AW.ret rfl rfl (Nat.le_refl _) (Nat.le_refl _) ?_
      refine ⟨congrArg some ?_, rfl⟩
      unfold V_behind
      rw [if_pos ⟨c4, c11⟩, ← xk_xor c4 c11]
    · refine AW.go 1 (pc' := 15) rfl ?_
      refine AW.ret rfl rfl (Nat.le_refl _) (Nat.le_refl _) ?_
      refine ⟨congrArg some ?_, rfl⟩
      unfold V_behind
      (repeat' split) <;> first | rfl | omega
set_option maxHeartbeats 2000000 in
theorem c_X3_back (d : Nat) (hd : 2 ≤ d) (h : List AC) (F : Int) (rF : -2147483648 ≤ F ∧ F < 2147483648) : MF zX3_back d [vr 0, vi F] h (V_back F) h := by
  refine M0.of okX3_back (Nat.le_of_ble_eq_true rfl) ?_
  refine AW.go 1 (pc' := 1) rfl ?_
  refine AW.callSF (pn := 4) rfl rfl mlX3_82 (c_X3_isForm (d - 1) (by omega) _ _ (by omega)) rfl rfl (Nat.le_of_ble_eq_true rfl) ⟨by show d - 1 + 1 ≤ d; omega, by show 40 * (d - 1 + 1) ≤ 40 * d; omega⟩ ⟨Nat.zero_le _, Nat.zero_le _⟩ ?_
  refine AW.bnz (tgt := 9) (pn := 7) rfl (by decide) rfl (fun c4 => ?_) (fun c4 => ?_)
  · refine AW.go 1 (pc' := 10) rfl ?_
    refine AW.callSF (pn := 13) rfl rfl mlX3_99 (c_X3_isMirrored (d - 1) (by omega) _ _ (by omega)) rfl rfl (Nat.le_of_ble_eq_true rfl) ⟨by show d - 1 + 1 ≤ d; omega, by show 40 * (d - 1 + 1) ≤ 40 * d; omega⟩ ⟨Nat.zero_le _, Nat.zero_le _⟩ ?_
    refine AW.bz (tgt := 18) (pn := 16) rfl (by decide) rfl (fun c13 => ?_) (fun c13 => ?_)
    · refine AW.go 3 (pc' := 22) rfl ?_
      refine AW.irem (pn := 23) rfl rfl (by omega) (by omega) (by omega) (by omega) ?_
      refine AW.go 3 (pc' := 26) rfl ?_
      refine AW.callSF (pn := 29) rfl rfl mlX3_102 (c_X3_wrapped (d - 1) (by omega) _ _ (by omega)) rfl rfl (Nat.le_of_ble_eq_true rfl) ⟨by show d - 1 + 1 ≤ d; omega, by show 40 * (d - 1 + 1) ≤ 40 * d; omega⟩ ⟨Nat.zero_le _, Nat.zero_le _⟩ ?_
      refine AW.go 1 (pc' := 30) rfl ?_
      refine AW.ret rfl rfl (Nat.le_refl _) (Nat.le_refl _) ?_
      refine ⟨congrArg some ?_, rfl⟩
      unfold V_back
      (repeat' split) <;> first | rfl | omega
    · refine AW.go 1 (pc' := 17) rfl ?_
      refine AW.ret rfl rfl (Nat.le_refl _) (Nat.le_refl _) ?_
      refine ⟨congrArg some ?_, rfl⟩
      unfold V_back
      (repeat' split) <;> first | rfl | omega
  · refine AW.go 1 (pc' := 8) rfl ?_
    refine AW.ret rfl rfl (Nat.le_refl _) (Nat.le_refl _) ?_
    refine ⟨congrArg some ?_, rfl⟩
    unfold V_back
    (repeat' split) <;> first | rfl | omega
set_option maxHeartbeats 2000000 in
theorem c_X3_canon (d : Nat) (hd : 6 ≤ d) (h : List AC) (g0 : h[0]? = some (ao 3 [vr 1, vr 3, vr 10, vr 25, vr 28])) (kp : Int) (g3 : h[3]? = some (ao 2 [vr 4, vr 9, vi kp])) (g4 : h[4]? = some (aq 3 4 rw4)) (m : Nat → Int) (hm : mt m) (hR : ∀ r : Int, 0 ≤ r → r < 4 → h[5 + r.toNat]? = some (ai 0 12 (rwm m r))) (r w : Int) (rr : -2147483648 ≤ r ∧ r < 2147483648) (rw : -2147483648 ≤ w ∧ w < 2147483648) : MF zX3_canon d [vr 0, vi r, vi w] h (V_canon szC m r w) h := by
  refine M0.of okX3_canon (Nat.le_of_ble_eq_true rfl) ?_
  refine AW.go 1 (pc' := 1) rfl ?_
  refine AW.callSF (pn := 4) rfl rfl mlX3_57 (c_X3_isRow (d - 1) (by omega) _ _ (by omega)) rfl rfl (Nat.le_of_ble_eq_true rfl) ⟨by show d - 1 + 1 ≤ d; omega, by show 40 * (d - 1 + 1) ≤ 40 * d; omega⟩ ⟨Nat.zero_le _, Nat.zero_le _⟩ ?_
  refine AW.bnz (tgt := 9) (pn := 7) rfl (by decide) rfl (fun c4 => ?_) (fun c4 => ?_)
  · refine AW.go 1 (pc' := 10) rfl ?_
    refine AW.br (tgt := 19) (pn := 13) rfl (by decide) rfl (by first | exact bI_rng _ | exact ⟨by omega, by omega⟩) (fun c10 => ?_) (fun c10 => ?_)
    · dsimp only [cmpI] at c10
      refine AW.go 1 (pc' := 21) rfl ?_
      refine AW.ret rfl rfl (Nat.le_refl _) (Nat.le_refl _) ?_
      refine ⟨congrArg some ?_, rfl⟩
      unfold V_canon szC
      (repeat' split) <;> first | rfl | omega
    · dsimp only [cmpI] at c10
      refine AW.go 2 (pc' := 16) rfl ?_
      refine AW.bi (tgt := 22) (pn := 19) rfl (by decide) rfl (by first | exact bI_rng _ | exact ⟨by omega, by omega⟩) (by first | exact bI_rng _ | exact ⟨by omega, by omega⟩) (fun c16 => ?_) (fun c16 => ?_)
      · dsimp only [cmpI] at c16
        have hwr := hR r (by omega) (by omega)
        have htr := rwm_tn hm (r := r) (by omega)
        refine AW.go 1 (pc' := 23) rfl ?_
        refine AW.getf (pn := 26) rfl rfl flX3_19 (by first | assumption | exact set_self (by assumption) | exact set_ne (by first | assumption | omega | decide) (by first | assumption | exact set_self (by assumption) | exact set_ne (by first | assumption | omega | decide) (by assumption))) rfl ?_
        refine AW.getf (pn := 29) rfl rfl flX3_61 (by first | assumption | exact set_self (by assumption) | exact set_ne (by first | assumption | omega | decide) (by first | assumption | exact set_self (by assumption) | exact set_ne (by first | assumption | omega | decide) (by assumption))) rfl ?_
        refine AW.go 1 (pc' := 30) rfl ?_
        refine AW.aald (pn := 31) rfl rfl (by first | assumption | exact set_self (by assumption) | exact set_ne (by first | assumption | omega | decide) (by first | assumption | exact set_self (by assumption) | exact set_ne (by first | assumption | omega | decide) (by assumption))) (by decide) (by decide) (by omega) (by omega) (rw4_at (by omega)) ?_
        refine AW.go 3 (pc' := 35) rfl ?_
        refine AW.bi (tgt := 43) (pn := 38) rfl (by decide) rfl (by first | exact bI_rng _ | exact ⟨by omega, by omega⟩) (by first | exact bI_rng _ | exact ⟨by omega, by omega⟩) (fun c35 => ?_) (fun c35 => ?_)
        · dsimp only [cmpI] at c35
          refine AW.go 1 (pc' := 44) rfl ?_
          refine AW.callSF (pn := 47) rfl rfl mlX3_108 (c_X3_leastForm (d - 1) (by omega) _ _ _ (by assumption) (by assumption)) rfl rfl (Nat.le_of_ble_eq_true rfl) ⟨by show d - 1 + 1 ≤ d; omega, by show 40 * (d - 1 + 1) ≤ 40 * d; omega⟩ ⟨Nat.zero_le _, Nat.zero_le _⟩ ?_
          refine AW.go 3 (pc' := 52) rfl ?_
          refine AW.bi (tgt := 60) (pn := 55) rfl (by decide) rfl (by first | exact bI_rng _ | exact ⟨by omega, by omega⟩) (by first | exact bI_rng _ | exact ⟨by omega, by omega⟩) (fun c52 => ?_) (fun c52 => ?_)
          · dsimp only [cmpI] at c52
            have hb := lfm_b (rwm m r) 47
            refine AW.go 4 (pc' := 66) rfl ?_
            refine AW.callSF (pn := 69) rfl rfl mlX3_85 (c_X3_formTone (d - 1) (by omega) _ _ _ (by assumption) (by assumption) _ _ _ (by omega) (by omega) (by omega)) rfl rfl (Nat.le_of_ble_eq_true rfl) ⟨by show d - 1 + 1 ≤ d; omega, by show 40 * (d - 1 + 1) ≤ 40 * d; omega⟩ ⟨Nat.zero_le _, Nat.zero_le _⟩ ?_
            refine AW.ret rfl rfl (Nat.le_refl _) (Nat.le_refl _) ?_
            refine ⟨congrArg some ?_, rfl⟩
            unfold V_canon szC
            (repeat' split) <;> first | rfl | omega
          · dsimp only [cmpI] at c52
            refine AW.go 2 (pc' := 69) rfl ?_
            refine AW.ret rfl rfl (Nat.le_refl _) (Nat.le_refl _) ?_
            refine ⟨congrArg some ?_, rfl⟩
            unfold V_canon szC
            (repeat' split) <;> first | rfl | omega
        · dsimp only [cmpI] at c35
          refine AW.go 1 (pc' := 39) rfl ?_
          refine AW.callSF (pn := 42) rfl rfl mlX3_105 (c_X3_sizeOf (d - 1) (by omega) _ _ _ (by assumption) (by assumption)) rfl rfl (Nat.le_of_ble_eq_true rfl) ⟨by show d - 1 + 1 ≤ d; omega, by show 40 * (d - 1 + 1) ≤ 40 * d; omega⟩ ⟨Nat.zero_le _, Nat.zero_le _⟩ ?_
          refine AW.ret rfl rfl (Nat.le_refl _) (Nat.le_refl _) ?_
          refine ⟨congrArg some ?_, rfl⟩
          unfold V_canon szC
          (repeat' split) <;> first | rfl | omega
      · dsimp only [cmpI] at c16
        refine AW.go 1 (pc' := 21) rfl ?_
        refine AW.ret rfl rfl (Nat.le_refl _) (Nat.le_refl _) ?_
        refine ⟨congrArg some ?_, rfl⟩
        unfold V_canon szC
        (repeat' split) <;> first | rfl | omega
  · refine AW.go 1 (pc' := 8) rfl ?_
    refine AW.ret rfl rfl (Nat.le_refl _) (Nat.le_refl _) ?_
    refine ⟨congrArg some ?_, rfl⟩
    unfold V_canon szC
    (repeat' split) <;> first | rfl | omega
set_option maxHeartbeats 2000000 in
theorem c_X3_step (d : Nat) (hd : 4 ≤ d) (h : List AC) (g0 : h[0]? = some (ao 3 [vr 1, vr 3, vr 10, vr 25, vr 28])) (kp : Int) (g3 : h[3]? = some (ao 2 [vr 4, vr 9, vi kp])) (g4 : h[4]? = some (aq 3 4 rw4)) (m : Nat → Int) (hm : mt m) (hR : ∀ r : Int, 0 ≤ r → r < 4 → h[5 + r.toNat]? = some (ai 0 12 (rwm m r))) (r w : Int) (rr : -2147483648 ≤ r ∧ r < 2147483648) (rw : -2147483648 ≤ w ∧ w < 2147483648) : MF zX3_step d [vr 0, vi r, vi w] h (V_step usC m r w) h := by
  refine M0.of okX3_step (Nat.le_of_ble_eq_true rfl) ?_
  refine AW.go 1 (pc' := 1) rfl ?_
  refine AW.callSF (pn := 4) rfl rfl mlX3_57 (c_X3_isRow (d - 1) (by omega) _ _ (by omega)) rfl rfl (Nat.le_of_ble_eq_true rfl) ⟨by show d - 1 + 1 ≤ d; omega, by show 40 * (d - 1 + 1) ≤ 40 * d; omega⟩ ⟨Nat.zero_le _, Nat.zero_le _⟩ ?_
  refine AW.bnz (tgt := 9) (pn := 7) rfl (by decide) rfl (fun c4 => ?_) (fun c4 => ?_)
  · refine AW.go 1 (pc' := 10) rfl ?_
    refine AW.br (tgt := 19) (pn := 13) rfl (by decide) rfl (by first | exact bI_rng _ | exact ⟨by omega, by omega⟩) (fun c10 => ?_) (fun c10 => ?_)
    · dsimp only [cmpI] at c10
      refine AW.go 1 (pc' := 21) rfl ?_
      refine AW.ret rfl rfl (Nat.le_refl _) (Nat.le_refl _) ?_
      refine ⟨congrArg some ?_, rfl⟩
      unfold V_step
      (repeat' split) <;> first | rfl | omega
    · dsimp only [cmpI] at c10
      refine AW.go 2 (pc' := 16) rfl ?_
      refine AW.bi (tgt := 22) (pn := 19) rfl (by decide) rfl (by first | exact bI_rng _ | exact ⟨by omega, by omega⟩) (by first | exact bI_rng _ | exact ⟨by omega, by omega⟩) (fun c16 => ?_) (fun c16 => ?_)
      · dsimp only [cmpI] at c16
        have hwr := hR r (by omega) (by omega)
        have htr := rwm_tn hm (r := r) (by omega)
        refine AW.go 1 (pc' := 23) rfl ?_
        refine AW.getf (pn := 26) rfl rfl flX3_19 (by first | assumption | exact set_self (by assumption) | exact set_ne (by first | assumption | omega | decide) (by first | assumption | exact set_self (by assumption) | exact set_ne (by first | assumption | omega | decide) (by assumption))) rfl ?_
        refine AW.getf (pn := 29) rfl rfl flX3_61 (by first | assumption | exact set_self (by assumption) | exact set_ne (by first | assumption | omega | decide) (by first | assumption | exact set_self (by assumption) | exact set_ne (by first | assumption | omega | decide) (by assumption))) rfl ?_
        refine AW.go 1 (pc' := 30) rfl ?_
        refine AW.aald (pn := 31) rfl rfl (by first | assumption | exact set_self (by assumption) | exact set_ne (by first | assumption | omega | decide) (by first | assumption | exact set_self (by assumption) | exact set_ne (by first | assumption | omega | decide) (by assumption))) (by decide) (by decide) (by omega) (by omega) (rw4_at (by omega)) ?_
        refine AW.go 3 (pc' := 35) rfl ?_
        refine AW.bi (tgt := 45) (pn := 38) rfl (by decide) rfl (by first | exact bI_rng _ | exact ⟨by omega, by omega⟩) (by first | exact bI_rng _ | exact ⟨by omega, by omega⟩) (fun c35 => ?_) (fun c35 => ?_)
        · dsimp only [cmpI] at c35
          refine AW.go 2 (pc' := 47) rfl ?_
          refine AW.callSF (pn := 50) rfl rfl mlX3_118 (c_X3_stepAt (d - 1) (by omega) _ _ _ (by assumption) (by assumption) _ (by omega)) rfl rfl (Nat.le_of_ble_eq_true rfl) ⟨by show d - 1 + 1 ≤ d; omega, by show 40 * (d - 1 + 1) ≤ 40 * d; omega⟩ ⟨Nat.zero_le _, Nat.zero_le _⟩ ?_
          refine AW.ret rfl rfl (Nat.le_refl _) (Nat.le_refl _) ?_
          refine ⟨congrArg some ?_, rfl⟩
          unfold V_step
          (repeat' split) <;> first | rfl | omega
        · dsimp only [cmpI] at c35
          refine AW.go 1 (pc' := 39) rfl ?_
          refine AW.callSF (pn := 42) rfl rfl mlX3_115 (c_X3_unlikeSteps (d - 1) (by omega) _ _ _ (by assumption) (by assumption)) rfl rfl (Nat.le_of_ble_eq_true rfl) ⟨by show d - 1 + 1 ≤ d; omega, by show 40 * (d - 1 + 1) ≤ 40 * d; omega⟩ ⟨Nat.zero_le _, Nat.zero_le _⟩ ?_
          refine AW.go 1 (pc' := 50) rfl ?_
          refine AW.ret rfl rfl (Nat.le_refl _) (Nat.le_refl _) ?_
          refine ⟨congrArg some ?_, rfl⟩
          unfold V_step
          (repeat' split) <;> first | rfl | omega
      · dsimp only [cmpI] at c16
        refine AW.go 1 (pc' := 21) rfl ?_
        refine AW.ret rfl rfl (Nat.le_refl _) (Nat.le_refl _) ?_
        refine ⟨congrArg some ?_, rfl⟩
        unfold V_step
        (repeat' split) <;> first | rfl | omega
  · refine AW.go 1 (pc' := 8) rfl ?_
    refine AW.ret rfl rfl (Nat.le_refl _) (Nat.le_refl _) ?_
    refine ⟨congrArg some ?_, rfl⟩
    unfold V_step
    (repeat' split) <;> first | rfl | omega
set_option maxHeartbeats 4000000 in
theorem l_X3_leads (d : Nat) (hd : 5 ≤ d) (h : List AC) (g0 : h[0]? = some (ao 3 [vr 1, vr 3, vr 10, vr 25, vr 28])) (kp : Int) (g3 : h[3]? = some (ao 2 [vr 4, vr 9, vi kp])) (g4 : h[4]? = some (aq 3 4 rw4)) (m : Nat → Int) (hm : mt m) (hR : ∀ r : Int, 0 ≤ r → r < 4 → h[5 + r.toNat]? = some (ai 0 12 (rwm m r))) (r o i : Int) (rr : 0 ≤ r ∧ r < 4) (ro : 0 ≤ o ∧ o < 4) (ri : -2147483648 ≤ i ∧ i < 2147483648) : ∀ (n : Nat) (k : Int) (c : Int), (0 ≤ k) → (k ≤ 48) → (0 ≤ c ∧ c ≤ k) → ((sel (fun F => isf (rwm m r) 12 (F : Int) (rwm m o) 0) i 48 0 0) = sel (fun F => isf (rwm m r) 12 (F : Int) (rwm m o) 0) i (48 - k).toNat k.toNat c) → ((48 - k).toNat) < n → AW zX3_leads Eq (rmd d) 0 0 0 0 22 [(5, vi k), (4, vi c), (0, vr 0), (1, vi r), (2, vi o), (3, vi i)] [] h (RQ (sel (fun F => isf (rwm m r) 12 (F : Int) (rwm m o) 0) i 48 0 0) h) := by
  intro n
  induction n with
  | zero =>
    intro k c h0 h1 hc hi hn
    exact absurd hn (Nat.not_lt_zero _)
  | succ n ih =>
    intro k c h0 h1 hc hi hn
    refine AW.go 2 (pc' := 26) rfl ?_
    refine AW.bi (tgt := 76) (pn := 29) rfl (by decide) rfl (by first | exact bI_rng _ | exact ⟨by omega, by omega⟩) (by first | exact bI_rng _ | exact ⟨by omega, by omega⟩) (fun c26 => ?_) (fun c26 => ?_)
    · dsimp only [cmpI] at c26
      refine AW.go 2 (pc' := 78) rfl ?_
      refine AW.bi (tgt := 86) (pn := 81) rfl (by decide) rfl (by first | exact bI_rng _ | exact ⟨by omega, by omega⟩) (by first | exact bI_rng _ | exact ⟨by omega, by omega⟩) (fun c78 => ?_) (fun c78 => ?_)
      · dsimp only [cmpI] at c78
        refine AW.go 1 (pc' := 88) rfl ?_
        refine AW.ret rfl rfl (Nat.le_refl _) (Nat.le_refl _) ?_
        refine ⟨congrArg some ?_, rfl⟩
        rw [hi, show (48 - k).toNat = 0 by omega]
        unfold sel
        first | rw [if_pos (by omega)] | rw [if_neg (by omega)]
      · dsimp only [cmpI] at c78
        refine AW.go 2 (pc' := 88) rfl ?_
        refine AW.ret rfl rfl (Nat.le_refl _) (Nat.le_refl _) ?_
        refine ⟨congrArg some ?_, rfl⟩
        rw [hi, show (48 - k).toNat = 0 by omega]
        unfold sel
        first | rw [if_pos (by omega)] | rw [if_neg (by omega)]
    · dsimp only [cmpI] at c26
      have hwr := hR r (by omega) (by omega)
      have htr := rwm_tn hm (r := r) (by omega)
      have hwo := hR o (by omega) (by omega)
      have hto := rwm_tn hm (r := o) (by omega)
      have hs : sel (fun F => isf (rwm m r) 12 (F : Int) (rwm m o) 0) i (48 - k).toNat k.toNat c = if isf (rwm m r) 12 k (rwm m o) 0 = true then (if c = i then k else sel (fun F => isf (rwm m r) 12 (F : Int) (rwm m o) 0) i ((48 - k).toNat - 1) (k.toNat + 1) (c + 1)) else sel (fun F => isf (rwm m r) 12 (F : Int) (rwm m o) 0) i ((48 - k).toNat - 1) (k.toNat + 1) c := by
        obtain ⟨q, hq⟩ : ∃ q, (48 - k).toNat = q + 1 := ⟨(48 - k).toNat - 1, by omega⟩
        rw [hq]
        show (if (fun F => isf (rwm m r) 12 (F : Int) (rwm m o) 0) (k.toNat) = true then (if c = i then (k.toNat : Int) else _) else _) = _
        simp only [kk h0]
        rfl
      refine AW.go 1 (pc' := 30) rfl ?_
      refine AW.getf (pn := 33) rfl rfl flX3_19 (by first | assumption | exact set_self (by assumption) | exact set_ne (by first | assumption | omega | decide) (by first | assumption | exact set_self (by assumption) | exact set_ne (by first | assumption | omega | decide) (by assumption))) rfl ?_
      refine AW.getf (pn := 36) rfl rfl flX3_61 (by first | assumption | exact set_self (by assumption) | exact set_ne (by first | assumption | omega | decide) (by first | assumption | exact set_self (by assumption) | exact set_ne (by first | assumption | omega | decide) (by assumption))) rfl ?_
      refine AW.go 1 (pc' := 37) rfl ?_
      refine AW.aald (pn := 38) rfl rfl (by first | assumption | exact set_self (by assumption) | exact set_ne (by first | assumption | omega | decide) (by first | assumption | exact set_self (by assumption) | exact set_ne (by first | assumption | omega | decide) (by assumption))) (by decide) (by decide) (by omega) (by omega) (rw4_at (by omega)) ?_
      refine AW.go 3 (pc' := 43) rfl ?_
      refine AW.getf (pn := 46) rfl rfl flX3_19 (by first | assumption | exact set_self (by assumption) | exact set_ne (by first | assumption | omega | decide) (by first | assumption | exact set_self (by assumption) | exact set_ne (by first | assumption | omega | decide) (by assumption))) rfl ?_
      refine AW.getf (pn := 49) rfl rfl flX3_61 (by first | assumption | exact set_self (by assumption) | exact set_ne (by first | assumption | omega | decide) (by first | assumption | exact set_self (by assumption) | exact set_ne (by first | assumption | omega | decide) (by assumption))) rfl ?_
      refine AW.go 1 (pc' := 50) rfl ?_
      refine AW.aald (pn := 51) rfl rfl (by first | assumption | exact set_self (by assumption) | exact set_ne (by first | assumption | omega | decide) (by first | assumption | exact set_self (by assumption) | exact set_ne (by first | assumption | omega | decide) (by assumption))) (by decide) (by decide) (by omega) (by omega) (rw4_at (by omega)) ?_
      refine AW.go 1 (pc' := 52) rfl ?_
      refine AW.callSF (pn := 55) rfl rfl mlX3_111 (c_X3_isFormOf (d - 1) (by omega) _ _ _ (by assumption) (by assumption) _ _ (by assumption) (by assumption) _ _ _ (by omega) (by omega) (by omega)) rfl rfl (Nat.le_of_ble_eq_true rfl) ⟨by show d - 1 + 1 ≤ d; omega, by show 40 * (d - 1 + 1) ≤ 40 * d; omega⟩ ⟨Nat.zero_le _, Nat.zero_le _⟩ ?_
      refine AW.bz (tgt := 70) (pn := 58) rfl (by decide) rfl (fun c55 => ?_) (fun c55 => ?_)
      · refine AW.go 2 (pc' := 22) rfl ?_
        first | (refine AW.lw ?_ (ih (k + 1) (c + 1) (by omega) (by omega) (by omega) ?_ (by omega)); exact (And.intro rfl (And.intro rfl (And.intro rfl (And.intro rfl (And.intro rfl (And.intro rfl trivial)))))); rw [k1 h0, show (48 - (k + 1)).toNat = (48 - k).toNat - 1 by omega, hi, hs]; (first | rw [if_pos c55, if_neg c61] | rw [if_neg c55])) | (refine AW.lw ?_ (ih (k + 1) (c) (by omega) (by omega) (by omega) ?_ (by omega)); exact (And.intro rfl (And.intro rfl (And.intro rfl (And.intro rfl (And.intro rfl (And.intro rfl trivial)))))); rw [k1 h0, show (48 - (k + 1)).toNat = (48 - k).toNat - 1 by omega, hi, hs]; (first | rw [if_pos c55, if_neg c61] | rw [if_neg c55]))
      · refine AW.go 2 (pc' := 61) rfl ?_
        refine AW.bi (tgt := 67) (pn := 64) rfl (by decide) rfl (by first | exact bI_rng _ | exact ⟨by omega, by omega⟩) (by first | exact bI_rng _ | exact ⟨by omega, by omega⟩) (fun c61 => ?_) (fun c61 => ?_)
        · dsimp only [cmpI] at c61
          refine AW.go 3 (pc' := 22) rfl ?_
          first | (refine AW.lw ?_ (ih (k + 1) (c + 1) (by omega) (by omega) (by omega) ?_ (by omega)); exact (And.intro rfl (And.intro rfl (And.intro rfl (And.intro rfl (And.intro rfl (And.intro rfl trivial)))))); rw [k1 h0, show (48 - (k + 1)).toNat = (48 - k).toNat - 1 by omega, hi, hs]; (first | rw [if_pos c55, if_neg c61] | rw [if_neg c55])) | (refine AW.lw ?_ (ih (k + 1) (c) (by omega) (by omega) (by omega) ?_ (by omega)); exact (And.intro rfl (And.intro rfl (And.intro rfl (And.intro rfl (And.intro rfl (And.intro rfl trivial)))))); rw [k1 h0, show (48 - (k + 1)).toNat = (48 - k).toNat - 1 by omega, hi, hs]; (first | rw [if_pos c55, if_neg c61] | rw [if_neg c55]))
        · dsimp only [cmpI] at c61
          refine AW.go 1 (pc' := 66) rfl ?_
          refine AW.ret rfl rfl (Nat.le_refl _) (Nat.le_refl _) ?_
          refine ⟨congrArg some ?_, rfl⟩
          rw [hi, hs, if_pos c55, if_pos (Decidable.not_not.mp c61)]
set_option maxHeartbeats 2000000 in
theorem c_X3_leads (d : Nat) (hd : 5 ≤ d) (h : List AC) (g0 : h[0]? = some (ao 3 [vr 1, vr 3, vr 10, vr 25, vr 28])) (kp : Int) (g3 : h[3]? = some (ao 2 [vr 4, vr 9, vi kp])) (g4 : h[4]? = some (aq 3 4 rw4)) (m : Nat → Int) (hm : mt m) (hR : ∀ r : Int, 0 ≤ r → r < 4 → h[5 + r.toNat]? = some (ai 0 12 (rwm m r))) (r o i : Int) (rr : -2147483648 ≤ r ∧ r < 2147483648) (ro : -2147483648 ≤ o ∧ o < 2147483648) (ri : -2147483648 ≤ i ∧ i < 2147483648) : MF zX3_leads d [vr 0, vi r, vi o, vi i] h (V_leads m r o i) h := by
  refine M0.of okX3_leads (Nat.le_of_ble_eq_true rfl) ?_
  refine AW.go 1 (pc' := 1) rfl ?_
  refine AW.callSF (pn := 4) rfl rfl mlX3_57 (c_X3_isRow (d - 1) (by omega) _ _ (by omega)) rfl rfl (Nat.le_of_ble_eq_true rfl) ⟨by show d - 1 + 1 ≤ d; omega, by show 40 * (d - 1 + 1) ≤ 40 * d; omega⟩ ⟨Nat.zero_le _, Nat.zero_le _⟩ ?_
  refine AW.bz (tgt := 14) (pn := 7) rfl (by decide) rfl (fun c4 => ?_) (fun c4 => ?_)
  · refine AW.go 1 (pc' := 15) rfl ?_
    refine AW.ret rfl rfl (Nat.le_refl _) (Nat.le_refl _) ?_
    refine ⟨congrArg some ?_, rfl⟩
    unfold V_leads
    (repeat' split) <;> first | rfl | omega
  · refine AW.go 1 (pc' := 8) rfl ?_
    refine AW.callSF (pn := 11) rfl rfl mlX3_57 (c_X3_isRow (d - 1) (by omega) _ _ (by omega)) rfl rfl (Nat.le_of_ble_eq_true rfl) ⟨by show d - 1 + 1 ≤ d; omega, by show 40 * (d - 1 + 1) ≤ 40 * d; omega⟩ ⟨Nat.zero_le _, Nat.zero_le _⟩ ?_
    refine AW.bnz (tgt := 16) (pn := 14) rfl (by decide) rfl (fun c11 => ?_) (fun c11 => ?_)
    · refine AW.go 4 (pc' := 22) rfl ?_
      unfold V_leads
      rw [if_pos ⟨c4, c11⟩]
      refine AW.lw ?_ (l_X3_leads d hd h g0 kp g3 g4 m hm hR r o i c4 c11 ri _ 0 0 (by omega) (by omega) (by omega) rfl (Nat.lt_succ_self _))
      exact (And.intro rfl (And.intro rfl (And.intro rfl (And.intro rfl (And.intro rfl (And.intro rfl trivial))))))
    · refine AW.go 1 (pc' := 15) rfl ?_
      refine AW.ret rfl rfl (Nat.le_refl _) (Nat.le_refl _) ?_
      refine ⟨congrArg some ?_, rfl⟩
      unfold V_leads
      (repeat' split) <;> first | rfl | omega
set_option maxHeartbeats 4000000 in
theorem l_X3_partner (d : Nat) (hd : 5 ≤ d) (h : List AC) (g0 : h[0]? = some (ao 3 [vr 1, vr 3, vr 10, vr 25, vr 28])) (kp : Int) (g3 : h[3]? = some (ao 2 [vr 4, vr 9, vi kp])) (g4 : h[4]? = some (aq 3 4 rw4)) (m : Nat → Int) (hm : mt m) (hR : ∀ r : Int, 0 ≤ r → r < 4 → h[5 + r.toNat]? = some (ai 0 12 (rwm m r))) (r i : Int) (rr : 0 ≤ r ∧ r < 4) (ri : -2147483648 ≤ i ∧ i < 2147483648) : ∀ (n : Nat) (k : Int) (c : Int), (0 ≤ k) → (k ≤ 48) → (0 ≤ c ∧ c ≤ k) → ((sel (prt (rwm m r)) i 48 0 0) = sel (prt (rwm m r)) i (48 - k).toNat k.toNat c) → ((48 - k).toNat) < n → AW zX3_partner Eq (rmd d) 0 0 0 0 32 [(5, vi k), (4, vi c), (3, vi (fst12 (rwm m r) 0 0 6 : Int)), (0, vr 0), (1, vi r), (2, vi i)] [] h (RQ (sel (prt (rwm m r)) i 48 0 0) h) := by
  intro n
  induction n with
  | zero =>
    intro k c h0 h1 hc hi hn
    exact absurd hn (Nat.not_lt_zero _)
  | succ n ih =>
    intro k c h0 h1 hc hi hn
    refine AW.go 2 (pc' := 36) rfl ?_
    refine AW.bi (tgt := 79) (pn := 39) rfl (by decide) rfl (by first | exact bI_rng _ | exact ⟨by omega, by omega⟩) (by first | exact bI_rng _ | exact ⟨by omega, by omega⟩) (fun c36 => ?_) (fun c36 => ?_)
    · dsimp only [cmpI] at c36
      refine AW.go 2 (pc' := 81) rfl ?_
      refine AW.bi (tgt := 89) (pn := 84) rfl (by decide) rfl (by first | exact bI_rng _ | exact ⟨by omega, by omega⟩) (by first | exact bI_rng _ | exact ⟨by omega, by omega⟩) (fun c81 => ?_) (fun c81 => ?_)
      · dsimp only [cmpI] at c81
        refine AW.go 1 (pc' := 91) rfl ?_
        refine AW.ret rfl rfl (Nat.le_refl _) (Nat.le_refl _) ?_
        refine ⟨congrArg some ?_, rfl⟩
        rw [hi, show (48 - k).toNat = 0 by omega]
        unfold sel
        first | rw [if_pos (by omega)] | rw [if_neg (by omega)]
      · dsimp only [cmpI] at c81
        refine AW.go 2 (pc' := 91) rfl ?_
        refine AW.ret rfl rfl (Nat.le_refl _) (Nat.le_refl _) ?_
        refine ⟨congrArg some ?_, rfl⟩
        rw [hi, show (48 - k).toNat = 0 by omega]
        unfold sel
        first | rw [if_pos (by omega)] | rw [if_neg (by omega)]
    · dsimp only [cmpI] at c36
      have hwr := hR r (by omega) (by omega)
      have htr := rwm_tn hm (r := r) (by omega)
      have hs : sel (prt (rwm m r)) i (48 - k).toNat k.toNat c = if decide (fst12 (rwm m r) k 0 6 &&& fst12 (rwm m r) 0 0 6 = 0) = true then (if c = i then k else sel (prt (rwm m r)) i ((48 - k).toNat - 1) (k.toNat + 1) (c + 1)) else sel (prt (rwm m r)) i ((48 - k).toNat - 1) (k.toNat + 1) c := by
        obtain ⟨q, hq⟩ : ∃ q, (48 - k).toNat = q + 1 := ⟨(48 - k).toNat - 1, by omega⟩
        rw [hq]
        show (if (prt (rwm m r)) (k.toNat) = true then (if c = i then (k.toNat : Int) else _) else _) = _
        simp only [prt, kk h0]
        rfl
      
      refine AW.go 1 (pc' := 40) rfl ?_
      refine AW.getf (pn := 43) rfl rfl flX3_19 (by first | assumption | exact set_self (by assumption) | exact set_ne (by first | assumption | omega | decide) (by first | assumption | exact set_self (by assumption) | exact set_ne (by first | assumption | omega | decide) (by assumption))) rfl ?_
      refine AW.getf (pn := 46) rfl rfl flX3_61 (by first | assumption | exact set_self (by assumption) | exact set_ne (by first | assumption | omega | decide) (by first | assumption | exact set_self (by assumption) | exact set_ne (by first | assumption | omega | decide) (by assumption))) rfl ?_
      refine AW.go 1 (pc' := 47) rfl ?_
      refine AW.aald (pn := 48) rfl rfl (by first | assumption | exact set_self (by assumption) | exact set_ne (by first | assumption | omega | decide) (by first | assumption | exact set_self (by assumption) | exact set_ne (by first | assumption | omega | decide) (by assumption))) (by decide) (by decide) (by omega) (by omega) (rw4_at (by omega)) ?_
      refine AW.go 3 (pc' := 53) rfl ?_
      refine AW.callSF (pn := 56) rfl rfl mlX3_122 (c_X3_formSet (d - 1) (by omega) _ _ _ (by assumption) (by assumption) _ _ _ (by omega) (by omega)) rfl rfl (Nat.le_of_ble_eq_true rfl) ⟨by show d - 1 + 1 ≤ d; omega, by show 40 * (d - 1 + 1) ≤ 40 * d; omega⟩ ⟨Nat.zero_le _, Nat.zero_le _⟩ ?_
      refine AW.go 1 (pc' := 57) rfl ?_
      refine AW.andN (pn := 58) rfl rfl ?_
      have g1 : fst12 (rwm m r) k 0 (6 : Int).toNat &&& fst12 (rwm m r) 0 0 6 < 4096 := Nat.lt_of_le_of_lt Nat.and_le_right (fst12_lt _ _ _ _)
      change fst12 (rwm m r) k 0 6 &&& fst12 (rwm m r) 0 0 6 < 4096 at g1
      rw [show (6 : Int).toNat = 6 from rfl]
      refine AW.br (tgt := 73) (pn := 61) rfl (by decide) rfl (by first | exact bI_rng _ | exact ⟨by omega, by omega⟩) (fun c58 => ?_) (fun c58 => ?_)
      · dsimp only [cmpI] at c58
        refine AW.go 2 (pc' := 32) rfl ?_
        first | (refine AW.lw ?_ (ih (k + 1) (c + 1) (by omega) (by omega) (by omega) ?_ (by omega)); exact (And.intro rfl (And.intro rfl (And.intro rfl (And.intro rfl (And.intro rfl (And.intro rfl trivial)))))); rw [k1 h0, show (48 - (k + 1)).toNat = (48 - k).toNat - 1 by omega, hi, hs]; (first | rw [if_pos (decide_eq_true (by omega)), if_neg c64] | rw [if_neg (fun q => c58 (by have q := of_decide_eq_true q; omega))])) | (refine AW.lw ?_ (ih (k + 1) (c) (by omega) (by omega) (by omega) ?_ (by omega)); exact (And.intro rfl (And.intro rfl (And.intro rfl (And.intro rfl (And.intro rfl (And.intro rfl trivial)))))); rw [k1 h0, show (48 - (k + 1)).toNat = (48 - k).toNat - 1 by omega, hi, hs]; (first | rw [if_pos (decide_eq_true (by omega)), if_neg c64] | rw [if_neg (fun q => c58 (by have q := of_decide_eq_true q; omega))]))
      · dsimp only [cmpI] at c58
        refine AW.go 2 (pc' := 64) rfl ?_
        refine AW.bi (tgt := 70) (pn := 67) rfl (by decide) rfl (by first | exact bI_rng _ | exact ⟨by omega, by omega⟩) (by first | exact bI_rng _ | exact ⟨by omega, by omega⟩) (fun c64 => ?_) (fun c64 => ?_)
        · dsimp only [cmpI] at c64
          refine AW.go 3 (pc' := 32) rfl ?_
          first | (refine AW.lw ?_ (ih (k + 1) (c + 1) (by omega) (by omega) (by omega) ?_ (by omega)); exact (And.intro rfl (And.intro rfl (And.intro rfl (And.intro rfl (And.intro rfl (And.intro rfl trivial)))))); rw [k1 h0, show (48 - (k + 1)).toNat = (48 - k).toNat - 1 by omega, hi, hs]; (first | rw [if_pos (decide_eq_true (by omega)), if_neg c64] | rw [if_neg (fun q => c58 (by have q := of_decide_eq_true q; omega))])) | (refine AW.lw ?_ (ih (k + 1) (c) (by omega) (by omega) (by omega) ?_ (by omega)); exact (And.intro rfl (And.intro rfl (And.intro rfl (And.intro rfl (And.intro rfl (And.intro rfl trivial)))))); rw [k1 h0, show (48 - (k + 1)).toNat = (48 - k).toNat - 1 by omega, hi, hs]; (first | rw [if_pos (decide_eq_true (by omega)), if_neg c64] | rw [if_neg (fun q => c58 (by have q := of_decide_eq_true q; omega))]))
        · dsimp only [cmpI] at c64
          refine AW.go 1 (pc' := 69) rfl ?_
          refine AW.ret rfl rfl (Nat.le_refl _) (Nat.le_refl _) ?_
          refine ⟨congrArg some ?_, rfl⟩
          rw [hi, hs, if_pos (decide_eq_true (by omega)), if_pos (Decidable.not_not.mp c64)]
set_option maxHeartbeats 2000000 in
theorem c_X3_partner (d : Nat) (hd : 5 ≤ d) (h : List AC) (g0 : h[0]? = some (ao 3 [vr 1, vr 3, vr 10, vr 25, vr 28])) (kp : Int) (g3 : h[3]? = some (ao 2 [vr 4, vr 9, vi kp])) (g4 : h[4]? = some (aq 3 4 rw4)) (m : Nat → Int) (hm : mt m) (hR : ∀ r : Int, 0 ≤ r → r < 4 → h[5 + r.toNat]? = some (ai 0 12 (rwm m r))) (r i : Int) (rr : -2147483648 ≤ r ∧ r < 2147483648) (ri : -2147483648 ≤ i ∧ i < 2147483648) : MF zX3_partner d [vr 0, vi r, vi i] h (V_partner m r i) h := by
  refine M0.of okX3_partner (Nat.le_of_ble_eq_true rfl) ?_
  refine AW.go 1 (pc' := 1) rfl ?_
  refine AW.callSF (pn := 4) rfl rfl mlX3_57 (c_X3_isRow (d - 1) (by omega) _ _ (by omega)) rfl rfl (Nat.le_of_ble_eq_true rfl) ⟨by show d - 1 + 1 ≤ d; omega, by show 40 * (d - 1 + 1) ≤ 40 * d; omega⟩ ⟨Nat.zero_le _, Nat.zero_le _⟩ ?_
  refine AW.bnz (tgt := 9) (pn := 7) rfl (by decide) rfl (fun c4 => ?_) (fun c4 => ?_)
  · have hwr := hR r (by omega) (by omega)
    have htr := rwm_tn hm (r := r) (by omega)
    refine AW.go 1 (pc' := 10) rfl ?_
    refine AW.getf (pn := 13) rfl rfl flX3_19 (by first | assumption | exact set_self (by assumption) | exact set_ne (by first | assumption | omega | decide) (by first | assumption | exact set_self (by assumption) | exact set_ne (by first | assumption | omega | decide) (by assumption))) rfl ?_
    refine AW.getf (pn := 16) rfl rfl flX3_61 (by first | assumption | exact set_self (by assumption) | exact set_ne (by first | assumption | omega | decide) (by first | assumption | exact set_self (by assumption) | exact set_ne (by first | assumption | omega | decide) (by assumption))) rfl ?_
    refine AW.go 1 (pc' := 17) rfl ?_
    refine AW.aald (pn := 18) rfl rfl (by first | assumption | exact set_self (by assumption) | exact set_ne (by first | assumption | omega | decide) (by first | assumption | exact set_self (by assumption) | exact set_ne (by first | assumption | omega | decide) (by assumption))) (by decide) (by decide) (by omega) (by omega) (rw4_at (by omega)) ?_
    refine AW.go 3 (pc' := 22) rfl ?_
    refine AW.callSF (pn := 25) rfl rfl mlX3_122 (c_X3_formSet (d - 1) (by omega) _ _ _ (by assumption) (by assumption) _ _ _ (by omega) (by omega)) rfl rfl (Nat.le_of_ble_eq_true rfl) ⟨by show d - 1 + 1 ≤ d; omega, by show 40 * (d - 1 + 1) ≤ 40 * d; omega⟩ ⟨Nat.zero_le _, Nat.zero_le _⟩ ?_
    refine AW.go 5 (pc' := 32) rfl ?_
    unfold V_partner
    rw [if_pos c4]
    refine AW.lw ?_ (l_X3_partner d hd h g0 kp g3 g4 m hm hR r i c4 ri _ 0 0 (by omega) (by omega) (by omega) rfl (Nat.lt_succ_self _))
    exact (And.intro rfl (And.intro rfl (And.intro rfl (And.intro rfl (And.intro rfl (And.intro rfl trivial))))))
  · refine AW.go 1 (pc' := 8) rfl ?_
    refine AW.ret rfl rfl (Nat.le_refl _) (Nat.le_refl _) ?_
    refine ⟨congrArg some ?_, rfl⟩
    unfold V_partner
    (repeat' split) <;> first | rfl | omega
set_option maxHeartbeats 4000000 in
theorem l_X3_shared (d : Nat) (hd : 6 ≤ d) (h : List AC) (g0 : h[0]? = some (ao 3 [vr 1, vr 3, vr 10, vr 25, vr 28])) (kp : Int) (g3 : h[3]? = some (ao 2 [vr 4, vr 9, vi kp])) (g4 : h[4]? = some (aq 3 4 rw4)) (m : Nat → Int) (hm : mt m) (hR : ∀ r : Int, 0 ≤ r → r < 4 → h[5 + r.toNat]? = some (ai 0 12 (rwm m r))) (r F N : Int) (rr : 0 ≤ r ∧ r < 4) (rF : 0 ≤ F ∧ F < 48) (rN : 2 ≤ N ∧ N ≤ 6) : ∀ (n : Nat) (k : Int) (c : Int), (0 ≤ k) → (k ≤ 13 - N) → (c = ((cntN (fun s => hsg (rwm m r) F N (fst12 (rwm m r) 0 (s : Int) N.toNat : Int)) k.toNat : Nat) : Int)) → ((13 - N - k).toNat) < n → AW zX3_shared Eq (rmd d) 0 0 0 0 36 [(5, vi k), (4, vi c), (0, vr 0), (1, vi r), (2, vi F), (3, vi N)] [] h (RQ ((cntN (fun s => hsg (rwm m r) F N (fst12 (rwm m r) 0 (s : Int) N.toNat : Int)) (13 - N).toNat : Nat) : Int) h) := by
  intro n
  induction n with
  | zero =>
    intro k c h0 h1 hc hn
    exact absurd hn (Nat.not_lt_zero _)
  | succ n ih =>
    intro k c h0 h1 hc hn
    refine AW.go 4 (pc' := 42) rfl ?_
    refine AW.bi (tgt := 87) (pn := 45) rfl (by decide) rfl (by first | exact bI_rng _ | exact ⟨by omega, by omega⟩) (by first | exact bI_rng _ | exact ⟨by omega, by omega⟩) (fun c42 => ?_) (fun c42 => ?_)
    · dsimp only [cmpI] at c42
      refine AW.go 1 (pc' := 89) rfl ?_
      refine AW.ret rfl rfl (Nat.le_refl _) (Nat.le_refl _) ?_
      refine ⟨congrArg some ?_, rfl⟩
      rw [hc, show k = 13 - N by omega]
    · dsimp only [cmpI] at c42
      have hwr := hR r (by omega) (by omega)
      have htr := rwm_tn hm (r := r) (by omega)
      refine AW.go 1 (pc' := 46) rfl ?_
      refine AW.getf (pn := 49) rfl rfl flX3_19 (by first | assumption | exact set_self (by assumption) | exact set_ne (by first | assumption | omega | decide) (by first | assumption | exact set_self (by assumption) | exact set_ne (by first | assumption | omega | decide) (by assumption))) rfl ?_
      refine AW.getf (pn := 52) rfl rfl flX3_61 (by first | assumption | exact set_self (by assumption) | exact set_ne (by first | assumption | omega | decide) (by first | assumption | exact set_self (by assumption) | exact set_ne (by first | assumption | omega | decide) (by assumption))) rfl ?_
      refine AW.go 1 (pc' := 53) rfl ?_
      refine AW.aald (pn := 54) rfl rfl (by first | assumption | exact set_self (by assumption) | exact set_ne (by first | assumption | omega | decide) (by first | assumption | exact set_self (by assumption) | exact set_ne (by first | assumption | omega | decide) (by assumption))) (by decide) (by decide) (by omega) (by omega) (rw4_at (by omega)) ?_
      refine AW.go 3 (pc' := 57) rfl ?_
      refine AW.getf (pn := 60) rfl rfl flX3_19 (by first | assumption | exact set_self (by assumption) | exact set_ne (by first | assumption | omega | decide) (by first | assumption | exact set_self (by assumption) | exact set_ne (by first | assumption | omega | decide) (by assumption))) rfl ?_
      refine AW.getf (pn := 63) rfl rfl flX3_61 (by first | assumption | exact set_self (by assumption) | exact set_ne (by first | assumption | omega | decide) (by first | assumption | exact set_self (by assumption) | exact set_ne (by first | assumption | omega | decide) (by assumption))) rfl ?_
      refine AW.go 1 (pc' := 64) rfl ?_
      refine AW.aald (pn := 65) rfl rfl (by first | assumption | exact set_self (by assumption) | exact set_ne (by first | assumption | omega | decide) (by first | assumption | exact set_self (by assumption) | exact set_ne (by first | assumption | omega | decide) (by assumption))) (by decide) (by decide) (by omega) (by omega) (rw4_at (by omega)) ?_
      refine AW.go 3 (pc' := 69) rfl ?_
      refine AW.callSF (pn := 72) rfl rfl mlX3_122 (c_X3_formSet (d - 1) (by omega) _ _ _ (by assumption) (by assumption) _ _ _ (by omega) (by omega)) rfl rfl (Nat.le_of_ble_eq_true rfl) ⟨by show d - 1 + 1 ≤ d; omega, by show 40 * (d - 1 + 1) ≤ 40 * d; omega⟩ ⟨Nat.zero_le _, Nat.zero_le _⟩ ?_
      have g1 := fst12_lt (rwm m r) 0 k N.toNat
      refine AW.callSF (pn := 75) rfl rfl mlX3_125 (c_X3_hasSegment (d - 1) (by omega) _ _ _ (by assumption) (by assumption) _ _ _ (by omega) (by omega) (by omega)) rfl rfl (Nat.le_of_ble_eq_true rfl) ⟨by show d - 1 + 1 ≤ d; omega, by show 40 * (d - 1 + 1) ≤ 40 * d; omega⟩ ⟨Nat.zero_le _, Nat.zero_le _⟩ ?_
      refine AW.bz (tgt := 81) (pn := 78) rfl (by decide) rfl (fun c75 => ?_) (fun c75 => ?_)
      · refine AW.go 2 (pc' := 36) rfl ?_
        first | (refine AW.lw ?_ (ih (k + 1) (c + 1) (by omega) (by omega) ?_ (by omega)); exact (And.intro rfl (And.intro rfl (And.intro rfl (And.intro rfl (And.intro rfl (And.intro rfl trivial)))))); rw [cntN_s h0, kk h0]; (first | rw [if_pos c75] | rw [if_neg c75]); rw [hc]; rfl) | (refine AW.lw ?_ (ih (k + 1) (c) (by omega) (by omega) ?_ (by omega)); exact (And.intro rfl (And.intro rfl (And.intro rfl (And.intro rfl (And.intro rfl (And.intro rfl trivial)))))); rw [cntN_s h0, kk h0]; (first | rw [if_pos c75] | rw [if_neg c75]); rw [hc]; rfl)
      · refine AW.go 3 (pc' := 36) rfl ?_
        first | (refine AW.lw ?_ (ih (k + 1) (c + 1) (by omega) (by omega) ?_ (by omega)); exact (And.intro rfl (And.intro rfl (And.intro rfl (And.intro rfl (And.intro rfl (And.intro rfl trivial)))))); rw [cntN_s h0, kk h0]; (first | rw [if_pos c75] | rw [if_neg c75]); rw [hc]; rfl) | (refine AW.lw ?_ (ih (k + 1) (c) (by omega) (by omega) ?_ (by omega)); exact (And.intro rfl (And.intro rfl (And.intro rfl (And.intro rfl (And.intro rfl (And.intro rfl trivial)))))); rw [cntN_s h0, kk h0]; (first | rw [if_pos c75] | rw [if_neg c75]); rw [hc]; rfl)
set_option maxHeartbeats 2000000 in
theorem c_X3_shared (d : Nat) (hd : 6 ≤ d) (h : List AC) (g0 : h[0]? = some (ao 3 [vr 1, vr 3, vr 10, vr 25, vr 28])) (kp : Int) (g3 : h[3]? = some (ao 2 [vr 4, vr 9, vi kp])) (g4 : h[4]? = some (aq 3 4 rw4)) (m : Nat → Int) (hm : mt m) (hR : ∀ r : Int, 0 ≤ r → r < 4 → h[5 + r.toNat]? = some (ai 0 12 (rwm m r))) (r F N : Int) (rr : -2147483648 ≤ r ∧ r < 2147483648) (rF : -2147483648 ≤ F ∧ F < 2147483648) (rN : -2147483648 ≤ N ∧ N < 2147483648) : MF zX3_shared d [vr 0, vi r, vi F, vi N] h (V_shared m r F N) h := by
  refine M0.of okX3_shared (Nat.le_of_ble_eq_true rfl) ?_
  refine AW.go 1 (pc' := 1) rfl ?_
  refine AW.callSF (pn := 4) rfl rfl mlX3_57 (c_X3_isRow (d - 1) (by omega) _ _ (by omega)) rfl rfl (Nat.le_of_ble_eq_true rfl) ⟨by show d - 1 + 1 ≤ d; omega, by show 40 * (d - 1 + 1) ≤ 40 * d; omega⟩ ⟨Nat.zero_le _, Nat.zero_le _⟩ ?_
  refine AW.bz (tgt := 14) (pn := 7) rfl (by decide) rfl (fun c4 => ?_) (fun c4 => ?_)
  · refine AW.go 1 (pc' := 15) rfl ?_
    refine AW.ret rfl rfl (Nat.le_refl _) (Nat.le_refl _) ?_
    refine ⟨congrArg some ?_, rfl⟩
    unfold V_shared
    (repeat' split) <;> first | rfl | omega
  · refine AW.go 1 (pc' := 8) rfl ?_
    refine AW.callSF (pn := 11) rfl rfl mlX3_82 (c_X3_isForm (d - 1) (by omega) _ _ (by omega)) rfl rfl (Nat.le_of_ble_eq_true rfl) ⟨by show d - 1 + 1 ≤ d; omega, by show 40 * (d - 1 + 1) ≤ 40 * d; omega⟩ ⟨Nat.zero_le _, Nat.zero_le _⟩ ?_
    refine AW.bnz (tgt := 16) (pn := 14) rfl (by decide) rfl (fun c11 => ?_) (fun c11 => ?_)
    · refine AW.go 2 (pc' := 18) rfl ?_
      refine AW.bi (tgt := 27) (pn := 21) rfl (by decide) rfl (by first | exact bI_rng _ | exact ⟨by omega, by omega⟩) (by first | exact bI_rng _ | exact ⟨by omega, by omega⟩) (fun c18 => ?_) (fun c18 => ?_)
      · dsimp only [cmpI] at c18
        refine AW.go 1 (pc' := 29) rfl ?_
        refine AW.ret rfl rfl (Nat.le_refl _) (Nat.le_refl _) ?_
        refine ⟨congrArg some ?_, rfl⟩
        unfold V_shared
        (repeat' split) <;> first | rfl | omega
      · dsimp only [cmpI] at c18
        refine AW.go 2 (pc' := 24) rfl ?_
        refine AW.bi (tgt := 30) (pn := 27) rfl (by decide) rfl (by first | exact bI_rng _ | exact ⟨by omega, by omega⟩) (by first | exact bI_rng _ | exact ⟨by omega, by omega⟩) (fun c24 => ?_) (fun c24 => ?_)
        · dsimp only [cmpI] at c24
          refine AW.go 4 (pc' := 36) rfl ?_
          unfold V_shared
          rw [if_pos ⟨c4, c11⟩, if_pos (by omega)]
          refine AW.lw ?_ (l_X3_shared d hd h g0 kp g3 g4 m hm hR r F N c4 c11 (by omega) _ 0 0 (by omega) (by omega) rfl (Nat.lt_succ_self _))
          exact (And.intro rfl (And.intro rfl (And.intro rfl (And.intro rfl (And.intro rfl (And.intro rfl trivial))))))
        · dsimp only [cmpI] at c24
          refine AW.go 1 (pc' := 29) rfl ?_
          refine AW.ret rfl rfl (Nat.le_refl _) (Nat.le_refl _) ?_
          refine ⟨congrArg some ?_, rfl⟩
          unfold V_shared
          (repeat' split) <;> first | rfl | omega
    · refine AW.go 1 (pc' := 15) rfl ?_
      refine AW.ret rfl rfl (Nat.le_refl _) (Nat.le_refl _) ?_
      refine ⟨congrArg some ?_, rfl⟩
      unfold V_shared
      (repeat' split) <;> first | rfl | omega
set_option maxHeartbeats 4000000 in
theorem l_X3_derived (d : Nat) (hd : 6 ≤ d) (h : List AC) (g0 : h[0]? = some (ao 3 [vr 1, vr 3, vr 10, vr 25, vr 28])) (kp : Int) (g3 : h[3]? = some (ao 2 [vr 4, vr 9, vi kp])) (g4 : h[4]? = some (aq 3 4 rw4)) (m : Nat → Int) (hm : mt m) (hR : ∀ r : Int, 0 ≤ r → r < 4 → h[5 + r.toNat]? = some (ai 0 12 (rwm m r))) (r N : Int) (rr : 0 ≤ r ∧ r < 4) (hN : N = 2 ∨ N = 3 ∨ N = 4 ∨ N = 6) : ∀ (n : Nat) (k : Int) (s : Int), (0 ≤ k) → (k ≤ 12 / N - 1) → (s = N * (k + 1)) → (drv (rwm m r) N k.toNat = true) → ((12 / N - 1 - k).toNat) < n → AW zX3_derived Eq (rmd d) 0 0 0 0 35 [(3, vi s), (0, vr 0), (1, vi r), (2, vi N)] [] h (RQ (bI (drv (rwm m r) N ((12 / N).toNat - 1) = true)) h) := by
  intro n
  induction n with
  | zero =>
    intro k s h0 h1 hsk hi hn
    exact absurd hn (Nat.not_lt_zero _)
  | succ n ih =>
    intro k s h0 h1 hsk hi hn
    have hsb : 0 ≤ s ∧ s ≤ 12 := by rw [hsk]; rcases hN with rfl | rfl | rfl | rfl <;> omega
    have hNb : 2 ≤ N ∧ N ≤ 6 := by omega
    refine AW.go 4 (pc' := 40) rfl ?_
    refine AW.bi (tgt := 69) (pn := 43) rfl (by decide) rfl (by first | exact bI_rng _ | exact ⟨by omega, by omega⟩) (by first | exact bI_rng _ | exact ⟨by omega, by omega⟩) (fun c40 => ?_) (fun c40 => ?_)
    · dsimp only [cmpI] at c40
      refine AW.go 1 (pc' := 70) rfl ?_
      refine AW.ret rfl rfl (Nat.le_refl _) (Nat.le_refl _) ?_
      refine ⟨congrArg some (bI_t ?_).symm, rfl⟩
      rw [show (12 / N).toNat - 1 = k.toNat by rcases hN with rfl | rfl | rfl | rfl <;> omega]
      exact hi
    · dsimp only [cmpI] at c40
      have hwr := hR r (by omega) (by omega)
      have htr := rwm_tn hm (r := r) (by omega)
      refine AW.go 1 (pc' := 44) rfl ?_
      refine AW.getf (pn := 47) rfl rfl flX3_19 (by first | assumption | exact set_self (by assumption) | exact set_ne (by first | assumption | omega | decide) (by first | assumption | exact set_self (by assumption) | exact set_ne (by first | assumption | omega | decide) (by assumption))) rfl ?_
      refine AW.getf (pn := 50) rfl rfl flX3_61 (by first | assumption | exact set_self (by assumption) | exact set_ne (by first | assumption | omega | decide) (by first | assumption | exact set_self (by assumption) | exact set_ne (by first | assumption | omega | decide) (by assumption))) rfl ?_
      refine AW.go 1 (pc' := 51) rfl ?_
      refine AW.aald (pn := 52) rfl rfl (by first | assumption | exact set_self (by assumption) | exact set_ne (by first | assumption | omega | decide) (by first | assumption | exact set_self (by assumption) | exact set_ne (by first | assumption | omega | decide) (by assumption))) (by decide) (by decide) (by omega) (by omega) (rw4_at (by omega)) ?_
      refine AW.go 2 (pc' := 54) rfl ?_
      refine AW.callSF (pn := 57) rfl rfl mlX3_129 (c_X3_isAnyFormOf (d - 1) (by omega) _ _ _ (by assumption) (by assumption) _ _ (by omega) (by omega)) rfl rfl (Nat.le_of_ble_eq_true rfl) ⟨by show d - 1 + 1 ≤ d; omega, by show 40 * (d - 1 + 1) ≤ 40 * d; omega⟩ ⟨Nat.zero_le _, Nat.zero_le _⟩ ?_
      refine AW.bnz (tgt := 62) (pn := 60) rfl (by decide) rfl (fun c57 => ?_) (fun c57 => ?_)
      · refine AW.go 5 (pc' := 35) rfl ?_
        refine AW.lw ?_ (ih (k + 1) (s + N) (by omega) (by rcases hN with rfl | rfl | rfl | rfl <;> omega) (by rw [hsk]; rcases hN with rfl | rfl | rfl | rfl <;> omega) (by unfold drv; rw [allN_s h0, kk h0, ← hsk, c57, Bool.and_true]; exact hi) (by rcases hN with rfl | rfl | rfl | rfl <;> omega))
        exact (And.intro rfl (And.intro rfl (And.intro rfl (And.intro rfl trivial))))
      · refine AW.go 1 (pc' := 61) rfl ?_
        refine AW.ret rfl rfl (Nat.le_refl _) (Nat.le_refl _) ?_
        refine ⟨congrArg some (bI_f (fun q => ?_)).symm, rfl⟩
        have q1 := (allN_iff _ _).mp q k.toNat (by rcases hN with rfl | rfl | rfl | rfl <;> omega)
        rw [kk h0, ← hsk] at q1
        exact c57 q1
set_option maxHeartbeats 2000000 in
theorem c_X3_derived (d : Nat) (hd : 6 ≤ d) (h : List AC) (g0 : h[0]? = some (ao 3 [vr 1, vr 3, vr 10, vr 25, vr 28])) (kp : Int) (g3 : h[3]? = some (ao 2 [vr 4, vr 9, vi kp])) (g4 : h[4]? = some (aq 3 4 rw4)) (m : Nat → Int) (hm : mt m) (hR : ∀ r : Int, 0 ≤ r → r < 4 → h[5 + r.toNat]? = some (ai 0 12 (rwm m r))) (r N : Int) (rr : -2147483648 ≤ r ∧ r < 2147483648) (rN : -2147483648 ≤ N ∧ N < 2147483648) : MF zX3_derived d [vr 0, vi r, vi N] h (V_derived m r N) h := by
  refine M0.of okX3_derived (Nat.le_of_ble_eq_true rfl) ?_
  refine AW.go 1 (pc' := 1) rfl ?_
  refine AW.callSF (pn := 4) rfl rfl mlX3_57 (c_X3_isRow (d - 1) (by omega) _ _ (by omega)) rfl rfl (Nat.le_of_ble_eq_true rfl) ⟨by show d - 1 + 1 ≤ d; omega, by show 40 * (d - 1 + 1) ≤ 40 * d; omega⟩ ⟨Nat.zero_le _, Nat.zero_le _⟩ ?_
  refine AW.bnz (tgt := 9) (pn := 7) rfl (by decide) rfl (fun c4 => ?_) (fun c4 => ?_)
  · refine AW.go 2 (pc' := 11) rfl ?_
    refine AW.bi (tgt := 33) (pn := 14) rfl (by decide) rfl (by first | exact bI_rng _ | exact ⟨by omega, by omega⟩) (by first | exact bI_rng _ | exact ⟨by omega, by omega⟩) (fun c11 => ?_) (fun c11 => ?_)
    · dsimp only [cmpI] at c11
      refine AW.go 2 (pc' := 35) rfl ?_
      have hN : N = 2 ∨ N = 3 ∨ N = 4 ∨ N = 6 := by omega
      unfold V_derived
      rw [if_pos c4, if_pos hN]
      refine AW.lw ?_ (l_X3_derived d hd h g0 kp g3 g4 m hm hR r N c4 hN _ 0 N (by omega) (by rcases hN with rfl | rfl | rfl | rfl <;> decide) (by omega) rfl (Nat.lt_succ_self _))
      exact (And.intro rfl (And.intro rfl (And.intro rfl (And.intro rfl trivial))))
    · dsimp only [cmpI] at c11
      refine AW.go 2 (pc' := 16) rfl ?_
      refine AW.bi (tgt := 33) (pn := 19) rfl (by decide) rfl (by first | exact bI_rng _ | exact ⟨by omega, by omega⟩) (by first | exact bI_rng _ | exact ⟨by omega, by omega⟩) (fun c16 => ?_) (fun c16 => ?_)
      · dsimp only [cmpI] at c16
        refine AW.go 2 (pc' := 35) rfl ?_
        have hN : N = 2 ∨ N = 3 ∨ N = 4 ∨ N = 6 := by omega
        unfold V_derived
        rw [if_pos c4, if_pos hN]
        refine AW.lw ?_ (l_X3_derived d hd h g0 kp g3 g4 m hm hR r N c4 hN _ 0 N (by omega) (by rcases hN with rfl | rfl | rfl | rfl <;> decide) (by omega) rfl (Nat.lt_succ_self _))
        exact (And.intro rfl (And.intro rfl (And.intro rfl (And.intro rfl trivial))))
      · dsimp only [cmpI] at c16
        refine AW.go 2 (pc' := 21) rfl ?_
        refine AW.bi (tgt := 33) (pn := 24) rfl (by decide) rfl (by first | exact bI_rng _ | exact ⟨by omega, by omega⟩) (by first | exact bI_rng _ | exact ⟨by omega, by omega⟩) (fun c21 => ?_) (fun c21 => ?_)
        · dsimp only [cmpI] at c21
          refine AW.go 2 (pc' := 35) rfl ?_
          have hN : N = 2 ∨ N = 3 ∨ N = 4 ∨ N = 6 := by omega
          unfold V_derived
          rw [if_pos c4, if_pos hN]
          refine AW.lw ?_ (l_X3_derived d hd h g0 kp g3 g4 m hm hR r N c4 hN _ 0 N (by omega) (by rcases hN with rfl | rfl | rfl | rfl <;> decide) (by omega) rfl (Nat.lt_succ_self _))
          exact (And.intro rfl (And.intro rfl (And.intro rfl (And.intro rfl trivial))))
        · dsimp only [cmpI] at c21
          refine AW.go 2 (pc' := 27) rfl ?_
          refine AW.bi (tgt := 33) (pn := 30) rfl (by decide) rfl (by first | exact bI_rng _ | exact ⟨by omega, by omega⟩) (by first | exact bI_rng _ | exact ⟨by omega, by omega⟩) (fun c27 => ?_) (fun c27 => ?_)
          · dsimp only [cmpI] at c27
            refine AW.go 2 (pc' := 35) rfl ?_
            have hN : N = 2 ∨ N = 3 ∨ N = 4 ∨ N = 6 := by omega
            unfold V_derived
            rw [if_pos c4, if_pos hN]
            refine AW.lw ?_ (l_X3_derived d hd h g0 kp g3 g4 m hm hR r N c4 hN _ 0 N (by omega) (by rcases hN with rfl | rfl | rfl | rfl <;> decide) (by omega) rfl (Nat.lt_succ_self _))
            exact (And.intro rfl (And.intro rfl (And.intro rfl (And.intro rfl trivial))))
          · dsimp only [cmpI] at c27
            refine AW.go 1 (pc' := 32) rfl ?_
            refine AW.ret rfl rfl (Nat.le_refl _) (Nat.le_refl _) ?_
            refine ⟨congrArg some ?_, rfl⟩
            unfold V_derived
            (repeat' split) <;> first | rfl | omega
  · refine AW.go 1 (pc' := 8) rfl ?_
    refine AW.ret rfl rfl (Nat.le_refl _) (Nat.le_refl _) ?_
    refine ⟨congrArg some ?_, rfl⟩
    unfold V_derived
    (repeat' split) <;> first | rfl | omega
set_option maxHeartbeats 2000000 in
theorem c_X3_sign (d : Nat) (hd : 4 ≤ d) (h : List AC) (g0 : h[0]? = some (ao 3 [vr 1, vr 3, vr 10, vr 25, vr 28])) (kp : Int) (g3 : h[3]? = some (ao 2 [vr 4, vr 9, vi kp])) (g4 : h[4]? = some (aq 3 4 rw4)) (m : Nat → Int) (hm : mt m) (hR : ∀ r : Int, 0 ≤ r → r < 4 → h[5 + r.toNat]? = some (ai 0 12 (rwm m r))) (r F j : Int) (rr : -2147483648 ≤ r ∧ r < 2147483648) (rF : -2147483648 ≤ F ∧ F < 2147483648) (rj : -2147483648 ≤ j ∧ j < 2147483648) : MF zX3_sign d [vr 0, vi r, vi F, vi j] h (V_sign m r F j) h := by
  refine M0.of okX3_sign (Nat.le_of_ble_eq_true rfl) ?_
  refine AW.go 1 (pc' := 1) rfl ?_
  refine AW.callSF (pn := 4) rfl rfl mlX3_57 (c_X3_isRow (d - 1) (by omega) _ _ (by omega)) rfl rfl (Nat.le_of_ble_eq_true rfl) ⟨by show d - 1 + 1 ≤ d; omega, by show 40 * (d - 1 + 1) ≤ 40 * d; omega⟩ ⟨Nat.zero_le _, Nat.zero_le _⟩ ?_
  refine AW.bz (tgt := 14) (pn := 7) rfl (by decide) rfl (fun c4 => ?_) (fun c4 => ?_)
  · refine AW.go 1 (pc' := 15) rfl ?_
    refine AW.ret rfl rfl (Nat.le_refl _) (Nat.le_refl _) ?_
    refine ⟨congrArg some ?_, rfl⟩
    unfold V_sign
    (repeat' split) <;> first | rfl | omega
  · refine AW.go 1 (pc' := 8) rfl ?_
    refine AW.callSF (pn := 11) rfl rfl mlX3_82 (c_X3_isForm (d - 1) (by omega) _ _ (by omega)) rfl rfl (Nat.le_of_ble_eq_true rfl) ⟨by show d - 1 + 1 ≤ d; omega, by show 40 * (d - 1 + 1) ≤ 40 * d; omega⟩ ⟨Nat.zero_le _, Nat.zero_le _⟩ ?_
    refine AW.bnz (tgt := 16) (pn := 14) rfl (by decide) rfl (fun c11 => ?_) (fun c11 => ?_)
    · refine AW.go 1 (pc' := 17) rfl ?_
      refine AW.callSF (pn := 20) rfl rfl mlX3_159 (c_X3_nameLength (d - 1) (by omega) _ _ (by omega)) rfl rfl (Nat.le_of_ble_eq_true rfl) ⟨by show d - 1 + 1 ≤ d; omega, by show 40 * (d - 1 + 1) ≤ 40 * d; omega⟩ ⟨Nat.zero_le _, Nat.zero_le _⟩ ?_
      refine AW.go 3 (pc' := 24) rfl ?_
      have hwr := hR r (by omega) (by omega)
      have htr := rwm_tn hm (r := r) (by omega)
      have b1 := kl_b F
      have b2 := nl_b F
      refine AW.bi (tgt := 35) (pn := 27) rfl (by decide) rfl (by first | exact bI_rng _ | exact ⟨by omega, by omega⟩) (by first | exact bI_rng _ | exact ⟨by omega, by omega⟩) (fun c24 => ?_) (fun c24 => ?_)
      · dsimp only [cmpI] at c24
        refine AW.go 1 (pc' := 36) rfl ?_
        refine AW.br (tgt := 48) (pn := 39) rfl (by decide) rfl (by first | exact bI_rng _ | exact ⟨by omega, by omega⟩) (fun c36 => ?_) (fun c36 => ?_)
        · dsimp only [cmpI] at c36
          refine AW.go 1 (pc' := 50) rfl ?_
          refine AW.ret rfl rfl (Nat.le_refl _) (Nat.le_refl _) ?_
          refine ⟨congrArg some ?_, rfl⟩
          unfold V_sign
          (repeat' split) <;> first | rfl | omega
        · dsimp only [cmpI] at c36
          refine AW.go 4 (pc' := 45) rfl ?_
          refine AW.bi (tgt := 51) (pn := 48) rfl (by decide) rfl (by first | exact bI_rng _ | exact ⟨by omega, by omega⟩) (by first | exact bI_rng _ | exact ⟨by omega, by omega⟩) (fun c45 => ?_) (fun c45 => ?_)
          · dsimp only [cmpI] at c45
            refine AW.go 2 (pc' := 54) rfl ?_
            refine AW.bi (tgt := 63) (pn := 57) rfl (by decide) rfl (by first | exact bI_rng _ | exact ⟨by omega, by omega⟩) (by first | exact bI_rng _ | exact ⟨by omega, by omega⟩) (fun c54 => ?_) (fun c54 => ?_)
            · dsimp only [cmpI] at c54
              refine AW.go 2 (pc' := 66) rfl ?_
              refine AW.bi (tgt := 74) (pn := 69) rfl (by decide) rfl (by first | exact bI_rng _ | exact ⟨by omega, by omega⟩) (by first | exact bI_rng _ | exact ⟨by omega, by omega⟩) (fun c66 => ?_) (fun c66 => ?_)
              · dsimp only [cmpI] at c66
                refine AW.go 1 (pc' := 75) rfl ?_
                refine AW.getf (pn := 78) rfl rfl flX3_19 (by first | assumption | exact set_self (by assumption) | exact set_ne (by first | assumption | omega | decide) (by first | assumption | exact set_self (by assumption) | exact set_ne (by first | assumption | omega | decide) (by assumption))) rfl ?_
                refine AW.getf (pn := 81) rfl rfl flX3_61 (by first | assumption | exact set_self (by assumption) | exact set_ne (by first | assumption | omega | decide) (by first | assumption | exact set_self (by assumption) | exact set_ne (by first | assumption | omega | decide) (by assumption))) rfl ?_
                refine AW.go 1 (pc' := 82) rfl ?_
                refine AW.aald (pn := 83) rfl rfl (by first | assumption | exact set_self (by assumption) | exact set_ne (by first | assumption | omega | decide) (by first | assumption | exact set_self (by assumption) | exact set_ne (by first | assumption | omega | decide) (by assumption))) (by decide) (by decide) (by omega) (by omega) (rw4_at (by omega)) ?_
                refine AW.go 7 (pc' := 92) rfl ?_
                refine AW.callSF (pn := 95) rfl rfl mlX3_85 (c_X3_formTone (d - 1) (by omega) _ _ _ (by assumption) (by assumption) _ _ _ (by omega) (by omega) (by omega)) rfl rfl (Nat.le_of_ble_eq_true rfl) ⟨by show d - 1 + 1 ≤ d; omega, by show 40 * (d - 1 + 1) ≤ 40 * d; omega⟩ ⟨Nat.zero_le _, Nat.zero_le _⟩ ?_
                have b3 := ft_b (rwm m r) 12 F (j - nl F - 1)
                refine AW.callSF (pn := 98) rfl rfl mlX3_165 (c_X3_toneSign (d - 1) (by omega) _ _ (by omega)) rfl rfl (Nat.le_of_ble_eq_true rfl) ⟨by show d - 1 + 1 ≤ d; omega, by show 40 * (d - 1 + 1) ≤ 40 * d; omega⟩ ⟨Nat.zero_le _, Nat.zero_le _⟩ ?_
                refine AW.ret rfl rfl (Nat.le_refl _) (Nat.le_refl _) ?_
                refine ⟨congrArg some ?_, rfl⟩
                unfold V_sign
                (repeat' split) <;> first | rfl | omega
              · dsimp only [cmpI] at c66
                refine AW.go 2 (pc' := 98) rfl ?_
                refine AW.ret rfl rfl (Nat.le_refl _) (Nat.le_refl _) ?_
                refine ⟨congrArg some ?_, rfl⟩
                unfold V_sign
                (repeat' split) <;> first | rfl | omega
            · dsimp only [cmpI] at c54
              refine AW.go 2 (pc' := 59) rfl ?_
              refine AW.callSF (pn := 62) rfl rfl mlX3_162 (c_X3_nameSign (d - 1) (by omega) _ _ _ (by omega) (by omega)) rfl rfl (Nat.le_of_ble_eq_true rfl) ⟨by show d - 1 + 1 ≤ d; omega, by show 40 * (d - 1 + 1) ≤ 40 * d; omega⟩ ⟨Nat.zero_le _, Nat.zero_le _⟩ ?_
              refine AW.ret rfl rfl (Nat.le_refl _) (Nat.le_refl _) ?_
              refine ⟨congrArg some ?_, rfl⟩
              unfold V_sign
              (repeat' split) <;> first | rfl | omega
          · dsimp only [cmpI] at c45
            refine AW.go 1 (pc' := 50) rfl ?_
            refine AW.ret rfl rfl (Nat.le_refl _) (Nat.le_refl _) ?_
            refine ⟨congrArg some ?_, rfl⟩
            unfold V_sign
            (repeat' split) <;> first | rfl | omega
      · dsimp only [cmpI] at c24
        refine AW.go 5 (pc' := 34) rfl ?_
        refine AW.ret rfl rfl (Nat.le_refl _) (Nat.le_refl _) ?_
        refine ⟨congrArg some ?_, rfl⟩
        unfold V_sign
        (repeat' split) <;> first | rfl | omega
    · refine AW.go 1 (pc' := 15) rfl ?_
      refine AW.ret rfl rfl (Nat.le_refl _) (Nat.le_refl _) ?_
      refine ⟨congrArg some ?_, rfl⟩
      unfold V_sign
      (repeat' split) <;> first | rfl | omega
set_option maxHeartbeats 4000000 in
theorem l_X3_leastAlike (d : Nat) (hd : 5 ≤ d) (h : List AC) (g0 : h[0]? = some (ao 3 [vr 1, vr 3, vr 10, vr 25, vr 28])) (kp : Int) (g3 : h[3]? = some (ao 2 [vr 4, vr 9, vi kp])) (g4 : h[4]? = some (aq 3 4 rw4)) (m : Nat → Int) (hm : mt m) (hR : ∀ r : Int, 0 ≤ r → r < 4 → h[5 + r.toNat]? = some (ai 0 12 (rwm m r))) (r : Int) (rr : 0 ≤ r ∧ r < 4) : ∀ (n : Nat) (k : Int), (0 ≤ k) → (k ≤ r) → ((lik m r r.toNat 0) = lik m r (r - k).toNat k) → ((r - k).toNat) < n → AW zX3_leastAlike Eq (rmd d) 0 0 0 0 2 [(2, vi k), (0, vr 0), (1, vi r)] [] h (RQ (lik m r r.toNat 0) h) := by
  intro n
  induction n with
  | zero =>
    intro k h0 h1 hi hn
    exact absurd hn (Nat.not_lt_zero _)
  | succ n ih =>
    intro k h0 h1 hi hn
    refine AW.go 2 (pc' := 4) rfl ?_
    refine AW.bi (tgt := 43) (pn := 7) rfl (by decide) rfl (by first | exact bI_rng _ | exact ⟨by omega, by omega⟩) (by first | exact bI_rng _ | exact ⟨by omega, by omega⟩) (fun c4 => ?_) (fun c4 => ?_)
    · dsimp only [cmpI] at c4
      refine AW.go 1 (pc' := 44) rfl ?_
      refine AW.ret rfl rfl (Nat.le_refl _) (Nat.le_refl _) ?_
      refine ⟨congrArg some ?_, rfl⟩
      rw [hi, show (r - k).toNat = 0 by omega]
      show r = k
      omega
    · dsimp only [cmpI] at c4
      have hwr := hR r (by omega) (by omega)
      have htr := rwm_tn hm (r := r) (by omega)
      have hwk := hR k (by omega) (by omega)
      have htk := rwm_tn hm (r := k) (by omega)
      have hs : lik m r (r - k).toNat k = if isf (rwm m r) 12 0 (rwm m k) 0 = true then k else lik m r ((r - k).toNat - 1) (k + 1) := by
        obtain ⟨q, hq⟩ : ∃ q, (r - k).toNat = q + 1 := ⟨(r - k).toNat - 1, by omega⟩
        rw [hq]
        rfl
      refine AW.go 1 (pc' := 8) rfl ?_
      refine AW.getf (pn := 11) rfl rfl flX3_19 (by first | assumption | exact set_self (by assumption) | exact set_ne (by first | assumption | omega | decide) (by first | assumption | exact set_self (by assumption) | exact set_ne (by first | assumption | omega | decide) (by assumption))) rfl ?_
      refine AW.getf (pn := 14) rfl rfl flX3_61 (by first | assumption | exact set_self (by assumption) | exact set_ne (by first | assumption | omega | decide) (by first | assumption | exact set_self (by assumption) | exact set_ne (by first | assumption | omega | decide) (by assumption))) rfl ?_
      refine AW.go 1 (pc' := 15) rfl ?_
      refine AW.aald (pn := 16) rfl rfl (by first | assumption | exact set_self (by assumption) | exact set_ne (by first | assumption | omega | decide) (by first | assumption | exact set_self (by assumption) | exact set_ne (by first | assumption | omega | decide) (by assumption))) (by decide) (by decide) (by omega) (by omega) (rw4_at (by omega)) ?_
      refine AW.go 3 (pc' := 20) rfl ?_
      refine AW.getf (pn := 23) rfl rfl flX3_19 (by first | assumption | exact set_self (by assumption) | exact set_ne (by first | assumption | omega | decide) (by first | assumption | exact set_self (by assumption) | exact set_ne (by first | assumption | omega | decide) (by assumption))) rfl ?_
      refine AW.getf (pn := 26) rfl rfl flX3_61 (by first | assumption | exact set_self (by assumption) | exact set_ne (by first | assumption | omega | decide) (by first | assumption | exact set_self (by assumption) | exact set_ne (by first | assumption | omega | decide) (by assumption))) rfl ?_
      refine AW.go 1 (pc' := 27) rfl ?_
      refine AW.aald (pn := 28) rfl rfl (by first | assumption | exact set_self (by assumption) | exact set_ne (by first | assumption | omega | decide) (by first | assumption | exact set_self (by assumption) | exact set_ne (by first | assumption | omega | decide) (by assumption))) (by decide) (by decide) (by omega) (by omega) (rw4_at (by omega)) ?_
      refine AW.go 1 (pc' := 29) rfl ?_
      refine AW.callSF (pn := 32) rfl rfl mlX3_111 (c_X3_isFormOf (d - 1) (by omega) _ _ _ (by assumption) (by assumption) _ _ (by assumption) (by assumption) _ _ _ (by omega) (by omega) (by omega)) rfl rfl (Nat.le_of_ble_eq_true rfl) ⟨by show d - 1 + 1 ≤ d; omega, by show 40 * (d - 1 + 1) ≤ 40 * d; omega⟩ ⟨Nat.zero_le _, Nat.zero_le _⟩ ?_
      refine AW.bz (tgt := 37) (pn := 35) rfl (by decide) rfl (fun c32 => ?_) (fun c32 => ?_)
      · refine AW.go 2 (pc' := 2) rfl ?_
        refine AW.lw ?_ (ih (k + 1) (by omega) (by omega) (by rw [hi, hs, if_neg c32, show (r - (k + 1)).toNat = (r - k).toNat - 1 by omega]) (by omega))
        exact (And.intro rfl (And.intro rfl (And.intro rfl trivial)))
      · refine AW.go 1 (pc' := 36) rfl ?_
        refine AW.ret rfl rfl (Nat.le_refl _) (Nat.le_refl _) ?_
        refine ⟨congrArg some ?_, rfl⟩
        rw [hi, hs, if_pos c32]
set_option maxHeartbeats 2000000 in
theorem c_X3_leastAlike (d : Nat) (hd : 5 ≤ d) (h : List AC) (g0 : h[0]? = some (ao 3 [vr 1, vr 3, vr 10, vr 25, vr 28])) (kp : Int) (g3 : h[3]? = some (ao 2 [vr 4, vr 9, vi kp])) (g4 : h[4]? = some (aq 3 4 rw4)) (m : Nat → Int) (hm : mt m) (hR : ∀ r : Int, 0 ≤ r → r < 4 → h[5 + r.toNat]? = some (ai 0 12 (rwm m r))) (r : Int) (rr : 0 ≤ r ∧ r < 4) : MF zX3_leastAlike d [vr 0, vi r] h (lik m r r.toNat 0) h := by
  refine M0.of okX3_leastAlike (Nat.le_of_ble_eq_true rfl) ?_
  refine AW.go 2 (pc' := 2) rfl ?_
  refine AW.lw ?_ (l_X3_leastAlike d hd h g0 kp g3 g4 m hm hR r rr _ 0 (by omega) (by omega) (by rw [Int.sub_zero]) (Nat.lt_succ_self _))
  exact (And.intro rfl (And.intro rfl (And.intro rfl trivial)))
set_option maxHeartbeats 2000000 in
theorem c_X3_told (d : Nat) (hd : 6 ≤ d) (h : List AC) (g0 : h[0]? = some (ao 3 [vr 1, vr 3, vr 10, vr 25, vr 28])) (kp : Int) (g3 : h[3]? = some (ao 2 [vr 4, vr 9, vi kp])) (g4 : h[4]? = some (aq 3 4 rw4)) (m : Nat → Int) (hm : mt m) (hR : ∀ r : Int, 0 ≤ r → r < 4 → h[5 + r.toNat]? = some (ai 0 12 (rwm m r))) (cnt : Int) (g1 : h[1]? = some (ao 0 [vr 2, vi cnt])) (pat : Nat → Int) (g9 : h[9]? = some (ai 0 12 pat)) (hp : pn pat) (w : Int) (rw : -2147483648 ≤ w ∧ w < 2147483648) : MF zX3_told d [vr 0, vi w] h (V_told cnt pat m w) h := by
  refine M0.of okX3_told (Nat.le_of_ble_eq_true rfl) ?_
  refine AW.go 1 (pc' := 1) rfl ?_
  refine AW.br (tgt := 12) (pn := 4) rfl (by decide) rfl (by first | exact bI_rng _ | exact ⟨by omega, by omega⟩) (fun c1 => ?_) (fun c1 => ?_)
  · dsimp only [cmpI] at c1
    refine AW.go 2 (pc' := 14) rfl ?_
    refine AW.bi (tgt := 28) (pn := 17) rfl (by decide) rfl (by first | exact bI_rng _ | exact ⟨by omega, by omega⟩) (by first | exact bI_rng _ | exact ⟨by omega, by omega⟩) (fun c14 => ?_) (fun c14 => ?_)
    · dsimp only [cmpI] at c14
      refine AW.go 2 (pc' := 31) rfl ?_
      refine AW.bi (tgt := 57) (pn := 34) rfl (by decide) rfl (by first | exact bI_rng _ | exact ⟨by omega, by omega⟩) (by first | exact bI_rng _ | exact ⟨by omega, by omega⟩) (fun c31 => ?_) (fun c31 => ?_)
      · dsimp only [cmpI] at c31
        refine AW.go 2 (pc' := 61) rfl ?_
        refine AW.bi (tgt := 85) (pn := 64) rfl (by decide) rfl (by first | exact bI_rng _ | exact ⟨by omega, by omega⟩) (by first | exact bI_rng _ | exact ⟨by omega, by omega⟩) (fun c61 => ?_) (fun c61 => ?_)
        · dsimp only [cmpI] at c61
          refine AW.go 1 (pc' := 87) rfl ?_
          refine AW.ret rfl rfl (Nat.le_refl _) (Nat.le_refl _) ?_
          refine ⟨congrArg some ?_, rfl⟩
          unfold V_told
          (repeat' split) <;> first | rfl | omega
        · dsimp only [cmpI] at c61
          refine AW.go 3 (pc' := 69) rfl ?_
          refine AW.callSF (pn := 72) rfl rfl mlX3_57 (c_X3_isRow (d - 1) (by omega) _ _ (by omega)) rfl rfl (Nat.le_of_ble_eq_true rfl) ⟨by show d - 1 + 1 ≤ d; omega, by show 40 * (d - 1 + 1) ≤ 40 * d; omega⟩ ⟨Nat.zero_le _, Nat.zero_le _⟩ ?_
          refine AW.bz (tgt := 85) (pn := 75) rfl (by decide) rfl (fun c72 => ?_) (fun c72 => ?_)
          · refine AW.go 1 (pc' := 87) rfl ?_
            refine AW.ret rfl rfl (Nat.le_refl _) (Nat.le_refl _) ?_
            refine ⟨congrArg some ?_, rfl⟩
            unfold V_told
            (repeat' split) <;> first | rfl | omega
          · refine AW.go 4 (pc' := 81) rfl ?_
            refine AW.callVF (pn := 84) rfl rfl mlX3_183 (by first | assumption | exact set_self (by assumption) | exact set_ne (by first | assumption | omega | decide) (by first | assumption | exact set_self (by assumption) | exact set_ne (by first | assumption | omega | decide) (by assumption))) (c_X3_leastAlike (d - 1) (by omega) _ (by assumption) _ (by assumption) (by assumption) _ (by assumption) (by assumption) _ (by omega)) rfl rfl (Nat.le_of_ble_eq_true rfl) ⟨by show d - 1 + 1 ≤ d; omega, by show 40 * (d - 1 + 1) ≤ 40 * d; omega⟩ ⟨Nat.zero_le _, Nat.zero_le _⟩ ?_
            refine AW.ret rfl rfl (Nat.le_refl _) (Nat.le_refl _) ?_
            refine ⟨congrArg some ?_, rfl⟩
            unfold V_told
            (repeat' split) <;> first | rfl | omega
      · dsimp only [cmpI] at c31
        refine AW.go 3 (pc' := 38) rfl ?_
        refine AW.callSF (pn := 41) rfl rfl mlX3_79 (c_X3_isPlace (d - 1) (by omega) _ _ (by omega)) rfl rfl (Nat.le_of_ble_eq_true rfl) ⟨by show d - 1 + 1 ≤ d; omega, by show 40 * (d - 1 + 1) ≤ 40 * d; omega⟩ ⟨Nat.zero_le _, Nat.zero_le _⟩ ?_
        refine AW.bz (tgt := 57) (pn := 44) rfl (by decide) rfl (fun c41 => ?_) (fun c41 => ?_)
        · refine AW.go 2 (pc' := 61) rfl ?_
          refine AW.bi (tgt := 85) (pn := 64) rfl (by decide) rfl (by first | exact bI_rng _ | exact ⟨by omega, by omega⟩) (by first | exact bI_rng _ | exact ⟨by omega, by omega⟩) (fun c61 => ?_) (fun c61 => ?_)
          · dsimp only [cmpI] at c61
            refine AW.go 1 (pc' := 87) rfl ?_
            refine AW.ret rfl rfl (Nat.le_refl _) (Nat.le_refl _) ?_
            refine ⟨congrArg some ?_, rfl⟩
            unfold V_told
            (repeat' split) <;> first | rfl | omega
          · dsimp only [cmpI] at c61
            refine AW.go 3 (pc' := 69) rfl ?_
            refine AW.callSF (pn := 72) rfl rfl mlX3_57 (c_X3_isRow (d - 1) (by omega) _ _ (by omega)) rfl rfl (Nat.le_of_ble_eq_true rfl) ⟨by show d - 1 + 1 ≤ d; omega, by show 40 * (d - 1 + 1) ≤ 40 * d; omega⟩ ⟨Nat.zero_le _, Nat.zero_le _⟩ ?_
            refine AW.bz (tgt := 85) (pn := 75) rfl (by decide) rfl (fun c72 => ?_) (fun c72 => ?_)
            · refine AW.go 1 (pc' := 87) rfl ?_
              refine AW.ret rfl rfl (Nat.le_refl _) (Nat.le_refl _) ?_
              refine ⟨congrArg some ?_, rfl⟩
              unfold V_told
              (repeat' split) <;> first | rfl | omega
            · refine AW.go 4 (pc' := 81) rfl ?_
              refine AW.callVF (pn := 84) rfl rfl mlX3_183 (by first | assumption | exact set_self (by assumption) | exact set_ne (by first | assumption | omega | decide) (by first | assumption | exact set_self (by assumption) | exact set_ne (by first | assumption | omega | decide) (by assumption))) (c_X3_leastAlike (d - 1) (by omega) _ (by assumption) _ (by assumption) (by assumption) _ (by assumption) (by assumption) _ (by omega)) rfl rfl (Nat.le_of_ble_eq_true rfl) ⟨by show d - 1 + 1 ≤ d; omega, by show 40 * (d - 1 + 1) ≤ 40 * d; omega⟩ ⟨Nat.zero_le _, Nat.zero_le _⟩ ?_
              refine AW.ret rfl rfl (Nat.le_refl _) (Nat.le_refl _) ?_
              refine ⟨congrArg some ?_, rfl⟩
              unfold V_told
              (repeat' split) <;> first | rfl | omega
        · refine AW.go 1 (pc' := 45) rfl ?_
          refine AW.getf (pn := 48) rfl rfl flX3_19 (by first | assumption | exact set_self (by assumption) | exact set_ne (by first | assumption | omega | decide) (by first | assumption | exact set_self (by assumption) | exact set_ne (by first | assumption | omega | decide) (by assumption))) rfl ?_
          refine AW.getf (pn := 51) rfl rfl flX3_69 (by first | assumption | exact set_self (by assumption) | exact set_ne (by first | assumption | omega | decide) (by first | assumption | exact set_self (by assumption) | exact set_ne (by first | assumption | omega | decide) (by assumption))) rfl ?_
          refine AW.go 3 (pc' := 55) rfl ?_
          refine AW.iald (pn := 56) rfl rfl (by first | assumption | exact set_self (by assumption) | exact set_ne (by first | assumption | omega | decide) (by first | assumption | exact set_self (by assumption) | exact set_ne (by first | assumption | omega | decide) (by assumption))) (by decide) (by omega) (by omega) ?_
          refine AW.ret rfl rfl (Nat.le_refl _) (Nat.le_refl _) ?_
          refine ⟨congrArg some ?_, rfl⟩
          unfold V_told
          (repeat' split) <;> first | rfl | omega
    · dsimp only [cmpI] at c14
      refine AW.go 1 (pc' := 18) rfl ?_
      refine AW.getf (pn := 21) rfl rfl flX3_19 (by first | assumption | exact set_self (by assumption) | exact set_ne (by first | assumption | omega | decide) (by first | assumption | exact set_self (by assumption) | exact set_ne (by first | assumption | omega | decide) (by assumption))) rfl ?_
      refine AW.getf (pn := 24) rfl rfl flX3_69 (by first | assumption | exact set_self (by assumption) | exact set_ne (by first | assumption | omega | decide) (by first | assumption | exact set_self (by assumption) | exact set_ne (by first | assumption | omega | decide) (by assumption))) rfl ?_
      refine AW.callSF (pn := 27) rfl rfl mlX3_72 (c_X3_holesOf (d - 1) (by omega) _ _ _ (by assumption) (by assumption)) rfl rfl (Nat.le_of_ble_eq_true rfl) ⟨by show d - 1 + 1 ≤ d; omega, by show 40 * (d - 1 + 1) ≤ 40 * d; omega⟩ ⟨Nat.zero_le _, Nat.zero_le _⟩ ?_
      refine AW.ret rfl rfl (Nat.le_refl _) (Nat.le_refl _) ?_
      refine ⟨congrArg some ?_, rfl⟩
      unfold V_told
      (repeat' split) <;> first | rfl | omega
  · dsimp only [cmpI] at c1
    refine AW.go 1 (pc' := 5) rfl ?_
    refine AW.getf (pn := 8) rfl rfl flX3_10 (by first | assumption | exact set_self (by assumption) | exact set_ne (by first | assumption | omega | decide) (by first | assumption | exact set_self (by assumption) | exact set_ne (by first | assumption | omega | decide) (by assumption))) rfl ?_
    refine AW.getf (pn := 11) rfl rfl flX3_179 (by first | assumption | exact set_self (by assumption) | exact set_ne (by first | assumption | omega | decide) (by first | assumption | exact set_self (by assumption) | exact set_ne (by first | assumption | omega | decide) (by assumption))) rfl ?_
    refine AW.ret rfl rfl (Nat.le_refl _) (Nat.le_refl _) ?_
    refine ⟨congrArg some ?_, rfl⟩
    unfold V_told
    (repeat' split) <;> first | rfl | omega
end
section
section Rules
variable {z : ZM} {G : GG} {R : Room} {MC MS k n pc pn : Nat} {ls : List (Nat × AV)} {st : List AV} {h : List AC} {Q : Option Int → List AC → Prop}
theorem AW.rep {a b : Int} (e : iI a = iI b) (kk : AW z G R MC MS k n pc ls (vi b :: st) h Q) : AW z G R MC MS k n pc ls (vi a :: st) h Q := by
  intro p l en s m args below meth c D τ A ρ0 ρ Zf C hK hA hG hZ H locs lsA hP hD hS hl
  have K := kk p l en s m args below meth c D τ A ρ0 ρ Zf C hK hA hG hZ H locs lsA hP hD hS hl
  have e2 : (vi a :: st).map (cv ρ) = (vi b :: st).map (cv ρ) := by
    show Value.int (iI a) :: st.map (cv ρ) = Value.int (iI b) :: st.map (cv ρ)
    rw [e]
  rw [e2]
  exact K
end Rules
theorem ft_r (f : Nat → Int) (n F p : Int) : -2147483648 ≤ ft f n F p ∧ ft f n F p < 2147483648 := by
  have := ft_b f n F p; omega
def wr (a : Int) : Int := if a < -2147483648 then a + 4294967296 else a
theorem wr_eq (a : Int) : iI a = iI (wr a) := by
  unfold wr
  split
  · rw [← iI_add, show iI 4294967296 = 0 by decide +kernel, Int32.add_zero]
  · rfl
theorem wr_c (a : Int) : (wr a = a ∧ -2147483648 ≤ a) ∨ (a < -2147483648 ∧ wr a = a + 4294967296) := by
  unfold wr; split <;> omega
theorem lik_self {m : Nat → Int} (hm : mt m) {r : Int} (hr : 0 ≤ r ∧ r < 4) : isf (rwm m r) 12 0 (rwm m r) 0 = true := by
  refine (allN_iff _ _).mpr (fun j hj => decide_eq_true ?_)
  have hj : j < 12 := hj
  have g := rwm_tn hm hr j hj
  unfold ft px mv
  rw [if_neg (by decide), if_neg (by decide), Int.zero_add, Int.zero_add, Int.toNat_natCast]
  omega

set_option maxHeartbeats 2000000 in
theorem c_X4_tone (d : Nat) (hd : 2 ≤ d) (h : List AC) (pm rf gm ka wr9 : Int) (hO : h[29]? = some (ao 4 (mo pm rf gm ka wr9))) (m : Nat → Int) (hM : h[30]? = some (ai 0 48 m)) (hm : mt m) (r p : Int) (rr : -2147483648 ≤ r ∧ r < 2147483648) (rp : -2147483648 ≤ p ∧ p < 2147483648) : MF zX4_tone d [vr 29, vi r, vi p] h (V_tone m r p) h := by
  refine M0.of okX4_tone (Nat.le_of_ble_eq_true rfl) ?_
  refine AW.go 1 (pc' := 1) rfl ?_
  refine AW.callSF (pn := 4) rfl rfl mlX4_79 (c_X4_isRow (d - 1) (by omega) _ _ (by omega)) rfl rfl (Nat.le_of_ble_eq_true rfl) ⟨by show d - 1 + 1 ≤ d; omega, by show 40 * (d - 1 + 1) ≤ 40 * d; omega⟩ ⟨Nat.zero_le _, Nat.zero_le _⟩ ?_
  refine AW.bnz (tgt := 11) (pn := 7) rfl (by decide) rfl (fun c4 => ?_) (fun c4 => ?_)
  · refine AW.go 1 (pc' := 12) rfl ?_
    refine AW.callSF (pn := 15) rfl rfl mlX4_86 (c_X4_isPlace (d - 1) (by omega) _ _ (by omega)) rfl rfl (Nat.le_of_ble_eq_true rfl) ⟨by show d - 1 + 1 ≤ d; omega, by show 40 * (d - 1 + 1) ≤ 40 * d; omega⟩ ⟨Nat.zero_le _, Nat.zero_le _⟩ ?_
    refine AW.bz (tgt := 27) (pn := 18) rfl (by decide) rfl (fun c15 => ?_) (fun c15 => ?_)
    · refine AW.go 1 (pc' := 29) rfl ?_
      refine AW.ret rfl rfl (Nat.le_refl _) (Nat.le_refl _) ?_
      refine ⟨congrArg some ?_, rfl⟩
      unfold V_tone
      (repeat' split) <;> first | rfl | omega
    · refine AW.go 3 (pc' := 21) rfl ?_
      refine AW.callVF (pn := 24) rfl rfl mlX4_89 (by first | assumption | exact set_self (by assumption) | exact set_ne (by first | assumption | omega | decide) (by first | assumption | exact set_self (by assumption) | exact set_ne (by first | assumption | omega | decide) (by assumption))) (c_X4_toneAt (d - 1) (by omega) _ _ _ _ _ _ (by assumption) _ (by assumption) (by assumption) _ _ (by omega) (by omega)) rfl rfl (Nat.le_of_ble_eq_true rfl) ⟨by show d - 1 + 1 ≤ d; omega, by show 40 * (d - 1 + 1) ≤ 40 * d; omega⟩ ⟨Nat.zero_le _, Nat.zero_le _⟩ ?_
      refine AW.go 1 (pc' := 29) rfl ?_
      refine AW.ret rfl rfl (Nat.le_refl _) (Nat.le_refl _) ?_
      refine ⟨congrArg some ?_, rfl⟩
      unfold V_tone
      (repeat' split) <;> first | rfl | omega
  · refine AW.go 2 (pc' := 29) rfl ?_
    refine AW.ret rfl rfl (Nat.le_refl _) (Nat.le_refl _) ?_
    refine ⟨congrArg some ?_, rfl⟩
    unfold V_tone
    (repeat' split) <;> first | rfl | omega
set_option maxHeartbeats 2000000 in
theorem c_X4_behind (d : Nat) (hd : 2 ≤ d) (h : List AC) (F G : Int) (rF : -2147483648 ≤ F ∧ F < 2147483648) (rG : -2147483648 ≤ G ∧ G < 2147483648) : MF zX4_behind d [vr 29, vi F, vi G] h (V_behind F G) h := by
  refine M0.of okX4_behind (Nat.le_of_ble_eq_true rfl) ?_
  refine AW.go 1 (pc' := 1) rfl ?_
  refine AW.callSF (pn := 4) rfl rfl mlX4_102 (c_X4_isForm (d - 1) (by omega) _ _ (by omega)) rfl rfl (Nat.le_of_ble_eq_true rfl) ⟨by show d - 1 + 1 ≤ d; omega, by show 40 * (d - 1 + 1) ≤ 40 * d; omega⟩ ⟨Nat.zero_le _, Nat.zero_le _⟩ ?_
  refine AW.bz (tgt := 14) (pn := 7) rfl (by decide) rfl (fun c4 => ?_) (fun c4 => ?_)
  · refine AW.go 1 (pc' := 15) rfl ?_
    refine AW.ret rfl rfl (Nat.le_refl _) (Nat.le_refl _) ?_
    refine ⟨congrArg some ?_, rfl⟩
    unfold V_behind
    (repeat' split) <;> first | rfl | omega
  · refine AW.go 1 (pc' := 8) rfl ?_
    refine AW.callSF (pn := 11) rfl rfl mlX4_102 (c_X4_isForm (d - 1) (by omega) _ _ (by omega)) rfl rfl (Nat.le_of_ble_eq_true rfl) ⟨by show d - 1 + 1 ≤ d; omega, by show 40 * (d - 1 + 1) ≤ 40 * d; omega⟩ ⟨Nat.zero_le _, Nat.zero_le _⟩ ?_
    refine AW.bnz (tgt := 16) (pn := 14) rfl (by decide) rfl (fun c11 => ?_) (fun c11 => ?_)
    · refine AW.go 1 (pc' := 17) rfl ?_
      refine AW.callSF (pn := 20) rfl rfl mlX4_93 (c_X4_isMirror (d - 1) (by omega) _ _ (by omega)) rfl rfl (Nat.le_of_ble_eq_true rfl) ⟨by show d - 1 + 1 ≤ d; omega, by show 40 * (d - 1 + 1) ≤ 40 * d; omega⟩ ⟨Nat.zero_le _, Nat.zero_le _⟩ ?_
      refine AW.go 1 (pc' := 21) rfl ?_
      refine AW.callSF (pn := 24) rfl rfl mlX4_93 (c_X4_isMirror (d - 1) (by omega) _ _ (by omega)) rfl rfl (Nat.le_of_ble_eq_true rfl) ⟨by show d - 1 + 1 ≤ d; omega, by show 40 * (d - 1 + 1) ≤ 40 * d; omega⟩ ⟨Nat.zero_le _, Nat.zero_le _⟩ ?_
      refine AW.bi (tgt := 31) (pn := 27) rfl (by decide) rfl (by first | exact bI_rng _ | exact ⟨by omega, by omega⟩) (by first | exact bI_rng _ | exact ⟨by omega, by omega⟩) (fun c24 => ?_) (fun c24 => ?_)
      · dsimp only [cmpI] at c24
        refine AW.go 3 (pc' := 34) rfl ?_
        refine AW.callSF (pn := 37) rfl rfl mlX4_96 (c_X4_isBack (d - 1) (by omega) _ _ (by omega)) rfl rfl (Nat.le_of_ble_eq_true rfl) ⟨by show d - 1 + 1 ≤ d; omega, by show 40 * (d - 1 + 1) ≤ 40 * d; omega⟩ ⟨Nat.zero_le _, Nat.zero_le _⟩ ?_
        refine AW.go 1 (pc' := 38) rfl ?_
        refine AW.callSF (pn := 41) rfl rfl mlX4_96 (c_X4_isBack (d - 1) (by omega) _ _ (by omega)) rfl rfl (Nat.le_of_ble_eq_true rfl) ⟨by show d - 1 + 1 ≤ d; omega, by show 40 * (d - 1 + 1) ≤ 40 * d; omega⟩ ⟨Nat.zero_le _, Nat.zero_le _⟩ ?_
        refine AW.bi (tgt := 48) (pn := 44) rfl (by decide) rfl (by first | exact bI_rng _ | exact ⟨by omega, by omega⟩) (by first | exact bI_rng _ | exact ⟨by omega, by omega⟩) (fun c41 => ?_) (fun c41 => ?_)
        · dsimp only [cmpI] at c41
          refine AW.go 4 (pc' := 55) rfl ?_
          refine AW.br (tgt := 62) (pn := 58) rfl (by decide) rfl (by first | exact bI_rng _ | exact ⟨by omega, by omega⟩) (fun c55 => ?_) (fun c55 => ?_)
          · dsimp only [cmpI] at c55
            refine AW.go 2 (pc' := 64) rfl ?_
            refine AW.br (tgt := 71) (pn := 67) rfl (by decide) rfl (by first | exact bI_rng _ | exact ⟨by omega, by omega⟩) (fun c64 => ?_) (fun c64 => ?_)
            · dsimp only [cmpI] at c64
              refine AW.go 6 (pc' := 78) rfl ?_
              refine AW.irem (pn := 79) rfl rfl (by omega) (by omega) (by omega) (by omega) ?_
              refine AW.callSF (pn := 82) rfl rfl mlX4_99 (c_X4_moved (d - 1) (by omega) _ _ _ (by omega) (by omega)) rfl rfl (Nat.le_of_ble_eq_true rfl) ⟨by show d - 1 + 1 ≤ d; omega, by show 40 * (d - 1 + 1) ≤ 40 * d; omega⟩ ⟨Nat.zero_le _, Nat.zero_le _⟩ ?_
              refine AW.go 1 (pc' := 83) rfl ?_
              refine AW.ret rfl rfl (Nat.le_refl _) (Nat.le_refl _) ?_
              refine ⟨congrArg some ?_, rfl⟩
              first
                | (exfalso; omega)
                | (unfold V_behind xk; rw [if_pos ⟨c4, c11⟩]; (first | rw [if_pos c41] | rw [if_neg c41]); (first | rw [if_pos c24] | rw [if_neg c24]))
            · dsimp only [cmpI] at c64
              refine AW.go 7 (pc' := 78) rfl ?_
              refine AW.irem (pn := 79) rfl rfl (by omega) (by omega) (by omega) (by omega) ?_
              refine AW.callSF (pn := 82) rfl rfl mlX4_99 (c_X4_moved (d - 1) (by omega) _ _ _ (by omega) (by omega)) rfl rfl (Nat.le_of_ble_eq_true rfl) ⟨by show d - 1 + 1 ≤ d; omega, by show 40 * (d - 1 + 1) ≤ 40 * d; omega⟩ ⟨Nat.zero_le _, Nat.zero_le _⟩ ?_
              refine AW.go 1 (pc' := 83) rfl ?_
              refine AW.ret rfl rfl (Nat.le_refl _) (Nat.le_refl _) ?_
              refine ⟨congrArg some ?_, rfl⟩
              first
                | (exfalso; omega)
                | (unfold V_behind xk; rw [if_pos ⟨c4, c11⟩]; (first | rw [if_pos c41] | rw [if_neg c41]); (first | rw [if_pos c24] | rw [if_neg c24]))
          · dsimp only [cmpI] at c55
            refine AW.go 3 (pc' := 64) rfl ?_
            refine AW.br (tgt := 71) (pn := 67) rfl (by decide) rfl (by first | exact bI_rng _ | exact ⟨by omega, by omega⟩) (fun c64 => ?_) (fun c64 => ?_)
            · dsimp only [cmpI] at c64
              refine AW.go 6 (pc' := 78) rfl ?_
              refine AW.irem (pn := 79) rfl rfl (by omega) (by omega) (by omega) (by omega) ?_
              refine AW.callSF (pn := 82) rfl rfl mlX4_99 (c_X4_moved (d - 1) (by omega) _ _ _ (by omega) (by omega)) rfl rfl (Nat.le_of_ble_eq_true rfl) ⟨by show d - 1 + 1 ≤ d; omega, by show 40 * (d - 1 + 1) ≤ 40 * d; omega⟩ ⟨Nat.zero_le _, Nat.zero_le _⟩ ?_
              refine AW.go 1 (pc' := 83) rfl ?_
              refine AW.ret rfl rfl (Nat.le_refl _) (Nat.le_refl _) ?_
              refine ⟨congrArg some ?_, rfl⟩
              first
                | (exfalso; omega)
                | (unfold V_behind xk; rw [if_pos ⟨c4, c11⟩]; (first | rw [if_pos c41] | rw [if_neg c41]); (first | rw [if_pos c24] | rw [if_neg c24]))
            · dsimp only [cmpI] at c64
              refine AW.go 7 (pc' := 78) rfl ?_
              refine AW.irem (pn := 79) rfl rfl (by omega) (by omega) (by omega) (by omega) ?_
              refine AW.callSF (pn := 82) rfl rfl mlX4_99 (c_X4_moved (d - 1) (by omega) _ _ _ (by omega) (by omega)) rfl rfl (Nat.le_of_ble_eq_true rfl) ⟨by show d - 1 + 1 ≤ d; omega, by show 40 * (d - 1 + 1) ≤ 40 * d; omega⟩ ⟨Nat.zero_le _, Nat.zero_le _⟩ ?_
              refine AW.go 1 (pc' := 83) rfl ?_
              refine AW.ret rfl rfl (Nat.le_refl _) (Nat.le_refl _) ?_
              refine ⟨congrArg some ?_, rfl⟩
              first
                | (exfalso; omega)
                | (unfold V_behind xk; rw [if_pos ⟨c4, c11⟩]; (first | rw [if_pos c41] | rw [if_neg c41]); (first | rw [if_pos c24] | rw [if_neg c24]))
        · dsimp only [cmpI] at c41
          refine AW.go 5 (pc' := 55) rfl ?_
          refine AW.br (tgt := 62) (pn := 58) rfl (by decide) rfl (by first | exact bI_rng _ | exact ⟨by omega, by omega⟩) (fun c55 => ?_) (fun c55 => ?_)
          · dsimp only [cmpI] at c55
            refine AW.go 2 (pc' := 64) rfl ?_
            refine AW.br (tgt := 71) (pn := 67) rfl (by decide) rfl (by first | exact bI_rng _ | exact ⟨by omega, by omega⟩) (fun c64 => ?_) (fun c64 => ?_)
            · dsimp only [cmpI] at c64
              refine AW.go 6 (pc' := 78) rfl ?_
              refine AW.irem (pn := 79) rfl rfl (by omega) (by omega) (by omega) (by omega) ?_
              refine AW.callSF (pn := 82) rfl rfl mlX4_99 (c_X4_moved (d - 1) (by omega) _ _ _ (by omega) (by omega)) rfl rfl (Nat.le_of_ble_eq_true rfl) ⟨by show d - 1 + 1 ≤ d; omega, by show 40 * (d - 1 + 1) ≤ 40 * d; omega⟩ ⟨Nat.zero_le _, Nat.zero_le _⟩ ?_
              refine AW.go 1 (pc' := 83) rfl ?_
              refine AW.ret rfl rfl (Nat.le_refl _) (Nat.le_refl _) ?_
              refine ⟨congrArg some ?_, rfl⟩
              first
                | (exfalso; omega)
                | (unfold V_behind xk; rw [if_pos ⟨c4, c11⟩]; (first | rw [if_pos c41] | rw [if_neg c41]); (first | rw [if_pos c24] | rw [if_neg c24]))
            · dsimp only [cmpI] at c64
              refine AW.go 7 (pc' := 78) rfl ?_
              refine AW.irem (pn := 79) rfl rfl (by omega) (by omega) (by omega) (by omega) ?_
              refine AW.callSF (pn := 82) rfl rfl mlX4_99 (c_X4_moved (d - 1) (by omega) _ _ _ (by omega) (by omega)) rfl rfl (Nat.le_of_ble_eq_true rfl) ⟨by show d - 1 + 1 ≤ d; omega, by show 40 * (d - 1 + 1) ≤ 40 * d; omega⟩ ⟨Nat.zero_le _, Nat.zero_le _⟩ ?_
              refine AW.go 1 (pc' := 83) rfl ?_
              refine AW.ret rfl rfl (Nat.le_refl _) (Nat.le_refl _) ?_
              refine ⟨congrArg some ?_, rfl⟩
              first
                | (exfalso; omega)
                | (unfold V_behind xk; rw [if_pos ⟨c4, c11⟩]; (first | rw [if_pos c41] | rw [if_neg c41]); (first | rw [if_pos c24] | rw [if_neg c24]))
          · dsimp only [cmpI] at c55
            refine AW.go 3 (pc' := 64) rfl ?_
            refine AW.br (tgt := 71) (pn := 67) rfl (by decide) rfl (by first | exact bI_rng _ | exact ⟨by omega, by omega⟩) (fun c64 => ?_) (fun c64 => ?_)
            · dsimp only [cmpI] at c64
              refine AW.go 6 (pc' := 78) rfl ?_
              refine AW.irem (pn := 79) rfl rfl (by omega) (by omega) (by omega) (by omega) ?_
              refine AW.callSF (pn := 82) rfl rfl mlX4_99 (c_X4_moved (d - 1) (by omega) _ _ _ (by omega) (by omega)) rfl rfl (Nat.le_of_ble_eq_true rfl) ⟨by show d - 1 + 1 ≤ d; omega, by show 40 * (d - 1 + 1) ≤ 40 * d; omega⟩ ⟨Nat.zero_le _, Nat.zero_le _⟩ ?_
              refine AW.go 1 (pc' := 83) rfl ?_
              refine AW.ret rfl rfl (Nat.le_refl _) (Nat.le_refl _) ?_
              refine ⟨congrArg some ?_, rfl⟩
              first
                | (exfalso; omega)
                | (unfold V_behind xk; rw [if_pos ⟨c4, c11⟩]; (first | rw [if_pos c41] | rw [if_neg c41]); (first | rw [if_pos c24] | rw [if_neg c24]))
            · dsimp only [cmpI] at c64
              refine AW.go 7 (pc' := 78) rfl ?_
              refine AW.irem (pn := 79) rfl rfl (by omega) (by omega) (by omega) (by omega) ?_
              refine AW.callSF (pn := 82) rfl rfl mlX4_99 (c_X4_moved (d - 1) (by omega) _ _ _ (by omega) (by omega)) rfl rfl (Nat.le_of_ble_eq_true rfl) ⟨by show d - 1 + 1 ≤ d; omega, by show 40 * (d - 1 + 1) ≤ 40 * d; omega⟩ ⟨Nat.zero_le _, Nat.zero_le _⟩ ?_
              refine AW.go 1 (pc' := 83) rfl ?_
              refine AW.ret rfl rfl (Nat.le_refl _) (Nat.le_refl _) ?_
              refine ⟨congrArg some ?_, rfl⟩
              first
                | (exfalso; omega)
                | (unfold V_behind xk; rw [if_pos ⟨c4, c11⟩]; (first | rw [if_pos c41] | rw [if_neg c41]); (first | rw [if_pos c24] | rw [if_neg c24]))
      · dsimp only [cmpI] at c24
        refine AW.go 4 (pc' := 34) rfl ?_
        refine AW.callSF (pn := 37) rfl rfl mlX4_96 (c_X4_isBack (d - 1) (by omega) _ _ (by omega)) rfl rfl (Nat.le_of_ble_eq_true rfl) ⟨by show d - 1 + 1 ≤ d; omega, by show 40 * (d - 1 + 1) ≤ 40 * d; omega⟩ ⟨Nat.zero_le _, Nat.zero_le _⟩ ?_
        refine AW.go 1 (pc' := 38) rfl ?_
        refine AW.callSF (pn := 41) rfl rfl mlX4_96 (c_X4_isBack (d - 1) (by omega) _ _ (by omega)) rfl rfl (Nat.le_of_ble_eq_true rfl) ⟨by show d - 1 + 1 ≤ d; omega, by show 40 * (d - 1 + 1) ≤ 40 * d; omega⟩ ⟨Nat.zero_le _, Nat.zero_le _⟩ ?_
        refine AW.bi (tgt := 48) (pn := 44) rfl (by decide) rfl (by first | exact bI_rng _ | exact ⟨by omega, by omega⟩) (by first | exact bI_rng _ | exact ⟨by omega, by omega⟩) (fun c41 => ?_) (fun c41 => ?_)
        · dsimp only [cmpI] at c41
          refine AW.go 4 (pc' := 55) rfl ?_
          refine AW.br (tgt := 62) (pn := 58) rfl (by decide) rfl (by first | exact bI_rng _ | exact ⟨by omega, by omega⟩) (fun c55 => ?_) (fun c55 => ?_)
          · dsimp only [cmpI] at c55
            refine AW.go 2 (pc' := 64) rfl ?_
            refine AW.br (tgt := 71) (pn := 67) rfl (by decide) rfl (by first | exact bI_rng _ | exact ⟨by omega, by omega⟩) (fun c64 => ?_) (fun c64 => ?_)
            · dsimp only [cmpI] at c64
              refine AW.go 6 (pc' := 78) rfl ?_
              refine AW.irem (pn := 79) rfl rfl (by omega) (by omega) (by omega) (by omega) ?_
              refine AW.callSF (pn := 82) rfl rfl mlX4_99 (c_X4_moved (d - 1) (by omega) _ _ _ (by omega) (by omega)) rfl rfl (Nat.le_of_ble_eq_true rfl) ⟨by show d - 1 + 1 ≤ d; omega, by show 40 * (d - 1 + 1) ≤ 40 * d; omega⟩ ⟨Nat.zero_le _, Nat.zero_le _⟩ ?_
              refine AW.go 1 (pc' := 83) rfl ?_
              refine AW.ret rfl rfl (Nat.le_refl _) (Nat.le_refl _) ?_
              refine ⟨congrArg some ?_, rfl⟩
              first
                | (exfalso; omega)
                | (unfold V_behind xk; rw [if_pos ⟨c4, c11⟩]; (first | rw [if_pos c41] | rw [if_neg c41]); (first | rw [if_pos c24] | rw [if_neg c24]))
            · dsimp only [cmpI] at c64
              refine AW.go 7 (pc' := 78) rfl ?_
              refine AW.irem (pn := 79) rfl rfl (by omega) (by omega) (by omega) (by omega) ?_
              refine AW.callSF (pn := 82) rfl rfl mlX4_99 (c_X4_moved (d - 1) (by omega) _ _ _ (by omega) (by omega)) rfl rfl (Nat.le_of_ble_eq_true rfl) ⟨by show d - 1 + 1 ≤ d; omega, by show 40 * (d - 1 + 1) ≤ 40 * d; omega⟩ ⟨Nat.zero_le _, Nat.zero_le _⟩ ?_
              refine AW.go 1 (pc' := 83) rfl ?_
              refine AW.ret rfl rfl (Nat.le_refl _) (Nat.le_refl _) ?_
              refine ⟨congrArg some ?_, rfl⟩
              first
                | (exfalso; omega)
                | (unfold V_behind xk; rw [if_pos ⟨c4, c11⟩]; (first | rw [if_pos c41] | rw [if_neg c41]); (first | rw [if_pos c24] | rw [if_neg c24]))
          · dsimp only [cmpI] at c55
            refine AW.go 3 (pc' := 64) rfl ?_
            refine AW.br (tgt := 71) (pn := 67) rfl (by decide) rfl (by first | exact bI_rng _ | exact ⟨by omega, by omega⟩) (fun c64 => ?_) (fun c64 => ?_)
            · dsimp only [cmpI] at c64
              refine AW.go 6 (pc' := 78) rfl ?_
              refine AW.irem (pn := 79) rfl rfl (by omega) (by omega) (by omega) (by omega) ?_
              refine AW.callSF (pn := 82) rfl rfl mlX4_99 (c_X4_moved (d - 1) (by omega) _ _ _ (by omega) (by omega)) rfl rfl (Nat.le_of_ble_eq_true rfl) ⟨by show d - 1 + 1 ≤ d; omega, by show 40 * (d - 1 + 1) ≤ 40 * d; omega⟩ ⟨Nat.zero_le _, Nat.zero_le _⟩ ?_
              refine AW.go 1 (pc' := 83) rfl ?_
              refine AW.ret rfl rfl (Nat.le_refl _) (Nat.le_refl _) ?_
              refine ⟨congrArg some ?_, rfl⟩
              first
                | (exfalso; omega)
                | (unfold V_behind xk; rw [if_pos ⟨c4, c11⟩]; (first | rw [if_pos c41] | rw [if_neg c41]); (first | rw [if_pos c24] | rw [if_neg c24]))
            · dsimp only [cmpI] at c64
              refine AW.go 7 (pc' := 78) rfl ?_
              refine AW.irem (pn := 79) rfl rfl (by omega) (by omega) (by omega) (by omega) ?_
              refine AW.callSF (pn := 82) rfl rfl mlX4_99 (c_X4_moved (d - 1) (by omega) _ _ _ (by omega) (by omega)) rfl rfl (Nat.le_of_ble_eq_true rfl) ⟨by show d - 1 + 1 ≤ d; omega, by show 40 * (d - 1 + 1) ≤ 40 * d; omega⟩ ⟨Nat.zero_le _, Nat.zero_le _⟩ ?_
              refine AW.go 1 (pc' := 83) rfl ?_
              refine AW.ret rfl rfl (Nat.le_refl _) (Nat.le_refl _) ?_
              refine ⟨congrArg some ?_, rfl⟩
              first
                | (exfalso; omega)
                | (unfold V_behind xk; rw [if_pos ⟨c4, c11⟩]; (first | rw [if_pos c41] | rw [if_neg c41]); (first | rw [if_pos c24] | rw [if_neg c24]))
        · dsimp only [cmpI] at c41
          refine AW.go 5 (pc' := 55) rfl ?_
          refine AW.br (tgt := 62) (pn := 58) rfl (by decide) rfl (by first | exact bI_rng _ | exact ⟨by omega, by omega⟩) (fun c55 => ?_) (fun c55 => ?_)
          · dsimp only [cmpI] at c55
            refine AW.go 2 (pc' := 64) rfl ?_
            refine AW.br (tgt := 71) (pn := 67) rfl (by decide) rfl (by first | exact bI_rng _ | exact ⟨by omega, by omega⟩) (fun c64 => ?_) (fun c64 => ?_)
            · dsimp only [cmpI] at c64
              refine AW.go 6 (pc' := 78) rfl ?_
              refine AW.irem (pn := 79) rfl rfl (by omega) (by omega) (by omega) (by omega) ?_
              refine AW.callSF (pn := 82) rfl rfl mlX4_99 (c_X4_moved (d - 1) (by omega) _ _ _ (by omega) (by omega)) rfl rfl (Nat.le_of_ble_eq_true rfl) ⟨by show d - 1 + 1 ≤ d; omega, by show 40 * (d - 1 + 1) ≤ 40 * d; omega⟩ ⟨Nat.zero_le _, Nat.zero_le _⟩ ?_
              refine AW.go 1 (pc' := 83) rfl ?_
              refine AW.ret rfl rfl (Nat.le_refl _) (Nat.le_refl _) ?_
              refine ⟨congrArg some ?_, rfl⟩
              first
                | (exfalso; omega)
                | (unfold V_behind xk; rw [if_pos ⟨c4, c11⟩]; (first | rw [if_pos c41] | rw [if_neg c41]); (first | rw [if_pos c24] | rw [if_neg c24]))
            · dsimp only [cmpI] at c64
              refine AW.go 7 (pc' := 78) rfl ?_
              refine AW.irem (pn := 79) rfl rfl (by omega) (by omega) (by omega) (by omega) ?_
              refine AW.callSF (pn := 82) rfl rfl mlX4_99 (c_X4_moved (d - 1) (by omega) _ _ _ (by omega) (by omega)) rfl rfl (Nat.le_of_ble_eq_true rfl) ⟨by show d - 1 + 1 ≤ d; omega, by show 40 * (d - 1 + 1) ≤ 40 * d; omega⟩ ⟨Nat.zero_le _, Nat.zero_le _⟩ ?_
              refine AW.go 1 (pc' := 83) rfl ?_
              refine AW.ret rfl rfl (Nat.le_refl _) (Nat.le_refl _) ?_
              refine ⟨congrArg some ?_, rfl⟩
              first
                | (exfalso; omega)
                | (unfold V_behind xk; rw [if_pos ⟨c4, c11⟩]; (first | rw [if_pos c41] | rw [if_neg c41]); (first | rw [if_pos c24] | rw [if_neg c24]))
          · dsimp only [cmpI] at c55
            refine AW.go 3 (pc' := 64) rfl ?_
            refine AW.br (tgt := 71) (pn := 67) rfl (by decide) rfl (by first | exact bI_rng _ | exact ⟨by omega, by omega⟩) (fun c64 => ?_) (fun c64 => ?_)
            · dsimp only [cmpI] at c64
              refine AW.go 6 (pc' := 78) rfl ?_
              refine AW.irem (pn := 79) rfl rfl (by omega) (by omega) (by omega) (by omega) ?_
              refine AW.callSF (pn := 82) rfl rfl mlX4_99 (c_X4_moved (d - 1) (by omega) _ _ _ (by omega) (by omega)) rfl rfl (Nat.le_of_ble_eq_true rfl) ⟨by show d - 1 + 1 ≤ d; omega, by show 40 * (d - 1 + 1) ≤ 40 * d; omega⟩ ⟨Nat.zero_le _, Nat.zero_le _⟩ ?_
              refine AW.go 1 (pc' := 83) rfl ?_
              refine AW.ret rfl rfl (Nat.le_refl _) (Nat.le_refl _) ?_
              refine ⟨congrArg some ?_, rfl⟩
              first
                | (exfalso; omega)
                | (unfold V_behind xk; rw [if_pos ⟨c4, c11⟩]; (first | rw [if_pos c41] | rw [if_neg c41]); (first | rw [if_pos c24] | rw [if_neg c24]))
            · dsimp only [cmpI] at c64
              refine AW.go 7 (pc' := 78) rfl ?_
              refine AW.irem (pn := 79) rfl rfl (by omega) (by omega) (by omega) (by omega) ?_
              refine AW.callSF (pn := 82) rfl rfl mlX4_99 (c_X4_moved (d - 1) (by omega) _ _ _ (by omega) (by omega)) rfl rfl (Nat.le_of_ble_eq_true rfl) ⟨by show d - 1 + 1 ≤ d; omega, by show 40 * (d - 1 + 1) ≤ 40 * d; omega⟩ ⟨Nat.zero_le _, Nat.zero_le _⟩ ?_
              refine AW.go 1 (pc' := 83) rfl ?_
              refine AW.ret rfl rfl (Nat.le_refl _) (Nat.le_refl _) ?_
              refine ⟨congrArg some ?_, rfl⟩
              first
                | (exfalso; omega)
                | (unfold V_behind xk; rw [if_pos ⟨c4, c11⟩]; (first | rw [if_pos c41] | rw [if_neg c41]); (first | rw [if_pos c24] | rw [if_neg c24]))
    · refine AW.go 1 (pc' := 15) rfl ?_
      refine AW.ret rfl rfl (Nat.le_refl _) (Nat.le_refl _) ?_
      refine ⟨congrArg some ?_, rfl⟩
      unfold V_behind
      (repeat' split) <;> first | rfl | omega
set_option maxHeartbeats 2000000 in
theorem c_X4_back (d : Nat) (hd : 2 ≤ d) (h : List AC) (F : Int) (rF : -2147483648 ≤ F ∧ F < 2147483648) : MF zX4_back d [vr 29, vi F] h (V_back F) h := by
  refine M0.of okX4_back (Nat.le_of_ble_eq_true rfl) ?_
  refine AW.go 1 (pc' := 1) rfl ?_
  refine AW.callSF (pn := 4) rfl rfl mlX4_102 (c_X4_isForm (d - 1) (by omega) _ _ (by omega)) rfl rfl (Nat.le_of_ble_eq_true rfl) ⟨by show d - 1 + 1 ≤ d; omega, by show 40 * (d - 1 + 1) ≤ 40 * d; omega⟩ ⟨Nat.zero_le _, Nat.zero_le _⟩ ?_
  refine AW.bnz (tgt := 9) (pn := 7) rfl (by decide) rfl (fun c4 => ?_) (fun c4 => ?_)
  · refine AW.go 2 (pc' := 12) rfl ?_
    refine AW.irem (pn := 13) rfl rfl (by omega) (by omega) (by omega) (by omega) ?_
    refine AW.go 5 (pc' := 18) rfl ?_
    refine AW.callSF (pn := 21) rfl rfl mlX4_93 (c_X4_isMirror (d - 1) (by omega) _ _ (by omega)) rfl rfl (Nat.le_of_ble_eq_true rfl) ⟨by show d - 1 + 1 ≤ d; omega, by show 40 * (d - 1 + 1) ≤ 40 * d; omega⟩ ⟨Nat.zero_le _, Nat.zero_le _⟩ ?_
    refine AW.bz (tgt := 28) (pn := 24) rfl (by decide) rfl (fun c21 => ?_) (fun c21 => ?_)
    · refine AW.go 4 (pc' := 34) rfl ?_
      refine AW.irem (pn := 35) rfl rfl (by omega) (by omega) (by omega) (by omega) ?_
      refine AW.go 1 (pc' := 36) rfl ?_
      refine AW.ret rfl rfl (Nat.le_refl _) (Nat.le_refl _) ?_
      refine ⟨congrArg some ?_, rfl⟩
      unfold V_back
      (repeat' split) <;> first | rfl | omega
    · refine AW.go 3 (pc' := 36) rfl ?_
      refine AW.ret rfl rfl (Nat.le_refl _) (Nat.le_refl _) ?_
      refine ⟨congrArg some ?_, rfl⟩
      unfold V_back
      (repeat' split) <;> first | rfl | omega
  · refine AW.go 1 (pc' := 8) rfl ?_
    refine AW.ret rfl rfl (Nat.le_refl _) (Nat.le_refl _) ?_
    refine ⟨congrArg some ?_, rfl⟩
    unfold V_back
    (repeat' split) <;> first | rfl | omega
set_option maxHeartbeats 2000000 in
theorem c_X4_canon (d : Nat) (hd : 5 ≤ d) (h : List AC) (pm rf gm ka wr9 : Int) (hO : h[29]? = some (ao 4 (mo pm rf gm ka wr9))) (m : Nat → Int) (hM : h[30]? = some (ai 0 48 m)) (hm : mt m) (r w : Int) (rr : -2147483648 ≤ r ∧ r < 2147483648) (rw : -2147483648 ≤ w ∧ w < 2147483648) : MF zX4_canon d [vr 29, vi r, vi w] h (V_canon szM m r w) h := by
  refine M0.of okX4_canon (Nat.le_of_ble_eq_true rfl) ?_
  refine AW.go 1 (pc' := 1) rfl ?_
  refine AW.callSF (pn := 4) rfl rfl mlX4_79 (c_X4_isRow (d - 1) (by omega) _ _ (by omega)) rfl rfl (Nat.le_of_ble_eq_true rfl) ⟨by show d - 1 + 1 ≤ d; omega, by show 40 * (d - 1 + 1) ≤ 40 * d; omega⟩ ⟨Nat.zero_le _, Nat.zero_le _⟩ ?_
  refine AW.bnz (tgt := 9) (pn := 7) rfl (by decide) rfl (fun c4 => ?_) (fun c4 => ?_)
  · refine AW.go 1 (pc' := 10) rfl ?_
    refine AW.i2l (pn := 11) rfl rfl (by first | exact bI_rng _ | exact ⟨by omega, by omega⟩) ?_
    refine AW.go 1 (pc' := 12) rfl ?_
    refine AW.ldc2 (pn := 15) rfl rfl clX4_112 ?_
    refine AW.callSF (pn := 18) rfl rfl mlX4_40 (c_X4_in (d - 1) (by omega) _ _ _ _ (by omega) (by omega) (by omega)) rfl rfl (Nat.le_of_ble_eq_true rfl) ⟨by show d - 1 + 1 ≤ d; omega, by show 40 * (d - 1 + 1) ≤ 40 * d; omega⟩ ⟨Nat.zero_le _, Nat.zero_le _⟩ ?_
    refine AW.bnz (tgt := 24) (pn := 21) rfl (by decide) rfl (fun c18 => ?_) (fun c18 => ?_)
    · refine AW.go 2 (pc' := 26) rfl ?_
      refine AW.callVF (pn := 29) rfl rfl mlX4_114 (by first | assumption | exact set_self (by assumption) | exact set_ne (by first | assumption | omega | decide) (by first | assumption | exact set_self (by assumption) | exact set_ne (by first | assumption | omega | decide) (by assumption))) (c_X4_canonForm (d - 1) (by omega) _ _ _ _ _ _ (by assumption) _ (by assumption) (by assumption) _ (by omega)) rfl rfl (Nat.le_of_ble_eq_true rfl) ⟨by show d - 1 + 1 ≤ d; omega, by show 40 * (d - 1 + 1) ≤ 40 * d; omega⟩ ⟨Nat.zero_le _, Nat.zero_le _⟩ ?_
      refine AW.go 1 (pc' := 30) rfl ?_
      have hb := lfm_b (rwm m r) 47
      refine AW.go 2 (pc' := 33) rfl ?_
      refine AW.bi (tgt := 44) (pn := 36) rfl (by decide) rfl (by first | exact bI_rng _ | exact ⟨by omega, by omega⟩) (by first | exact bI_rng _ | exact ⟨by omega, by omega⟩) (fun c33 => ?_) (fun c33 => ?_)
      · dsimp only [cmpI] at c33
        refine AW.go 2 (pc' := 47) rfl ?_
        refine AW.bi (tgt := 54) (pn := 50) rfl (by decide) rfl (by first | exact bI_rng _ | exact ⟨by omega, by omega⟩) (by first | exact bI_rng _ | exact ⟨by omega, by omega⟩) (fun c47 => ?_) (fun c47 => ?_)
        · dsimp only [cmpI] at c47
          refine AW.go 4 (pc' := 58) rfl ?_
          refine AW.callVF (pn := 61) rfl rfl mlX4_105 (by first | assumption | exact set_self (by assumption) | exact set_ne (by first | assumption | omega | decide) (by first | assumption | exact set_self (by assumption) | exact set_ne (by first | assumption | omega | decide) (by assumption))) (c_X4_formAt (d - 1) (by omega) _ _ _ _ _ _ (by assumption) _ (by assumption) (by assumption) _ _ _ (by omega) (by omega) (by omega)) rfl rfl (Nat.le_of_ble_eq_true rfl) ⟨by show d - 1 + 1 ≤ d; omega, by show 40 * (d - 1 + 1) ≤ 40 * d; omega⟩ ⟨Nat.zero_le _, Nat.zero_le _⟩ ?_
          refine AW.ret rfl rfl (Nat.le_refl _) (Nat.le_refl _) ?_
          refine ⟨congrArg some ?_, rfl⟩
          unfold V_canon szM
          (repeat' split) <;> first | rfl | omega
        · dsimp only [cmpI] at c47
          refine AW.go 2 (pc' := 61) rfl ?_
          refine AW.ret rfl rfl (Nat.le_refl _) (Nat.le_refl _) ?_
          refine ⟨congrArg some ?_, rfl⟩
          unfold V_canon szM
          (repeat' split) <;> first | rfl | omega
      · dsimp only [cmpI] at c33
        refine AW.go 2 (pc' := 38) rfl ?_
        refine AW.callVF (pn := 41) rfl rfl mlX4_117 (by first | assumption | exact set_self (by assumption) | exact set_ne (by first | assumption | omega | decide) (by first | assumption | exact set_self (by assumption) | exact set_ne (by first | assumption | omega | decide) (by assumption))) (c_X4_sizeOf (d - 1) (by omega) _ _ _ _ _ _ (by assumption) _ (by assumption) (by assumption) _ (by omega)) rfl rfl (Nat.le_of_ble_eq_true rfl) ⟨by show d - 1 + 1 ≤ d; omega, by show 40 * (d - 1 + 1) ≤ 40 * d; omega⟩ ⟨Nat.zero_le _, Nat.zero_le _⟩ ?_
        refine AW.go 1 (pc' := 61) rfl ?_
        refine AW.ret rfl rfl (Nat.le_refl _) (Nat.le_refl _) ?_
        refine ⟨congrArg some ?_, rfl⟩
        unfold V_canon szM
        (repeat' split) <;> first | rfl | omega
    · refine AW.go 1 (pc' := 23) rfl ?_
      refine AW.ret rfl rfl (Nat.le_refl _) (Nat.le_refl _) ?_
      refine ⟨congrArg some ?_, rfl⟩
      unfold V_canon szM
      (repeat' split) <;> first | rfl | omega
  · refine AW.go 1 (pc' := 8) rfl ?_
    refine AW.ret rfl rfl (Nat.le_refl _) (Nat.le_refl _) ?_
    refine ⟨congrArg some ?_, rfl⟩
    unfold V_canon szM
    (repeat' split) <;> first | rfl | omega
set_option maxHeartbeats 2000000 in
theorem c_X4_step (d : Nat) (hd : 3 ≤ d) (h : List AC) (pm rf gm ka wr9 : Int) (hO : h[29]? = some (ao 4 (mo pm rf gm ka wr9))) (m : Nat → Int) (hM : h[30]? = some (ai 0 48 m)) (hm : mt m) (r w : Int) (rr : -2147483648 ≤ r ∧ r < 2147483648) (rw : -2147483648 ≤ w ∧ w < 2147483648) : MF zX4_step d [vr 29, vi r, vi w] h (V_step usM m r w) h := by
  refine M0.of okX4_step (Nat.le_of_ble_eq_true rfl) ?_
  refine AW.go 1 (pc' := 1) rfl ?_
  refine AW.callSF (pn := 4) rfl rfl mlX4_79 (c_X4_isRow (d - 1) (by omega) _ _ (by omega)) rfl rfl (Nat.le_of_ble_eq_true rfl) ⟨by show d - 1 + 1 ≤ d; omega, by show 40 * (d - 1 + 1) ≤ 40 * d; omega⟩ ⟨Nat.zero_le _, Nat.zero_le _⟩ ?_
  refine AW.bnz (tgt := 9) (pn := 7) rfl (by decide) rfl (fun c4 => ?_) (fun c4 => ?_)
  · refine AW.go 1 (pc' := 10) rfl ?_
    refine AW.i2l (pn := 11) rfl rfl (by first | exact bI_rng _ | exact ⟨by omega, by omega⟩) ?_
    refine AW.go 1 (pc' := 12) rfl ?_
    refine AW.ldc2 (pn := 15) rfl rfl clX4_46 ?_
    refine AW.callSF (pn := 18) rfl rfl mlX4_40 (c_X4_in (d - 1) (by omega) _ _ _ _ (by omega) (by omega) (by omega)) rfl rfl (Nat.le_of_ble_eq_true rfl) ⟨by show d - 1 + 1 ≤ d; omega, by show 40 * (d - 1 + 1) ≤ 40 * d; omega⟩ ⟨Nat.zero_le _, Nat.zero_le _⟩ ?_
    refine AW.bnz (tgt := 26) (pn := 21) rfl (by decide) rfl (fun c18 => ?_) (fun c18 => ?_)
    · refine AW.go 2 (pc' := 29) rfl ?_
      refine AW.bi (tgt := 40) (pn := 32) rfl (by decide) rfl (by first | exact bI_rng _ | exact ⟨by omega, by omega⟩) (by first | exact bI_rng _ | exact ⟨by omega, by omega⟩) (fun c29 => ?_) (fun c29 => ?_)
      · dsimp only [cmpI] at c29
        refine AW.go 3 (pc' := 43) rfl ?_
        refine AW.callVF (pn := 46) rfl rfl mlX4_124 (by first | assumption | exact set_self (by assumption) | exact set_ne (by first | assumption | omega | decide) (by first | assumption | exact set_self (by assumption) | exact set_ne (by first | assumption | omega | decide) (by assumption))) (c_X4_stepAt (d - 1) (by omega) _ _ _ _ _ _ (by assumption) _ (by assumption) (by assumption) _ _ (by omega) (by omega)) rfl rfl (Nat.le_of_ble_eq_true rfl) ⟨by show d - 1 + 1 ≤ d; omega, by show 40 * (d - 1 + 1) ≤ 40 * d; omega⟩ ⟨Nat.zero_le _, Nat.zero_le _⟩ ?_
        refine AW.ret rfl rfl (Nat.le_refl _) (Nat.le_refl _) ?_
        refine ⟨congrArg some ?_, rfl⟩
        unfold V_step usM
        (repeat' split) <;> first | rfl | omega
      · dsimp only [cmpI] at c29
        refine AW.go 2 (pc' := 34) rfl ?_
        refine AW.callVF (pn := 37) rfl rfl mlX4_127 (by first | assumption | exact set_self (by assumption) | exact set_ne (by first | assumption | omega | decide) (by first | assumption | exact set_self (by assumption) | exact set_ne (by first | assumption | omega | decide) (by assumption))) (c_X4_unlikeSteps (d - 1) (by omega) _ _ _ _ _ _ (by assumption) _ (by assumption) (by assumption) _ (by omega)) rfl rfl (Nat.le_of_ble_eq_true rfl) ⟨by show d - 1 + 1 ≤ d; omega, by show 40 * (d - 1 + 1) ≤ 40 * d; omega⟩ ⟨Nat.zero_le _, Nat.zero_le _⟩ ?_
        refine AW.go 1 (pc' := 46) rfl ?_
        refine AW.ret rfl rfl (Nat.le_refl _) (Nat.le_refl _) ?_
        refine ⟨congrArg some ?_, rfl⟩
        unfold V_step usM
        (repeat' split) <;> first | rfl | omega
    · refine AW.go 2 (pc' := 46) rfl ?_
      refine AW.ret rfl rfl (Nat.le_refl _) (Nat.le_refl _) ?_
      refine ⟨congrArg some ?_, rfl⟩
      unfold V_step usM
      (repeat' split) <;> first | rfl | omega
  · refine AW.go 1 (pc' := 8) rfl ?_
    refine AW.ret rfl rfl (Nat.le_refl _) (Nat.le_refl _) ?_
    refine ⟨congrArg some ?_, rfl⟩
    unfold V_step usM
    (repeat' split) <;> first | rfl | omega
set_option maxHeartbeats 4000000 in
theorem l_X4_leads (d : Nat) (hd : 4 ≤ d) (h : List AC) (pm rf gm ka wr9 : Int) (hO : h[29]? = some (ao 4 (mo pm rf gm ka wr9))) (m : Nat → Int) (hM : h[30]? = some (ai 0 48 m)) (hm : mt m) (r o i : Int) (rr : 0 ≤ r ∧ r < 4) (ro : 0 ≤ o ∧ o < 4) (ri : -2147483648 ≤ i ∧ i < 2147483648) : ∀ (n : Nat) (k : Int) (c : Int), (0 ≤ k) → (k ≤ 48) → (0 ≤ c ∧ c ≤ k) → ((sel (fun F => isf (rwm m r) 12 (F : Int) (rwm m o) 0) i 48 0 0) = sel (fun F => isf (rwm m r) 12 (F : Int) (rwm m o) 0) i (48 - k).toNat k.toNat c) → ((48 - k).toNat) < n → AW zX4_leads Eq (rmd d) 0 0 0 0 22 [(5, vi k), (4, vi c), (0, vr 29), (1, vi r), (2, vi o), (3, vi i)] [] h (RQ (sel (fun F => isf (rwm m r) 12 (F : Int) (rwm m o) 0) i 48 0 0) h) := by
  intro n
  induction n with
  | zero =>
    intro k c h0 h1 hc hi hn
    exact absurd hn (Nat.not_lt_zero _)
  | succ n ih =>
    intro k c h0 h1 hc hi hn
    refine AW.go 2 (pc' := 26) rfl ?_
    refine AW.bi (tgt := 58) (pn := 29) rfl (by decide) rfl (by first | exact bI_rng _ | exact ⟨by omega, by omega⟩) (by first | exact bI_rng _ | exact ⟨by omega, by omega⟩) (fun c26 => ?_) (fun c26 => ?_)
    · dsimp only [cmpI] at c26
      refine AW.go 2 (pc' := 60) rfl ?_
      refine AW.bi (tgt := 68) (pn := 63) rfl (by decide) rfl (by first | exact bI_rng _ | exact ⟨by omega, by omega⟩) (by first | exact bI_rng _ | exact ⟨by omega, by omega⟩) (fun c60 => ?_) (fun c60 => ?_)
      · dsimp only [cmpI] at c60
        refine AW.go 1 (pc' := 70) rfl ?_
        refine AW.ret rfl rfl (Nat.le_refl _) (Nat.le_refl _) ?_
        refine ⟨congrArg some ?_, rfl⟩
        rw [hi, show (48 - k).toNat = 0 by omega]
        unfold sel
        first | rw [if_pos (by omega)] | rw [if_neg (by omega)]
      · dsimp only [cmpI] at c60
        refine AW.go 2 (pc' := 70) rfl ?_
        refine AW.ret rfl rfl (Nat.le_refl _) (Nat.le_refl _) ?_
        refine ⟨congrArg some ?_, rfl⟩
        rw [hi, show (48 - k).toNat = 0 by omega]
        unfold sel
        first | rw [if_pos (by omega)] | rw [if_neg (by omega)]
    · dsimp only [cmpI] at c26
      have hs : sel (fun F => isf (rwm m r) 12 (F : Int) (rwm m o) 0) i (48 - k).toNat k.toNat c = if isf (rwm m r) 12 k (rwm m o) 0 = true then (if c = i then k else sel (fun F => isf (rwm m r) 12 (F : Int) (rwm m o) 0) i ((48 - k).toNat - 1) (k.toNat + 1) (c + 1)) else sel (fun F => isf (rwm m r) 12 (F : Int) (rwm m o) 0) i ((48 - k).toNat - 1) (k.toNat + 1) c := by
        obtain ⟨q, hq⟩ : ∃ q, (48 - k).toNat = q + 1 := ⟨(48 - k).toNat - 1, by omega⟩
        rw [hq]
        show (if (fun F => isf (rwm m r) 12 (F : Int) (rwm m o) 0) (k.toNat) = true then (if c = i then (k.toNat : Int) else _) else _) = _
        simp only [kk h0]
        rfl
      refine AW.go 4 (pc' := 34) rfl ?_
      refine AW.callVF (pn := 37) rfl rfl mlX4_120 (by first | assumption | exact set_self (by assumption) | exact set_ne (by first | assumption | omega | decide) (by first | assumption | exact set_self (by assumption) | exact set_ne (by first | assumption | omega | decide) (by assumption))) (c_X4_isLeading (d - 1) (by omega) _ _ _ _ _ _ (by assumption) _ (by assumption) (by assumption) _ _ _ (by omega) (by omega) (by omega)) rfl rfl (Nat.le_of_ble_eq_true rfl) ⟨by show d - 1 + 1 ≤ d; omega, by show 40 * (d - 1 + 1) ≤ 40 * d; omega⟩ ⟨Nat.zero_le _, Nat.zero_le _⟩ ?_
      refine AW.bz (tgt := 52) (pn := 40) rfl (by decide) rfl (fun c37 => ?_) (fun c37 => ?_)
      · refine AW.go 2 (pc' := 22) rfl ?_
        first | (refine AW.lw ?_ (ih (k + 1) (c + 1) (by omega) (by omega) (by omega) ?_ (by omega)); exact (And.intro rfl (And.intro rfl (And.intro rfl (And.intro rfl (And.intro rfl (And.intro rfl trivial)))))); rw [k1 h0, show (48 - (k + 1)).toNat = (48 - k).toNat - 1 by omega, hi, hs]; (first | rw [if_pos c37, if_neg c43] | rw [if_neg c37])) | (refine AW.lw ?_ (ih (k + 1) (c) (by omega) (by omega) (by omega) ?_ (by omega)); exact (And.intro rfl (And.intro rfl (And.intro rfl (And.intro rfl (And.intro rfl (And.intro rfl trivial)))))); rw [k1 h0, show (48 - (k + 1)).toNat = (48 - k).toNat - 1 by omega, hi, hs]; (first | rw [if_pos c37, if_neg c43] | rw [if_neg c37]))
      · refine AW.go 2 (pc' := 43) rfl ?_
        refine AW.bi (tgt := 49) (pn := 46) rfl (by decide) rfl (by first | exact bI_rng _ | exact ⟨by omega, by omega⟩) (by first | exact bI_rng _ | exact ⟨by omega, by omega⟩) (fun c43 => ?_) (fun c43 => ?_)
        · dsimp only [cmpI] at c43
          refine AW.go 3 (pc' := 22) rfl ?_
          first | (refine AW.lw ?_ (ih (k + 1) (c + 1) (by omega) (by omega) (by omega) ?_ (by omega)); exact (And.intro rfl (And.intro rfl (And.intro rfl (And.intro rfl (And.intro rfl (And.intro rfl trivial)))))); rw [k1 h0, show (48 - (k + 1)).toNat = (48 - k).toNat - 1 by omega, hi, hs]; (first | rw [if_pos c37, if_neg c43] | rw [if_neg c37])) | (refine AW.lw ?_ (ih (k + 1) (c) (by omega) (by omega) (by omega) ?_ (by omega)); exact (And.intro rfl (And.intro rfl (And.intro rfl (And.intro rfl (And.intro rfl (And.intro rfl trivial)))))); rw [k1 h0, show (48 - (k + 1)).toNat = (48 - k).toNat - 1 by omega, hi, hs]; (first | rw [if_pos c37, if_neg c43] | rw [if_neg c37]))
        · dsimp only [cmpI] at c43
          refine AW.go 1 (pc' := 48) rfl ?_
          refine AW.ret rfl rfl (Nat.le_refl _) (Nat.le_refl _) ?_
          refine ⟨congrArg some ?_, rfl⟩
          rw [hi, hs, if_pos c37, if_pos (Decidable.not_not.mp c43)]
set_option maxHeartbeats 2000000 in
theorem c_X4_leads (d : Nat) (hd : 4 ≤ d) (h : List AC) (pm rf gm ka wr9 : Int) (hO : h[29]? = some (ao 4 (mo pm rf gm ka wr9))) (m : Nat → Int) (hM : h[30]? = some (ai 0 48 m)) (hm : mt m) (r o i : Int) (rr : -2147483648 ≤ r ∧ r < 2147483648) (ro : -2147483648 ≤ o ∧ o < 2147483648) (ri : -2147483648 ≤ i ∧ i < 2147483648) : MF zX4_leads d [vr 29, vi r, vi o, vi i] h (V_leads m r o i) h := by
  refine M0.of okX4_leads (Nat.le_of_ble_eq_true rfl) ?_
  refine AW.go 1 (pc' := 1) rfl ?_
  refine AW.callSF (pn := 4) rfl rfl mlX4_79 (c_X4_isRow (d - 1) (by omega) _ _ (by omega)) rfl rfl (Nat.le_of_ble_eq_true rfl) ⟨by show d - 1 + 1 ≤ d; omega, by show 40 * (d - 1 + 1) ≤ 40 * d; omega⟩ ⟨Nat.zero_le _, Nat.zero_le _⟩ ?_
  refine AW.bz (tgt := 14) (pn := 7) rfl (by decide) rfl (fun c4 => ?_) (fun c4 => ?_)
  · refine AW.go 1 (pc' := 15) rfl ?_
    refine AW.ret rfl rfl (Nat.le_refl _) (Nat.le_refl _) ?_
    refine ⟨congrArg some ?_, rfl⟩
    unfold V_leads
    (repeat' split) <;> first | rfl | omega
  · refine AW.go 1 (pc' := 8) rfl ?_
    refine AW.callSF (pn := 11) rfl rfl mlX4_79 (c_X4_isRow (d - 1) (by omega) _ _ (by omega)) rfl rfl (Nat.le_of_ble_eq_true rfl) ⟨by show d - 1 + 1 ≤ d; omega, by show 40 * (d - 1 + 1) ≤ 40 * d; omega⟩ ⟨Nat.zero_le _, Nat.zero_le _⟩ ?_
    refine AW.bnz (tgt := 16) (pn := 14) rfl (by decide) rfl (fun c11 => ?_) (fun c11 => ?_)
    · refine AW.go 4 (pc' := 22) rfl ?_
      unfold V_leads
      rw [if_pos ⟨c4, c11⟩]
      refine AW.lw ?_ (l_X4_leads d hd h pm rf gm ka wr9 hO m hM hm r o i c4 c11 ri _ 0 0 (by omega) (by omega) (by omega) rfl (Nat.lt_succ_self _))
      exact (And.intro rfl (And.intro rfl (And.intro rfl (And.intro rfl (And.intro rfl (And.intro rfl trivial))))))
    · refine AW.go 1 (pc' := 15) rfl ?_
      refine AW.ret rfl rfl (Nat.le_refl _) (Nat.le_refl _) ?_
      refine ⟨congrArg some ?_, rfl⟩
      unfold V_leads
      (repeat' split) <;> first | rfl | omega
set_option maxHeartbeats 4000000 in
theorem l_X4_partner (d : Nat) (hd : 4 ≤ d) (h : List AC) (pm rf gm ka wr9 : Int) (hO : h[29]? = some (ao 4 (mo pm rf gm ka wr9))) (m : Nat → Int) (hM : h[30]? = some (ai 0 48 m)) (hm : mt m) (r i : Int) (rr : 0 ≤ r ∧ r < 4) (ri : -2147483648 ≤ i ∧ i < 2147483648) : ∀ (n : Nat) (k : Int) (c : Int), (0 ≤ k) → (k ≤ 48) → (0 ≤ c ∧ c ≤ k) → ((sel (prt (rwm m r)) i 48 0 0) = sel (prt (rwm m r)) i (48 - k).toNat k.toNat c) → ((48 - k).toNat) < n → AW zX4_partner Eq (rmd d) 0 0 0 0 14 [(4, vi k), (3, vi c), (0, vr 29), (1, vi r), (2, vi i)] [] h (RQ (sel (prt (rwm m r)) i 48 0 0) h) := by
  intro n
  induction n with
  | zero =>
    intro k c h0 h1 hc hi hn
    exact absurd hn (Nat.not_lt_zero _)
  | succ n ih =>
    intro k c h0 h1 hc hi hn
    refine AW.go 2 (pc' := 18) rfl ?_
    refine AW.bi (tgt := 61) (pn := 21) rfl (by decide) rfl (by first | exact bI_rng _ | exact ⟨by omega, by omega⟩) (by first | exact bI_rng _ | exact ⟨by omega, by omega⟩) (fun c18 => ?_) (fun c18 => ?_)
    · dsimp only [cmpI] at c18
      refine AW.go 2 (pc' := 63) rfl ?_
      refine AW.bi (tgt := 70) (pn := 66) rfl (by decide) rfl (by first | exact bI_rng _ | exact ⟨by omega, by omega⟩) (by first | exact bI_rng _ | exact ⟨by omega, by omega⟩) (fun c63 => ?_) (fun c63 => ?_)
      · dsimp only [cmpI] at c63
        refine AW.go 1 (pc' := 72) rfl ?_
        refine AW.ret rfl rfl (Nat.le_refl _) (Nat.le_refl _) ?_
        refine ⟨congrArg some ?_, rfl⟩
        rw [hi, show (48 - k).toNat = 0 by omega]
        unfold sel
        first | rw [if_pos (by omega)] | rw [if_neg (by omega)]
      · dsimp only [cmpI] at c63
        refine AW.go 2 (pc' := 72) rfl ?_
        refine AW.ret rfl rfl (Nat.le_refl _) (Nat.le_refl _) ?_
        refine ⟨congrArg some ?_, rfl⟩
        rw [hi, show (48 - k).toNat = 0 by omega]
        unfold sel
        first | rw [if_pos (by omega)] | rw [if_neg (by omega)]
    · dsimp only [cmpI] at c18
      have hs : sel (prt (rwm m r)) i (48 - k).toNat k.toNat c = if decide (fst12 (rwm m r) k 0 6 &&& fst12 (rwm m r) 0 0 6 = 0) = true then (if c = i then k else sel (prt (rwm m r)) i ((48 - k).toNat - 1) (k.toNat + 1) (c + 1)) else sel (prt (rwm m r)) i ((48 - k).toNat - 1) (k.toNat + 1) c := by
        obtain ⟨q, hq⟩ : ∃ q, (48 - k).toNat = q + 1 := ⟨(48 - k).toNat - 1, by omega⟩
        rw [hq]
        show (if (prt (rwm m r)) (k.toNat) = true then (if c = i then (k.toNat : Int) else _) else _) = _
        simp only [prt, kk h0]
        rfl
      refine AW.go 5 (pc' := 27) rfl ?_
      refine AW.callVF (pn := 30) rfl rfl mlX4_134 (by first | assumption | exact set_self (by assumption) | exact set_ne (by first | assumption | omega | decide) (by first | assumption | exact set_self (by assumption) | exact set_ne (by first | assumption | omega | decide) (by assumption))) (c_X4_setAt (d - 1) (by omega) _ _ _ _ _ _ (by assumption) _ (by assumption) (by assumption) _ _ _ _ (by omega) (by omega) (by omega)) rfl rfl (Nat.le_of_ble_eq_true rfl) ⟨by show d - 1 + 1 ≤ d; omega, by show 40 * (d - 1 + 1) ≤ 40 * d; omega⟩ ⟨Nat.zero_le _, Nat.zero_le _⟩ ?_
      refine AW.go 5 (pc' := 37) rfl ?_
      refine AW.callVF (pn := 40) rfl rfl mlX4_134 (by first | assumption | exact set_self (by assumption) | exact set_ne (by first | assumption | omega | decide) (by first | assumption | exact set_self (by assumption) | exact set_ne (by first | assumption | omega | decide) (by assumption))) (c_X4_setAt (d - 1) (by omega) _ _ _ _ _ _ (by assumption) _ (by assumption) (by assumption) _ _ _ _ (by omega) (by omega) (by omega)) rfl rfl (Nat.le_of_ble_eq_true rfl) ⟨by show d - 1 + 1 ≤ d; omega, by show 40 * (d - 1 + 1) ≤ 40 * d; omega⟩ ⟨Nat.zero_le _, Nat.zero_le _⟩ ?_
      refine AW.andN (pn := 41) rfl rfl ?_
      have g1 : fst12 (rwm m r) k 0 6 &&& fst12 (rwm m r) 0 0 6 < 4096 := Nat.lt_of_le_of_lt Nat.and_le_right (fst12_lt _ _ _ _)
      rw [show (6 : Int).toNat = 6 from rfl, Nat.and_comm]
      refine AW.br (tgt := 55) (pn := 44) rfl (by decide) rfl (by first | exact bI_rng _ | exact ⟨by omega, by omega⟩) (fun c41 => ?_) (fun c41 => ?_)
      · dsimp only [cmpI] at c41
        refine AW.go 2 (pc' := 14) rfl ?_
        first | (refine AW.lw ?_ (ih (k + 1) (c + 1) (by omega) (by omega) (by omega) ?_ (by omega)); exact (And.intro rfl (And.intro rfl (And.intro rfl (And.intro rfl (And.intro rfl trivial))))); rw [k1 h0, show (48 - (k + 1)).toNat = (48 - k).toNat - 1 by omega, hi, hs]; (first | rw [if_pos (decide_eq_true (by omega)), if_neg c46] | rw [if_neg (fun q => c41 (by have q := of_decide_eq_true q; omega))])) | (refine AW.lw ?_ (ih (k + 1) (c) (by omega) (by omega) (by omega) ?_ (by omega)); exact (And.intro rfl (And.intro rfl (And.intro rfl (And.intro rfl (And.intro rfl trivial))))); rw [k1 h0, show (48 - (k + 1)).toNat = (48 - k).toNat - 1 by omega, hi, hs]; (first | rw [if_pos (decide_eq_true (by omega)), if_neg c46] | rw [if_neg (fun q => c41 (by have q := of_decide_eq_true q; omega))]))
      · dsimp only [cmpI] at c41
        refine AW.go 2 (pc' := 46) rfl ?_
        refine AW.bi (tgt := 52) (pn := 49) rfl (by decide) rfl (by first | exact bI_rng _ | exact ⟨by omega, by omega⟩) (by first | exact bI_rng _ | exact ⟨by omega, by omega⟩) (fun c46 => ?_) (fun c46 => ?_)
        · dsimp only [cmpI] at c46
          refine AW.go 3 (pc' := 14) rfl ?_
          first | (refine AW.lw ?_ (ih (k + 1) (c + 1) (by omega) (by omega) (by omega) ?_ (by omega)); exact (And.intro rfl (And.intro rfl (And.intro rfl (And.intro rfl (And.intro rfl trivial))))); rw [k1 h0, show (48 - (k + 1)).toNat = (48 - k).toNat - 1 by omega, hi, hs]; (first | rw [if_pos (decide_eq_true (by omega)), if_neg c46] | rw [if_neg (fun q => c41 (by have q := of_decide_eq_true q; omega))])) | (refine AW.lw ?_ (ih (k + 1) (c) (by omega) (by omega) (by omega) ?_ (by omega)); exact (And.intro rfl (And.intro rfl (And.intro rfl (And.intro rfl (And.intro rfl trivial))))); rw [k1 h0, show (48 - (k + 1)).toNat = (48 - k).toNat - 1 by omega, hi, hs]; (first | rw [if_pos (decide_eq_true (by omega)), if_neg c46] | rw [if_neg (fun q => c41 (by have q := of_decide_eq_true q; omega))]))
        · dsimp only [cmpI] at c46
          refine AW.go 1 (pc' := 51) rfl ?_
          refine AW.ret rfl rfl (Nat.le_refl _) (Nat.le_refl _) ?_
          refine ⟨congrArg some ?_, rfl⟩
          rw [hi, hs, if_pos (decide_eq_true (by omega)), if_pos (Decidable.not_not.mp c46)]
set_option maxHeartbeats 2000000 in
theorem c_X4_partner (d : Nat) (hd : 4 ≤ d) (h : List AC) (pm rf gm ka wr9 : Int) (hO : h[29]? = some (ao 4 (mo pm rf gm ka wr9))) (m : Nat → Int) (hM : h[30]? = some (ai 0 48 m)) (hm : mt m) (r i : Int) (rr : -2147483648 ≤ r ∧ r < 2147483648) (ri : -2147483648 ≤ i ∧ i < 2147483648) : MF zX4_partner d [vr 29, vi r, vi i] h (V_partner m r i) h := by
  refine M0.of okX4_partner (Nat.le_of_ble_eq_true rfl) ?_
  refine AW.go 1 (pc' := 1) rfl ?_
  refine AW.callSF (pn := 4) rfl rfl mlX4_79 (c_X4_isRow (d - 1) (by omega) _ _ (by omega)) rfl rfl (Nat.le_of_ble_eq_true rfl) ⟨by show d - 1 + 1 ≤ d; omega, by show 40 * (d - 1 + 1) ≤ 40 * d; omega⟩ ⟨Nat.zero_le _, Nat.zero_le _⟩ ?_
  refine AW.bnz (tgt := 9) (pn := 7) rfl (by decide) rfl (fun c4 => ?_) (fun c4 => ?_)
  · refine AW.go 4 (pc' := 14) rfl ?_
    unfold V_partner
    rw [if_pos c4]
    refine AW.lw ?_ (l_X4_partner d hd h pm rf gm ka wr9 hO m hM hm r i c4 ri _ 0 0 (by omega) (by omega) (by omega) rfl (Nat.lt_succ_self _))
    exact (And.intro rfl (And.intro rfl (And.intro rfl (And.intro rfl (And.intro rfl trivial)))))
  · refine AW.go 1 (pc' := 8) rfl ?_
    refine AW.ret rfl rfl (Nat.le_refl _) (Nat.le_refl _) ?_
    refine ⟨congrArg some ?_, rfl⟩
    unfold V_partner
    (repeat' split) <;> first | rfl | omega
set_option maxHeartbeats 4000000 in
theorem li_X4_shared (d : Nat) (hd : 4 ≤ d) (h : List AC) (pm rf gm ka wr9 : Int) (hO : h[29]? = some (ao 4 (mo pm rf gm ka wr9))) (m : Nat → Int) (hM : h[30]? = some (ai 0 48 m)) (hm : mt m) (r F N : Int) (rr : 0 ≤ r ∧ r < 4) (rF : 0 ≤ F ∧ F < 48) (rN : 2 ≤ N ∧ N ≤ 6) (k c : Int) (hk : 0 ≤ k ∧ k + N ≤ 12) (Q : Option Int → List AC → Prop) (K : AW zX4_shared Eq (rmd d) 0 0 0 0 102 [(6, vi (bI (hsg (rwm m r) F N (fst12 (rwm m r) 0 k N.toNat : Int) = true))), (5, vi k), (4, vi c), (0, vr 29), (1, vi r), (2, vi F), (3, vi N)] [] h Q) : ∀ (n : Nat) (g : Int) (b : Bool), (0 ≤ g) → (g ≤ 13 - N) → (b = anyN (fun t => decide ((fst12 (rwm m r) F (t : Int) N.toNat : Int) = (fst12 (rwm m r) 0 k N.toNat : Int))) g.toNat) → ((13 - N - g).toNat) < n → AW zX4_shared Eq (rmd d) 0 0 0 0 54 [(7, vi g), (6, vi (bI (b = true))), (5, vi k), (4, vi c), (0, vr 29), (1, vi r), (2, vi F), (3, vi N)] [] h Q := by
  intro n
  induction n with
  | zero =>
    intro g b h0 h1 hb hn
    exact absurd hn (Nat.not_lt_zero _)
  | succ n ih =>
    intro g b h0 h1 hb hn
    refine AW.go 4 (pc' := 60) rfl ?_
    refine AW.bi (tgt := 102) (pn := 63) rfl (by decide) rfl (by first | exact bI_rng _ | exact ⟨by omega, by omega⟩) (by first | exact bI_rng _ | exact ⟨by omega, by omega⟩) (fun c60 => ?_) (fun c60 => ?_)
    · dsimp only [cmpI] at c60
      have e : g = 13 - N := by omega
      subst e
      rw [hb]
      refine AW.lw ?_ K
      exact (And.intro rfl (And.intro rfl (And.intro rfl (And.intro rfl (And.intro rfl (And.intro rfl (And.intro rfl trivial)))))))
    · dsimp only [cmpI] at c60
      refine AW.go 1 (pc' := 65) rfl ?_
      refine AW.bnz (tgt := 89) (pn := 68) rfl (by decide) rfl (fun c65 => ?_) (fun c65 => ?_)
      · refine AW.go 5 (pc' := 54) rfl ?_
        first | (refine AW.lw ?_ (ih (g + 1) (true) (by omega) (by omega) ?_ (by omega)); exact (And.intro rfl (And.intro rfl (And.intro rfl (And.intro rfl (And.intro rfl (And.intro rfl (And.intro rfl (And.intro rfl trivial)))))))); rw [anyN_s h0, ← hb, kk h0]; (first | (rw [c65]; rfl) | (rw [eq_false_of_ne_true c65, decide_eq_false (fun q => c86 q.symm)]; rfl) | (rw [eq_false_of_ne_true c65, decide_eq_true (Decidable.not_not.mp c86).symm]; rfl))) | (refine AW.lw ?_ (ih (g + 1) (false) (by omega) (by omega) ?_ (by omega)); exact (And.intro rfl (And.intro rfl (And.intro rfl (And.intro rfl (And.intro rfl (And.intro rfl (And.intro rfl (And.intro rfl trivial)))))))); rw [anyN_s h0, ← hb, kk h0]; (first | (rw [c65]; rfl) | (rw [eq_false_of_ne_true c65, decide_eq_false (fun q => c86 q.symm)]; rfl) | (rw [eq_false_of_ne_true c65, decide_eq_true (Decidable.not_not.mp c86).symm]; rfl)))
      · refine AW.go 5 (pc' := 74) rfl ?_
        refine AW.callVF (pn := 77) rfl rfl mlX4_134 (by first | assumption | exact set_self (by assumption) | exact set_ne (by first | assumption | omega | decide) (by first | assumption | exact set_self (by assumption) | exact set_ne (by first | assumption | omega | decide) (by assumption))) (c_X4_setAt (d - 1) (by omega) _ _ _ _ _ _ (by assumption) _ (by assumption) (by assumption) _ _ _ _ (by omega) (by omega) (by omega)) rfl rfl (Nat.le_of_ble_eq_true rfl) ⟨by show d - 1 + 1 ≤ d; omega, by show 40 * (d - 1 + 1) ≤ 40 * d; omega⟩ ⟨Nat.zero_le _, Nat.zero_le _⟩ ?_
        refine AW.go 5 (pc' := 83) rfl ?_
        refine AW.callVF (pn := 86) rfl rfl mlX4_134 (by first | assumption | exact set_self (by assumption) | exact set_ne (by first | assumption | omega | decide) (by first | assumption | exact set_self (by assumption) | exact set_ne (by first | assumption | omega | decide) (by assumption))) (c_X4_setAt (d - 1) (by omega) _ _ _ _ _ _ (by assumption) _ (by assumption) (by assumption) _ _ _ _ (by omega) (by omega) (by omega)) rfl rfl (Nat.le_of_ble_eq_true rfl) ⟨by show d - 1 + 1 ≤ d; omega, by show 40 * (d - 1 + 1) ≤ 40 * d; omega⟩ ⟨Nat.zero_le _, Nat.zero_le _⟩ ?_
        have g1 := fst12_lt (rwm m r) 0 k N.toNat
        have g2 := fst12_lt (rwm m r) F g N.toNat
        refine AW.bi (tgt := 93) (pn := 89) rfl (by decide) rfl (by first | exact bI_rng _ | exact ⟨by omega, by omega⟩) (by first | exact bI_rng _ | exact ⟨by omega, by omega⟩) (fun c86 => ?_) (fun c86 => ?_)
        · dsimp only [cmpI] at c86
          refine AW.go 4 (pc' := 54) rfl ?_
          first | (refine AW.lw ?_ (ih (g + 1) (true) (by omega) (by omega) ?_ (by omega)); exact (And.intro rfl (And.intro rfl (And.intro rfl (And.intro rfl (And.intro rfl (And.intro rfl (And.intro rfl (And.intro rfl trivial)))))))); rw [anyN_s h0, ← hb, kk h0]; (first | (rw [c65]; rfl) | (rw [eq_false_of_ne_true c65, decide_eq_false (fun q => c86 q.symm)]; rfl) | (rw [eq_false_of_ne_true c65, decide_eq_true (Decidable.not_not.mp c86).symm]; rfl))) | (refine AW.lw ?_ (ih (g + 1) (false) (by omega) (by omega) ?_ (by omega)); exact (And.intro rfl (And.intro rfl (And.intro rfl (And.intro rfl (And.intro rfl (And.intro rfl (And.intro rfl (And.intro rfl trivial)))))))); rw [anyN_s h0, ← hb, kk h0]; (first | (rw [c65]; rfl) | (rw [eq_false_of_ne_true c65, decide_eq_false (fun q => c86 q.symm)]; rfl) | (rw [eq_false_of_ne_true c65, decide_eq_true (Decidable.not_not.mp c86).symm]; rfl)))
        · dsimp only [cmpI] at c86
          refine AW.go 5 (pc' := 54) rfl ?_
          first | (refine AW.lw ?_ (ih (g + 1) (true) (by omega) (by omega) ?_ (by omega)); exact (And.intro rfl (And.intro rfl (And.intro rfl (And.intro rfl (And.intro rfl (And.intro rfl (And.intro rfl (And.intro rfl trivial)))))))); rw [anyN_s h0, ← hb, kk h0]; (first | (rw [c65]; rfl) | (rw [eq_false_of_ne_true c65, decide_eq_false (fun q => c86 q.symm)]; rfl) | (rw [eq_false_of_ne_true c65, decide_eq_true (Decidable.not_not.mp c86).symm]; rfl))) | (refine AW.lw ?_ (ih (g + 1) (false) (by omega) (by omega) ?_ (by omega)); exact (And.intro rfl (And.intro rfl (And.intro rfl (And.intro rfl (And.intro rfl (And.intro rfl (And.intro rfl (And.intro rfl trivial)))))))); rw [anyN_s h0, ← hb, kk h0]; (first | (rw [c65]; rfl) | (rw [eq_false_of_ne_true c65, decide_eq_false (fun q => c86 q.symm)]; rfl) | (rw [eq_false_of_ne_true c65, decide_eq_true (Decidable.not_not.mp c86).symm]; rfl)))
set_option maxHeartbeats 4000000 in
theorem l_X4_shared (d : Nat) (hd : 4 ≤ d) (h : List AC) (pm rf gm ka wr9 : Int) (hO : h[29]? = some (ao 4 (mo pm rf gm ka wr9))) (m : Nat → Int) (hM : h[30]? = some (ai 0 48 m)) (hm : mt m) (r F N : Int) (rr : 0 ≤ r ∧ r < 4) (rF : 0 ≤ F ∧ F < 48) (rN : 2 ≤ N ∧ N ≤ 6) : ∀ (n : Nat) (k : Int) (c : Int), (0 ≤ k) → (k ≤ 13 - N) → (c = ((cntN (fun s => hsg (rwm m r) F N (fst12 (rwm m r) 0 (s : Int) N.toNat : Int)) k.toNat : Nat) : Int)) → ((13 - N - k).toNat) < n → AW zX4_shared Eq (rmd d) 0 0 0 0 39 [(5, vi k), (4, vi c), (0, vr 29), (1, vi r), (2, vi F), (3, vi N)] [] h (RQ ((cntN (fun s => hsg (rwm m r) F N (fst12 (rwm m r) 0 (s : Int) N.toNat : Int)) (13 - N).toNat : Nat) : Int) h) := by
  intro n
  induction n with
  | zero =>
    intro k c h0 h1 hc hn
    exact absurd hn (Nat.not_lt_zero _)
  | succ n ih =>
    intro k c h0 h1 hc hn
    refine AW.go 4 (pc' := 45) rfl ?_
    refine AW.bi (tgt := 123) (pn := 48) rfl (by decide) rfl (by first | exact bI_rng _ | exact ⟨by omega, by omega⟩) (by first | exact bI_rng _ | exact ⟨by omega, by omega⟩) (fun c45 => ?_) (fun c45 => ?_)
    · dsimp only [cmpI] at c45
      refine AW.go 1 (pc' := 125) rfl ?_
      refine AW.ret rfl rfl (Nat.le_refl _) (Nat.le_refl _) ?_
      refine ⟨congrArg some ?_, rfl⟩
      rw [hc, show k = 13 - N by omega]
    · dsimp only [cmpI] at c45
      refine AW.go 4 (pc' := 54) rfl ?_
      refine AW.lw ?_ (li_X4_shared d hd h pm rf gm ka wr9 hO m hM hm r F N rr rF rN k c ⟨h0, by omega⟩ _ ?_ _ 0 false (by omega) (by omega) rfl (Nat.lt_succ_self _))
      · exact (And.intro rfl (And.intro rfl (And.intro rfl (And.intro rfl (And.intro rfl (And.intro rfl (And.intro rfl (And.intro rfl trivial))))))))
      · refine AW.go 2 (pc' := 106) rfl ?_
        refine AW.bz (tgt := 113) (pn := 109) rfl (by decide) rfl (fun c106 => ?_) (fun c106 => ?_)
        · refine AW.go 5 (pc' := 39) rfl ?_
          first | (refine AW.lw ?_ (ih (k + 1) (c + 1) (by omega) (by omega) ?_ (by omega)); exact (And.intro rfl (And.intro rfl (And.intro rfl (And.intro rfl (And.intro rfl (And.intro rfl trivial)))))); rw [cntN_s h0, kk h0]; (first | rw [if_pos c106] | rw [if_neg c106]); rw [hc]; rfl) | (refine AW.lw ?_ (ih (k + 1) (c + 0) (by omega) (by omega) ?_ (by omega)); exact (And.intro rfl (And.intro rfl (And.intro rfl (And.intro rfl (And.intro rfl (And.intro rfl trivial)))))); rw [cntN_s h0, kk h0]; (first | rw [if_pos c106] | rw [if_neg c106]); rw [hc]; rfl)
        · refine AW.go 6 (pc' := 39) rfl ?_
          first | (refine AW.lw ?_ (ih (k + 1) (c + 1) (by omega) (by omega) ?_ (by omega)); exact (And.intro rfl (And.intro rfl (And.intro rfl (And.intro rfl (And.intro rfl (And.intro rfl trivial)))))); rw [cntN_s h0, kk h0]; (first | rw [if_pos c106] | rw [if_neg c106]); rw [hc]; rfl) | (refine AW.lw ?_ (ih (k + 1) (c + 0) (by omega) (by omega) ?_ (by omega)); exact (And.intro rfl (And.intro rfl (And.intro rfl (And.intro rfl (And.intro rfl (And.intro rfl trivial)))))); rw [cntN_s h0, kk h0]; (first | rw [if_pos c106] | rw [if_neg c106]); rw [hc]; rfl)
set_option maxHeartbeats 2000000 in
theorem c_X4_shared (d : Nat) (hd : 4 ≤ d) (h : List AC) (pm rf gm ka wr9 : Int) (hO : h[29]? = some (ao 4 (mo pm rf gm ka wr9))) (m : Nat → Int) (hM : h[30]? = some (ai 0 48 m)) (hm : mt m) (r F N : Int) (rr : -2147483648 ≤ r ∧ r < 2147483648) (rF : -2147483648 ≤ F ∧ F < 2147483648) (rN : -2147483648 ≤ N ∧ N < 2147483648) : MF zX4_shared d [vr 29, vi r, vi F, vi N] h (V_shared m r F N) h := by
  refine M0.of okX4_shared (Nat.le_of_ble_eq_true rfl) ?_
  refine AW.go 1 (pc' := 1) rfl ?_
  refine AW.callSF (pn := 4) rfl rfl mlX4_79 (c_X4_isRow (d - 1) (by omega) _ _ (by omega)) rfl rfl (Nat.le_of_ble_eq_true rfl) ⟨by show d - 1 + 1 ≤ d; omega, by show 40 * (d - 1 + 1) ≤ 40 * d; omega⟩ ⟨Nat.zero_le _, Nat.zero_le _⟩ ?_
  refine AW.bz (tgt := 14) (pn := 7) rfl (by decide) rfl (fun c4 => ?_) (fun c4 => ?_)
  · refine AW.go 1 (pc' := 15) rfl ?_
    refine AW.ret rfl rfl (Nat.le_refl _) (Nat.le_refl _) ?_
    refine ⟨congrArg some ?_, rfl⟩
    unfold V_shared
    (repeat' split) <;> first | rfl | omega
  · refine AW.go 1 (pc' := 8) rfl ?_
    refine AW.callSF (pn := 11) rfl rfl mlX4_102 (c_X4_isForm (d - 1) (by omega) _ _ (by omega)) rfl rfl (Nat.le_of_ble_eq_true rfl) ⟨by show d - 1 + 1 ≤ d; omega, by show 40 * (d - 1 + 1) ≤ 40 * d; omega⟩ ⟨Nat.zero_le _, Nat.zero_le _⟩ ?_
    refine AW.bnz (tgt := 16) (pn := 14) rfl (by decide) rfl (fun c11 => ?_) (fun c11 => ?_)
    · refine AW.go 1 (pc' := 17) rfl ?_
      refine AW.i2l (pn := 18) rfl rfl (by first | exact bI_rng _ | exact ⟨by omega, by omega⟩) ?_
      refine AW.ldc2 (pn := 21) rfl rfl clX4_130 ?_
      refine AW.ldc2 (pn := 24) rfl rfl clX4_132 ?_
      refine AW.callSF (pn := 27) rfl rfl mlX4_40 (c_X4_in (d - 1) (by omega) _ _ _ _ (by omega) (by omega) (by omega)) rfl rfl (Nat.le_of_ble_eq_true rfl) ⟨by show d - 1 + 1 ≤ d; omega, by show 40 * (d - 1 + 1) ≤ 40 * d; omega⟩ ⟨Nat.zero_le _, Nat.zero_le _⟩ ?_
      refine AW.bnz (tgt := 33) (pn := 30) rfl (by decide) rfl (fun c27 => ?_) (fun c27 => ?_)
      · refine AW.go 4 (pc' := 39) rfl ?_
        unfold V_shared
        rw [if_pos ⟨c4, c11⟩, if_pos (by omega)]
        refine AW.lw ?_ (l_X4_shared d hd h pm rf gm ka wr9 hO m hM hm r F N c4 c11 (by omega) _ 0 0 (by omega) (by omega) rfl (Nat.lt_succ_self _))
        exact (And.intro rfl (And.intro rfl (And.intro rfl (And.intro rfl (And.intro rfl (And.intro rfl trivial))))))
      · refine AW.go 1 (pc' := 32) rfl ?_
        refine AW.ret rfl rfl (Nat.le_refl _) (Nat.le_refl _) ?_
        refine ⟨congrArg some ?_, rfl⟩
        unfold V_shared
        (repeat' split) <;> first | rfl | omega
    · refine AW.go 1 (pc' := 15) rfl ?_
      refine AW.ret rfl rfl (Nat.le_refl _) (Nat.le_refl _) ?_
      refine ⟨congrArg some ?_, rfl⟩
      unfold V_shared
      (repeat' split) <;> first | rfl | omega
set_option maxHeartbeats 4000000 in
theorem l_X4_derived (d : Nat) (hd : 4 ≤ d) (h : List AC) (pm rf gm ka wr9 : Int) (hO : h[29]? = some (ao 4 (mo pm rf gm ka wr9))) (m : Nat → Int) (hM : h[30]? = some (ai 0 48 m)) (hm : mt m) (r N : Int) (rr : 0 ≤ r ∧ r < 4) (hN : N = 2 ∨ N = 3 ∨ N = 4 ∨ N = 6) : ∀ (n : Nat) (k : Int) (s : Int) (b : Bool), (0 ≤ k) → (k ≤ 12 / N - 1) → (s = N * (k + 1)) → (b = drv (rwm m r) N k.toNat) → ((12 / N - 1 - k).toNat) < n → AW zX4_derived Eq (rmd d) 0 0 0 0 38 [(4, vi s), (3, vi (bI (b = true))), (0, vr 29), (1, vi r), (2, vi N)] [] h (RQ (bI (drv (rwm m r) N ((12 / N).toNat - 1) = true)) h) := by
  intro n
  induction n with
  | zero =>
    intro k s b h0 h1 hsk hb hn
    exact absurd hn (Nat.not_lt_zero _)
  | succ n ih =>
    intro k s b h0 h1 hsk hb hn
    have hsb : 0 ≤ s ∧ s ≤ 12 := by rw [hsk]; rcases hN with rfl | rfl | rfl | rfl <;> omega
    have hNb : 2 ≤ N ∧ N ≤ 6 := by omega
    refine AW.go 2 (pc' := 42) rfl ?_
    refine AW.bi (tgt := 75) (pn := 45) rfl (by decide) rfl (by first | exact bI_rng _ | exact ⟨by omega, by omega⟩) (by first | exact bI_rng _ | exact ⟨by omega, by omega⟩) (fun c42 => ?_) (fun c42 => ?_)
    · dsimp only [cmpI] at c42
      refine AW.go 1 (pc' := 76) rfl ?_
      refine AW.bz (tgt := 83) (pn := 79) rfl (by decide) rfl (fun c76 => ?_) (fun c76 => ?_)
      · refine AW.go 1 (pc' := 84) rfl ?_
        refine AW.ret rfl rfl (Nat.le_refl _) (Nat.le_refl _) ?_
        have e : (12 / N).toNat - 1 = k.toNat := by rcases hN with rfl | rfl | rfl | rfl <;> omega
        refine ⟨congrArg some ?_, rfl⟩
        rw [e, ← hb]
        first | exact (bI_t c76).symm | exact (bI_f c76).symm
      · refine AW.go 2 (pc' := 84) rfl ?_
        refine AW.ret rfl rfl (Nat.le_refl _) (Nat.le_refl _) ?_
        have e : (12 / N).toNat - 1 = k.toNat := by rcases hN with rfl | rfl | rfl | rfl <;> omega
        refine ⟨congrArg some ?_, rfl⟩
        rw [e, ← hb]
        first | exact (bI_t c76).symm | exact (bI_f c76).symm
    · dsimp only [cmpI] at c42
      refine AW.go 1 (pc' := 46) rfl ?_
      refine AW.bz (tgt := 64) (pn := 49) rfl (by decide) rfl (fun c46 => ?_) (fun c46 => ?_)
      · refine AW.go 7 (pc' := 38) rfl ?_
        first | (refine AW.lw ?_ (ih (k + 1) (s + N) (true) (by omega) (by rcases hN with rfl | rfl | rfl | rfl <;> omega) (by rw [hsk]; rcases hN with rfl | rfl | rfl | rfl <;> omega) ?_ (by rcases hN with rfl | rfl | rfl | rfl <;> omega)); exact (And.intro rfl (And.intro rfl (And.intro rfl (And.intro rfl (And.intro rfl trivial))))); unfold drv; rw [allN_s h0, kk h0, ← hsk]; change _ = (drv (rwm m r) N k.toNat && _); rw [← hb]; (first | (rw [eq_false_of_ne_true c46]; rfl) | (rw [c46, eq_false_of_ne_true c57]; rfl) | (rw [c46, c57]; rfl))) | (refine AW.lw ?_ (ih (k + 1) (s + N) (false) (by omega) (by rcases hN with rfl | rfl | rfl | rfl <;> omega) (by rw [hsk]; rcases hN with rfl | rfl | rfl | rfl <;> omega) ?_ (by rcases hN with rfl | rfl | rfl | rfl <;> omega)); exact (And.intro rfl (And.intro rfl (And.intro rfl (And.intro rfl (And.intro rfl trivial))))); unfold drv; rw [allN_s h0, kk h0, ← hsk]; change _ = (drv (rwm m r) N k.toNat && _); rw [← hb]; (first | (rw [eq_false_of_ne_true c46]; rfl) | (rw [c46, eq_false_of_ne_true c57]; rfl) | (rw [c46, c57]; rfl)))
      · refine AW.go 4 (pc' := 54) rfl ?_
        have hsN : s + N ≤ 12 := by rw [hsk] at *; rcases hN with rfl | rfl | rfl | rfl <;> omega
        refine AW.callVF (pn := 57) rfl rfl mlX4_141 (by first | assumption | exact set_self (by assumption) | exact set_ne (by first | assumption | omega | decide) (by first | assumption | exact set_self (by assumption) | exact set_ne (by first | assumption | omega | decide) (by assumption))) (c_X4_isGroup (d - 1) (by omega) _ _ _ _ _ _ (by assumption) _ (by assumption) (by assumption) _ _ _ (by omega) (by omega) (by omega)) rfl rfl (Nat.le_of_ble_eq_true rfl) ⟨by show d - 1 + 1 ≤ d; omega, by show 40 * (d - 1 + 1) ≤ 40 * d; omega⟩ ⟨Nat.zero_le _, Nat.zero_le _⟩ ?_
        refine AW.bz (tgt := 64) (pn := 60) rfl (by decide) rfl (fun c57 => ?_) (fun c57 => ?_)
        · refine AW.go 7 (pc' := 38) rfl ?_
          first | (refine AW.lw ?_ (ih (k + 1) (s + N) (true) (by omega) (by rcases hN with rfl | rfl | rfl | rfl <;> omega) (by rw [hsk]; rcases hN with rfl | rfl | rfl | rfl <;> omega) ?_ (by rcases hN with rfl | rfl | rfl | rfl <;> omega)); exact (And.intro rfl (And.intro rfl (And.intro rfl (And.intro rfl (And.intro rfl trivial))))); unfold drv; rw [allN_s h0, kk h0, ← hsk]; change _ = (drv (rwm m r) N k.toNat && _); rw [← hb]; (first | (rw [eq_false_of_ne_true c46]; rfl) | (rw [c46, eq_false_of_ne_true c57]; rfl) | (rw [c46, c57]; rfl))) | (refine AW.lw ?_ (ih (k + 1) (s + N) (false) (by omega) (by rcases hN with rfl | rfl | rfl | rfl <;> omega) (by rw [hsk]; rcases hN with rfl | rfl | rfl | rfl <;> omega) ?_ (by rcases hN with rfl | rfl | rfl | rfl <;> omega)); exact (And.intro rfl (And.intro rfl (And.intro rfl (And.intro rfl (And.intro rfl trivial))))); unfold drv; rw [allN_s h0, kk h0, ← hsk]; change _ = (drv (rwm m r) N k.toNat && _); rw [← hb]; (first | (rw [eq_false_of_ne_true c46]; rfl) | (rw [c46, eq_false_of_ne_true c57]; rfl) | (rw [c46, c57]; rfl)))
        · refine AW.go 8 (pc' := 38) rfl ?_
          first | (refine AW.lw ?_ (ih (k + 1) (s + N) (true) (by omega) (by rcases hN with rfl | rfl | rfl | rfl <;> omega) (by rw [hsk]; rcases hN with rfl | rfl | rfl | rfl <;> omega) ?_ (by rcases hN with rfl | rfl | rfl | rfl <;> omega)); exact (And.intro rfl (And.intro rfl (And.intro rfl (And.intro rfl (And.intro rfl trivial))))); unfold drv; rw [allN_s h0, kk h0, ← hsk]; change _ = (drv (rwm m r) N k.toNat && _); rw [← hb]; (first | (rw [eq_false_of_ne_true c46]; rfl) | (rw [c46, eq_false_of_ne_true c57]; rfl) | (rw [c46, c57]; rfl))) | (refine AW.lw ?_ (ih (k + 1) (s + N) (false) (by omega) (by rcases hN with rfl | rfl | rfl | rfl <;> omega) (by rw [hsk]; rcases hN with rfl | rfl | rfl | rfl <;> omega) ?_ (by rcases hN with rfl | rfl | rfl | rfl <;> omega)); exact (And.intro rfl (And.intro rfl (And.intro rfl (And.intro rfl (And.intro rfl trivial))))); unfold drv; rw [allN_s h0, kk h0, ← hsk]; change _ = (drv (rwm m r) N k.toNat && _); rw [← hb]; (first | (rw [eq_false_of_ne_true c46]; rfl) | (rw [c46, eq_false_of_ne_true c57]; rfl) | (rw [c46, c57]; rfl)))
set_option maxHeartbeats 2000000 in
theorem c_X4_derived (d : Nat) (hd : 4 ≤ d) (h : List AC) (pm rf gm ka wr9 : Int) (hO : h[29]? = some (ao 4 (mo pm rf gm ka wr9))) (m : Nat → Int) (hM : h[30]? = some (ai 0 48 m)) (hm : mt m) (r N : Int) (rr : -2147483648 ≤ r ∧ r < 2147483648) (rN : -2147483648 ≤ N ∧ N < 2147483648) : MF zX4_derived d [vr 29, vi r, vi N] h (V_derived m r N) h := by
  refine M0.of okX4_derived (Nat.le_of_ble_eq_true rfl) ?_
  refine AW.go 1 (pc' := 1) rfl ?_
  refine AW.callSF (pn := 4) rfl rfl mlX4_79 (c_X4_isRow (d - 1) (by omega) _ _ (by omega)) rfl rfl (Nat.le_of_ble_eq_true rfl) ⟨by show d - 1 + 1 ≤ d; omega, by show 40 * (d - 1 + 1) ≤ 40 * d; omega⟩ ⟨Nat.zero_le _, Nat.zero_le _⟩ ?_
  refine AW.bnz (tgt := 9) (pn := 7) rfl (by decide) rfl (fun c4 => ?_) (fun c4 => ?_)
  · refine AW.go 2 (pc' := 11) rfl ?_
    refine AW.bi (tgt := 33) (pn := 14) rfl (by decide) rfl (by first | exact bI_rng _ | exact ⟨by omega, by omega⟩) (by first | exact bI_rng _ | exact ⟨by omega, by omega⟩) (fun c11 => ?_) (fun c11 => ?_)
    · dsimp only [cmpI] at c11
      refine AW.go 4 (pc' := 38) rfl ?_
      have hN : N = 2 ∨ N = 3 ∨ N = 4 ∨ N = 6 := by omega
      unfold V_derived
      rw [if_pos c4, if_pos hN]
      refine AW.lw ?_ (l_X4_derived d hd h pm rf gm ka wr9 hO m hM hm r N c4 hN _ 0 N true (by omega) (by rcases hN with rfl | rfl | rfl | rfl <;> decide) (by omega) rfl (Nat.lt_succ_self _))
      exact (And.intro rfl (And.intro rfl (And.intro rfl (And.intro rfl (And.intro rfl trivial)))))
    · dsimp only [cmpI] at c11
      refine AW.go 2 (pc' := 16) rfl ?_
      refine AW.bi (tgt := 33) (pn := 19) rfl (by decide) rfl (by first | exact bI_rng _ | exact ⟨by omega, by omega⟩) (by first | exact bI_rng _ | exact ⟨by omega, by omega⟩) (fun c16 => ?_) (fun c16 => ?_)
      · dsimp only [cmpI] at c16
        refine AW.go 4 (pc' := 38) rfl ?_
        have hN : N = 2 ∨ N = 3 ∨ N = 4 ∨ N = 6 := by omega
        unfold V_derived
        rw [if_pos c4, if_pos hN]
        refine AW.lw ?_ (l_X4_derived d hd h pm rf gm ka wr9 hO m hM hm r N c4 hN _ 0 N true (by omega) (by rcases hN with rfl | rfl | rfl | rfl <;> decide) (by omega) rfl (Nat.lt_succ_self _))
        exact (And.intro rfl (And.intro rfl (And.intro rfl (And.intro rfl (And.intro rfl trivial)))))
      · dsimp only [cmpI] at c16
        refine AW.go 2 (pc' := 21) rfl ?_
        refine AW.bi (tgt := 33) (pn := 24) rfl (by decide) rfl (by first | exact bI_rng _ | exact ⟨by omega, by omega⟩) (by first | exact bI_rng _ | exact ⟨by omega, by omega⟩) (fun c21 => ?_) (fun c21 => ?_)
        · dsimp only [cmpI] at c21
          refine AW.go 4 (pc' := 38) rfl ?_
          have hN : N = 2 ∨ N = 3 ∨ N = 4 ∨ N = 6 := by omega
          unfold V_derived
          rw [if_pos c4, if_pos hN]
          refine AW.lw ?_ (l_X4_derived d hd h pm rf gm ka wr9 hO m hM hm r N c4 hN _ 0 N true (by omega) (by rcases hN with rfl | rfl | rfl | rfl <;> decide) (by omega) rfl (Nat.lt_succ_self _))
          exact (And.intro rfl (And.intro rfl (And.intro rfl (And.intro rfl (And.intro rfl trivial)))))
        · dsimp only [cmpI] at c21
          refine AW.go 2 (pc' := 27) rfl ?_
          refine AW.bi (tgt := 33) (pn := 30) rfl (by decide) rfl (by first | exact bI_rng _ | exact ⟨by omega, by omega⟩) (by first | exact bI_rng _ | exact ⟨by omega, by omega⟩) (fun c27 => ?_) (fun c27 => ?_)
          · dsimp only [cmpI] at c27
            refine AW.go 4 (pc' := 38) rfl ?_
            have hN : N = 2 ∨ N = 3 ∨ N = 4 ∨ N = 6 := by omega
            unfold V_derived
            rw [if_pos c4, if_pos hN]
            refine AW.lw ?_ (l_X4_derived d hd h pm rf gm ka wr9 hO m hM hm r N c4 hN _ 0 N true (by omega) (by rcases hN with rfl | rfl | rfl | rfl <;> decide) (by omega) rfl (Nat.lt_succ_self _))
            exact (And.intro rfl (And.intro rfl (And.intro rfl (And.intro rfl (And.intro rfl trivial)))))
          · dsimp only [cmpI] at c27
            refine AW.go 1 (pc' := 32) rfl ?_
            refine AW.ret rfl rfl (Nat.le_refl _) (Nat.le_refl _) ?_
            refine ⟨congrArg some ?_, rfl⟩
            unfold V_derived
            (repeat' split) <;> first | rfl | omega
  · refine AW.go 1 (pc' := 8) rfl ?_
    refine AW.ret rfl rfl (Nat.le_refl _) (Nat.le_refl _) ?_
    refine ⟨congrArg some ?_, rfl⟩
    unfold V_derived
    (repeat' split) <;> first | rfl | omega
set_option maxHeartbeats 2000000 in
theorem c_X4_sign (d : Nat) (hd : 3 ≤ d) (h : List AC) (pm rf gm ka wr9 : Int) (hO : h[29]? = some (ao 4 (mo pm rf gm ka wr9))) (m : Nat → Int) (hM : h[30]? = some (ai 0 48 m)) (hm : mt m) (r F j : Int) (rr : -2147483648 ≤ r ∧ r < 2147483648) (rF : -2147483648 ≤ F ∧ F < 2147483648) (rj : -2147483648 ≤ j ∧ j < 2147483648) : MF zX4_sign d [vr 29, vi r, vi F, vi j] h (V_sign m r F j) h := by
  refine M0.of okX4_sign (Nat.le_of_ble_eq_true rfl) ?_
  refine AW.go 1 (pc' := 1) rfl ?_
  refine AW.callSF (pn := 4) rfl rfl mlX4_79 (c_X4_isRow (d - 1) (by omega) _ _ (by omega)) rfl rfl (Nat.le_of_ble_eq_true rfl) ⟨by show d - 1 + 1 ≤ d; omega, by show 40 * (d - 1 + 1) ≤ 40 * d; omega⟩ ⟨Nat.zero_le _, Nat.zero_le _⟩ ?_
  refine AW.bz (tgt := 14) (pn := 7) rfl (by decide) rfl (fun c4 => ?_) (fun c4 => ?_)
  · refine AW.go 1 (pc' := 15) rfl ?_
    refine AW.ret rfl rfl (Nat.le_refl _) (Nat.le_refl _) ?_
    refine ⟨congrArg some ?_, rfl⟩
    have e1 := kl_c F
    have e2 := nl_c F
    unfold V_sign nsg
    (repeat' split) <;> first | rfl | omega | (congr 2; omega)
  · refine AW.go 1 (pc' := 8) rfl ?_
    refine AW.callSF (pn := 11) rfl rfl mlX4_102 (c_X4_isForm (d - 1) (by omega) _ _ (by omega)) rfl rfl (Nat.le_of_ble_eq_true rfl) ⟨by show d - 1 + 1 ≤ d; omega, by show 40 * (d - 1 + 1) ≤ 40 * d; omega⟩ ⟨Nat.zero_le _, Nat.zero_le _⟩ ?_
    refine AW.bnz (tgt := 16) (pn := 14) rfl (by decide) rfl (fun c11 => ?_) (fun c11 => ?_)
    · refine AW.go 2 (pc' := 19) rfl ?_
      refine AW.idiv (pn := 20) rfl rfl (by omega) (by omega) (by omega) (by omega) ?_
      refine AW.go 3 (pc' := 25) rfl ?_
      refine AW.irem (pn := 26) rfl rfl (by omega) (by omega) (by omega) (by omega) ?_
      refine AW.go 3 (pc' := 31) rfl ?_
      refine AW.bi (tgt := 38) (pn := 34) rfl (by decide) rfl (by first | exact bI_rng _ | exact ⟨by omega, by omega⟩) (by first | exact bI_rng _ | exact ⟨by omega, by omega⟩) (fun c31 => ?_) (fun c31 => ?_)
      · dsimp only [cmpI] at c31
        refine AW.go 5 (pc' := 47) rfl ?_
        refine AW.bi (tgt := 54) (pn := 50) rfl (by decide) rfl (by first | exact bI_rng _ | exact ⟨by omega, by omega⟩) (by first | exact bI_rng _ | exact ⟨by omega, by omega⟩) (fun c47 => ?_) (fun c47 => ?_)
        · dsimp only [cmpI] at c47
          refine AW.go 5 (pc' := 60) rfl ?_
          refine AW.bi (tgt := 71) (pn := 63) rfl (by decide) rfl (by first | exact bI_rng _ | exact ⟨by omega, by omega⟩) (by first | exact bI_rng _ | exact ⟨by omega, by omega⟩) (fun c60 => ?_) (fun c60 => ?_)
          · dsimp only [cmpI] at c60
            refine AW.go 1 (pc' := 72) rfl ?_
            refine AW.i2l (pn := 73) rfl rfl (by first | exact bI_rng _ | exact ⟨by omega, by omega⟩) ?_
            refine AW.go 4 (pc' := 79) rfl ?_
            refine AW.i2l (pn := 80) rfl rfl (by first | exact bI_rng _ | exact ⟨by omega, by omega⟩) ?_
            refine AW.callSF (pn := 83) rfl rfl mlX4_40 (c_X4_in (d - 1) (by omega) _ _ _ _ (by omega) (by omega) (by omega)) rfl rfl (Nat.le_of_ble_eq_true rfl) ⟨by show d - 1 + 1 ≤ d; omega, by show 40 * (d - 1 + 1) ≤ 40 * d; omega⟩ ⟨Nat.zero_le _, Nat.zero_le _⟩ ?_
            refine AW.bnz (tgt := 89) (pn := 86) rfl (by decide) rfl (fun c83 => ?_) (fun c83 => ?_)
            · refine AW.go 2 (pc' := 92) rfl ?_
              refine AW.bi (tgt := 124) (pn := 95) rfl (by decide) rfl (by first | exact bI_rng _ | exact ⟨by omega, by omega⟩) (by first | exact bI_rng _ | exact ⟨by omega, by omega⟩) (fun c92 => ?_) (fun c92 => ?_)
              · dsimp only [cmpI] at c92
                refine AW.go 2 (pc' := 127) rfl ?_
                refine AW.bi (tgt := 156) (pn := 130) rfl (by decide) rfl (by first | exact bI_rng _ | exact ⟨by omega, by omega⟩) (by first | exact bI_rng _ | exact ⟨by omega, by omega⟩) (fun c127 => ?_) (fun c127 => ?_)
                · dsimp only [cmpI] at c127
                  refine AW.go 2 (pc' := 159) rfl ?_
                  refine AW.bi (tgt := 167) (pn := 162) rfl (by decide) rfl (by first | exact bI_rng _ | exact ⟨by omega, by omega⟩) (by first | exact bI_rng _ | exact ⟨by omega, by omega⟩) (fun c159 => ?_) (fun c159 => ?_)
                  · dsimp only [cmpI] at c159
                    refine AW.go 8 (pc' := 176) rfl ?_
                    refine AW.callVF (pn := 179) rfl rfl mlX4_105 (by first | assumption | exact set_self (by assumption) | exact set_ne (by first | assumption | omega | decide) (by first | assumption | exact set_self (by assumption) | exact set_ne (by first | assumption | omega | decide) (by assumption))) (c_X4_formAt (d - 1) (by omega) _ _ _ _ _ _ (by assumption) _ (by assumption) (by assumption) _ _ _ (by omega) (by omega) (by omega)) rfl rfl (Nat.le_of_ble_eq_true rfl) ⟨by show d - 1 + 1 ≤ d; omega, by show 40 * (d - 1 + 1) ≤ 40 * d; omega⟩ ⟨Nat.zero_le _, Nat.zero_le _⟩ ?_
                    refine AW.callSF (pn := 182) rfl rfl mlX4_190 (c_X4_signOf (d - 1) (by omega) _ _ (ft_r _ _ _ _)) rfl rfl (Nat.le_of_ble_eq_true rfl) ⟨by show d - 1 + 1 ≤ d; omega, by show 40 * (d - 1 + 1) ≤ 40 * d; omega⟩ ⟨Nat.zero_le _, Nat.zero_le _⟩ ?_
                    refine AW.ret rfl rfl (Nat.le_refl _) (Nat.le_refl _) ?_
                    refine ⟨congrArg some ?_, rfl⟩
                    have e1 := kl_c F
                    have e2 := nl_c F
                    unfold V_sign nsg
                    (repeat' split) <;> first | rfl | omega | (congr 2; omega)
                  · dsimp only [cmpI] at c159
                    refine AW.go 2 (pc' := 182) rfl ?_
                    refine AW.ret rfl rfl (Nat.le_refl _) (Nat.le_refl _) ?_
                    refine ⟨congrArg some ?_, rfl⟩
                    have e1 := kl_c F
                    have e2 := nl_c F
                    unfold V_sign nsg
                    (repeat' split) <;> first | rfl | omega | (congr 2; omega)
                · dsimp only [cmpI] at c127
                  refine AW.go 3 (pc' := 136) rfl ?_
                  refine AW.bi (tgt := 149) (pn := 139) rfl (by decide) rfl (by first | exact bI_rng _ | exact ⟨by omega, by omega⟩) (by first | exact bI_rng _ | exact ⟨by omega, by omega⟩) (fun c136 => ?_) (fun c136 => ?_)
                  · dsimp only [cmpI] at c136
                    refine AW.go 2 (pc' := 153) rfl ?_
                    refine AW.irem (pn := 154) rfl rfl (by omega) (by omega) (by omega) (by omega) ?_
                    refine AW.go 1 (pc' := 155) rfl ?_
                    refine AW.ret rfl rfl (Nat.le_refl _) (Nat.le_refl _) ?_
                    refine ⟨congrArg some ?_, rfl⟩
                    have e1 := kl_c F
                    have e2 := nl_c F
                    unfold V_sign nsg
                    (repeat' split) <;> first | rfl | omega | (congr 2; omega)
                  · dsimp only [cmpI] at c136
                    refine AW.go 2 (pc' := 142) rfl ?_
                    refine AW.bi (tgt := 149) (pn := 145) rfl (by decide) rfl (by first | exact bI_rng _ | exact ⟨by omega, by omega⟩) (by first | exact bI_rng _ | exact ⟨by omega, by omega⟩) (fun c142 => ?_) (fun c142 => ?_)
                    · dsimp only [cmpI] at c142
                      refine AW.go 2 (pc' := 153) rfl ?_
                      refine AW.irem (pn := 154) rfl rfl (by omega) (by omega) (by omega) (by omega) ?_
                      refine AW.go 1 (pc' := 155) rfl ?_
                      refine AW.ret rfl rfl (Nat.le_refl _) (Nat.le_refl _) ?_
                      refine ⟨congrArg some ?_, rfl⟩
                      have e1 := kl_c F
                      have e2 := nl_c F
                      unfold V_sign nsg
                      (repeat' split) <;> first | rfl | omega | (congr 2; omega)
                    · dsimp only [cmpI] at c142
                      refine AW.go 3 (pc' := 155) rfl ?_
                      refine AW.ret rfl rfl (Nat.le_refl _) (Nat.le_refl _) ?_
                      refine ⟨congrArg some ?_, rfl⟩
                      have e1 := kl_c F
                      have e2 := nl_c F
                      unfold V_sign nsg
                      (repeat' split) <;> first | rfl | omega | (congr 2; omega)
              · dsimp only [cmpI] at c92
                refine AW.go 1 (pc' := 97) rfl ?_
                refine AW.br (tgt := 105) (pn := 100) rfl (by decide) rfl (by first | exact bI_rng _ | exact ⟨by omega, by omega⟩) (fun c97 => ?_) (fun c97 => ?_)
                · dsimp only [cmpI] at c97
                  refine AW.go 2 (pc' := 108) rfl ?_
                  refine AW.bi (tgt := 116) (pn := 111) rfl (by decide) rfl (by first | exact bI_rng _ | exact ⟨by omega, by omega⟩) (by first | exact bI_rng _ | exact ⟨by omega, by omega⟩) (fun c108 => ?_) (fun c108 => ?_)
                  · dsimp only [cmpI] at c108
                    refine AW.go 2 (pc' := 123) rfl ?_
                    refine AW.ret rfl rfl (Nat.le_refl _) (Nat.le_refl _) ?_
                    refine ⟨congrArg some ?_, rfl⟩
                    have e1 := kl_c F
                    have e2 := nl_c F
                    unfold V_sign nsg
                    (repeat' split) <;> first | rfl | omega | (congr 2; omega)
                  · dsimp only [cmpI] at c108
                    refine AW.go 2 (pc' := 113) rfl ?_
                    refine AW.bi (tgt := 121) (pn := 116) rfl (by decide) rfl (by first | exact bI_rng _ | exact ⟨by omega, by omega⟩) (by first | exact bI_rng _ | exact ⟨by omega, by omega⟩) (fun c113 => ?_) (fun c113 => ?_)
                    · dsimp only [cmpI] at c113
                      refine AW.go 1 (pc' := 123) rfl ?_
                      refine AW.ret rfl rfl (Nat.le_refl _) (Nat.le_refl _) ?_
                      refine ⟨congrArg some ?_, rfl⟩
                      have e1 := kl_c F
                      have e2 := nl_c F
                      unfold V_sign nsg
                      (repeat' split) <;> first | rfl | omega | (congr 2; omega)
                    · dsimp only [cmpI] at c113
                      refine AW.go 2 (pc' := 123) rfl ?_
                      refine AW.ret rfl rfl (Nat.le_refl _) (Nat.le_refl _) ?_
                      refine ⟨congrArg some ?_, rfl⟩
                      have e1 := kl_c F
                      have e2 := nl_c F
                      unfold V_sign nsg
                      (repeat' split) <;> first | rfl | omega | (congr 2; omega)
                · dsimp only [cmpI] at c97
                  refine AW.go 2 (pc' := 123) rfl ?_
                  refine AW.ret rfl rfl (Nat.le_refl _) (Nat.le_refl _) ?_
                  refine ⟨congrArg some ?_, rfl⟩
                  have e1 := kl_c F
                  have e2 := nl_c F
                  unfold V_sign nsg
                  (repeat' split) <;> first | rfl | omega | (congr 2; omega)
            · refine AW.go 1 (pc' := 88) rfl ?_
              refine AW.ret rfl rfl (Nat.le_refl _) (Nat.le_refl _) ?_
              refine ⟨congrArg some ?_, rfl⟩
              have e1 := kl_c F
              have e2 := nl_c F
              unfold V_sign nsg
              (repeat' split) <;> first | rfl | omega | (congr 2; omega)
          · dsimp only [cmpI] at c60
            refine AW.go 5 (pc' := 70) rfl ?_
            refine AW.ret rfl rfl (Nat.le_refl _) (Nat.le_refl _) ?_
            refine ⟨congrArg some ?_, rfl⟩
            have e1 := kl_c F
            have e2 := nl_c F
            unfold V_sign nsg
            (repeat' split) <;> first | rfl | omega | (congr 2; omega)
        · dsimp only [cmpI] at c47
          refine AW.go 6 (pc' := 60) rfl ?_
          refine AW.bi (tgt := 71) (pn := 63) rfl (by decide) rfl (by first | exact bI_rng _ | exact ⟨by omega, by omega⟩) (by first | exact bI_rng _ | exact ⟨by omega, by omega⟩) (fun c60 => ?_) (fun c60 => ?_)
          · dsimp only [cmpI] at c60
            refine AW.go 1 (pc' := 72) rfl ?_
            refine AW.i2l (pn := 73) rfl rfl (by first | exact bI_rng _ | exact ⟨by omega, by omega⟩) ?_
            refine AW.go 4 (pc' := 79) rfl ?_
            refine AW.i2l (pn := 80) rfl rfl (by first | exact bI_rng _ | exact ⟨by omega, by omega⟩) ?_
            refine AW.callSF (pn := 83) rfl rfl mlX4_40 (c_X4_in (d - 1) (by omega) _ _ _ _ (by omega) (by omega) (by omega)) rfl rfl (Nat.le_of_ble_eq_true rfl) ⟨by show d - 1 + 1 ≤ d; omega, by show 40 * (d - 1 + 1) ≤ 40 * d; omega⟩ ⟨Nat.zero_le _, Nat.zero_le _⟩ ?_
            refine AW.bnz (tgt := 89) (pn := 86) rfl (by decide) rfl (fun c83 => ?_) (fun c83 => ?_)
            · refine AW.go 2 (pc' := 92) rfl ?_
              refine AW.bi (tgt := 124) (pn := 95) rfl (by decide) rfl (by first | exact bI_rng _ | exact ⟨by omega, by omega⟩) (by first | exact bI_rng _ | exact ⟨by omega, by omega⟩) (fun c92 => ?_) (fun c92 => ?_)
              · dsimp only [cmpI] at c92
                refine AW.go 2 (pc' := 127) rfl ?_
                refine AW.bi (tgt := 156) (pn := 130) rfl (by decide) rfl (by first | exact bI_rng _ | exact ⟨by omega, by omega⟩) (by first | exact bI_rng _ | exact ⟨by omega, by omega⟩) (fun c127 => ?_) (fun c127 => ?_)
                · dsimp only [cmpI] at c127
                  refine AW.go 2 (pc' := 159) rfl ?_
                  refine AW.bi (tgt := 167) (pn := 162) rfl (by decide) rfl (by first | exact bI_rng _ | exact ⟨by omega, by omega⟩) (by first | exact bI_rng _ | exact ⟨by omega, by omega⟩) (fun c159 => ?_) (fun c159 => ?_)
                  · dsimp only [cmpI] at c159
                    refine AW.go 8 (pc' := 176) rfl ?_
                    refine AW.callVF (pn := 179) rfl rfl mlX4_105 (by first | assumption | exact set_self (by assumption) | exact set_ne (by first | assumption | omega | decide) (by first | assumption | exact set_self (by assumption) | exact set_ne (by first | assumption | omega | decide) (by assumption))) (c_X4_formAt (d - 1) (by omega) _ _ _ _ _ _ (by assumption) _ (by assumption) (by assumption) _ _ _ (by omega) (by omega) (by omega)) rfl rfl (Nat.le_of_ble_eq_true rfl) ⟨by show d - 1 + 1 ≤ d; omega, by show 40 * (d - 1 + 1) ≤ 40 * d; omega⟩ ⟨Nat.zero_le _, Nat.zero_le _⟩ ?_
                    refine AW.callSF (pn := 182) rfl rfl mlX4_190 (c_X4_signOf (d - 1) (by omega) _ _ (ft_r _ _ _ _)) rfl rfl (Nat.le_of_ble_eq_true rfl) ⟨by show d - 1 + 1 ≤ d; omega, by show 40 * (d - 1 + 1) ≤ 40 * d; omega⟩ ⟨Nat.zero_le _, Nat.zero_le _⟩ ?_
                    refine AW.ret rfl rfl (Nat.le_refl _) (Nat.le_refl _) ?_
                    refine ⟨congrArg some ?_, rfl⟩
                    have e1 := kl_c F
                    have e2 := nl_c F
                    unfold V_sign nsg
                    (repeat' split) <;> first | rfl | omega | (congr 2; omega)
                  · dsimp only [cmpI] at c159
                    refine AW.go 2 (pc' := 182) rfl ?_
                    refine AW.ret rfl rfl (Nat.le_refl _) (Nat.le_refl _) ?_
                    refine ⟨congrArg some ?_, rfl⟩
                    have e1 := kl_c F
                    have e2 := nl_c F
                    unfold V_sign nsg
                    (repeat' split) <;> first | rfl | omega | (congr 2; omega)
                · dsimp only [cmpI] at c127
                  refine AW.go 3 (pc' := 136) rfl ?_
                  refine AW.bi (tgt := 149) (pn := 139) rfl (by decide) rfl (by first | exact bI_rng _ | exact ⟨by omega, by omega⟩) (by first | exact bI_rng _ | exact ⟨by omega, by omega⟩) (fun c136 => ?_) (fun c136 => ?_)
                  · dsimp only [cmpI] at c136
                    refine AW.go 2 (pc' := 153) rfl ?_
                    refine AW.irem (pn := 154) rfl rfl (by omega) (by omega) (by omega) (by omega) ?_
                    refine AW.go 1 (pc' := 155) rfl ?_
                    refine AW.ret rfl rfl (Nat.le_refl _) (Nat.le_refl _) ?_
                    refine ⟨congrArg some ?_, rfl⟩
                    have e1 := kl_c F
                    have e2 := nl_c F
                    unfold V_sign nsg
                    (repeat' split) <;> first | rfl | omega | (congr 2; omega)
                  · dsimp only [cmpI] at c136
                    refine AW.go 2 (pc' := 142) rfl ?_
                    refine AW.bi (tgt := 149) (pn := 145) rfl (by decide) rfl (by first | exact bI_rng _ | exact ⟨by omega, by omega⟩) (by first | exact bI_rng _ | exact ⟨by omega, by omega⟩) (fun c142 => ?_) (fun c142 => ?_)
                    · dsimp only [cmpI] at c142
                      refine AW.go 2 (pc' := 153) rfl ?_
                      refine AW.irem (pn := 154) rfl rfl (by omega) (by omega) (by omega) (by omega) ?_
                      refine AW.go 1 (pc' := 155) rfl ?_
                      refine AW.ret rfl rfl (Nat.le_refl _) (Nat.le_refl _) ?_
                      refine ⟨congrArg some ?_, rfl⟩
                      have e1 := kl_c F
                      have e2 := nl_c F
                      unfold V_sign nsg
                      (repeat' split) <;> first | rfl | omega | (congr 2; omega)
                    · dsimp only [cmpI] at c142
                      refine AW.go 3 (pc' := 155) rfl ?_
                      refine AW.ret rfl rfl (Nat.le_refl _) (Nat.le_refl _) ?_
                      refine ⟨congrArg some ?_, rfl⟩
                      have e1 := kl_c F
                      have e2 := nl_c F
                      unfold V_sign nsg
                      (repeat' split) <;> first | rfl | omega | (congr 2; omega)
              · dsimp only [cmpI] at c92
                refine AW.go 1 (pc' := 97) rfl ?_
                refine AW.br (tgt := 105) (pn := 100) rfl (by decide) rfl (by first | exact bI_rng _ | exact ⟨by omega, by omega⟩) (fun c97 => ?_) (fun c97 => ?_)
                · dsimp only [cmpI] at c97
                  refine AW.go 2 (pc' := 108) rfl ?_
                  refine AW.bi (tgt := 116) (pn := 111) rfl (by decide) rfl (by first | exact bI_rng _ | exact ⟨by omega, by omega⟩) (by first | exact bI_rng _ | exact ⟨by omega, by omega⟩) (fun c108 => ?_) (fun c108 => ?_)
                  · dsimp only [cmpI] at c108
                    refine AW.go 2 (pc' := 123) rfl ?_
                    refine AW.ret rfl rfl (Nat.le_refl _) (Nat.le_refl _) ?_
                    refine ⟨congrArg some ?_, rfl⟩
                    have e1 := kl_c F
                    have e2 := nl_c F
                    unfold V_sign nsg
                    (repeat' split) <;> first | rfl | omega | (congr 2; omega)
                  · dsimp only [cmpI] at c108
                    refine AW.go 2 (pc' := 113) rfl ?_
                    refine AW.bi (tgt := 121) (pn := 116) rfl (by decide) rfl (by first | exact bI_rng _ | exact ⟨by omega, by omega⟩) (by first | exact bI_rng _ | exact ⟨by omega, by omega⟩) (fun c113 => ?_) (fun c113 => ?_)
                    · dsimp only [cmpI] at c113
                      refine AW.go 1 (pc' := 123) rfl ?_
                      refine AW.ret rfl rfl (Nat.le_refl _) (Nat.le_refl _) ?_
                      refine ⟨congrArg some ?_, rfl⟩
                      have e1 := kl_c F
                      have e2 := nl_c F
                      unfold V_sign nsg
                      (repeat' split) <;> first | rfl | omega | (congr 2; omega)
                    · dsimp only [cmpI] at c113
                      refine AW.go 2 (pc' := 123) rfl ?_
                      refine AW.ret rfl rfl (Nat.le_refl _) (Nat.le_refl _) ?_
                      refine ⟨congrArg some ?_, rfl⟩
                      have e1 := kl_c F
                      have e2 := nl_c F
                      unfold V_sign nsg
                      (repeat' split) <;> first | rfl | omega | (congr 2; omega)
                · dsimp only [cmpI] at c97
                  refine AW.go 2 (pc' := 123) rfl ?_
                  refine AW.ret rfl rfl (Nat.le_refl _) (Nat.le_refl _) ?_
                  refine ⟨congrArg some ?_, rfl⟩
                  have e1 := kl_c F
                  have e2 := nl_c F
                  unfold V_sign nsg
                  (repeat' split) <;> first | rfl | omega | (congr 2; omega)
            · refine AW.go 1 (pc' := 88) rfl ?_
              refine AW.ret rfl rfl (Nat.le_refl _) (Nat.le_refl _) ?_
              refine ⟨congrArg some ?_, rfl⟩
              have e1 := kl_c F
              have e2 := nl_c F
              unfold V_sign nsg
              (repeat' split) <;> first | rfl | omega | (congr 2; omega)
          · dsimp only [cmpI] at c60
            refine AW.go 5 (pc' := 70) rfl ?_
            refine AW.ret rfl rfl (Nat.le_refl _) (Nat.le_refl _) ?_
            refine ⟨congrArg some ?_, rfl⟩
            have e1 := kl_c F
            have e2 := nl_c F
            unfold V_sign nsg
            (repeat' split) <;> first | rfl | omega | (congr 2; omega)
      · dsimp only [cmpI] at c31
        refine AW.go 6 (pc' := 47) rfl ?_
        refine AW.bi (tgt := 54) (pn := 50) rfl (by decide) rfl (by first | exact bI_rng _ | exact ⟨by omega, by omega⟩) (by first | exact bI_rng _ | exact ⟨by omega, by omega⟩) (fun c47 => ?_) (fun c47 => ?_)
        · dsimp only [cmpI] at c47
          refine AW.go 5 (pc' := 60) rfl ?_
          refine AW.bi (tgt := 71) (pn := 63) rfl (by decide) rfl (by first | exact bI_rng _ | exact ⟨by omega, by omega⟩) (by first | exact bI_rng _ | exact ⟨by omega, by omega⟩) (fun c60 => ?_) (fun c60 => ?_)
          · dsimp only [cmpI] at c60
            refine AW.go 1 (pc' := 72) rfl ?_
            refine AW.i2l (pn := 73) rfl rfl (by first | exact bI_rng _ | exact ⟨by omega, by omega⟩) ?_
            refine AW.go 4 (pc' := 79) rfl ?_
            refine AW.i2l (pn := 80) rfl rfl (by first | exact bI_rng _ | exact ⟨by omega, by omega⟩) ?_
            refine AW.callSF (pn := 83) rfl rfl mlX4_40 (c_X4_in (d - 1) (by omega) _ _ _ _ (by omega) (by omega) (by omega)) rfl rfl (Nat.le_of_ble_eq_true rfl) ⟨by show d - 1 + 1 ≤ d; omega, by show 40 * (d - 1 + 1) ≤ 40 * d; omega⟩ ⟨Nat.zero_le _, Nat.zero_le _⟩ ?_
            refine AW.bnz (tgt := 89) (pn := 86) rfl (by decide) rfl (fun c83 => ?_) (fun c83 => ?_)
            · refine AW.go 2 (pc' := 92) rfl ?_
              refine AW.bi (tgt := 124) (pn := 95) rfl (by decide) rfl (by first | exact bI_rng _ | exact ⟨by omega, by omega⟩) (by first | exact bI_rng _ | exact ⟨by omega, by omega⟩) (fun c92 => ?_) (fun c92 => ?_)
              · dsimp only [cmpI] at c92
                refine AW.go 2 (pc' := 127) rfl ?_
                refine AW.bi (tgt := 156) (pn := 130) rfl (by decide) rfl (by first | exact bI_rng _ | exact ⟨by omega, by omega⟩) (by first | exact bI_rng _ | exact ⟨by omega, by omega⟩) (fun c127 => ?_) (fun c127 => ?_)
                · dsimp only [cmpI] at c127
                  refine AW.go 2 (pc' := 159) rfl ?_
                  refine AW.bi (tgt := 167) (pn := 162) rfl (by decide) rfl (by first | exact bI_rng _ | exact ⟨by omega, by omega⟩) (by first | exact bI_rng _ | exact ⟨by omega, by omega⟩) (fun c159 => ?_) (fun c159 => ?_)
                  · dsimp only [cmpI] at c159
                    refine AW.go 8 (pc' := 176) rfl ?_
                    refine AW.callVF (pn := 179) rfl rfl mlX4_105 (by first | assumption | exact set_self (by assumption) | exact set_ne (by first | assumption | omega | decide) (by first | assumption | exact set_self (by assumption) | exact set_ne (by first | assumption | omega | decide) (by assumption))) (c_X4_formAt (d - 1) (by omega) _ _ _ _ _ _ (by assumption) _ (by assumption) (by assumption) _ _ _ (by omega) (by omega) (by omega)) rfl rfl (Nat.le_of_ble_eq_true rfl) ⟨by show d - 1 + 1 ≤ d; omega, by show 40 * (d - 1 + 1) ≤ 40 * d; omega⟩ ⟨Nat.zero_le _, Nat.zero_le _⟩ ?_
                    refine AW.callSF (pn := 182) rfl rfl mlX4_190 (c_X4_signOf (d - 1) (by omega) _ _ (ft_r _ _ _ _)) rfl rfl (Nat.le_of_ble_eq_true rfl) ⟨by show d - 1 + 1 ≤ d; omega, by show 40 * (d - 1 + 1) ≤ 40 * d; omega⟩ ⟨Nat.zero_le _, Nat.zero_le _⟩ ?_
                    refine AW.ret rfl rfl (Nat.le_refl _) (Nat.le_refl _) ?_
                    refine ⟨congrArg some ?_, rfl⟩
                    have e1 := kl_c F
                    have e2 := nl_c F
                    unfold V_sign nsg
                    (repeat' split) <;> first | rfl | omega | (congr 2; omega)
                  · dsimp only [cmpI] at c159
                    refine AW.go 2 (pc' := 182) rfl ?_
                    refine AW.ret rfl rfl (Nat.le_refl _) (Nat.le_refl _) ?_
                    refine ⟨congrArg some ?_, rfl⟩
                    have e1 := kl_c F
                    have e2 := nl_c F
                    unfold V_sign nsg
                    (repeat' split) <;> first | rfl | omega | (congr 2; omega)
                · dsimp only [cmpI] at c127
                  refine AW.go 3 (pc' := 136) rfl ?_
                  refine AW.bi (tgt := 149) (pn := 139) rfl (by decide) rfl (by first | exact bI_rng _ | exact ⟨by omega, by omega⟩) (by first | exact bI_rng _ | exact ⟨by omega, by omega⟩) (fun c136 => ?_) (fun c136 => ?_)
                  · dsimp only [cmpI] at c136
                    refine AW.go 2 (pc' := 153) rfl ?_
                    refine AW.irem (pn := 154) rfl rfl (by omega) (by omega) (by omega) (by omega) ?_
                    refine AW.go 1 (pc' := 155) rfl ?_
                    refine AW.ret rfl rfl (Nat.le_refl _) (Nat.le_refl _) ?_
                    refine ⟨congrArg some ?_, rfl⟩
                    have e1 := kl_c F
                    have e2 := nl_c F
                    unfold V_sign nsg
                    (repeat' split) <;> first | rfl | omega | (congr 2; omega)
                  · dsimp only [cmpI] at c136
                    refine AW.go 2 (pc' := 142) rfl ?_
                    refine AW.bi (tgt := 149) (pn := 145) rfl (by decide) rfl (by first | exact bI_rng _ | exact ⟨by omega, by omega⟩) (by first | exact bI_rng _ | exact ⟨by omega, by omega⟩) (fun c142 => ?_) (fun c142 => ?_)
                    · dsimp only [cmpI] at c142
                      refine AW.go 2 (pc' := 153) rfl ?_
                      refine AW.irem (pn := 154) rfl rfl (by omega) (by omega) (by omega) (by omega) ?_
                      refine AW.go 1 (pc' := 155) rfl ?_
                      refine AW.ret rfl rfl (Nat.le_refl _) (Nat.le_refl _) ?_
                      refine ⟨congrArg some ?_, rfl⟩
                      have e1 := kl_c F
                      have e2 := nl_c F
                      unfold V_sign nsg
                      (repeat' split) <;> first | rfl | omega | (congr 2; omega)
                    · dsimp only [cmpI] at c142
                      refine AW.go 3 (pc' := 155) rfl ?_
                      refine AW.ret rfl rfl (Nat.le_refl _) (Nat.le_refl _) ?_
                      refine ⟨congrArg some ?_, rfl⟩
                      have e1 := kl_c F
                      have e2 := nl_c F
                      unfold V_sign nsg
                      (repeat' split) <;> first | rfl | omega | (congr 2; omega)
              · dsimp only [cmpI] at c92
                refine AW.go 1 (pc' := 97) rfl ?_
                refine AW.br (tgt := 105) (pn := 100) rfl (by decide) rfl (by first | exact bI_rng _ | exact ⟨by omega, by omega⟩) (fun c97 => ?_) (fun c97 => ?_)
                · dsimp only [cmpI] at c97
                  refine AW.go 2 (pc' := 108) rfl ?_
                  refine AW.bi (tgt := 116) (pn := 111) rfl (by decide) rfl (by first | exact bI_rng _ | exact ⟨by omega, by omega⟩) (by first | exact bI_rng _ | exact ⟨by omega, by omega⟩) (fun c108 => ?_) (fun c108 => ?_)
                  · dsimp only [cmpI] at c108
                    refine AW.go 2 (pc' := 123) rfl ?_
                    refine AW.ret rfl rfl (Nat.le_refl _) (Nat.le_refl _) ?_
                    refine ⟨congrArg some ?_, rfl⟩
                    have e1 := kl_c F
                    have e2 := nl_c F
                    unfold V_sign nsg
                    (repeat' split) <;> first | rfl | omega | (congr 2; omega)
                  · dsimp only [cmpI] at c108
                    refine AW.go 2 (pc' := 113) rfl ?_
                    refine AW.bi (tgt := 121) (pn := 116) rfl (by decide) rfl (by first | exact bI_rng _ | exact ⟨by omega, by omega⟩) (by first | exact bI_rng _ | exact ⟨by omega, by omega⟩) (fun c113 => ?_) (fun c113 => ?_)
                    · dsimp only [cmpI] at c113
                      refine AW.go 1 (pc' := 123) rfl ?_
                      refine AW.ret rfl rfl (Nat.le_refl _) (Nat.le_refl _) ?_
                      refine ⟨congrArg some ?_, rfl⟩
                      have e1 := kl_c F
                      have e2 := nl_c F
                      unfold V_sign nsg
                      (repeat' split) <;> first | rfl | omega | (congr 2; omega)
                    · dsimp only [cmpI] at c113
                      refine AW.go 2 (pc' := 123) rfl ?_
                      refine AW.ret rfl rfl (Nat.le_refl _) (Nat.le_refl _) ?_
                      refine ⟨congrArg some ?_, rfl⟩
                      have e1 := kl_c F
                      have e2 := nl_c F
                      unfold V_sign nsg
                      (repeat' split) <;> first | rfl | omega | (congr 2; omega)
                · dsimp only [cmpI] at c97
                  refine AW.go 2 (pc' := 123) rfl ?_
                  refine AW.ret rfl rfl (Nat.le_refl _) (Nat.le_refl _) ?_
                  refine ⟨congrArg some ?_, rfl⟩
                  have e1 := kl_c F
                  have e2 := nl_c F
                  unfold V_sign nsg
                  (repeat' split) <;> first | rfl | omega | (congr 2; omega)
            · refine AW.go 1 (pc' := 88) rfl ?_
              refine AW.ret rfl rfl (Nat.le_refl _) (Nat.le_refl _) ?_
              refine ⟨congrArg some ?_, rfl⟩
              have e1 := kl_c F
              have e2 := nl_c F
              unfold V_sign nsg
              (repeat' split) <;> first | rfl | omega | (congr 2; omega)
          · dsimp only [cmpI] at c60
            refine AW.go 5 (pc' := 70) rfl ?_
            refine AW.ret rfl rfl (Nat.le_refl _) (Nat.le_refl _) ?_
            refine ⟨congrArg some ?_, rfl⟩
            have e1 := kl_c F
            have e2 := nl_c F
            unfold V_sign nsg
            (repeat' split) <;> first | rfl | omega | (congr 2; omega)
        · dsimp only [cmpI] at c47
          refine AW.go 6 (pc' := 60) rfl ?_
          refine AW.bi (tgt := 71) (pn := 63) rfl (by decide) rfl (by first | exact bI_rng _ | exact ⟨by omega, by omega⟩) (by first | exact bI_rng _ | exact ⟨by omega, by omega⟩) (fun c60 => ?_) (fun c60 => ?_)
          · dsimp only [cmpI] at c60
            refine AW.go 1 (pc' := 72) rfl ?_
            refine AW.i2l (pn := 73) rfl rfl (by first | exact bI_rng _ | exact ⟨by omega, by omega⟩) ?_
            refine AW.go 4 (pc' := 79) rfl ?_
            refine AW.i2l (pn := 80) rfl rfl (by first | exact bI_rng _ | exact ⟨by omega, by omega⟩) ?_
            refine AW.callSF (pn := 83) rfl rfl mlX4_40 (c_X4_in (d - 1) (by omega) _ _ _ _ (by omega) (by omega) (by omega)) rfl rfl (Nat.le_of_ble_eq_true rfl) ⟨by show d - 1 + 1 ≤ d; omega, by show 40 * (d - 1 + 1) ≤ 40 * d; omega⟩ ⟨Nat.zero_le _, Nat.zero_le _⟩ ?_
            refine AW.bnz (tgt := 89) (pn := 86) rfl (by decide) rfl (fun c83 => ?_) (fun c83 => ?_)
            · refine AW.go 2 (pc' := 92) rfl ?_
              refine AW.bi (tgt := 124) (pn := 95) rfl (by decide) rfl (by first | exact bI_rng _ | exact ⟨by omega, by omega⟩) (by first | exact bI_rng _ | exact ⟨by omega, by omega⟩) (fun c92 => ?_) (fun c92 => ?_)
              · dsimp only [cmpI] at c92
                refine AW.go 2 (pc' := 127) rfl ?_
                refine AW.bi (tgt := 156) (pn := 130) rfl (by decide) rfl (by first | exact bI_rng _ | exact ⟨by omega, by omega⟩) (by first | exact bI_rng _ | exact ⟨by omega, by omega⟩) (fun c127 => ?_) (fun c127 => ?_)
                · dsimp only [cmpI] at c127
                  refine AW.go 2 (pc' := 159) rfl ?_
                  refine AW.bi (tgt := 167) (pn := 162) rfl (by decide) rfl (by first | exact bI_rng _ | exact ⟨by omega, by omega⟩) (by first | exact bI_rng _ | exact ⟨by omega, by omega⟩) (fun c159 => ?_) (fun c159 => ?_)
                  · dsimp only [cmpI] at c159
                    refine AW.go 8 (pc' := 176) rfl ?_
                    refine AW.callVF (pn := 179) rfl rfl mlX4_105 (by first | assumption | exact set_self (by assumption) | exact set_ne (by first | assumption | omega | decide) (by first | assumption | exact set_self (by assumption) | exact set_ne (by first | assumption | omega | decide) (by assumption))) (c_X4_formAt (d - 1) (by omega) _ _ _ _ _ _ (by assumption) _ (by assumption) (by assumption) _ _ _ (by omega) (by omega) (by omega)) rfl rfl (Nat.le_of_ble_eq_true rfl) ⟨by show d - 1 + 1 ≤ d; omega, by show 40 * (d - 1 + 1) ≤ 40 * d; omega⟩ ⟨Nat.zero_le _, Nat.zero_le _⟩ ?_
                    refine AW.callSF (pn := 182) rfl rfl mlX4_190 (c_X4_signOf (d - 1) (by omega) _ _ (ft_r _ _ _ _)) rfl rfl (Nat.le_of_ble_eq_true rfl) ⟨by show d - 1 + 1 ≤ d; omega, by show 40 * (d - 1 + 1) ≤ 40 * d; omega⟩ ⟨Nat.zero_le _, Nat.zero_le _⟩ ?_
                    refine AW.ret rfl rfl (Nat.le_refl _) (Nat.le_refl _) ?_
                    refine ⟨congrArg some ?_, rfl⟩
                    have e1 := kl_c F
                    have e2 := nl_c F
                    unfold V_sign nsg
                    (repeat' split) <;> first | rfl | omega | (congr 2; omega)
                  · dsimp only [cmpI] at c159
                    refine AW.go 2 (pc' := 182) rfl ?_
                    refine AW.ret rfl rfl (Nat.le_refl _) (Nat.le_refl _) ?_
                    refine ⟨congrArg some ?_, rfl⟩
                    have e1 := kl_c F
                    have e2 := nl_c F
                    unfold V_sign nsg
                    (repeat' split) <;> first | rfl | omega | (congr 2; omega)
                · dsimp only [cmpI] at c127
                  refine AW.go 3 (pc' := 136) rfl ?_
                  refine AW.bi (tgt := 149) (pn := 139) rfl (by decide) rfl (by first | exact bI_rng _ | exact ⟨by omega, by omega⟩) (by first | exact bI_rng _ | exact ⟨by omega, by omega⟩) (fun c136 => ?_) (fun c136 => ?_)
                  · dsimp only [cmpI] at c136
                    refine AW.go 2 (pc' := 153) rfl ?_
                    refine AW.irem (pn := 154) rfl rfl (by omega) (by omega) (by omega) (by omega) ?_
                    refine AW.go 1 (pc' := 155) rfl ?_
                    refine AW.ret rfl rfl (Nat.le_refl _) (Nat.le_refl _) ?_
                    refine ⟨congrArg some ?_, rfl⟩
                    have e1 := kl_c F
                    have e2 := nl_c F
                    unfold V_sign nsg
                    (repeat' split) <;> first | rfl | omega | (congr 2; omega)
                  · dsimp only [cmpI] at c136
                    refine AW.go 2 (pc' := 142) rfl ?_
                    refine AW.bi (tgt := 149) (pn := 145) rfl (by decide) rfl (by first | exact bI_rng _ | exact ⟨by omega, by omega⟩) (by first | exact bI_rng _ | exact ⟨by omega, by omega⟩) (fun c142 => ?_) (fun c142 => ?_)
                    · dsimp only [cmpI] at c142
                      refine AW.go 2 (pc' := 153) rfl ?_
                      refine AW.irem (pn := 154) rfl rfl (by omega) (by omega) (by omega) (by omega) ?_
                      refine AW.go 1 (pc' := 155) rfl ?_
                      refine AW.ret rfl rfl (Nat.le_refl _) (Nat.le_refl _) ?_
                      refine ⟨congrArg some ?_, rfl⟩
                      have e1 := kl_c F
                      have e2 := nl_c F
                      unfold V_sign nsg
                      (repeat' split) <;> first | rfl | omega | (congr 2; omega)
                    · dsimp only [cmpI] at c142
                      refine AW.go 3 (pc' := 155) rfl ?_
                      refine AW.ret rfl rfl (Nat.le_refl _) (Nat.le_refl _) ?_
                      refine ⟨congrArg some ?_, rfl⟩
                      have e1 := kl_c F
                      have e2 := nl_c F
                      unfold V_sign nsg
                      (repeat' split) <;> first | rfl | omega | (congr 2; omega)
              · dsimp only [cmpI] at c92
                refine AW.go 1 (pc' := 97) rfl ?_
                refine AW.br (tgt := 105) (pn := 100) rfl (by decide) rfl (by first | exact bI_rng _ | exact ⟨by omega, by omega⟩) (fun c97 => ?_) (fun c97 => ?_)
                · dsimp only [cmpI] at c97
                  refine AW.go 2 (pc' := 108) rfl ?_
                  refine AW.bi (tgt := 116) (pn := 111) rfl (by decide) rfl (by first | exact bI_rng _ | exact ⟨by omega, by omega⟩) (by first | exact bI_rng _ | exact ⟨by omega, by omega⟩) (fun c108 => ?_) (fun c108 => ?_)
                  · dsimp only [cmpI] at c108
                    refine AW.go 2 (pc' := 123) rfl ?_
                    refine AW.ret rfl rfl (Nat.le_refl _) (Nat.le_refl _) ?_
                    refine ⟨congrArg some ?_, rfl⟩
                    have e1 := kl_c F
                    have e2 := nl_c F
                    unfold V_sign nsg
                    (repeat' split) <;> first | rfl | omega | (congr 2; omega)
                  · dsimp only [cmpI] at c108
                    refine AW.go 2 (pc' := 113) rfl ?_
                    refine AW.bi (tgt := 121) (pn := 116) rfl (by decide) rfl (by first | exact bI_rng _ | exact ⟨by omega, by omega⟩) (by first | exact bI_rng _ | exact ⟨by omega, by omega⟩) (fun c113 => ?_) (fun c113 => ?_)
                    · dsimp only [cmpI] at c113
                      refine AW.go 1 (pc' := 123) rfl ?_
                      refine AW.ret rfl rfl (Nat.le_refl _) (Nat.le_refl _) ?_
                      refine ⟨congrArg some ?_, rfl⟩
                      have e1 := kl_c F
                      have e2 := nl_c F
                      unfold V_sign nsg
                      (repeat' split) <;> first | rfl | omega | (congr 2; omega)
                    · dsimp only [cmpI] at c113
                      refine AW.go 2 (pc' := 123) rfl ?_
                      refine AW.ret rfl rfl (Nat.le_refl _) (Nat.le_refl _) ?_
                      refine ⟨congrArg some ?_, rfl⟩
                      have e1 := kl_c F
                      have e2 := nl_c F
                      unfold V_sign nsg
                      (repeat' split) <;> first | rfl | omega | (congr 2; omega)
                · dsimp only [cmpI] at c97
                  refine AW.go 2 (pc' := 123) rfl ?_
                  refine AW.ret rfl rfl (Nat.le_refl _) (Nat.le_refl _) ?_
                  refine ⟨congrArg some ?_, rfl⟩
                  have e1 := kl_c F
                  have e2 := nl_c F
                  unfold V_sign nsg
                  (repeat' split) <;> first | rfl | omega | (congr 2; omega)
            · refine AW.go 1 (pc' := 88) rfl ?_
              refine AW.ret rfl rfl (Nat.le_refl _) (Nat.le_refl _) ?_
              refine ⟨congrArg some ?_, rfl⟩
              have e1 := kl_c F
              have e2 := nl_c F
              unfold V_sign nsg
              (repeat' split) <;> first | rfl | omega | (congr 2; omega)
          · dsimp only [cmpI] at c60
            refine AW.go 5 (pc' := 70) rfl ?_
            refine AW.ret rfl rfl (Nat.le_refl _) (Nat.le_refl _) ?_
            refine ⟨congrArg some ?_, rfl⟩
            have e1 := kl_c F
            have e2 := nl_c F
            unfold V_sign nsg
            (repeat' split) <;> first | rfl | omega | (congr 2; omega)
    · refine AW.go 1 (pc' := 15) rfl ?_
      refine AW.ret rfl rfl (Nat.le_refl _) (Nat.le_refl _) ?_
      refine ⟨congrArg some ?_, rfl⟩
      have e1 := kl_c F
      have e2 := nl_c F
      unfold V_sign nsg
      (repeat' split) <;> first | rfl | omega | (congr 2; omega)
set_option maxHeartbeats 4000000 in
theorem l_X4_firstLike (d : Nat) (hd : 4 ≤ d) (h : List AC) (pm rf gm ka wr9 : Int) (hO : h[29]? = some (ao 4 (mo pm rf gm ka wr9))) (m : Nat → Int) (hM : h[30]? = some (ai 0 48 m)) (hm : mt m) (r : Int) (rr : 0 ≤ r ∧ r < 4) : ∀ (n : Nat) (k : Int), (0 ≤ k) → (k ≤ r) → ((lik m r r.toNat 0) = lik m r (r - k).toNat k) → ((r - k).toNat) < n → AW zX4_firstLike Eq (rmd d) 0 0 0 0 2 [(2, vi k), (0, vr 29), (1, vi r)] [] h (RQ (lik m r r.toNat 0) h) := by
  intro n
  induction n with
  | zero =>
    intro k h0 h1 hi hn
    exact absurd hn (Nat.not_lt_zero _)
  | succ n ih =>
    intro k h0 h1 hi hn
    refine AW.go 4 (pc' := 6) rfl ?_
    refine AW.callVF (pn := 9) rfl rfl mlX4_120 (by first | assumption | exact set_self (by assumption) | exact set_ne (by first | assumption | omega | decide) (by first | assumption | exact set_self (by assumption) | exact set_ne (by first | assumption | omega | decide) (by assumption))) (c_X4_isLeading (d - 1) (by omega) _ _ _ _ _ _ (by assumption) _ (by assumption) (by assumption) _ _ _ (by omega) (by omega) (by omega)) rfl rfl (Nat.le_of_ble_eq_true rfl) ⟨by show d - 1 + 1 ≤ d; omega, by show 40 * (d - 1 + 1) ≤ 40 * d; omega⟩ ⟨Nat.zero_le _, Nat.zero_le _⟩ ?_
    refine AW.bnz (tgt := 18) (pn := 12) rfl (by decide) rfl (fun c9 => ?_) (fun c9 => ?_)
    · refine AW.go 1 (pc' := 19) rfl ?_
      refine AW.ret rfl rfl (Nat.le_refl _) (Nat.le_refl _) ?_
      refine ⟨congrArg some ?_, rfl⟩
      rw [hi]
      by_cases q : k = r
      · rw [q, Int.sub_self]; rfl
      · obtain ⟨q1, hq⟩ : ∃ q1, (r - k).toNat = q1 + 1 := ⟨(r - k).toNat - 1, by omega⟩
        rw [hq]
        unfold lik
        rw [if_pos c9]
    · refine AW.go 2 (pc' := 2) rfl ?_
      have hne : k ≠ r := fun q => c9 (by rw [q]; exact lik_self hm rr)
      have hs : lik m r (r - k).toNat k = if isf (rwm m r) 12 0 (rwm m k) 0 = true then k else lik m r ((r - k).toNat - 1) (k + 1) := by
        obtain ⟨q, hq⟩ : ∃ q, (r - k).toNat = q + 1 := ⟨(r - k).toNat - 1, by omega⟩
        rw [hq]
        rfl
      refine AW.lw ?_ (ih (k + 1) (by omega) (by omega) (by rw [hi, hs, if_neg c9, show (r - (k + 1)).toNat = (r - k).toNat - 1 by omega]) (by omega))
      exact (And.intro rfl (And.intro rfl (And.intro rfl trivial)))
set_option maxHeartbeats 2000000 in
theorem c_X4_firstLike (d : Nat) (hd : 4 ≤ d) (h : List AC) (pm rf gm ka wr9 : Int) (hO : h[29]? = some (ao 4 (mo pm rf gm ka wr9))) (m : Nat → Int) (hM : h[30]? = some (ai 0 48 m)) (hm : mt m) (r : Int) (rr : 0 ≤ r ∧ r < 4) : MF zX4_firstLike d [vr 29, vi r] h (lik m r r.toNat 0) h := by
  refine M0.of okX4_firstLike (Nat.le_of_ble_eq_true rfl) ?_
  refine AW.go 2 (pc' := 2) rfl ?_
  refine AW.lw ?_ (l_X4_firstLike d hd h pm rf gm ka wr9 hO m hM hm r rr _ 0 (by omega) (by omega) (by rw [Int.sub_zero]) (Nat.lt_succ_self _))
  exact (And.intro rfl (And.intro rfl (And.intro rfl trivial)))
set_option maxHeartbeats 4000000 in
theorem l_X4_holesNow (d : Nat) (hd : 0 ≤ d) (h : List AC) (pm rf gm ka wr9 : Int) (hO : h[29]? = some (ao 4 (mo pm rf gm ka wr9))) (pat : Nat → Int) (hT : h[31]? = some (ai 0 12 pat)) (hp : pn pat) : ∀ (n : Nat) (k : Int) (c : Int), (0 ≤ k) → (k ≤ 12) → (c = (hol pat k.toNat : Int)) → ((12 - k).toNat) < n → AW zX4_holesNow Eq (rmd d) 0 0 0 0 4 [(2, vi k), (1, vi c), (0, vr 29)] [] h (RQ (hol pat 12 : Int) h) := by
  intro n
  induction n with
  | zero =>
    intro k c h0 h1 hc hn
    exact absurd hn (Nat.not_lt_zero _)
  | succ n ih =>
    intro k c h0 h1 hc hn
    refine AW.go 2 (pc' := 7) rfl ?_
    refine AW.bi (tgt := 33) (pn := 10) rfl (by decide) rfl (by first | exact bI_rng _ | exact ⟨by omega, by omega⟩) (by first | exact bI_rng _ | exact ⟨by omega, by omega⟩) (fun c7 => ?_) (fun c7 => ?_)
    · dsimp only [cmpI] at c7
      refine AW.go 1 (pc' := 34) rfl ?_
      refine AW.ret rfl rfl (Nat.le_refl _) (Nat.le_refl _) ?_
      refine ⟨congrArg some ?_, rfl⟩
      rw [hc, show k.toNat = 12 by omega]
    · dsimp only [cmpI] at c7
      refine AW.go 2 (pc' := 12) rfl ?_
      refine AW.getf (pn := 15) rfl rfl flX4_13 (by first | assumption | exact set_self (by assumption) | exact set_ne (by first | assumption | omega | decide) (by first | assumption | exact set_self (by assumption) | exact set_ne (by first | assumption | omega | decide) (by assumption))) rfl ?_
      refine AW.go 1 (pc' := 16) rfl ?_
      refine AW.iald (pn := 17) rfl rfl (by first | assumption | exact set_self (by assumption) | exact set_ne (by first | assumption | omega | decide) (by first | assumption | exact set_self (by assumption) | exact set_ne (by first | assumption | omega | decide) (by assumption))) (by decide) (by omega) (by omega) ?_
      have g1 := hp k.toNat (by omega)
      refine AW.br (tgt := 24) (pn := 20) rfl (by decide) rfl (by first | exact bI_rng _ | exact ⟨by omega, by omega⟩) (fun c17 => ?_) (fun c17 => ?_)
      · dsimp only [cmpI] at c17
        refine AW.go 5 (pc' := 4) rfl ?_
        first | (refine AW.lw ?_ (ih (k + 1) (c + 1) (by omega) (by omega) ?_ (by omega)); exact (And.intro rfl (And.intro rfl (And.intro rfl trivial))); unfold hol; rw [cntN_s h0]; (first | rw [if_pos (decide_eq_true (by omega))] | rw [if_neg (fun q => by have q := of_decide_eq_true q; omega)]); rw [hc]; rfl) | (refine AW.lw ?_ (ih (k + 1) (c + 0) (by omega) (by omega) ?_ (by omega)); exact (And.intro rfl (And.intro rfl (And.intro rfl trivial))); unfold hol; rw [cntN_s h0]; (first | rw [if_pos (decide_eq_true (by omega))] | rw [if_neg (fun q => by have q := of_decide_eq_true q; omega)]); rw [hc]; rfl)
      · dsimp only [cmpI] at c17
        refine AW.go 6 (pc' := 4) rfl ?_
        first | (refine AW.lw ?_ (ih (k + 1) (c + 1) (by omega) (by omega) ?_ (by omega)); exact (And.intro rfl (And.intro rfl (And.intro rfl trivial))); unfold hol; rw [cntN_s h0]; (first | rw [if_pos (decide_eq_true (by omega))] | rw [if_neg (fun q => by have q := of_decide_eq_true q; omega)]); rw [hc]; rfl) | (refine AW.lw ?_ (ih (k + 1) (c + 0) (by omega) (by omega) ?_ (by omega)); exact (And.intro rfl (And.intro rfl (And.intro rfl trivial))); unfold hol; rw [cntN_s h0]; (first | rw [if_pos (decide_eq_true (by omega))] | rw [if_neg (fun q => by have q := of_decide_eq_true q; omega)]); rw [hc]; rfl)
set_option maxHeartbeats 2000000 in
theorem c_X4_holesNow (d : Nat) (hd : 0 ≤ d) (h : List AC) (pm rf gm ka wr9 : Int) (hO : h[29]? = some (ao 4 (mo pm rf gm ka wr9))) (pat : Nat → Int) (hT : h[31]? = some (ai 0 12 pat)) (hp : pn pat) : MF zX4_holesNow d [vr 29] h (hol pat 12 : Int) h := by
  refine M0.of okX4_holesNow (Nat.le_of_ble_eq_true rfl) ?_
  refine AW.go 4 (pc' := 4) rfl ?_
  refine AW.lw ?_ (l_X4_holesNow d hd h pm rf gm ka wr9 hO pat hT hp _ 0 0 (by omega) (by omega) rfl (Nat.lt_succ_self _))
  exact (And.intro rfl (And.intro rfl (And.intro rfl trivial)))
set_option maxHeartbeats 2000000 in
theorem c_X4_told (d : Nat) (hd : 5 ≤ d) (h : List AC) (pm rf gm ka wr9 : Int) (hO : h[29]? = some (ao 4 (mo pm rf gm ka wr9))) (m : Nat → Int) (hM : h[30]? = some (ai 0 48 m)) (hm : mt m) (pat : Nat → Int) (hT : h[31]? = some (ai 0 12 pat)) (hp : pn pat) (w : Int) (rw : -2147483648 ≤ w ∧ w < 2147483648) : MF zX4_told d [vr 29, vi w] h (V_told pm pat m w) h := by
  refine M0.of okX4_told (Nat.le_of_ble_eq_true rfl) ?_
  refine AW.go 3 (pc' := 4) rfl ?_
  refine AW.rep (wr_eq (w - 100)) ?_
  have e1 := wr_c (w - 100)
  refine AW.callSF (pn := 7) rfl rfl mlX4_86 (c_X4_isPlace (d - 1) (by omega) _ _ (by omega)) rfl rfl (Nat.le_of_ble_eq_true rfl) ⟨by show d - 1 + 1 ≤ d; omega, by show 40 * (d - 1 + 1) ≤ 40 * d; omega⟩ ⟨Nat.zero_le _, Nat.zero_le _⟩ ?_
  refine AW.bz (tgt := 20) (pn := 10) rfl (by decide) rfl (fun c7 => ?_) (fun c7 => ?_)
  · refine AW.go 3 (pc' := 25) rfl ?_
    refine AW.rep (wr_eq (w - 200)) ?_
    have e2 := wr_c (w - 200)
    refine AW.callSF (pn := 28) rfl rfl mlX4_79 (c_X4_isRow (d - 1) (by omega) _ _ (by omega)) rfl rfl (Nat.le_of_ble_eq_true rfl) ⟨by show d - 1 + 1 ≤ d; omega, by show 40 * (d - 1 + 1) ≤ 40 * d; omega⟩ ⟨Nat.zero_le _, Nat.zero_le _⟩ ?_
    refine AW.bz (tgt := 41) (pn := 31) rfl (by decide) rfl (fun c28 => ?_) (fun c28 => ?_)
    · refine AW.go 1 (pc' := 42) rfl ?_
      refine AW.br (tgt := 52) (pn := 45) rfl (by decide) rfl (by first | exact bI_rng _ | exact ⟨by omega, by omega⟩) (fun c42 => ?_) (fun c42 => ?_)
      · dsimp only [cmpI] at c42
        refine AW.go 2 (pc' := 54) rfl ?_
        refine AW.bi (tgt := 64) (pn := 57) rfl (by decide) rfl (by first | exact bI_rng _ | exact ⟨by omega, by omega⟩) (by first | exact bI_rng _ | exact ⟨by omega, by omega⟩) (fun c54 => ?_) (fun c54 => ?_)
        · dsimp only [cmpI] at c54
          refine AW.go 1 (pc' := 66) rfl ?_
          refine AW.ret rfl rfl (Nat.le_refl _) (Nat.le_refl _) ?_
          refine ⟨congrArg some ?_, rfl⟩
          unfold V_told
          (repeat' split) <;> first | rfl | omega
        · dsimp only [cmpI] at c54
          refine AW.go 1 (pc' := 58) rfl ?_
          refine AW.callVF (pn := 61) rfl rfl mlX4_83 (by first | assumption | exact set_self (by assumption) | exact set_ne (by first | assumption | omega | decide) (by first | assumption | exact set_self (by assumption) | exact set_ne (by first | assumption | omega | decide) (by assumption))) (c_X4_holesNow (d - 1) (by omega) _ _ _ _ _ _ (by assumption) _ (by assumption) (by assumption) ) rfl rfl (Nat.le_of_ble_eq_true rfl) ⟨by show d - 1 + 1 ≤ d; omega, by show 40 * (d - 1 + 1) ≤ 40 * d; omega⟩ ⟨Nat.zero_le _, Nat.zero_le _⟩ ?_
          refine AW.go 1 (pc' := 66) rfl ?_
          refine AW.ret rfl rfl (Nat.le_refl _) (Nat.le_refl _) ?_
          refine ⟨congrArg some ?_, rfl⟩
          unfold V_told
          (repeat' split) <;> first | rfl | omega
      · dsimp only [cmpI] at c42
        refine AW.go 1 (pc' := 46) rfl ?_
        refine AW.getf (pn := 49) rfl rfl flX4_52 (by first | assumption | exact set_self (by assumption) | exact set_ne (by first | assumption | omega | decide) (by first | assumption | exact set_self (by assumption) | exact set_ne (by first | assumption | omega | decide) (by assumption))) rfl ?_
        refine AW.go 1 (pc' := 66) rfl ?_
        refine AW.ret rfl rfl (Nat.le_refl _) (Nat.le_refl _) ?_
        refine ⟨congrArg some ?_, rfl⟩
        unfold V_told
        (repeat' split) <;> first | rfl | omega
    · refine AW.go 4 (pc' := 37) rfl ?_
      refine AW.callVF (pn := 40) rfl rfl mlX4_207 (by first | assumption | exact set_self (by assumption) | exact set_ne (by first | assumption | omega | decide) (by first | assumption | exact set_self (by assumption) | exact set_ne (by first | assumption | omega | decide) (by assumption))) (c_X4_firstLike (d - 1) (by omega) _ _ _ _ _ _ (by assumption) _ (by assumption) (by assumption) _ (by omega)) rfl rfl (Nat.le_of_ble_eq_true rfl) ⟨by show d - 1 + 1 ≤ d; omega, by show 40 * (d - 1 + 1) ≤ 40 * d; omega⟩ ⟨Nat.zero_le _, Nat.zero_le _⟩ ?_
      refine AW.ret rfl rfl (Nat.le_refl _) (Nat.le_refl _) ?_
      refine ⟨congrArg some ?_, rfl⟩
      unfold V_told
      (repeat' split) <;> first | rfl | omega
  · refine AW.go 1 (pc' := 11) rfl ?_
    refine AW.getf (pn := 14) rfl rfl flX4_13 (by first | assumption | exact set_self (by assumption) | exact set_ne (by first | assumption | omega | decide) (by first | assumption | exact set_self (by assumption) | exact set_ne (by first | assumption | omega | decide) (by assumption))) rfl ?_
    refine AW.go 3 (pc' := 18) rfl ?_
    refine AW.iald (pn := 19) rfl rfl (by first | assumption | exact set_self (by assumption) | exact set_ne (by first | assumption | omega | decide) (by first | assumption | exact set_self (by assumption) | exact set_ne (by first | assumption | omega | decide) (by assumption))) (by decide) (by omega) (by omega) ?_
    refine AW.ret rfl rfl (Nat.le_refl _) (Nat.le_refl _) ?_
    refine ⟨congrArg some ?_, rfl⟩
    unfold V_told
    (repeat' split) <;> first | rfl | omega
end
section
def sn (sg : Nat → Int) : Prop := ∀ j : Nat, j < 20 → 0 ≤ sg j ∧ sg j ≤ 126
def sga (sg : Nat → Int) (cnt p : Int) : Int := if 0 ≤ p ∧ p < cnt then sg p.toNat else -6
theorem sga_b {sg : Nat → Int} (h : sn sg) {cnt : Int} (hc : cnt ≤ 20) (p : Int) : -6 ≤ sga sg cnt p ∧ sga sg cnt p ≤ 126 := by
  unfold sga
  split
  · have := h p.toNat (by omega); omega
  · omega
theorem tof_b (a : Int) : tof a = -6 ∨ (0 ≤ tof a ∧ tof a < 12) := by
  unfold tof; (repeat' split) <;> omega
def rft (s : Int → Int) (cnt w : Int) : Nat → Int → Nat → Int
  | 0, _, _ => if 12 < cnt then 12 else -6
  | n + 1, k, u => if w = 1 ∧ s k = 63 then rft s cnt w n (k + 1) u else if tof (s k) = -6 ∨ u.testBit (tof (s k)).toNat = true then k else rft s cnt w n (k + 1) (u ||| 2 ^ (tof (s k)).toNat)
theorem rft_s (s : Int → Int) (cnt w k : Int) (u : Nat) (h : k < 12) : rft s cnt w (12 - k).toNat k u = if w = 1 ∧ s k = 63 then rft s cnt w (12 - (k + 1)).toNat (k + 1) u else if tof (s k) = -6 ∨ u.testBit (tof (s k)).toNat = true then k else rft s cnt w (12 - (k + 1)).toNat (k + 1) (u ||| 2 ^ (tof (s k)).toNat) := by
  obtain ⟨q, hq⟩ : ∃ q, (12 - k).toNat = q + 1 := ⟨(12 - k).toNat - 1, by omega⟩
  rw [hq, show (12 - (k + 1)).toNat = q by omega]
  rfl
theorem bit_and (n j : Nat) : n &&& 2 ^ j = 0 ↔ n.testBit j = false := by
  constructor
  · intro h
    have h1 : (n &&& 2 ^ j).testBit j = false := by rw [h]; simp
    rw [Nat.testBit_and] at h1
    simpa using h1
  · intro h
    apply Nat.eq_of_testBit_eq
    intro i
    rw [Nat.testBit_and]
    by_cases hi : j = i
    · subst hi; simp [h]
    · first | (simp [Nat.testBit_two_pow, hi]; done) | (simp [Nat.testBit_two_pow_of_ne hi]; done)
theorem bit_set (n j i : Nat) : (n ||| 2 ^ j).testBit i = (n.testBit i || decide (i = j)) := by
  rw [Nat.testBit_or]
  by_cases h : j = i
  · subst h; simp
  · have h2 : ¬ i = j := fun e => h e.symm
    first | (simp [Nat.testBit_two_pow, h, h2]; done) | (simp [Nat.testBit_two_pow_of_ne h, h2]; done)
theorem bitz (u t : Nat) : (((u &&& 2 ^ t : Nat) : Int) = 0 ↔ ¬ u.testBit t = true) ∧ 0 ≤ ((u &&& 2 ^ t : Nat) : Int) ∧ ((u &&& 2 ^ t : Nat) : Int) ≤ (u : Int) := by
  refine ⟨?_, by omega, by have := @Nat.and_le_left u (2 ^ t); omega⟩
  have e := bit_and u t
  constructor
  · intro q
    rw [e.mp (by omega)]; decide
  · intro q
    have := e.mpr (Bool.eq_false_iff.mpr q)
    omega
def mix (g f : Nat → Int) (k : Nat) : Nat → Int := fun j => if j < k then g j else f j
theorem mix_0 (g f : Nat → Int) : mix g f 0 = f := by
  funext j; unfold mix; rw [if_neg (by omega)]
theorem mix_s (g f : Nat → Int) (k : Nat) : up (mix g f k) k (g k) = mix g f (k + 1) := by
  funext j
  unfold up mix
  by_cases h1 : j = k
  · subst h1; rw [if_pos rfl, if_pos (by omega)]
  · rw [if_neg h1]
    by_cases h2 : j < k
    · rw [if_pos h2, if_pos (by omega)]
    · rw [if_neg h2, if_neg (by omega)]
theorem mix_in {g f : Nat → Int} {k j : Nat} (h : j < k) : mix g f k j = g j := if_pos h
def ksg (s : Int → Int) : Int := if s 0 = 82 then (if s 1 = 73 then 2 else 1) else if s 0 = 80 ∨ s 0 = 73 then 1 else 0
theorem ksg_b (s : Int → Int) : 0 ≤ ksg s ∧ ksg s ≤ 2 := by
  unfold ksg; (repeat' split) <;> omega
def ffe (s : Int → Int) (g : Int) : Int := if s g = 49 ∧ (s (g + 1) = 48 ∨ s (g + 1) = 49) then g + 2 else g + 1
def fft (s : Int → Int) (cnt : Int) : Int := if ksg s = 0 ∨ s (ksg s) < 48 ∨ 57 < s (ksg s) then ksg s else if ffe s (ksg s) < cnt then ffe s (ksg s) else -6
def dgn (s : Int → Int) (g : Int) : Nat → Int
  | 0 => 0
  | n + 1 => dgn s g n * 10 + s (g + (n : Int)) - 48
def fnm (s : Int → Int) (cnt : Int) : Int := ((if s 0 = 82 then 2 else 0) + (if s (ksg s - 1) = 73 then 1 else 0)) * 12 + dgn s (ksg s) (cnt - ksg s).toNat
def V_say (cnt c : Int) : Int := if 33 ≤ c ∧ c ≤ 126 then (if cnt = 20 then -4 else cnt + 1) else -2
def V_fault (s : Int → Int) (cnt a : Int) : Int := if a = 0 then rft s cnt 0 12 0 0 else if a = 1 then rft s cnt 1 12 0 0 else if a = 2 then fft s cnt else -2
def V_named (s : Int → Int) (cnt : Int) : Int := if fft s cnt = -6 then fnm s cnt else -5
theorem rft_b (s : Int → Int) (cnt w : Int) : ∀ (n : Nat) (k : Int) (u : Nat), 0 ≤ k → k + (n : Int) ≤ 12 → -6 ≤ rft s cnt w n k u ∧ rft s cnt w n k u ≤ 12
  | 0, k, u, _, _ => by unfold rft; split <;> omega
  | n + 1, k, u, h0, h1 => by
    have i1 := rft_b s cnt w n (k + 1) u (by omega) (by omega)
    have i2 := rft_b s cnt w n (k + 1) (u ||| 2 ^ (tof (s k)).toNat) (by omega) (by omega)
    unfold rft
    (repeat' split) <;> omega
theorem fft_b (s : Int → Int) (cnt : Int) : -6 ≤ fft s cnt ∧ fft s cnt ≤ 4 := by
  have := ksg_b s
  have e : ffe s (ksg s) = ksg s + 1 ∨ ffe s (ksg s) = ksg s + 2 := by unfold ffe; split <;> omega
  unfold fft; (repeat' split) <;> omega

set_option maxHeartbeats 2000000 in
theorem c_X0_isFull (d : Nat) (hd : 0 ≤ d) (h : List AC) (cnt : Int) (g1 : h[1]? = some (ao 0 [vr 2, vi cnt])) (rc : 0 ≤ cnt ∧ cnt ≤ 20) (sg : Nat → Int) (g2 : h[2]? = some (ai 0 20 sg)) (hs : sn sg) : MF zX0_isFull d [vr 1] h (bI (20 ≤ cnt)) h := by
  refine M0.of okX0_isFull (Nat.le_of_ble_eq_true rfl) ?_
  refine AW.go 1 (pc' := 1) rfl ?_
  refine AW.getf (pn := 4) rfl rfl flX0_15 (by first | assumption | exact set_self (by first | assumption | exact set_self (by first | assumption | exact set_self (by assumption) | exact set_ne (by first | assumption | decide | omega) (by assumption)) | exact set_ne (by first | assumption | decide | omega) (by first | assumption | exact set_self (by assumption) | exact set_ne (by first | assumption | decide | omega) (by assumption))) | exact set_ne (by first | assumption | decide | omega) (by first | assumption | exact set_self (by first | assumption | exact set_self (by assumption) | exact set_ne (by first | assumption | decide | omega) (by assumption)) | exact set_ne (by first | assumption | decide | omega) (by first | assumption | exact set_self (by assumption) | exact set_ne (by first | assumption | decide | omega) (by assumption)))) rfl ?_
  refine AW.go 1 (pc' := 6) rfl ?_
  refine AW.bi (tgt := 13) (pn := 9) rfl (by decide) rfl (by first | exact bI_rng _ | exact ⟨by omega, by omega⟩) (by first | exact bI_rng _ | exact ⟨by omega, by omega⟩) (fun c6 => ?_) (fun c6 => ?_)
  · dsimp only [cmpI] at c6
    refine AW.go 1 (pc' := 14) rfl ?_
    refine AW.retz rfl rfl (by first | exact bI_01 _ | decide) (Nat.le_refl _) (Nat.le_refl _) ?_
    refine ⟨congrArg some ?_, rfl⟩
    first | rfl | (symm; first | exact bI_t (by omega) | exact bI_f (by omega)) | omega
  · dsimp only [cmpI] at c6
    refine AW.go 2 (pc' := 14) rfl ?_
    refine AW.retz rfl rfl (by first | exact bI_01 _ | decide) (Nat.le_refl _) (Nat.le_refl _) ?_
    refine ⟨congrArg some ?_, rfl⟩
    first | rfl | (symm; first | exact bI_t (by omega) | exact bI_f (by omega)) | omega
set_option maxHeartbeats 2000000 in
theorem c_X0_add (d : Nat) (hd : 1 ≤ d) (h : List AC) (cnt : Int) (g1 : h[1]? = some (ao 0 [vr 2, vi cnt])) (rc : 0 ≤ cnt ∧ cnt ≤ 20) (sg : Nat → Int) (g2 : h[2]? = some (ai 0 20 sg)) (hs : sn sg) (hc : cnt < 20) (c : Int) : MF zX0_add d [vr 1, vi c] h (cnt + 1) ((h.set 2 (ai 0 20 (up sg cnt.toNat c))).set 1 (ao 0 [vr 2, vi (cnt + 1)])) := by
  refine M0.of okX0_add (Nat.le_of_ble_eq_true rfl) ?_
  refine AW.go 1 (pc' := 1) rfl ?_
  refine AW.callVF (pn := 4) rfl rfl mlX0_19 (by first | assumption | exact set_self (by first | assumption | exact set_self (by first | assumption | exact set_self (by assumption) | exact set_ne (by first | assumption | decide | omega) (by assumption)) | exact set_ne (by first | assumption | decide | omega) (by first | assumption | exact set_self (by assumption) | exact set_ne (by first | assumption | decide | omega) (by assumption))) | exact set_ne (by first | assumption | decide | omega) (by first | assumption | exact set_self (by first | assumption | exact set_self (by assumption) | exact set_ne (by first | assumption | decide | omega) (by assumption)) | exact set_ne (by first | assumption | decide | omega) (by first | assumption | exact set_self (by assumption) | exact set_ne (by first | assumption | decide | omega) (by assumption)))) (c_X0_isFull (d - 1) (by omega) _ _ (by first | assumption | exact set_self (by first | assumption | exact set_self (by first | assumption | exact set_self (by assumption) | exact set_ne (by first | assumption | decide | omega) (by assumption)) | exact set_ne (by first | assumption | decide | omega) (by first | assumption | exact set_self (by assumption) | exact set_ne (by first | assumption | decide | omega) (by assumption))) | exact set_ne (by first | assumption | decide | omega) (by first | assumption | exact set_self (by first | assumption | exact set_self (by assumption) | exact set_ne (by first | assumption | decide | omega) (by assumption)) | exact set_ne (by first | assumption | decide | omega) (by first | assumption | exact set_self (by assumption) | exact set_ne (by first | assumption | decide | omega) (by assumption)))) (by omega) _ (by first | assumption | exact set_self (by first | assumption | exact set_self (by first | assumption | exact set_self (by assumption) | exact set_ne (by first | assumption | decide | omega) (by assumption)) | exact set_ne (by first | assumption | decide | omega) (by first | assumption | exact set_self (by assumption) | exact set_ne (by first | assumption | decide | omega) (by assumption))) | exact set_ne (by first | assumption | decide | omega) (by first | assumption | exact set_self (by first | assumption | exact set_self (by assumption) | exact set_ne (by first | assumption | decide | omega) (by assumption)) | exact set_ne (by first | assumption | decide | omega) (by first | assumption | exact set_self (by assumption) | exact set_ne (by first | assumption | decide | omega) (by assumption)))) (by assumption) ) rfl rfl (Nat.le_of_ble_eq_true rfl) ⟨by show d - 1 + 1 ≤ d; omega, by show 40 * (d - 1 + 1) ≤ 40 * d; omega⟩ ⟨Nat.zero_le _, Nat.zero_le _⟩ ?_
  refine AW.bnz (tgt := 27) (pn := 7) rfl (by decide) rfl (fun c4 => ?_) (fun c4 => ?_)
  · refine AW.go 1 (pc' := 28) rfl ?_
    refine AW.getf (pn := 31) rfl rfl flX0_15 (by first | assumption | exact set_self (by first | assumption | exact set_self (by first | assumption | exact set_self (by assumption) | exact set_ne (by first | assumption | decide | omega) (by assumption)) | exact set_ne (by first | assumption | decide | omega) (by first | assumption | exact set_self (by assumption) | exact set_ne (by first | assumption | decide | omega) (by assumption))) | exact set_ne (by first | assumption | decide | omega) (by first | assumption | exact set_self (by first | assumption | exact set_self (by assumption) | exact set_ne (by first | assumption | decide | omega) (by assumption)) | exact set_ne (by first | assumption | decide | omega) (by first | assumption | exact set_self (by assumption) | exact set_ne (by first | assumption | decide | omega) (by assumption)))) rfl ?_
    refine AW.ret rfl rfl (Nat.le_refl _) (Nat.le_refl _) ?_
    first | exact ⟨rfl, rfl⟩ | (exfalso; omega)
  · refine AW.go 1 (pc' := 8) rfl ?_
    refine AW.getf (pn := 11) rfl rfl flX0_11 (by first | assumption | exact set_self (by first | assumption | exact set_self (by first | assumption | exact set_self (by assumption) | exact set_ne (by first | assumption | decide | omega) (by assumption)) | exact set_ne (by first | assumption | decide | omega) (by first | assumption | exact set_self (by assumption) | exact set_ne (by first | assumption | decide | omega) (by assumption))) | exact set_ne (by first | assumption | decide | omega) (by first | assumption | exact set_self (by first | assumption | exact set_self (by assumption) | exact set_ne (by first | assumption | decide | omega) (by assumption)) | exact set_ne (by first | assumption | decide | omega) (by first | assumption | exact set_self (by assumption) | exact set_ne (by first | assumption | decide | omega) (by assumption)))) rfl ?_
    refine AW.go 1 (pc' := 12) rfl ?_
    refine AW.getf (pn := 15) rfl rfl flX0_15 (by first | assumption | exact set_self (by first | assumption | exact set_self (by first | assumption | exact set_self (by assumption) | exact set_ne (by first | assumption | decide | omega) (by assumption)) | exact set_ne (by first | assumption | decide | omega) (by first | assumption | exact set_self (by assumption) | exact set_ne (by first | assumption | decide | omega) (by assumption))) | exact set_ne (by first | assumption | decide | omega) (by first | assumption | exact set_self (by first | assumption | exact set_self (by assumption) | exact set_ne (by first | assumption | decide | omega) (by assumption)) | exact set_ne (by first | assumption | decide | omega) (by first | assumption | exact set_self (by assumption) | exact set_ne (by first | assumption | decide | omega) (by assumption)))) rfl ?_
    refine AW.go 1 (pc' := 16) rfl ?_
    refine AW.iast (pn := 17) rfl rfl (by first | assumption | exact set_self (by first | assumption | exact set_self (by first | assumption | exact set_self (by assumption) | exact set_ne (by first | assumption | decide | omega) (by assumption)) | exact set_ne (by first | assumption | decide | omega) (by first | assumption | exact set_self (by assumption) | exact set_ne (by first | assumption | decide | omega) (by assumption))) | exact set_ne (by first | assumption | decide | omega) (by first | assumption | exact set_self (by first | assumption | exact set_self (by assumption) | exact set_ne (by first | assumption | decide | omega) (by assumption)) | exact set_ne (by first | assumption | decide | omega) (by first | assumption | exact set_self (by assumption) | exact set_ne (by first | assumption | decide | omega) (by assumption)))) (by decide) (by omega) (by omega) ?_
    refine AW.go 2 (pc' := 19) rfl ?_
    refine AW.getf (pn := 22) rfl rfl flX0_15 (by first | assumption | exact set_self (by first | assumption | exact set_self (by first | assumption | exact set_self (by assumption) | exact set_ne (by first | assumption | decide | omega) (by assumption)) | exact set_ne (by first | assumption | decide | omega) (by first | assumption | exact set_self (by assumption) | exact set_ne (by first | assumption | decide | omega) (by assumption))) | exact set_ne (by first | assumption | decide | omega) (by first | assumption | exact set_self (by first | assumption | exact set_self (by assumption) | exact set_ne (by first | assumption | decide | omega) (by assumption)) | exact set_ne (by first | assumption | decide | omega) (by first | assumption | exact set_self (by assumption) | exact set_ne (by first | assumption | decide | omega) (by assumption)))) rfl ?_
    refine AW.go 2 (pc' := 24) rfl ?_
    refine AW.putf (pn := 27) rfl rfl flX0_15 (by first | assumption | exact set_self (by first | assumption | exact set_self (by first | assumption | exact set_self (by assumption) | exact set_ne (by first | assumption | decide | omega) (by assumption)) | exact set_ne (by first | assumption | decide | omega) (by first | assumption | exact set_self (by assumption) | exact set_ne (by first | assumption | decide | omega) (by assumption))) | exact set_ne (by first | assumption | decide | omega) (by first | assumption | exact set_self (by first | assumption | exact set_self (by assumption) | exact set_ne (by first | assumption | decide | omega) (by assumption)) | exact set_ne (by first | assumption | decide | omega) (by first | assumption | exact set_self (by assumption) | exact set_ne (by first | assumption | decide | omega) (by assumption)))) rfl (by first | trivial | exact bI_01 _ | decide) ?_
    refine AW.go 1 (pc' := 28) rfl ?_
    refine AW.getf (pn := 31) rfl rfl flX0_15 (by first | assumption | exact set_self (by first | assumption | exact set_self (by first | assumption | exact set_self (by assumption) | exact set_ne (by first | assumption | decide | omega) (by assumption)) | exact set_ne (by first | assumption | decide | omega) (by first | assumption | exact set_self (by assumption) | exact set_ne (by first | assumption | decide | omega) (by assumption))) | exact set_ne (by first | assumption | decide | omega) (by first | assumption | exact set_self (by first | assumption | exact set_self (by assumption) | exact set_ne (by first | assumption | decide | omega) (by assumption)) | exact set_ne (by first | assumption | decide | omega) (by first | assumption | exact set_self (by assumption) | exact set_ne (by first | assumption | decide | omega) (by assumption)))) rfl ?_
    refine AW.ret rfl rfl (Nat.le_refl _) (Nat.le_refl _) ?_
    first | exact ⟨rfl, rfl⟩ | (exfalso; omega)
set_option maxHeartbeats 2000000 in
theorem c_X0_empty (d : Nat) (hd : 0 ≤ d) (h : List AC) (cnt : Int) (g1 : h[1]? = some (ao 0 [vr 2, vi cnt])) (rc : 0 ≤ cnt ∧ cnt ≤ 20) (sg : Nat → Int) (g2 : h[2]? = some (ai 0 20 sg)) (hs : sn sg) : MF zX0_empty d [vr 1] h cnt (h.set 1 (ao 0 [vr 2, vi 0])) := by
  refine M0.of okX0_empty (Nat.le_of_ble_eq_true rfl) ?_
  refine AW.go 1 (pc' := 1) rfl ?_
  refine AW.getf (pn := 4) rfl rfl flX0_15 (by first | assumption | exact set_self (by first | assumption | exact set_self (by first | assumption | exact set_self (by assumption) | exact set_ne (by first | assumption | decide | omega) (by assumption)) | exact set_ne (by first | assumption | decide | omega) (by first | assumption | exact set_self (by assumption) | exact set_ne (by first | assumption | decide | omega) (by assumption))) | exact set_ne (by first | assumption | decide | omega) (by first | assumption | exact set_self (by first | assumption | exact set_self (by assumption) | exact set_ne (by first | assumption | decide | omega) (by assumption)) | exact set_ne (by first | assumption | decide | omega) (by first | assumption | exact set_self (by assumption) | exact set_ne (by first | assumption | decide | omega) (by assumption)))) rfl ?_
  refine AW.go 3 (pc' := 7) rfl ?_
  refine AW.putf (pn := 10) rfl rfl flX0_15 (by first | assumption | exact set_self (by first | assumption | exact set_self (by first | assumption | exact set_self (by assumption) | exact set_ne (by first | assumption | decide | omega) (by assumption)) | exact set_ne (by first | assumption | decide | omega) (by first | assumption | exact set_self (by assumption) | exact set_ne (by first | assumption | decide | omega) (by assumption))) | exact set_ne (by first | assumption | decide | omega) (by first | assumption | exact set_self (by first | assumption | exact set_self (by assumption) | exact set_ne (by first | assumption | decide | omega) (by assumption)) | exact set_ne (by first | assumption | decide | omega) (by first | assumption | exact set_self (by assumption) | exact set_ne (by first | assumption | decide | omega) (by assumption)))) rfl (by first | trivial | exact bI_01 _ | decide) ?_
  refine AW.go 1 (pc' := 11) rfl ?_
  refine AW.ret rfl rfl (Nat.le_refl _) (Nat.le_refl _) ?_
  exact ⟨rfl, rfl⟩
set_option maxHeartbeats 2000000 in
theorem c_X0_signAt (d : Nat) (hd : 0 ≤ d) (h : List AC) (cnt : Int) (g1 : h[1]? = some (ao 0 [vr 2, vi cnt])) (rc : 0 ≤ cnt ∧ cnt ≤ 20) (sg : Nat → Int) (g2 : h[2]? = some (ai 0 20 sg)) (hs : sn sg) (p : Int) (rp : -2147483648 ≤ p ∧ p < 2147483648) : MF zX0_signAt d [vr 1, vi p] h (sga sg cnt p) h := by
  refine M0.of okX0_signAt (Nat.le_of_ble_eq_true rfl) ?_
  refine AW.go 1 (pc' := 1) rfl ?_
  refine AW.br (tgt := 21) (pn := 4) rfl (by decide) rfl (by first | exact bI_rng _ | exact ⟨by omega, by omega⟩) (fun c1 => ?_) (fun c1 => ?_)
  · dsimp only [cmpI] at c1
    refine AW.go 1 (pc' := 23) rfl ?_
    refine AW.ret rfl rfl (Nat.le_refl _) (Nat.le_refl _) ?_
    refine ⟨congrArg some ?_, rfl⟩
    unfold sga
    (repeat' split) <;> first | rfl | omega
  · dsimp only [cmpI] at c1
    refine AW.go 2 (pc' := 6) rfl ?_
    refine AW.getf (pn := 9) rfl rfl flX0_15 (by first | assumption | exact set_self (by first | assumption | exact set_self (by first | assumption | exact set_self (by assumption) | exact set_ne (by first | assumption | decide | omega) (by assumption)) | exact set_ne (by first | assumption | decide | omega) (by first | assumption | exact set_self (by assumption) | exact set_ne (by first | assumption | decide | omega) (by assumption))) | exact set_ne (by first | assumption | decide | omega) (by first | assumption | exact set_self (by first | assumption | exact set_self (by assumption) | exact set_ne (by first | assumption | decide | omega) (by assumption)) | exact set_ne (by first | assumption | decide | omega) (by first | assumption | exact set_self (by assumption) | exact set_ne (by first | assumption | decide | omega) (by assumption)))) rfl ?_
    refine AW.bi (tgt := 21) (pn := 12) rfl (by decide) rfl (by first | exact bI_rng _ | exact ⟨by omega, by omega⟩) (by first | exact bI_rng _ | exact ⟨by omega, by omega⟩) (fun c9 => ?_) (fun c9 => ?_)
    · dsimp only [cmpI] at c9
      refine AW.go 1 (pc' := 23) rfl ?_
      refine AW.ret rfl rfl (Nat.le_refl _) (Nat.le_refl _) ?_
      refine ⟨congrArg some ?_, rfl⟩
      unfold sga
      (repeat' split) <;> first | rfl | omega
    · dsimp only [cmpI] at c9
      refine AW.go 1 (pc' := 13) rfl ?_
      refine AW.getf (pn := 16) rfl rfl flX0_11 (by first | assumption | exact set_self (by first | assumption | exact set_self (by first | assumption | exact set_self (by assumption) | exact set_ne (by first | assumption | decide | omega) (by assumption)) | exact set_ne (by first | assumption | decide | omega) (by first | assumption | exact set_self (by assumption) | exact set_ne (by first | assumption | decide | omega) (by assumption))) | exact set_ne (by first | assumption | decide | omega) (by first | assumption | exact set_self (by first | assumption | exact set_self (by assumption) | exact set_ne (by first | assumption | decide | omega) (by assumption)) | exact set_ne (by first | assumption | decide | omega) (by first | assumption | exact set_self (by assumption) | exact set_ne (by first | assumption | decide | omega) (by assumption)))) rfl ?_
      refine AW.go 1 (pc' := 17) rfl ?_
      refine AW.iald (pn := 18) rfl rfl (by first | assumption | exact set_self (by first | assumption | exact set_self (by first | assumption | exact set_self (by assumption) | exact set_ne (by first | assumption | decide | omega) (by assumption)) | exact set_ne (by first | assumption | decide | omega) (by first | assumption | exact set_self (by assumption) | exact set_ne (by first | assumption | decide | omega) (by assumption))) | exact set_ne (by first | assumption | decide | omega) (by first | assumption | exact set_self (by first | assumption | exact set_self (by assumption) | exact set_ne (by first | assumption | decide | omega) (by assumption)) | exact set_ne (by first | assumption | decide | omega) (by first | assumption | exact set_self (by assumption) | exact set_ne (by first | assumption | decide | omega) (by assumption)))) (by decide) (by omega) (by omega) ?_
      refine AW.go 1 (pc' := 23) rfl ?_
      refine AW.ret rfl rfl (Nat.le_refl _) (Nat.le_refl _) ?_
      refine ⟨congrArg some ?_, rfl⟩
      unfold sga
      (repeat' split) <;> first | rfl | omega
set_option maxHeartbeats 4000000 in
theorem l_X0_rowFault (d : Nat) (hd : 1 ≤ d) (h : List AC) (cnt : Int) (g1 : h[1]? = some (ao 0 [vr 2, vi cnt])) (rc : 0 ≤ cnt ∧ cnt ≤ 20) (sg : Nat → Int) (g2 : h[2]? = some (ai 0 20 sg)) (hs : sn sg) (w : Int) (hw : w = 0 ∨ w = 1) : ∀ (n : Nat) (k : Int) (u : Nat), (0 ≤ k) → (k ≤ 12) → (u < 4096) → ((rft (sga sg cnt) cnt w 12 0 0) = rft (sga sg cnt) cnt w (12 - k).toNat k u) → ((12 - k).toNat) < n → AW zX0_rowFault Eq (rmd d) 0 0 0 0 4 [(3, vi k), (2, vi (u : Int)), (0, vr 1), (1, vi w)] [] h (RQ (rft (sga sg cnt) cnt w 12 0 0) h) := by
  intro n
  induction n with
  | zero =>
    intro k u h0 h1 hu hi hn
    exact absurd hn (Nat.not_lt_zero _)
  | succ n ih =>
    intro k u h0 h1 hu hi hn
    refine AW.go 2 (pc' := 7) rfl ?_
    refine AW.bi (tgt := 66) (pn := 10) rfl (by decide) rfl (by first | exact bI_rng _ | exact ⟨by omega, by omega⟩) (by first | exact bI_rng _ | exact ⟨by omega, by omega⟩) (fun c7 => ?_) (fun c7 => ?_)
    · dsimp only [cmpI] at c7
      refine AW.go 1 (pc' := 67) rfl ?_
      refine AW.getf (pn := 70) rfl rfl flX0_15 (by first | assumption | exact set_self (by first | assumption | exact set_self (by first | assumption | exact set_self (by assumption) | exact set_ne (by first | assumption | decide | omega) (by assumption)) | exact set_ne (by first | assumption | decide | omega) (by first | assumption | exact set_self (by assumption) | exact set_ne (by first | assumption | decide | omega) (by assumption))) | exact set_ne (by first | assumption | decide | omega) (by first | assumption | exact set_self (by first | assumption | exact set_self (by assumption) | exact set_ne (by first | assumption | decide | omega) (by assumption)) | exact set_ne (by first | assumption | decide | omega) (by first | assumption | exact set_self (by assumption) | exact set_ne (by first | assumption | decide | omega) (by assumption)))) rfl ?_
      refine AW.go 1 (pc' := 72) rfl ?_
      refine AW.bi (tgt := 80) (pn := 75) rfl (by decide) rfl (by first | exact bI_rng _ | exact ⟨by omega, by omega⟩) (by first | exact bI_rng _ | exact ⟨by omega, by omega⟩) (fun c72 => ?_) (fun c72 => ?_)
      · dsimp only [cmpI] at c72
        refine AW.go 1 (pc' := 82) rfl ?_
        refine AW.ret rfl rfl (Nat.le_refl _) (Nat.le_refl _) ?_
        refine ⟨congrArg some ?_, rfl⟩
        rw [hi, show (12 - k).toNat = 0 by omega]
        unfold rft
        (repeat' split) <;> omega
      · dsimp only [cmpI] at c72
        refine AW.go 2 (pc' := 82) rfl ?_
        refine AW.ret rfl rfl (Nat.le_refl _) (Nat.le_refl _) ?_
        refine ⟨congrArg some ?_, rfl⟩
        rw [hi, show (12 - k).toNat = 0 by omega]
        unfold rft
        (repeat' split) <;> omega
    · dsimp only [cmpI] at c7
      refine AW.go 2 (pc' := 12) rfl ?_
      refine AW.callVF (pn := 15) rfl rfl mlX0_23 (by first | assumption | exact set_self (by first | assumption | exact set_self (by first | assumption | exact set_self (by assumption) | exact set_ne (by first | assumption | decide | omega) (by assumption)) | exact set_ne (by first | assumption | decide | omega) (by first | assumption | exact set_self (by assumption) | exact set_ne (by first | assumption | decide | omega) (by assumption))) | exact set_ne (by first | assumption | decide | omega) (by first | assumption | exact set_self (by first | assumption | exact set_self (by assumption) | exact set_ne (by first | assumption | decide | omega) (by assumption)) | exact set_ne (by first | assumption | decide | omega) (by first | assumption | exact set_self (by assumption) | exact set_ne (by first | assumption | decide | omega) (by assumption)))) (c_X0_signAt (d - 1) (by omega) _ _ (by first | assumption | exact set_self (by first | assumption | exact set_self (by first | assumption | exact set_self (by assumption) | exact set_ne (by first | assumption | decide | omega) (by assumption)) | exact set_ne (by first | assumption | decide | omega) (by first | assumption | exact set_self (by assumption) | exact set_ne (by first | assumption | decide | omega) (by assumption))) | exact set_ne (by first | assumption | decide | omega) (by first | assumption | exact set_self (by first | assumption | exact set_self (by assumption) | exact set_ne (by first | assumption | decide | omega) (by assumption)) | exact set_ne (by first | assumption | decide | omega) (by first | assumption | exact set_self (by assumption) | exact set_ne (by first | assumption | decide | omega) (by assumption)))) (by omega) _ (by first | assumption | exact set_self (by first | assumption | exact set_self (by first | assumption | exact set_self (by assumption) | exact set_ne (by first | assumption | decide | omega) (by assumption)) | exact set_ne (by first | assumption | decide | omega) (by first | assumption | exact set_self (by assumption) | exact set_ne (by first | assumption | decide | omega) (by assumption))) | exact set_ne (by first | assumption | decide | omega) (by first | assumption | exact set_self (by first | assumption | exact set_self (by assumption) | exact set_ne (by first | assumption | decide | omega) (by assumption)) | exact set_ne (by first | assumption | decide | omega) (by first | assumption | exact set_self (by assumption) | exact set_ne (by first | assumption | decide | omega) (by assumption)))) (by assumption) _ (by omega)) rfl rfl (Nat.le_of_ble_eq_true rfl) ⟨by show d - 1 + 1 ≤ d; omega, by show 40 * (d - 1 + 1) ≤ 40 * d; omega⟩ ⟨Nat.zero_le _, Nat.zero_le _⟩ ?_
      refine AW.go 1 (pc' := 17) rfl ?_
      have b1 := sga_b hs rc.2 k
      refine AW.go 1 (pc' := 18) rfl ?_
      refine AW.br (tgt := 28) (pn := 21) rfl (by decide) rfl (by first | exact bI_rng _ | exact ⟨by omega, by omega⟩) (fun c18 => ?_) (fun c18 => ?_)
      · dsimp only [cmpI] at c18
        refine AW.go 1 (pc' := 30) rfl ?_
        refine AW.callSF (pn := 33) rfl rfl mlX0_27 (c_X3_signTone (d - 1) (by omega) _ _ (by omega)) rfl rfl (Nat.le_of_ble_eq_true rfl) ⟨by show d - 1 + 1 ≤ d; omega, by show 40 * (d - 1 + 1) ≤ 40 * d; omega⟩ ⟨Nat.zero_le _, Nat.zero_le _⟩ ?_
        refine AW.go 1 (pc' := 35) rfl ?_
        have b2 := tof_b (sga sg cnt k)
        refine AW.go 2 (pc' := 39) rfl ?_
        refine AW.bi (tgt := 51) (pn := 42) rfl (by decide) rfl (by first | exact bI_rng _ | exact ⟨by omega, by omega⟩) (by first | exact bI_rng _ | exact ⟨by omega, by omega⟩) (fun c39 => ?_) (fun c39 => ?_)
        · dsimp only [cmpI] at c39
          refine AW.go 1 (pc' := 52) rfl ?_
          refine AW.ret rfl rfl (Nat.le_refl _) (Nat.le_refl _) ?_
          have hx := rft_s (sga sg cnt) cnt w k u (by omega)
          refine ⟨congrArg some ?_, rfl⟩
          rw [hi, hx, if_neg (by omega)]
          first | rw [if_pos (Or.inl c39)] | rw [if_pos (Or.inr (Decidable.byContradiction (fun q => c48 (e1.1.mpr q))))]
        · dsimp only [cmpI] at c39
          refine AW.go 3 (pc' := 46) rfl ?_
          refine AW.shl1 (pn := 47) rfl rfl (by omega) (by omega) ?_
          refine AW.andN (pn := 48) rfl rfl ?_
          have e1 := bitz u (tof (sga sg cnt k)).toNat
          refine AW.br (tgt := 53) (pn := 51) rfl (by decide) rfl (by first | exact bI_rng _ | exact ⟨by omega, by omega⟩) (fun c48 => ?_) (fun c48 => ?_)
          · dsimp only [cmpI] at c48
            refine AW.go 3 (pc' := 57) rfl ?_
            refine AW.shl1 (pn := 58) rfl rfl (by omega) (by omega) ?_
            refine AW.orN (pn := 59) rfl rfl ?_
            refine AW.go 3 (pc' := 4) rfl ?_
            have hx := rft_s (sga sg cnt) cnt w k u (by omega)
            first | (refine AW.lw ?_ (ih (k + 1) (u) (by omega) (by omega) ?_ ?_ (by omega)); exact (And.intro rfl (And.intro rfl (And.intro rfl (And.intro rfl trivial)))); (first | assumption | exact Nat.or_lt_two_pow (n := 12) hu (pow12 (by omega) (by omega))); (rw [hi, hx]; (first | rw [if_pos (by omega)] | (rw [if_neg (by omega), if_neg (by rintro (q | q); exact c39 q; exact e1.1.mp c48 q)])))) | (refine AW.lw ?_ (ih (k + 1) (u ||| 2 ^ (tof (sga sg cnt k)).toNat) (by omega) (by omega) ?_ ?_ (by omega)); exact (And.intro rfl (And.intro rfl (And.intro rfl (And.intro rfl trivial)))); (first | assumption | exact Nat.or_lt_two_pow (n := 12) hu (pow12 (by omega) (by omega))); (rw [hi, hx]; (first | rw [if_pos (by omega)] | (rw [if_neg (by omega), if_neg (by rintro (q | q); exact c39 q; exact e1.1.mp c48 q)]))))
          · dsimp only [cmpI] at c48
            refine AW.go 1 (pc' := 52) rfl ?_
            refine AW.ret rfl rfl (Nat.le_refl _) (Nat.le_refl _) ?_
            have hx := rft_s (sga sg cnt) cnt w k u (by omega)
            refine ⟨congrArg some ?_, rfl⟩
            rw [hi, hx, if_neg (by omega)]
            first | rw [if_pos (Or.inl c39)] | rw [if_pos (Or.inr (Decidable.byContradiction (fun q => c48 (e1.1.mpr q))))]
      · dsimp only [cmpI] at c18
        refine AW.go 2 (pc' := 25) rfl ?_
        refine AW.bi (tgt := 60) (pn := 28) rfl (by decide) rfl (by first | exact bI_rng _ | exact ⟨by omega, by omega⟩) (by first | exact bI_rng _ | exact ⟨by omega, by omega⟩) (fun c25 => ?_) (fun c25 => ?_)
        · dsimp only [cmpI] at c25
          refine AW.go 2 (pc' := 4) rfl ?_
          have hx := rft_s (sga sg cnt) cnt w k u (by omega)
          first | (refine AW.lw ?_ (ih (k + 1) (u) (by omega) (by omega) ?_ ?_ (by omega)); exact (And.intro rfl (And.intro rfl (And.intro rfl (And.intro rfl trivial)))); (first | assumption | exact Nat.or_lt_two_pow (n := 12) hu (pow12 (by omega) (by omega))); (rw [hi, hx]; (first | rw [if_pos (by omega)] | (rw [if_neg (by omega), if_neg (by rintro (q | q); exact c39 q; exact e1.1.mp c48 q)])))) | (refine AW.lw ?_ (ih (k + 1) (u ||| 2 ^ (tof (sga sg cnt k)).toNat) (by omega) (by omega) ?_ ?_ (by omega)); exact (And.intro rfl (And.intro rfl (And.intro rfl (And.intro rfl trivial)))); (first | assumption | exact Nat.or_lt_two_pow (n := 12) hu (pow12 (by omega) (by omega))); (rw [hi, hx]; (first | rw [if_pos (by omega)] | (rw [if_neg (by omega), if_neg (by rintro (q | q); exact c39 q; exact e1.1.mp c48 q)]))))
        · dsimp only [cmpI] at c25
          refine AW.go 1 (pc' := 30) rfl ?_
          refine AW.callSF (pn := 33) rfl rfl mlX0_27 (c_X3_signTone (d - 1) (by omega) _ _ (by omega)) rfl rfl (Nat.le_of_ble_eq_true rfl) ⟨by show d - 1 + 1 ≤ d; omega, by show 40 * (d - 1 + 1) ≤ 40 * d; omega⟩ ⟨Nat.zero_le _, Nat.zero_le _⟩ ?_
          refine AW.go 1 (pc' := 35) rfl ?_
          have b2 := tof_b (sga sg cnt k)
          refine AW.go 2 (pc' := 39) rfl ?_
          refine AW.bi (tgt := 51) (pn := 42) rfl (by decide) rfl (by first | exact bI_rng _ | exact ⟨by omega, by omega⟩) (by first | exact bI_rng _ | exact ⟨by omega, by omega⟩) (fun c39 => ?_) (fun c39 => ?_)
          · dsimp only [cmpI] at c39
            refine AW.go 1 (pc' := 52) rfl ?_
            refine AW.ret rfl rfl (Nat.le_refl _) (Nat.le_refl _) ?_
            have hx := rft_s (sga sg cnt) cnt w k u (by omega)
            refine ⟨congrArg some ?_, rfl⟩
            rw [hi, hx, if_neg (by omega)]
            first | rw [if_pos (Or.inl c39)] | rw [if_pos (Or.inr (Decidable.byContradiction (fun q => c48 (e1.1.mpr q))))]
          · dsimp only [cmpI] at c39
            refine AW.go 3 (pc' := 46) rfl ?_
            refine AW.shl1 (pn := 47) rfl rfl (by omega) (by omega) ?_
            refine AW.andN (pn := 48) rfl rfl ?_
            have e1 := bitz u (tof (sga sg cnt k)).toNat
            refine AW.br (tgt := 53) (pn := 51) rfl (by decide) rfl (by first | exact bI_rng _ | exact ⟨by omega, by omega⟩) (fun c48 => ?_) (fun c48 => ?_)
            · dsimp only [cmpI] at c48
              refine AW.go 3 (pc' := 57) rfl ?_
              refine AW.shl1 (pn := 58) rfl rfl (by omega) (by omega) ?_
              refine AW.orN (pn := 59) rfl rfl ?_
              refine AW.go 3 (pc' := 4) rfl ?_
              have hx := rft_s (sga sg cnt) cnt w k u (by omega)
              first | (refine AW.lw ?_ (ih (k + 1) (u) (by omega) (by omega) ?_ ?_ (by omega)); exact (And.intro rfl (And.intro rfl (And.intro rfl (And.intro rfl trivial)))); (first | assumption | exact Nat.or_lt_two_pow (n := 12) hu (pow12 (by omega) (by omega))); (rw [hi, hx]; (first | rw [if_pos (by omega)] | (rw [if_neg (by omega), if_neg (by rintro (q | q); exact c39 q; exact e1.1.mp c48 q)])))) | (refine AW.lw ?_ (ih (k + 1) (u ||| 2 ^ (tof (sga sg cnt k)).toNat) (by omega) (by omega) ?_ ?_ (by omega)); exact (And.intro rfl (And.intro rfl (And.intro rfl (And.intro rfl trivial)))); (first | assumption | exact Nat.or_lt_two_pow (n := 12) hu (pow12 (by omega) (by omega))); (rw [hi, hx]; (first | rw [if_pos (by omega)] | (rw [if_neg (by omega), if_neg (by rintro (q | q); exact c39 q; exact e1.1.mp c48 q)]))))
            · dsimp only [cmpI] at c48
              refine AW.go 1 (pc' := 52) rfl ?_
              refine AW.ret rfl rfl (Nat.le_refl _) (Nat.le_refl _) ?_
              have hx := rft_s (sga sg cnt) cnt w k u (by omega)
              refine ⟨congrArg some ?_, rfl⟩
              rw [hi, hx, if_neg (by omega)]
              first | rw [if_pos (Or.inl c39)] | rw [if_pos (Or.inr (Decidable.byContradiction (fun q => c48 (e1.1.mpr q))))]
set_option maxHeartbeats 2000000 in
theorem c_X0_rowFault (d : Nat) (hd : 1 ≤ d) (h : List AC) (cnt : Int) (g1 : h[1]? = some (ao 0 [vr 2, vi cnt])) (rc : 0 ≤ cnt ∧ cnt ≤ 20) (sg : Nat → Int) (g2 : h[2]? = some (ai 0 20 sg)) (hs : sn sg) (w : Int) (hw : w = 0 ∨ w = 1) : MF zX0_rowFault d [vr 1, vi w] h (rft (sga sg cnt) cnt w 12 0 0) h := by
  refine M0.of okX0_rowFault (Nat.le_of_ble_eq_true rfl) ?_
  refine AW.go 4 (pc' := 4) rfl ?_
  refine AW.lw ?_ (l_X0_rowFault d hd h cnt g1 rc sg g2 hs w hw _ 0 0 (by omega) (by omega) (by omega) rfl (Nat.lt_succ_self _))
  exact (And.intro rfl (And.intro rfl (And.intro rfl (And.intro rfl trivial))))
set_option maxHeartbeats 4000000 in
theorem l_X0_copyTones (d : Nat) (hd : 1 ≤ d) (h : List AC) (cnt : Int) (g1 : h[1]? = some (ao 0 [vr 2, vi cnt])) (rc : 0 ≤ cnt ∧ cnt ≤ 20) (sg : Nat → Int) (g2 : h[2]? = some (ai 0 20 sg)) (hs : sn sg) (B : Nat) (f : Nat → Int) (hB : h[B]? = some (ai 0 12 f)) (n1 : B ≠ 1) (n2 : B ≠ 2) : ∀ (n : Nat) (k : Int), (0 ≤ k) → (k ≤ 12) → ((12 - k).toNat) < n → AW zX0_copyTones Eq (rmd d) 0 0 0 0 2 [(2, vi k), (0, vr 1), (1, vr B)] [] (h.set B (ai 0 12 (mix (fun j => tof (sga sg cnt (j : Int))) f k.toNat))) (fun v u => v = none ∧ u = h.set B (ai 0 12 (mix (fun j => tof (sga sg cnt (j : Int))) f 12))) := by
  intro n
  induction n with
  | zero =>
    intro k h0 h1 hn
    exact absurd hn (Nat.not_lt_zero _)
  | succ n ih =>
    intro k h0 h1 hn
    refine AW.go 2 (pc' := 5) rfl ?_
    refine AW.bi (tgt := 25) (pn := 8) rfl (by decide) rfl (by first | exact bI_rng _ | exact ⟨by omega, by omega⟩) (by first | exact bI_rng _ | exact ⟨by omega, by omega⟩) (fun c5 => ?_) (fun c5 => ?_)
    · dsimp only [cmpI] at c5
      refine AW.retv rfl rfl (Nat.le_refl _) (Nat.le_refl _) ?_
      refine ⟨rfl, ?_⟩
      rw [show k.toNat = 12 by omega]
    · dsimp only [cmpI] at c5
      refine AW.go 4 (pc' := 12) rfl ?_
      refine AW.callVF (pn := 15) rfl rfl mlX0_23 (by first | assumption | exact set_self (by first | assumption | exact set_self (by first | assumption | exact set_self (by assumption) | exact set_ne (by first | assumption | decide | omega) (by assumption)) | exact set_ne (by first | assumption | decide | omega) (by first | assumption | exact set_self (by assumption) | exact set_ne (by first | assumption | decide | omega) (by assumption))) | exact set_ne (by first | assumption | decide | omega) (by first | assumption | exact set_self (by first | assumption | exact set_self (by assumption) | exact set_ne (by first | assumption | decide | omega) (by assumption)) | exact set_ne (by first | assumption | decide | omega) (by first | assumption | exact set_self (by assumption) | exact set_ne (by first | assumption | decide | omega) (by assumption)))) (c_X0_signAt (d - 1) (by omega) _ _ (by first | assumption | exact set_self (by first | assumption | exact set_self (by first | assumption | exact set_self (by assumption) | exact set_ne (by first | assumption | decide | omega) (by assumption)) | exact set_ne (by first | assumption | decide | omega) (by first | assumption | exact set_self (by assumption) | exact set_ne (by first | assumption | decide | omega) (by assumption))) | exact set_ne (by first | assumption | decide | omega) (by first | assumption | exact set_self (by first | assumption | exact set_self (by assumption) | exact set_ne (by first | assumption | decide | omega) (by assumption)) | exact set_ne (by first | assumption | decide | omega) (by first | assumption | exact set_self (by assumption) | exact set_ne (by first | assumption | decide | omega) (by assumption)))) (by omega) _ (by first | assumption | exact set_self (by first | assumption | exact set_self (by first | assumption | exact set_self (by assumption) | exact set_ne (by first | assumption | decide | omega) (by assumption)) | exact set_ne (by first | assumption | decide | omega) (by first | assumption | exact set_self (by assumption) | exact set_ne (by first | assumption | decide | omega) (by assumption))) | exact set_ne (by first | assumption | decide | omega) (by first | assumption | exact set_self (by first | assumption | exact set_self (by assumption) | exact set_ne (by first | assumption | decide | omega) (by assumption)) | exact set_ne (by first | assumption | decide | omega) (by first | assumption | exact set_self (by assumption) | exact set_ne (by first | assumption | decide | omega) (by assumption)))) (by assumption) _ (by omega)) rfl rfl (Nat.le_of_ble_eq_true rfl) ⟨by show d - 1 + 1 ≤ d; omega, by show 40 * (d - 1 + 1) ≤ 40 * d; omega⟩ ⟨Nat.zero_le _, Nat.zero_le _⟩ ?_
      have b1 := sga_b hs rc.2 k
      refine AW.callSF (pn := 18) rfl rfl mlX0_27 (c_X3_signTone (d - 1) (by omega) _ _ (by omega)) rfl rfl (Nat.le_of_ble_eq_true rfl) ⟨by show d - 1 + 1 ≤ d; omega, by show 40 * (d - 1 + 1) ≤ 40 * d; omega⟩ ⟨Nat.zero_le _, Nat.zero_le _⟩ ?_
      refine AW.iast (pn := 19) rfl rfl (by first | assumption | exact set_self (by first | assumption | exact set_self (by first | assumption | exact set_self (by assumption) | exact set_ne (by first | assumption | decide | omega) (by assumption)) | exact set_ne (by first | assumption | decide | omega) (by first | assumption | exact set_self (by assumption) | exact set_ne (by first | assumption | decide | omega) (by assumption))) | exact set_ne (by first | assumption | decide | omega) (by first | assumption | exact set_self (by first | assumption | exact set_self (by assumption) | exact set_ne (by first | assumption | decide | omega) (by assumption)) | exact set_ne (by first | assumption | decide | omega) (by first | assumption | exact set_self (by assumption) | exact set_ne (by first | assumption | decide | omega) (by assumption)))) (by decide) (by omega) (by omega) ?_
      refine AW.go 2 (pc' := 2) rfl ?_
      rw [List.set_set, show tof (sga sg cnt k) = (fun j => tof (sga sg cnt (j : Int))) k.toNat by show _ = tof (sga sg cnt (k.toNat : Int)); rw [kk h0], mix_s, ← k1 h0]
      refine AW.lw ?_ (ih (k + 1) (by omega) (by omega) (by omega))
      exact (And.intro rfl (And.intro rfl (And.intro rfl trivial)))
set_option maxHeartbeats 2000000 in
theorem c_X0_copyTones (d : Nat) (hd : 1 ≤ d) (h : List AC) (cnt : Int) (g1 : h[1]? = some (ao 0 [vr 2, vi cnt])) (rc : 0 ≤ cnt ∧ cnt ≤ 20) (sg : Nat → Int) (g2 : h[2]? = some (ai 0 20 sg)) (hs : sn sg) (B : Nat) (f : Nat → Int) (hB : h[B]? = some (ai 0 12 f)) (n1 : B ≠ 1) (n2 : B ≠ 2) : MV zX0_copyTones d [vr 1, vr B] h (h.set B (ai 0 12 (mix (fun j => tof (sga sg cnt (j : Int))) f 12))) := by
  refine M0.of okX0_copyTones (Nat.le_of_ble_eq_true rfl) ?_
  refine AW.go 2 (pc' := 2) rfl ?_
  have e := l_X0_copyTones d hd h cnt g1 rc sg g2 hs B f hB n1 n2 _ 0 (by omega) (by omega) (Nat.lt_succ_self _)
  rw [show (0 : Int).toNat = 0 from rfl, mix_0, set_same hB] at e
  refine AW.lw ?_ e
  exact (And.intro rfl (And.intro rfl (And.intro rfl trivial)))
set_option maxHeartbeats 2000000 in
theorem c_X0_kindSigns (d : Nat) (hd : 1 ≤ d) (h : List AC) (cnt : Int) (g1 : h[1]? = some (ao 0 [vr 2, vi cnt])) (rc : 0 ≤ cnt ∧ cnt ≤ 20) (sg : Nat → Int) (g2 : h[2]? = some (ai 0 20 sg)) (hs : sn sg) : MF zX0_kindSigns d [vr 1] h (ksg (sga sg cnt)) h := by
  refine M0.of okX0_kindSigns (Nat.le_of_ble_eq_true rfl) ?_
  refine AW.go 2 (pc' := 2) rfl ?_
  refine AW.callVF (pn := 5) rfl rfl mlX0_23 (by first | assumption | exact set_self (by first | assumption | exact set_self (by first | assumption | exact set_self (by assumption) | exact set_ne (by first | assumption | decide | omega) (by assumption)) | exact set_ne (by first | assumption | decide | omega) (by first | assumption | exact set_self (by assumption) | exact set_ne (by first | assumption | decide | omega) (by assumption))) | exact set_ne (by first | assumption | decide | omega) (by first | assumption | exact set_self (by first | assumption | exact set_self (by assumption) | exact set_ne (by first | assumption | decide | omega) (by assumption)) | exact set_ne (by first | assumption | decide | omega) (by first | assumption | exact set_self (by assumption) | exact set_ne (by first | assumption | decide | omega) (by assumption)))) (c_X0_signAt (d - 1) (by omega) _ _ (by first | assumption | exact set_self (by first | assumption | exact set_self (by first | assumption | exact set_self (by assumption) | exact set_ne (by first | assumption | decide | omega) (by assumption)) | exact set_ne (by first | assumption | decide | omega) (by first | assumption | exact set_self (by assumption) | exact set_ne (by first | assumption | decide | omega) (by assumption))) | exact set_ne (by first | assumption | decide | omega) (by first | assumption | exact set_self (by first | assumption | exact set_self (by assumption) | exact set_ne (by first | assumption | decide | omega) (by assumption)) | exact set_ne (by first | assumption | decide | omega) (by first | assumption | exact set_self (by assumption) | exact set_ne (by first | assumption | decide | omega) (by assumption)))) (by omega) _ (by first | assumption | exact set_self (by first | assumption | exact set_self (by first | assumption | exact set_self (by assumption) | exact set_ne (by first | assumption | decide | omega) (by assumption)) | exact set_ne (by first | assumption | decide | omega) (by first | assumption | exact set_self (by assumption) | exact set_ne (by first | assumption | decide | omega) (by assumption))) | exact set_ne (by first | assumption | decide | omega) (by first | assumption | exact set_self (by first | assumption | exact set_self (by assumption) | exact set_ne (by first | assumption | decide | omega) (by assumption)) | exact set_ne (by first | assumption | decide | omega) (by first | assumption | exact set_self (by assumption) | exact set_ne (by first | assumption | decide | omega) (by assumption)))) (by assumption) _ (by omega)) rfl rfl (Nat.le_of_ble_eq_true rfl) ⟨by show d - 1 + 1 ≤ d; omega, by show 40 * (d - 1 + 1) ≤ 40 * d; omega⟩ ⟨Nat.zero_le _, Nat.zero_le _⟩ ?_
  refine AW.go 1 (pc' := 6) rfl ?_
  have b1 := sga_b hs rc.2 0
  have b2 := sga_b hs rc.2 1
  refine AW.go 2 (pc' := 9) rfl ?_
  refine AW.bi (tgt := 28) (pn := 12) rfl (by decide) rfl (by first | exact bI_rng _ | exact ⟨by omega, by omega⟩) (by first | exact bI_rng _ | exact ⟨by omega, by omega⟩) (fun c9 => ?_) (fun c9 => ?_)
  · dsimp only [cmpI] at c9
    refine AW.go 2 (pc' := 31) rfl ?_
    refine AW.bi (tgt := 40) (pn := 34) rfl (by decide) rfl (by first | exact bI_rng _ | exact ⟨by omega, by omega⟩) (by first | exact bI_rng _ | exact ⟨by omega, by omega⟩) (fun c31 => ?_) (fun c31 => ?_)
    · dsimp only [cmpI] at c31
      refine AW.go 2 (pc' := 45) rfl ?_
      refine AW.ret rfl rfl (Nat.le_refl _) (Nat.le_refl _) ?_
      refine ⟨congrArg some ?_, rfl⟩
      unfold ksg
      (repeat' split) <;> omega
    · dsimp only [cmpI] at c31
      refine AW.go 2 (pc' := 37) rfl ?_
      refine AW.bi (tgt := 44) (pn := 40) rfl (by decide) rfl (by first | exact bI_rng _ | exact ⟨by omega, by omega⟩) (by first | exact bI_rng _ | exact ⟨by omega, by omega⟩) (fun c37 => ?_) (fun c37 => ?_)
      · dsimp only [cmpI] at c37
        refine AW.go 1 (pc' := 45) rfl ?_
        refine AW.ret rfl rfl (Nat.le_refl _) (Nat.le_refl _) ?_
        refine ⟨congrArg some ?_, rfl⟩
        unfold ksg
        (repeat' split) <;> omega
      · dsimp only [cmpI] at c37
        refine AW.go 2 (pc' := 45) rfl ?_
        refine AW.ret rfl rfl (Nat.le_refl _) (Nat.le_refl _) ?_
        refine ⟨congrArg some ?_, rfl⟩
        unfold ksg
        (repeat' split) <;> omega
  · dsimp only [cmpI] at c9
    refine AW.go 2 (pc' := 14) rfl ?_
    refine AW.callVF (pn := 17) rfl rfl mlX0_23 (by first | assumption | exact set_self (by first | assumption | exact set_self (by first | assumption | exact set_self (by assumption) | exact set_ne (by first | assumption | decide | omega) (by assumption)) | exact set_ne (by first | assumption | decide | omega) (by first | assumption | exact set_self (by assumption) | exact set_ne (by first | assumption | decide | omega) (by assumption))) | exact set_ne (by first | assumption | decide | omega) (by first | assumption | exact set_self (by first | assumption | exact set_self (by assumption) | exact set_ne (by first | assumption | decide | omega) (by assumption)) | exact set_ne (by first | assumption | decide | omega) (by first | assumption | exact set_self (by assumption) | exact set_ne (by first | assumption | decide | omega) (by assumption)))) (c_X0_signAt (d - 1) (by omega) _ _ (by first | assumption | exact set_self (by first | assumption | exact set_self (by first | assumption | exact set_self (by assumption) | exact set_ne (by first | assumption | decide | omega) (by assumption)) | exact set_ne (by first | assumption | decide | omega) (by first | assumption | exact set_self (by assumption) | exact set_ne (by first | assumption | decide | omega) (by assumption))) | exact set_ne (by first | assumption | decide | omega) (by first | assumption | exact set_self (by first | assumption | exact set_self (by assumption) | exact set_ne (by first | assumption | decide | omega) (by assumption)) | exact set_ne (by first | assumption | decide | omega) (by first | assumption | exact set_self (by assumption) | exact set_ne (by first | assumption | decide | omega) (by assumption)))) (by omega) _ (by first | assumption | exact set_self (by first | assumption | exact set_self (by first | assumption | exact set_self (by assumption) | exact set_ne (by first | assumption | decide | omega) (by assumption)) | exact set_ne (by first | assumption | decide | omega) (by first | assumption | exact set_self (by assumption) | exact set_ne (by first | assumption | decide | omega) (by assumption))) | exact set_ne (by first | assumption | decide | omega) (by first | assumption | exact set_self (by first | assumption | exact set_self (by assumption) | exact set_ne (by first | assumption | decide | omega) (by assumption)) | exact set_ne (by first | assumption | decide | omega) (by first | assumption | exact set_self (by assumption) | exact set_ne (by first | assumption | decide | omega) (by assumption)))) (by assumption) _ (by omega)) rfl rfl (Nat.le_of_ble_eq_true rfl) ⟨by show d - 1 + 1 ≤ d; omega, by show 40 * (d - 1 + 1) ≤ 40 * d; omega⟩ ⟨Nat.zero_le _, Nat.zero_le _⟩ ?_
    refine AW.go 1 (pc' := 19) rfl ?_
    refine AW.bi (tgt := 26) (pn := 22) rfl (by decide) rfl (by first | exact bI_rng _ | exact ⟨by omega, by omega⟩) (by first | exact bI_rng _ | exact ⟨by omega, by omega⟩) (fun c19 => ?_) (fun c19 => ?_)
    · dsimp only [cmpI] at c19
      refine AW.go 1 (pc' := 27) rfl ?_
      refine AW.ret rfl rfl (Nat.le_refl _) (Nat.le_refl _) ?_
      refine ⟨congrArg some ?_, rfl⟩
      unfold ksg
      (repeat' split) <;> omega
    · dsimp only [cmpI] at c19
      refine AW.go 2 (pc' := 27) rfl ?_
      refine AW.ret rfl rfl (Nat.le_refl _) (Nat.le_refl _) ?_
      refine ⟨congrArg some ?_, rfl⟩
      unfold ksg
      (repeat' split) <;> omega
set_option maxHeartbeats 2000000 in
theorem c_X0_formFault (d : Nat) (hd : 2 ≤ d) (h : List AC) (cnt : Int) (g1 : h[1]? = some (ao 0 [vr 2, vi cnt])) (rc : 0 ≤ cnt ∧ cnt ≤ 20) (sg : Nat → Int) (g2 : h[2]? = some (ai 0 20 sg)) (hs : sn sg) : MF zX0_formFault d [vr 1] h (fft (sga sg cnt) cnt) h := by
  refine M0.of okX0_formFault (Nat.le_of_ble_eq_true rfl) ?_
  refine AW.go 1 (pc' := 1) rfl ?_
  refine AW.callVF (pn := 4) rfl rfl mlX0_30 (by first | assumption | exact set_self (by first | assumption | exact set_self (by first | assumption | exact set_self (by assumption) | exact set_ne (by first | assumption | decide | omega) (by assumption)) | exact set_ne (by first | assumption | decide | omega) (by first | assumption | exact set_self (by assumption) | exact set_ne (by first | assumption | decide | omega) (by assumption))) | exact set_ne (by first | assumption | decide | omega) (by first | assumption | exact set_self (by first | assumption | exact set_self (by assumption) | exact set_ne (by first | assumption | decide | omega) (by assumption)) | exact set_ne (by first | assumption | decide | omega) (by first | assumption | exact set_self (by assumption) | exact set_ne (by first | assumption | decide | omega) (by assumption)))) (c_X0_kindSigns (d - 1) (by omega) _ _ (by first | assumption | exact set_self (by first | assumption | exact set_self (by first | assumption | exact set_self (by assumption) | exact set_ne (by first | assumption | decide | omega) (by assumption)) | exact set_ne (by first | assumption | decide | omega) (by first | assumption | exact set_self (by assumption) | exact set_ne (by first | assumption | decide | omega) (by assumption))) | exact set_ne (by first | assumption | decide | omega) (by first | assumption | exact set_self (by first | assumption | exact set_self (by assumption) | exact set_ne (by first | assumption | decide | omega) (by assumption)) | exact set_ne (by first | assumption | decide | omega) (by first | assumption | exact set_self (by assumption) | exact set_ne (by first | assumption | decide | omega) (by assumption)))) (by omega) _ (by first | assumption | exact set_self (by first | assumption | exact set_self (by first | assumption | exact set_self (by assumption) | exact set_ne (by first | assumption | decide | omega) (by assumption)) | exact set_ne (by first | assumption | decide | omega) (by first | assumption | exact set_self (by assumption) | exact set_ne (by first | assumption | decide | omega) (by assumption))) | exact set_ne (by first | assumption | decide | omega) (by first | assumption | exact set_self (by first | assumption | exact set_self (by assumption) | exact set_ne (by first | assumption | decide | omega) (by assumption)) | exact set_ne (by first | assumption | decide | omega) (by first | assumption | exact set_self (by assumption) | exact set_ne (by first | assumption | decide | omega) (by assumption)))) (by assumption) ) rfl rfl (Nat.le_of_ble_eq_true rfl) ⟨by show d - 1 + 1 ≤ d; omega, by show 40 * (d - 1 + 1) ≤ 40 * d; omega⟩ ⟨Nat.zero_le _, Nat.zero_le _⟩ ?_
  refine AW.go 1 (pc' := 5) rfl ?_
  have b0 := ksg_b (sga sg cnt)
  refine AW.go 2 (pc' := 7) rfl ?_
  refine AW.callVF (pn := 10) rfl rfl mlX0_23 (by first | assumption | exact set_self (by first | assumption | exact set_self (by first | assumption | exact set_self (by assumption) | exact set_ne (by first | assumption | decide | omega) (by assumption)) | exact set_ne (by first | assumption | decide | omega) (by first | assumption | exact set_self (by assumption) | exact set_ne (by first | assumption | decide | omega) (by assumption))) | exact set_ne (by first | assumption | decide | omega) (by first | assumption | exact set_self (by first | assumption | exact set_self (by assumption) | exact set_ne (by first | assumption | decide | omega) (by assumption)) | exact set_ne (by first | assumption | decide | omega) (by first | assumption | exact set_self (by assumption) | exact set_ne (by first | assumption | decide | omega) (by assumption)))) (c_X0_signAt (d - 1) (by omega) _ _ (by first | assumption | exact set_self (by first | assumption | exact set_self (by first | assumption | exact set_self (by assumption) | exact set_ne (by first | assumption | decide | omega) (by assumption)) | exact set_ne (by first | assumption | decide | omega) (by first | assumption | exact set_self (by assumption) | exact set_ne (by first | assumption | decide | omega) (by assumption))) | exact set_ne (by first | assumption | decide | omega) (by first | assumption | exact set_self (by first | assumption | exact set_self (by assumption) | exact set_ne (by first | assumption | decide | omega) (by assumption)) | exact set_ne (by first | assumption | decide | omega) (by first | assumption | exact set_self (by assumption) | exact set_ne (by first | assumption | decide | omega) (by assumption)))) (by omega) _ (by first | assumption | exact set_self (by first | assumption | exact set_self (by first | assumption | exact set_self (by assumption) | exact set_ne (by first | assumption | decide | omega) (by assumption)) | exact set_ne (by first | assumption | decide | omega) (by first | assumption | exact set_self (by assumption) | exact set_ne (by first | assumption | decide | omega) (by assumption))) | exact set_ne (by first | assumption | decide | omega) (by first | assumption | exact set_self (by first | assumption | exact set_self (by assumption) | exact set_ne (by first | assumption | decide | omega) (by assumption)) | exact set_ne (by first | assumption | decide | omega) (by first | assumption | exact set_self (by assumption) | exact set_ne (by first | assumption | decide | omega) (by assumption)))) (by assumption) _ (by omega)) rfl rfl (Nat.le_of_ble_eq_true rfl) ⟨by show d - 1 + 1 ≤ d; omega, by show 40 * (d - 1 + 1) ≤ 40 * d; omega⟩ ⟨Nat.zero_le _, Nat.zero_le _⟩ ?_
  refine AW.go 1 (pc' := 11) rfl ?_
  have b1 := sga_b hs rc.2 (ksg (sga sg cnt))
  refine AW.go 1 (pc' := 12) rfl ?_
  refine AW.br (tgt := 27) (pn := 15) rfl (by decide) rfl (by first | exact bI_rng _ | exact ⟨by omega, by omega⟩) (fun c12 => ?_) (fun c12 => ?_)
  · dsimp only [cmpI] at c12
    refine AW.go 1 (pc' := 28) rfl ?_
    refine AW.ret rfl rfl (Nat.le_refl _) (Nat.le_refl _) ?_
    refine ⟨congrArg some ?_, rfl⟩
    unfold fft ffe
    (repeat' split) <;> omega
  · dsimp only [cmpI] at c12
    refine AW.go 2 (pc' := 18) rfl ?_
    refine AW.bi (tgt := 27) (pn := 21) rfl (by decide) rfl (by first | exact bI_rng _ | exact ⟨by omega, by omega⟩) (by first | exact bI_rng _ | exact ⟨by omega, by omega⟩) (fun c18 => ?_) (fun c18 => ?_)
    · dsimp only [cmpI] at c18
      refine AW.go 1 (pc' := 28) rfl ?_
      refine AW.ret rfl rfl (Nat.le_refl _) (Nat.le_refl _) ?_
      refine ⟨congrArg some ?_, rfl⟩
      unfold fft ffe
      (repeat' split) <;> omega
    · dsimp only [cmpI] at c18
      refine AW.go 2 (pc' := 24) rfl ?_
      refine AW.bi (tgt := 29) (pn := 27) rfl (by decide) rfl (by first | exact bI_rng _ | exact ⟨by omega, by omega⟩) (by first | exact bI_rng _ | exact ⟨by omega, by omega⟩) (fun c24 => ?_) (fun c24 => ?_)
      · dsimp only [cmpI] at c24
        refine AW.go 6 (pc' := 35) rfl ?_
        refine AW.callVF (pn := 38) rfl rfl mlX0_23 (by first | assumption | exact set_self (by first | assumption | exact set_self (by first | assumption | exact set_self (by assumption) | exact set_ne (by first | assumption | decide | omega) (by assumption)) | exact set_ne (by first | assumption | decide | omega) (by first | assumption | exact set_self (by assumption) | exact set_ne (by first | assumption | decide | omega) (by assumption))) | exact set_ne (by first | assumption | decide | omega) (by first | assumption | exact set_self (by first | assumption | exact set_self (by assumption) | exact set_ne (by first | assumption | decide | omega) (by assumption)) | exact set_ne (by first | assumption | decide | omega) (by first | assumption | exact set_self (by assumption) | exact set_ne (by first | assumption | decide | omega) (by assumption)))) (c_X0_signAt (d - 1) (by omega) _ _ (by first | assumption | exact set_self (by first | assumption | exact set_self (by first | assumption | exact set_self (by assumption) | exact set_ne (by first | assumption | decide | omega) (by assumption)) | exact set_ne (by first | assumption | decide | omega) (by first | assumption | exact set_self (by assumption) | exact set_ne (by first | assumption | decide | omega) (by assumption))) | exact set_ne (by first | assumption | decide | omega) (by first | assumption | exact set_self (by first | assumption | exact set_self (by assumption) | exact set_ne (by first | assumption | decide | omega) (by assumption)) | exact set_ne (by first | assumption | decide | omega) (by first | assumption | exact set_self (by assumption) | exact set_ne (by first | assumption | decide | omega) (by assumption)))) (by omega) _ (by first | assumption | exact set_self (by first | assumption | exact set_self (by first | assumption | exact set_self (by assumption) | exact set_ne (by first | assumption | decide | omega) (by assumption)) | exact set_ne (by first | assumption | decide | omega) (by first | assumption | exact set_self (by assumption) | exact set_ne (by first | assumption | decide | omega) (by assumption))) | exact set_ne (by first | assumption | decide | omega) (by first | assumption | exact set_self (by first | assumption | exact set_self (by assumption) | exact set_ne (by first | assumption | decide | omega) (by assumption)) | exact set_ne (by first | assumption | decide | omega) (by first | assumption | exact set_self (by assumption) | exact set_ne (by first | assumption | decide | omega) (by assumption)))) (by assumption) _ (by omega)) rfl rfl (Nat.le_of_ble_eq_true rfl) ⟨by show d - 1 + 1 ≤ d; omega, by show 40 * (d - 1 + 1) ≤ 40 * d; omega⟩ ⟨Nat.zero_le _, Nat.zero_le _⟩ ?_
        refine AW.go 1 (pc' := 40) rfl ?_
        have b2 := sga_b hs rc.2 (ksg (sga sg cnt) + 1)
        refine AW.go 2 (pc' := 43) rfl ?_
        refine AW.bi (tgt := 63) (pn := 46) rfl (by decide) rfl (by first | exact bI_rng _ | exact ⟨by omega, by omega⟩) (by first | exact bI_rng _ | exact ⟨by omega, by omega⟩) (fun c43 => ?_) (fun c43 => ?_)
        · dsimp only [cmpI] at c43
          refine AW.go 1 (pc' := 64) rfl ?_
          refine AW.getf (pn := 67) rfl rfl flX0_15 (by first | assumption | exact set_self (by first | assumption | exact set_self (by first | assumption | exact set_self (by assumption) | exact set_ne (by first | assumption | decide | omega) (by assumption)) | exact set_ne (by first | assumption | decide | omega) (by first | assumption | exact set_self (by assumption) | exact set_ne (by first | assumption | decide | omega) (by assumption))) | exact set_ne (by first | assumption | decide | omega) (by first | assumption | exact set_self (by first | assumption | exact set_self (by assumption) | exact set_ne (by first | assumption | decide | omega) (by assumption)) | exact set_ne (by first | assumption | decide | omega) (by first | assumption | exact set_self (by assumption) | exact set_ne (by first | assumption | decide | omega) (by assumption)))) rfl ?_
          refine AW.go 1 (pc' := 68) rfl ?_
          refine AW.bi (tgt := 75) (pn := 71) rfl (by decide) rfl (by first | exact bI_rng _ | exact ⟨by omega, by omega⟩) (by first | exact bI_rng _ | exact ⟨by omega, by omega⟩) (fun c68 => ?_) (fun c68 => ?_)
          · dsimp only [cmpI] at c68
            refine AW.go 1 (pc' := 77) rfl ?_
            refine AW.ret rfl rfl (Nat.le_refl _) (Nat.le_refl _) ?_
            refine ⟨congrArg some ?_, rfl⟩
            unfold fft ffe
            (repeat' split) <;> omega
          · dsimp only [cmpI] at c68
            refine AW.go 2 (pc' := 77) rfl ?_
            refine AW.ret rfl rfl (Nat.le_refl _) (Nat.le_refl _) ?_
            refine ⟨congrArg some ?_, rfl⟩
            unfold fft ffe
            (repeat' split) <;> omega
        · dsimp only [cmpI] at c43
          refine AW.go 2 (pc' := 50) rfl ?_
          refine AW.bi (tgt := 60) (pn := 53) rfl (by decide) rfl (by first | exact bI_rng _ | exact ⟨by omega, by omega⟩) (by first | exact bI_rng _ | exact ⟨by omega, by omega⟩) (fun c50 => ?_) (fun c50 => ?_)
          · dsimp only [cmpI] at c50
            refine AW.go 2 (pc' := 64) rfl ?_
            refine AW.getf (pn := 67) rfl rfl flX0_15 (by first | assumption | exact set_self (by first | assumption | exact set_self (by first | assumption | exact set_self (by assumption) | exact set_ne (by first | assumption | decide | omega) (by assumption)) | exact set_ne (by first | assumption | decide | omega) (by first | assumption | exact set_self (by assumption) | exact set_ne (by first | assumption | decide | omega) (by assumption))) | exact set_ne (by first | assumption | decide | omega) (by first | assumption | exact set_self (by first | assumption | exact set_self (by assumption) | exact set_ne (by first | assumption | decide | omega) (by assumption)) | exact set_ne (by first | assumption | decide | omega) (by first | assumption | exact set_self (by assumption) | exact set_ne (by first | assumption | decide | omega) (by assumption)))) rfl ?_
            refine AW.go 1 (pc' := 68) rfl ?_
            refine AW.bi (tgt := 75) (pn := 71) rfl (by decide) rfl (by first | exact bI_rng _ | exact ⟨by omega, by omega⟩) (by first | exact bI_rng _ | exact ⟨by omega, by omega⟩) (fun c68 => ?_) (fun c68 => ?_)
            · dsimp only [cmpI] at c68
              refine AW.go 1 (pc' := 77) rfl ?_
              refine AW.ret rfl rfl (Nat.le_refl _) (Nat.le_refl _) ?_
              refine ⟨congrArg some ?_, rfl⟩
              unfold fft ffe
              (repeat' split) <;> omega
            · dsimp only [cmpI] at c68
              refine AW.go 2 (pc' := 77) rfl ?_
              refine AW.ret rfl rfl (Nat.le_refl _) (Nat.le_refl _) ?_
              refine ⟨congrArg some ?_, rfl⟩
              unfold fft ffe
              (repeat' split) <;> omega
          · dsimp only [cmpI] at c50
            refine AW.go 2 (pc' := 57) rfl ?_
            refine AW.bi (tgt := 63) (pn := 60) rfl (by decide) rfl (by first | exact bI_rng _ | exact ⟨by omega, by omega⟩) (by first | exact bI_rng _ | exact ⟨by omega, by omega⟩) (fun c57 => ?_) (fun c57 => ?_)
            · dsimp only [cmpI] at c57
              refine AW.go 1 (pc' := 64) rfl ?_
              refine AW.getf (pn := 67) rfl rfl flX0_15 (by first | assumption | exact set_self (by first | assumption | exact set_self (by first | assumption | exact set_self (by assumption) | exact set_ne (by first | assumption | decide | omega) (by assumption)) | exact set_ne (by first | assumption | decide | omega) (by first | assumption | exact set_self (by assumption) | exact set_ne (by first | assumption | decide | omega) (by assumption))) | exact set_ne (by first | assumption | decide | omega) (by first | assumption | exact set_self (by first | assumption | exact set_self (by assumption) | exact set_ne (by first | assumption | decide | omega) (by assumption)) | exact set_ne (by first | assumption | decide | omega) (by first | assumption | exact set_self (by assumption) | exact set_ne (by first | assumption | decide | omega) (by assumption)))) rfl ?_
              refine AW.go 1 (pc' := 68) rfl ?_
              refine AW.bi (tgt := 75) (pn := 71) rfl (by decide) rfl (by first | exact bI_rng _ | exact ⟨by omega, by omega⟩) (by first | exact bI_rng _ | exact ⟨by omega, by omega⟩) (fun c68 => ?_) (fun c68 => ?_)
              · dsimp only [cmpI] at c68
                refine AW.go 1 (pc' := 77) rfl ?_
                refine AW.ret rfl rfl (Nat.le_refl _) (Nat.le_refl _) ?_
                refine ⟨congrArg some ?_, rfl⟩
                unfold fft ffe
                (repeat' split) <;> omega
              · dsimp only [cmpI] at c68
                refine AW.go 2 (pc' := 77) rfl ?_
                refine AW.ret rfl rfl (Nat.le_refl _) (Nat.le_refl _) ?_
                refine ⟨congrArg some ?_, rfl⟩
                unfold fft ffe
                (repeat' split) <;> omega
            · dsimp only [cmpI] at c57
              refine AW.go 2 (pc' := 64) rfl ?_
              refine AW.getf (pn := 67) rfl rfl flX0_15 (by first | assumption | exact set_self (by first | assumption | exact set_self (by first | assumption | exact set_self (by assumption) | exact set_ne (by first | assumption | decide | omega) (by assumption)) | exact set_ne (by first | assumption | decide | omega) (by first | assumption | exact set_self (by assumption) | exact set_ne (by first | assumption | decide | omega) (by assumption))) | exact set_ne (by first | assumption | decide | omega) (by first | assumption | exact set_self (by first | assumption | exact set_self (by assumption) | exact set_ne (by first | assumption | decide | omega) (by assumption)) | exact set_ne (by first | assumption | decide | omega) (by first | assumption | exact set_self (by assumption) | exact set_ne (by first | assumption | decide | omega) (by assumption)))) rfl ?_
              refine AW.go 1 (pc' := 68) rfl ?_
              refine AW.bi (tgt := 75) (pn := 71) rfl (by decide) rfl (by first | exact bI_rng _ | exact ⟨by omega, by omega⟩) (by first | exact bI_rng _ | exact ⟨by omega, by omega⟩) (fun c68 => ?_) (fun c68 => ?_)
              · dsimp only [cmpI] at c68
                refine AW.go 1 (pc' := 77) rfl ?_
                refine AW.ret rfl rfl (Nat.le_refl _) (Nat.le_refl _) ?_
                refine ⟨congrArg some ?_, rfl⟩
                unfold fft ffe
                (repeat' split) <;> omega
              · dsimp only [cmpI] at c68
                refine AW.go 2 (pc' := 77) rfl ?_
                refine AW.ret rfl rfl (Nat.le_refl _) (Nat.le_refl _) ?_
                refine ⟨congrArg some ?_, rfl⟩
                unfold fft ffe
                (repeat' split) <;> omega
      · dsimp only [cmpI] at c24
        refine AW.go 1 (pc' := 28) rfl ?_
        refine AW.ret rfl rfl (Nat.le_refl _) (Nat.le_refl _) ?_
        refine ⟨congrArg some ?_, rfl⟩
        unfold fft ffe
        (repeat' split) <;> omega
set_option maxHeartbeats 4000000 in
theorem l_X0_formNumber (d : Nat) (hd : 2 ≤ d) (h : List AC) (cnt : Int) (g1 : h[1]? = some (ao 0 [vr 2, vi cnt])) (rc : 0 ≤ cnt ∧ cnt ≤ 20) (sg : Nat → Int) (g2 : h[2]? = some (ai 0 20 sg)) (hs : sn sg) (kd : Int) : ∀ (n : Nat) (k : Int) (c : Int), (ksg (sga sg cnt) ≤ k) → (k ≤ cnt ∨ k = ksg (sga sg cnt)) → (c = dgn (sga sg cnt) (ksg (sga sg cnt)) (k - ksg (sga sg cnt)).toNat) → ((cnt - k).toNat) < n → AW zX0_formNumber Eq (rmd d) 0 0 0 0 44 [(4, vi k), (3, vi c), (2, vi kd), (0, vr 1), (1, vi (ksg (sga sg cnt)))] [] h (RQ (kd * 12 + dgn (sga sg cnt) (ksg (sga sg cnt)) (cnt - ksg (sga sg cnt)).toNat) h) := by
  intro n
  induction n with
  | zero =>
    intro k c h0 h1 hc hn
    exact absurd hn (Nat.not_lt_zero _)
  | succ n ih =>
    intro k c h0 h1 hc hn
    have b0 := ksg_b (sga sg cnt)
    refine AW.go 2 (pc' := 47) rfl ?_
    refine AW.getf (pn := 50) rfl rfl flX0_15 (by first | assumption | exact set_self (by first | assumption | exact set_self (by first | assumption | exact set_self (by assumption) | exact set_ne (by first | assumption | decide | omega) (by assumption)) | exact set_ne (by first | assumption | decide | omega) (by first | assumption | exact set_self (by assumption) | exact set_ne (by first | assumption | decide | omega) (by assumption))) | exact set_ne (by first | assumption | decide | omega) (by first | assumption | exact set_self (by first | assumption | exact set_self (by assumption) | exact set_ne (by first | assumption | decide | omega) (by assumption)) | exact set_ne (by first | assumption | decide | omega) (by first | assumption | exact set_self (by assumption) | exact set_ne (by first | assumption | decide | omega) (by assumption)))) rfl ?_
    refine AW.bi (tgt := 74) (pn := 53) rfl (by decide) rfl (by first | exact bI_rng _ | exact ⟨by omega, by omega⟩) (by first | exact bI_rng _ | exact ⟨by omega, by omega⟩) (fun c50 => ?_) (fun c50 => ?_)
    · dsimp only [cmpI] at c50
      refine AW.go 5 (pc' := 80) rfl ?_
      refine AW.ret rfl rfl (Nat.le_refl _) (Nat.le_refl _) ?_
      refine ⟨congrArg some ?_, rfl⟩
      rw [hc]
      congr 2
      omega
    · dsimp only [cmpI] at c50
      refine AW.go 5 (pc' := 60) rfl ?_
      refine AW.callVF (pn := 63) rfl rfl mlX0_23 (by first | assumption | exact set_self (by first | assumption | exact set_self (by first | assumption | exact set_self (by assumption) | exact set_ne (by first | assumption | decide | omega) (by assumption)) | exact set_ne (by first | assumption | decide | omega) (by first | assumption | exact set_self (by assumption) | exact set_ne (by first | assumption | decide | omega) (by assumption))) | exact set_ne (by first | assumption | decide | omega) (by first | assumption | exact set_self (by first | assumption | exact set_self (by assumption) | exact set_ne (by first | assumption | decide | omega) (by assumption)) | exact set_ne (by first | assumption | decide | omega) (by first | assumption | exact set_self (by assumption) | exact set_ne (by first | assumption | decide | omega) (by assumption)))) (c_X0_signAt (d - 1) (by omega) _ _ (by first | assumption | exact set_self (by first | assumption | exact set_self (by first | assumption | exact set_self (by assumption) | exact set_ne (by first | assumption | decide | omega) (by assumption)) | exact set_ne (by first | assumption | decide | omega) (by first | assumption | exact set_self (by assumption) | exact set_ne (by first | assumption | decide | omega) (by assumption))) | exact set_ne (by first | assumption | decide | omega) (by first | assumption | exact set_self (by first | assumption | exact set_self (by assumption) | exact set_ne (by first | assumption | decide | omega) (by assumption)) | exact set_ne (by first | assumption | decide | omega) (by first | assumption | exact set_self (by assumption) | exact set_ne (by first | assumption | decide | omega) (by assumption)))) (by omega) _ (by first | assumption | exact set_self (by first | assumption | exact set_self (by first | assumption | exact set_self (by assumption) | exact set_ne (by first | assumption | decide | omega) (by assumption)) | exact set_ne (by first | assumption | decide | omega) (by first | assumption | exact set_self (by assumption) | exact set_ne (by first | assumption | decide | omega) (by assumption))) | exact set_ne (by first | assumption | decide | omega) (by first | assumption | exact set_self (by first | assumption | exact set_self (by assumption) | exact set_ne (by first | assumption | decide | omega) (by assumption)) | exact set_ne (by first | assumption | decide | omega) (by first | assumption | exact set_self (by assumption) | exact set_ne (by first | assumption | decide | omega) (by assumption)))) (by assumption) _ (by omega)) rfl rfl (Nat.le_of_ble_eq_true rfl) ⟨by show d - 1 + 1 ≤ d; omega, by show 40 * (d - 1 + 1) ≤ 40 * d; omega⟩ ⟨Nat.zero_le _, Nat.zero_le _⟩ ?_
      refine AW.go 6 (pc' := 44) rfl ?_
      first | (refine AW.lw ?_ (ih (k + 1) (c * 10 + (sga sg cnt) k - 48) (by omega) (by omega) ?_ (by omega)); exact (And.intro rfl (And.intro rfl (And.intro rfl (And.intro rfl (And.intro rfl trivial))))); rw [show (k + 1 - ksg (sga sg cnt)).toNat = (k - ksg (sga sg cnt)).toNat + 1 by omega]; unfold dgn; rw [← hc, show ksg (sga sg cnt) + ((k - ksg (sga sg cnt)).toNat : Int) = k by omega])
set_option maxHeartbeats 2000000 in
theorem c_X0_formNumber (d : Nat) (hd : 2 ≤ d) (h : List AC) (cnt : Int) (g1 : h[1]? = some (ao 0 [vr 2, vi cnt])) (rc : 0 ≤ cnt ∧ cnt ≤ 20) (sg : Nat → Int) (g2 : h[2]? = some (ai 0 20 sg)) (hs : sn sg) : MF zX0_formNumber d [vr 1] h (fnm (sga sg cnt) cnt) h := by
  refine M0.of okX0_formNumber (Nat.le_of_ble_eq_true rfl) ?_
  refine AW.go 1 (pc' := 1) rfl ?_
  refine AW.callVF (pn := 4) rfl rfl mlX0_30 (by first | assumption | exact set_self (by first | assumption | exact set_self (by first | assumption | exact set_self (by assumption) | exact set_ne (by first | assumption | decide | omega) (by assumption)) | exact set_ne (by first | assumption | decide | omega) (by first | assumption | exact set_self (by assumption) | exact set_ne (by first | assumption | decide | omega) (by assumption))) | exact set_ne (by first | assumption | decide | omega) (by first | assumption | exact set_self (by first | assumption | exact set_self (by assumption) | exact set_ne (by first | assumption | decide | omega) (by assumption)) | exact set_ne (by first | assumption | decide | omega) (by first | assumption | exact set_self (by assumption) | exact set_ne (by first | assumption | decide | omega) (by assumption)))) (c_X0_kindSigns (d - 1) (by omega) _ _ (by first | assumption | exact set_self (by first | assumption | exact set_self (by first | assumption | exact set_self (by assumption) | exact set_ne (by first | assumption | decide | omega) (by assumption)) | exact set_ne (by first | assumption | decide | omega) (by first | assumption | exact set_self (by assumption) | exact set_ne (by first | assumption | decide | omega) (by assumption))) | exact set_ne (by first | assumption | decide | omega) (by first | assumption | exact set_self (by first | assumption | exact set_self (by assumption) | exact set_ne (by first | assumption | decide | omega) (by assumption)) | exact set_ne (by first | assumption | decide | omega) (by first | assumption | exact set_self (by assumption) | exact set_ne (by first | assumption | decide | omega) (by assumption)))) (by omega) _ (by first | assumption | exact set_self (by first | assumption | exact set_self (by first | assumption | exact set_self (by assumption) | exact set_ne (by first | assumption | decide | omega) (by assumption)) | exact set_ne (by first | assumption | decide | omega) (by first | assumption | exact set_self (by assumption) | exact set_ne (by first | assumption | decide | omega) (by assumption))) | exact set_ne (by first | assumption | decide | omega) (by first | assumption | exact set_self (by first | assumption | exact set_self (by assumption) | exact set_ne (by first | assumption | decide | omega) (by assumption)) | exact set_ne (by first | assumption | decide | omega) (by first | assumption | exact set_self (by assumption) | exact set_ne (by first | assumption | decide | omega) (by assumption)))) (by assumption) ) rfl rfl (Nat.le_of_ble_eq_true rfl) ⟨by show d - 1 + 1 ≤ d; omega, by show 40 * (d - 1 + 1) ≤ 40 * d; omega⟩ ⟨Nat.zero_le _, Nat.zero_le _⟩ ?_
  refine AW.go 1 (pc' := 5) rfl ?_
  have b0 := ksg_b (sga sg cnt)
  refine AW.go 2 (pc' := 7) rfl ?_
  refine AW.callVF (pn := 10) rfl rfl mlX0_23 (by first | assumption | exact set_self (by first | assumption | exact set_self (by first | assumption | exact set_self (by assumption) | exact set_ne (by first | assumption | decide | omega) (by assumption)) | exact set_ne (by first | assumption | decide | omega) (by first | assumption | exact set_self (by assumption) | exact set_ne (by first | assumption | decide | omega) (by assumption))) | exact set_ne (by first | assumption | decide | omega) (by first | assumption | exact set_self (by first | assumption | exact set_self (by assumption) | exact set_ne (by first | assumption | decide | omega) (by assumption)) | exact set_ne (by first | assumption | decide | omega) (by first | assumption | exact set_self (by assumption) | exact set_ne (by first | assumption | decide | omega) (by assumption)))) (c_X0_signAt (d - 1) (by omega) _ _ (by first | assumption | exact set_self (by first | assumption | exact set_self (by first | assumption | exact set_self (by assumption) | exact set_ne (by first | assumption | decide | omega) (by assumption)) | exact set_ne (by first | assumption | decide | omega) (by first | assumption | exact set_self (by assumption) | exact set_ne (by first | assumption | decide | omega) (by assumption))) | exact set_ne (by first | assumption | decide | omega) (by first | assumption | exact set_self (by first | assumption | exact set_self (by assumption) | exact set_ne (by first | assumption | decide | omega) (by assumption)) | exact set_ne (by first | assumption | decide | omega) (by first | assumption | exact set_self (by assumption) | exact set_ne (by first | assumption | decide | omega) (by assumption)))) (by omega) _ (by first | assumption | exact set_self (by first | assumption | exact set_self (by first | assumption | exact set_self (by assumption) | exact set_ne (by first | assumption | decide | omega) (by assumption)) | exact set_ne (by first | assumption | decide | omega) (by first | assumption | exact set_self (by assumption) | exact set_ne (by first | assumption | decide | omega) (by assumption))) | exact set_ne (by first | assumption | decide | omega) (by first | assumption | exact set_self (by first | assumption | exact set_self (by assumption) | exact set_ne (by first | assumption | decide | omega) (by assumption)) | exact set_ne (by first | assumption | decide | omega) (by first | assumption | exact set_self (by assumption) | exact set_ne (by first | assumption | decide | omega) (by assumption)))) (by assumption) _ (by omega)) rfl rfl (Nat.le_of_ble_eq_true rfl) ⟨by show d - 1 + 1 ≤ d; omega, by show 40 * (d - 1 + 1) ≤ 40 * d; omega⟩ ⟨Nat.zero_le _, Nat.zero_le _⟩ ?_
  have b1 := sga_b hs rc.2 0
  refine AW.go 1 (pc' := 12) rfl ?_
  refine AW.bi (tgt := 19) (pn := 15) rfl (by decide) rfl (by first | exact bI_rng _ | exact ⟨by omega, by omega⟩) (by first | exact bI_rng _ | exact ⟨by omega, by omega⟩) (fun c12 => ?_) (fun c12 => ?_)
  · dsimp only [cmpI] at c12
    refine AW.go 5 (pc' := 24) rfl ?_
    refine AW.callVF (pn := 27) rfl rfl mlX0_23 (by first | assumption | exact set_self (by first | assumption | exact set_self (by first | assumption | exact set_self (by assumption) | exact set_ne (by first | assumption | decide | omega) (by assumption)) | exact set_ne (by first | assumption | decide | omega) (by first | assumption | exact set_self (by assumption) | exact set_ne (by first | assumption | decide | omega) (by assumption))) | exact set_ne (by first | assumption | decide | omega) (by first | assumption | exact set_self (by first | assumption | exact set_self (by assumption) | exact set_ne (by first | assumption | decide | omega) (by assumption)) | exact set_ne (by first | assumption | decide | omega) (by first | assumption | exact set_self (by assumption) | exact set_ne (by first | assumption | decide | omega) (by assumption)))) (c_X0_signAt (d - 1) (by omega) _ _ (by first | assumption | exact set_self (by first | assumption | exact set_self (by first | assumption | exact set_self (by assumption) | exact set_ne (by first | assumption | decide | omega) (by assumption)) | exact set_ne (by first | assumption | decide | omega) (by first | assumption | exact set_self (by assumption) | exact set_ne (by first | assumption | decide | omega) (by assumption))) | exact set_ne (by first | assumption | decide | omega) (by first | assumption | exact set_self (by first | assumption | exact set_self (by assumption) | exact set_ne (by first | assumption | decide | omega) (by assumption)) | exact set_ne (by first | assumption | decide | omega) (by first | assumption | exact set_self (by assumption) | exact set_ne (by first | assumption | decide | omega) (by assumption)))) (by omega) _ (by first | assumption | exact set_self (by first | assumption | exact set_self (by first | assumption | exact set_self (by assumption) | exact set_ne (by first | assumption | decide | omega) (by assumption)) | exact set_ne (by first | assumption | decide | omega) (by first | assumption | exact set_self (by assumption) | exact set_ne (by first | assumption | decide | omega) (by assumption))) | exact set_ne (by first | assumption | decide | omega) (by first | assumption | exact set_self (by first | assumption | exact set_self (by assumption) | exact set_ne (by first | assumption | decide | omega) (by assumption)) | exact set_ne (by first | assumption | decide | omega) (by first | assumption | exact set_self (by assumption) | exact set_ne (by first | assumption | decide | omega) (by assumption)))) (by assumption) _ (by omega)) rfl rfl (Nat.le_of_ble_eq_true rfl) ⟨by show d - 1 + 1 ≤ d; omega, by show 40 * (d - 1 + 1) ≤ 40 * d; omega⟩ ⟨Nat.zero_le _, Nat.zero_le _⟩ ?_
    have b2 := sga_b hs rc.2 (ksg (sga sg cnt) - 1)
    refine AW.go 1 (pc' := 29) rfl ?_
    refine AW.bi (tgt := 36) (pn := 32) rfl (by decide) rfl (by first | exact bI_rng _ | exact ⟨by omega, by omega⟩) (by first | exact bI_rng _ | exact ⟨by omega, by omega⟩) (fun c29 => ?_) (fun c29 => ?_)
    · dsimp only [cmpI] at c29
      refine AW.go 7 (pc' := 44) rfl ?_
      unfold fnm
      (first | rw [if_neg c12] | rw [if_pos (Decidable.not_not.mp c12)])
      (first | rw [if_neg c29] | rw [if_pos (Decidable.not_not.mp c29)])
      refine AW.lw ?_ (l_X0_formNumber d hd h cnt g1 rc sg g2 hs _ _ (ksg (sga sg cnt)) 0 (by omega) (by omega) (by rw [Int.sub_self]; rfl) (Nat.lt_succ_self _))
      exact (And.intro rfl (And.intro rfl (And.intro rfl (And.intro rfl (And.intro rfl trivial)))))
    · dsimp only [cmpI] at c29
      refine AW.go 8 (pc' := 44) rfl ?_
      unfold fnm
      (first | rw [if_neg c12] | rw [if_pos (Decidable.not_not.mp c12)])
      (first | rw [if_neg c29] | rw [if_pos (Decidable.not_not.mp c29)])
      refine AW.lw ?_ (l_X0_formNumber d hd h cnt g1 rc sg g2 hs _ _ (ksg (sga sg cnt)) 0 (by omega) (by omega) (by rw [Int.sub_self]; rfl) (Nat.lt_succ_self _))
      exact (And.intro rfl (And.intro rfl (And.intro rfl (And.intro rfl (And.intro rfl trivial)))))
  · dsimp only [cmpI] at c12
    refine AW.go 6 (pc' := 24) rfl ?_
    refine AW.callVF (pn := 27) rfl rfl mlX0_23 (by first | assumption | exact set_self (by first | assumption | exact set_self (by first | assumption | exact set_self (by assumption) | exact set_ne (by first | assumption | decide | omega) (by assumption)) | exact set_ne (by first | assumption | decide | omega) (by first | assumption | exact set_self (by assumption) | exact set_ne (by first | assumption | decide | omega) (by assumption))) | exact set_ne (by first | assumption | decide | omega) (by first | assumption | exact set_self (by first | assumption | exact set_self (by assumption) | exact set_ne (by first | assumption | decide | omega) (by assumption)) | exact set_ne (by first | assumption | decide | omega) (by first | assumption | exact set_self (by assumption) | exact set_ne (by first | assumption | decide | omega) (by assumption)))) (c_X0_signAt (d - 1) (by omega) _ _ (by first | assumption | exact set_self (by first | assumption | exact set_self (by first | assumption | exact set_self (by assumption) | exact set_ne (by first | assumption | decide | omega) (by assumption)) | exact set_ne (by first | assumption | decide | omega) (by first | assumption | exact set_self (by assumption) | exact set_ne (by first | assumption | decide | omega) (by assumption))) | exact set_ne (by first | assumption | decide | omega) (by first | assumption | exact set_self (by first | assumption | exact set_self (by assumption) | exact set_ne (by first | assumption | decide | omega) (by assumption)) | exact set_ne (by first | assumption | decide | omega) (by first | assumption | exact set_self (by assumption) | exact set_ne (by first | assumption | decide | omega) (by assumption)))) (by omega) _ (by first | assumption | exact set_self (by first | assumption | exact set_self (by first | assumption | exact set_self (by assumption) | exact set_ne (by first | assumption | decide | omega) (by assumption)) | exact set_ne (by first | assumption | decide | omega) (by first | assumption | exact set_self (by assumption) | exact set_ne (by first | assumption | decide | omega) (by assumption))) | exact set_ne (by first | assumption | decide | omega) (by first | assumption | exact set_self (by first | assumption | exact set_self (by assumption) | exact set_ne (by first | assumption | decide | omega) (by assumption)) | exact set_ne (by first | assumption | decide | omega) (by first | assumption | exact set_self (by assumption) | exact set_ne (by first | assumption | decide | omega) (by assumption)))) (by assumption) _ (by omega)) rfl rfl (Nat.le_of_ble_eq_true rfl) ⟨by show d - 1 + 1 ≤ d; omega, by show 40 * (d - 1 + 1) ≤ 40 * d; omega⟩ ⟨Nat.zero_le _, Nat.zero_le _⟩ ?_
    have b2 := sga_b hs rc.2 (ksg (sga sg cnt) - 1)
    refine AW.go 1 (pc' := 29) rfl ?_
    refine AW.bi (tgt := 36) (pn := 32) rfl (by decide) rfl (by first | exact bI_rng _ | exact ⟨by omega, by omega⟩) (by first | exact bI_rng _ | exact ⟨by omega, by omega⟩) (fun c29 => ?_) (fun c29 => ?_)
    · dsimp only [cmpI] at c29
      refine AW.go 7 (pc' := 44) rfl ?_
      unfold fnm
      (first | rw [if_neg c12] | rw [if_pos (Decidable.not_not.mp c12)])
      (first | rw [if_neg c29] | rw [if_pos (Decidable.not_not.mp c29)])
      refine AW.lw ?_ (l_X0_formNumber d hd h cnt g1 rc sg g2 hs _ _ (ksg (sga sg cnt)) 0 (by omega) (by omega) (by rw [Int.sub_self]; rfl) (Nat.lt_succ_self _))
      exact (And.intro rfl (And.intro rfl (And.intro rfl (And.intro rfl (And.intro rfl trivial)))))
    · dsimp only [cmpI] at c29
      refine AW.go 8 (pc' := 44) rfl ?_
      unfold fnm
      (first | rw [if_neg c12] | rw [if_pos (Decidable.not_not.mp c12)])
      (first | rw [if_neg c29] | rw [if_pos (Decidable.not_not.mp c29)])
      refine AW.lw ?_ (l_X0_formNumber d hd h cnt g1 rc sg g2 hs _ _ (ksg (sga sg cnt)) 0 (by omega) (by omega) (by rw [Int.sub_self]; rfl) (Nat.lt_succ_self _))
      exact (And.intro rfl (And.intro rfl (And.intro rfl (And.intro rfl (And.intro rfl trivial)))))
set_option maxHeartbeats 2000000 in
theorem c_X3_say (d : Nat) (hd : 2 ≤ d) (h : List AC) (g0 : h[0]? = some (ao 3 [vr 1, vr 3, vr 10, vr 25, vr 28])) (cnt : Int) (g1 : h[1]? = some (ao 0 [vr 2, vi cnt])) (rc : 0 ≤ cnt ∧ cnt ≤ 20) (sg : Nat → Int) (g2 : h[2]? = some (ai 0 20 sg)) (hs : sn sg) (c : Int) (rc : -2147483648 ≤ c ∧ c < 2147483648) : M0 zX3_say d [vr 0, vi c] h (fun v u => v = some (V_say cnt c) ∧ u = if 33 ≤ c ∧ c ≤ 126 ∧ cnt < 20 then (h.set 2 (ai 0 20 (up sg cnt.toNat c))).set 1 (ao 0 [vr 2, vi (cnt + 1)]) else h) := by
  refine M0.of okX3_say (Nat.le_of_ble_eq_true rfl) ?_
  refine AW.go 2 (pc' := 3) rfl ?_
  refine AW.bi (tgt := 12) (pn := 6) rfl (by decide) rfl (by first | exact bI_rng _ | exact ⟨by omega, by omega⟩) (by first | exact bI_rng _ | exact ⟨by omega, by omega⟩) (fun c3 => ?_) (fun c3 => ?_)
  · dsimp only [cmpI] at c3
    refine AW.go 1 (pc' := 14) rfl ?_
    refine AW.ret rfl rfl (Nat.le_refl _) (Nat.le_refl _) ?_
    refine ⟨congrArg some ?_, ?_⟩
    · unfold V_say; (repeat' split) <;> omega
    · first | rw [if_pos (by omega)] | rw [if_neg (by omega)]
  · dsimp only [cmpI] at c3
    refine AW.go 2 (pc' := 9) rfl ?_
    refine AW.bi (tgt := 15) (pn := 12) rfl (by decide) rfl (by first | exact bI_rng _ | exact ⟨by omega, by omega⟩) (by first | exact bI_rng _ | exact ⟨by omega, by omega⟩) (fun c9 => ?_) (fun c9 => ?_)
    · dsimp only [cmpI] at c9
      refine AW.go 1 (pc' := 16) rfl ?_
      refine AW.getf (pn := 19) rfl rfl flX3_10 (by first | assumption | exact set_self (by first | assumption | exact set_self (by first | assumption | exact set_self (by assumption) | exact set_ne (by first | assumption | decide | omega) (by assumption)) | exact set_ne (by first | assumption | decide | omega) (by first | assumption | exact set_self (by assumption) | exact set_ne (by first | assumption | decide | omega) (by assumption))) | exact set_ne (by first | assumption | decide | omega) (by first | assumption | exact set_self (by first | assumption | exact set_self (by assumption) | exact set_ne (by first | assumption | decide | omega) (by assumption)) | exact set_ne (by first | assumption | decide | omega) (by first | assumption | exact set_self (by assumption) | exact set_ne (by first | assumption | decide | omega) (by assumption)))) rfl ?_
      refine AW.callVF (pn := 22) rfl rfl mlX3_38 (by first | assumption | exact set_self (by first | assumption | exact set_self (by first | assumption | exact set_self (by assumption) | exact set_ne (by first | assumption | decide | omega) (by assumption)) | exact set_ne (by first | assumption | decide | omega) (by first | assumption | exact set_self (by assumption) | exact set_ne (by first | assumption | decide | omega) (by assumption))) | exact set_ne (by first | assumption | decide | omega) (by first | assumption | exact set_self (by first | assumption | exact set_self (by assumption) | exact set_ne (by first | assumption | decide | omega) (by assumption)) | exact set_ne (by first | assumption | decide | omega) (by first | assumption | exact set_self (by assumption) | exact set_ne (by first | assumption | decide | omega) (by assumption)))) (c_X0_isFull (d - 1) (by omega) _ _ (by first | assumption | exact set_self (by first | assumption | exact set_self (by first | assumption | exact set_self (by assumption) | exact set_ne (by first | assumption | decide | omega) (by assumption)) | exact set_ne (by first | assumption | decide | omega) (by first | assumption | exact set_self (by assumption) | exact set_ne (by first | assumption | decide | omega) (by assumption))) | exact set_ne (by first | assumption | decide | omega) (by first | assumption | exact set_self (by first | assumption | exact set_self (by assumption) | exact set_ne (by first | assumption | decide | omega) (by assumption)) | exact set_ne (by first | assumption | decide | omega) (by first | assumption | exact set_self (by assumption) | exact set_ne (by first | assumption | decide | omega) (by assumption)))) (by omega) _ (by first | assumption | exact set_self (by first | assumption | exact set_self (by first | assumption | exact set_self (by assumption) | exact set_ne (by first | assumption | decide | omega) (by assumption)) | exact set_ne (by first | assumption | decide | omega) (by first | assumption | exact set_self (by assumption) | exact set_ne (by first | assumption | decide | omega) (by assumption))) | exact set_ne (by first | assumption | decide | omega) (by first | assumption | exact set_self (by first | assumption | exact set_self (by assumption) | exact set_ne (by first | assumption | decide | omega) (by assumption)) | exact set_ne (by first | assumption | decide | omega) (by first | assumption | exact set_self (by assumption) | exact set_ne (by first | assumption | decide | omega) (by assumption)))) (by assumption) ) rfl rfl (Nat.le_of_ble_eq_true rfl) ⟨by show d - 1 + 1 ≤ d; omega, by show 40 * (d - 1 + 1) ≤ 40 * d; omega⟩ ⟨Nat.zero_le _, Nat.zero_le _⟩ ?_
      refine AW.bz (tgt := 30) (pn := 25) rfl (by decide) rfl (fun c22 => ?_) (fun c22 => ?_)
      · refine AW.go 1 (pc' := 31) rfl ?_
        refine AW.getf (pn := 34) rfl rfl flX3_10 (by first | assumption | exact set_self (by first | assumption | exact set_self (by first | assumption | exact set_self (by assumption) | exact set_ne (by first | assumption | decide | omega) (by assumption)) | exact set_ne (by first | assumption | decide | omega) (by first | assumption | exact set_self (by assumption) | exact set_ne (by first | assumption | decide | omega) (by assumption))) | exact set_ne (by first | assumption | decide | omega) (by first | assumption | exact set_self (by first | assumption | exact set_self (by assumption) | exact set_ne (by first | assumption | decide | omega) (by assumption)) | exact set_ne (by first | assumption | decide | omega) (by first | assumption | exact set_self (by assumption) | exact set_ne (by first | assumption | decide | omega) (by assumption)))) rfl ?_
        refine AW.go 1 (pc' := 35) rfl ?_
        refine AW.callVF (pn := 38) rfl rfl mlX3_42 (by first | assumption | exact set_self (by first | assumption | exact set_self (by first | assumption | exact set_self (by assumption) | exact set_ne (by first | assumption | decide | omega) (by assumption)) | exact set_ne (by first | assumption | decide | omega) (by first | assumption | exact set_self (by assumption) | exact set_ne (by first | assumption | decide | omega) (by assumption))) | exact set_ne (by first | assumption | decide | omega) (by first | assumption | exact set_self (by first | assumption | exact set_self (by assumption) | exact set_ne (by first | assumption | decide | omega) (by assumption)) | exact set_ne (by first | assumption | decide | omega) (by first | assumption | exact set_self (by assumption) | exact set_ne (by first | assumption | decide | omega) (by assumption)))) (c_X0_add (d - 1) (by omega) _ _ (by first | assumption | exact set_self (by first | assumption | exact set_self (by first | assumption | exact set_self (by assumption) | exact set_ne (by first | assumption | decide | omega) (by assumption)) | exact set_ne (by first | assumption | decide | omega) (by first | assumption | exact set_self (by assumption) | exact set_ne (by first | assumption | decide | omega) (by assumption))) | exact set_ne (by first | assumption | decide | omega) (by first | assumption | exact set_self (by first | assumption | exact set_self (by assumption) | exact set_ne (by first | assumption | decide | omega) (by assumption)) | exact set_ne (by first | assumption | decide | omega) (by first | assumption | exact set_self (by assumption) | exact set_ne (by first | assumption | decide | omega) (by assumption)))) (by omega) _ (by first | assumption | exact set_self (by first | assumption | exact set_self (by first | assumption | exact set_self (by assumption) | exact set_ne (by first | assumption | decide | omega) (by assumption)) | exact set_ne (by first | assumption | decide | omega) (by first | assumption | exact set_self (by assumption) | exact set_ne (by first | assumption | decide | omega) (by assumption))) | exact set_ne (by first | assumption | decide | omega) (by first | assumption | exact set_self (by first | assumption | exact set_self (by assumption) | exact set_ne (by first | assumption | decide | omega) (by assumption)) | exact set_ne (by first | assumption | decide | omega) (by first | assumption | exact set_self (by assumption) | exact set_ne (by first | assumption | decide | omega) (by assumption)))) (by assumption) (by omega) _) rfl rfl (Nat.le_of_ble_eq_true rfl) ⟨by show d - 1 + 1 ≤ d; omega, by show 40 * (d - 1 + 1) ≤ 40 * d; omega⟩ ⟨Nat.zero_le _, Nat.zero_le _⟩ ?_
        refine AW.ret rfl rfl (Nat.le_refl _) (Nat.le_refl _) ?_
        refine ⟨congrArg some ?_, ?_⟩
        · unfold V_say; (repeat' split) <;> omega
        · first | rw [if_pos (by omega)] | rw [if_neg (by omega)]
      · refine AW.go 2 (pc' := 38) rfl ?_
        refine AW.ret rfl rfl (Nat.le_refl _) (Nat.le_refl _) ?_
        refine ⟨congrArg some ?_, ?_⟩
        · unfold V_say; (repeat' split) <;> omega
        · first | rw [if_pos (by omega)] | rw [if_neg (by omega)]
    · dsimp only [cmpI] at c9
      refine AW.go 1 (pc' := 14) rfl ?_
      refine AW.ret rfl rfl (Nat.le_refl _) (Nat.le_refl _) ?_
      refine ⟨congrArg some ?_, ?_⟩
      · unfold V_say; (repeat' split) <;> omega
      · first | rw [if_pos (by omega)] | rw [if_neg (by omega)]
set_option maxHeartbeats 2000000 in
theorem c_X3_wipe (d : Nat) (hd : 1 ≤ d) (h : List AC) (g0 : h[0]? = some (ao 3 [vr 1, vr 3, vr 10, vr 25, vr 28])) (cnt : Int) (g1 : h[1]? = some (ao 0 [vr 2, vi cnt])) (rc : 0 ≤ cnt ∧ cnt ≤ 20) (sg : Nat → Int) (g2 : h[2]? = some (ai 0 20 sg)) (hs : sn sg) : MF zX3_wipe d [vr 0] h cnt (h.set 1 (ao 0 [vr 2, vi 0])) := by
  refine M0.of okX3_wipe (Nat.le_of_ble_eq_true rfl) ?_
  refine AW.go 1 (pc' := 1) rfl ?_
  refine AW.getf (pn := 4) rfl rfl flX3_10 (by first | assumption | exact set_self (by first | assumption | exact set_self (by first | assumption | exact set_self (by assumption) | exact set_ne (by first | assumption | decide | omega) (by assumption)) | exact set_ne (by first | assumption | decide | omega) (by first | assumption | exact set_self (by assumption) | exact set_ne (by first | assumption | decide | omega) (by assumption))) | exact set_ne (by first | assumption | decide | omega) (by first | assumption | exact set_self (by first | assumption | exact set_self (by assumption) | exact set_ne (by first | assumption | decide | omega) (by assumption)) | exact set_ne (by first | assumption | decide | omega) (by first | assumption | exact set_self (by assumption) | exact set_ne (by first | assumption | decide | omega) (by assumption)))) rfl ?_
  refine AW.callVF (pn := 7) rfl rfl mlX3_46 (by first | assumption | exact set_self (by first | assumption | exact set_self (by first | assumption | exact set_self (by assumption) | exact set_ne (by first | assumption | decide | omega) (by assumption)) | exact set_ne (by first | assumption | decide | omega) (by first | assumption | exact set_self (by assumption) | exact set_ne (by first | assumption | decide | omega) (by assumption))) | exact set_ne (by first | assumption | decide | omega) (by first | assumption | exact set_self (by first | assumption | exact set_self (by assumption) | exact set_ne (by first | assumption | decide | omega) (by assumption)) | exact set_ne (by first | assumption | decide | omega) (by first | assumption | exact set_self (by assumption) | exact set_ne (by first | assumption | decide | omega) (by assumption)))) (c_X0_empty (d - 1) (by omega) _ _ (by first | assumption | exact set_self (by first | assumption | exact set_self (by first | assumption | exact set_self (by assumption) | exact set_ne (by first | assumption | decide | omega) (by assumption)) | exact set_ne (by first | assumption | decide | omega) (by first | assumption | exact set_self (by assumption) | exact set_ne (by first | assumption | decide | omega) (by assumption))) | exact set_ne (by first | assumption | decide | omega) (by first | assumption | exact set_self (by first | assumption | exact set_self (by assumption) | exact set_ne (by first | assumption | decide | omega) (by assumption)) | exact set_ne (by first | assumption | decide | omega) (by first | assumption | exact set_self (by assumption) | exact set_ne (by first | assumption | decide | omega) (by assumption)))) (by omega) _ (by first | assumption | exact set_self (by first | assumption | exact set_self (by first | assumption | exact set_self (by assumption) | exact set_ne (by first | assumption | decide | omega) (by assumption)) | exact set_ne (by first | assumption | decide | omega) (by first | assumption | exact set_self (by assumption) | exact set_ne (by first | assumption | decide | omega) (by assumption))) | exact set_ne (by first | assumption | decide | omega) (by first | assumption | exact set_self (by first | assumption | exact set_self (by assumption) | exact set_ne (by first | assumption | decide | omega) (by assumption)) | exact set_ne (by first | assumption | decide | omega) (by first | assumption | exact set_self (by assumption) | exact set_ne (by first | assumption | decide | omega) (by assumption)))) (by assumption) ) rfl rfl (Nat.le_of_ble_eq_true rfl) ⟨by show d - 1 + 1 ≤ d; omega, by show 40 * (d - 1 + 1) ≤ 40 * d; omega⟩ ⟨Nat.zero_le _, Nat.zero_le _⟩ ?_
  refine AW.ret rfl rfl (Nat.le_refl _) (Nat.le_refl _) ?_
  exact ⟨rfl, rfl⟩
set_option maxHeartbeats 2000000 in
theorem c_X3_named (d : Nat) (hd : 3 ≤ d) (h : List AC) (g0 : h[0]? = some (ao 3 [vr 1, vr 3, vr 10, vr 25, vr 28])) (cnt : Int) (g1 : h[1]? = some (ao 0 [vr 2, vi cnt])) (rc : 0 ≤ cnt ∧ cnt ≤ 20) (sg : Nat → Int) (g2 : h[2]? = some (ai 0 20 sg)) (hs : sn sg) : MF zX3_named d [vr 0] h (V_named (sga sg cnt) cnt) h := by
  refine M0.of okX3_named (Nat.le_of_ble_eq_true rfl) ?_
  refine AW.go 1 (pc' := 1) rfl ?_
  refine AW.getf (pn := 4) rfl rfl flX3_10 (by first | assumption | exact set_self (by first | assumption | exact set_self (by first | assumption | exact set_self (by assumption) | exact set_ne (by first | assumption | decide | omega) (by assumption)) | exact set_ne (by first | assumption | decide | omega) (by first | assumption | exact set_self (by assumption) | exact set_ne (by first | assumption | decide | omega) (by assumption))) | exact set_ne (by first | assumption | decide | omega) (by first | assumption | exact set_self (by first | assumption | exact set_self (by assumption) | exact set_ne (by first | assumption | decide | omega) (by assumption)) | exact set_ne (by first | assumption | decide | omega) (by first | assumption | exact set_self (by assumption) | exact set_ne (by first | assumption | decide | omega) (by assumption)))) rfl ?_
  refine AW.callVF (pn := 7) rfl rfl mlX3_54 (by first | assumption | exact set_self (by first | assumption | exact set_self (by first | assumption | exact set_self (by assumption) | exact set_ne (by first | assumption | decide | omega) (by assumption)) | exact set_ne (by first | assumption | decide | omega) (by first | assumption | exact set_self (by assumption) | exact set_ne (by first | assumption | decide | omega) (by assumption))) | exact set_ne (by first | assumption | decide | omega) (by first | assumption | exact set_self (by first | assumption | exact set_self (by assumption) | exact set_ne (by first | assumption | decide | omega) (by assumption)) | exact set_ne (by first | assumption | decide | omega) (by first | assumption | exact set_self (by assumption) | exact set_ne (by first | assumption | decide | omega) (by assumption)))) (c_X0_formFault (d - 1) (by omega) _ _ (by first | assumption | exact set_self (by first | assumption | exact set_self (by first | assumption | exact set_self (by assumption) | exact set_ne (by first | assumption | decide | omega) (by assumption)) | exact set_ne (by first | assumption | decide | omega) (by first | assumption | exact set_self (by assumption) | exact set_ne (by first | assumption | decide | omega) (by assumption))) | exact set_ne (by first | assumption | decide | omega) (by first | assumption | exact set_self (by first | assumption | exact set_self (by assumption) | exact set_ne (by first | assumption | decide | omega) (by assumption)) | exact set_ne (by first | assumption | decide | omega) (by first | assumption | exact set_self (by assumption) | exact set_ne (by first | assumption | decide | omega) (by assumption)))) (by omega) _ (by first | assumption | exact set_self (by first | assumption | exact set_self (by first | assumption | exact set_self (by assumption) | exact set_ne (by first | assumption | decide | omega) (by assumption)) | exact set_ne (by first | assumption | decide | omega) (by first | assumption | exact set_self (by assumption) | exact set_ne (by first | assumption | decide | omega) (by assumption))) | exact set_ne (by first | assumption | decide | omega) (by first | assumption | exact set_self (by first | assumption | exact set_self (by assumption) | exact set_ne (by first | assumption | decide | omega) (by assumption)) | exact set_ne (by first | assumption | decide | omega) (by first | assumption | exact set_self (by assumption) | exact set_ne (by first | assumption | decide | omega) (by assumption)))) (by assumption) ) rfl rfl (Nat.le_of_ble_eq_true rfl) ⟨by show d - 1 + 1 ≤ d; omega, by show 40 * (d - 1 + 1) ≤ 40 * d; omega⟩ ⟨Nat.zero_le _, Nat.zero_le _⟩ ?_
  have b0 := fft_b (sga sg cnt) cnt
  refine AW.go 1 (pc' := 9) rfl ?_
  refine AW.bi (tgt := 22) (pn := 12) rfl (by decide) rfl (by first | exact bI_rng _ | exact ⟨by omega, by omega⟩) (by first | exact bI_rng _ | exact ⟨by omega, by omega⟩) (fun c9 => ?_) (fun c9 => ?_)
  · dsimp only [cmpI] at c9
    refine AW.go 1 (pc' := 24) rfl ?_
    refine AW.ret rfl rfl (Nat.le_refl _) (Nat.le_refl _) ?_
    refine ⟨congrArg some ?_, rfl⟩
    unfold V_named
    (repeat' split) <;> first | rfl | omega
  · dsimp only [cmpI] at c9
    refine AW.go 1 (pc' := 13) rfl ?_
    refine AW.getf (pn := 16) rfl rfl flX3_10 (by first | assumption | exact set_self (by first | assumption | exact set_self (by first | assumption | exact set_self (by assumption) | exact set_ne (by first | assumption | decide | omega) (by assumption)) | exact set_ne (by first | assumption | decide | omega) (by first | assumption | exact set_self (by assumption) | exact set_ne (by first | assumption | decide | omega) (by assumption))) | exact set_ne (by first | assumption | decide | omega) (by first | assumption | exact set_self (by first | assumption | exact set_self (by assumption) | exact set_ne (by first | assumption | decide | omega) (by assumption)) | exact set_ne (by first | assumption | decide | omega) (by first | assumption | exact set_self (by assumption) | exact set_ne (by first | assumption | decide | omega) (by assumption)))) rfl ?_
    refine AW.callVF (pn := 19) rfl rfl mlX3_76 (by first | assumption | exact set_self (by first | assumption | exact set_self (by first | assumption | exact set_self (by assumption) | exact set_ne (by first | assumption | decide | omega) (by assumption)) | exact set_ne (by first | assumption | decide | omega) (by first | assumption | exact set_self (by assumption) | exact set_ne (by first | assumption | decide | omega) (by assumption))) | exact set_ne (by first | assumption | decide | omega) (by first | assumption | exact set_self (by first | assumption | exact set_self (by assumption) | exact set_ne (by first | assumption | decide | omega) (by assumption)) | exact set_ne (by first | assumption | decide | omega) (by first | assumption | exact set_self (by assumption) | exact set_ne (by first | assumption | decide | omega) (by assumption)))) (c_X0_formNumber (d - 1) (by omega) _ _ (by first | assumption | exact set_self (by first | assumption | exact set_self (by first | assumption | exact set_self (by assumption) | exact set_ne (by first | assumption | decide | omega) (by assumption)) | exact set_ne (by first | assumption | decide | omega) (by first | assumption | exact set_self (by assumption) | exact set_ne (by first | assumption | decide | omega) (by assumption))) | exact set_ne (by first | assumption | decide | omega) (by first | assumption | exact set_self (by first | assumption | exact set_self (by assumption) | exact set_ne (by first | assumption | decide | omega) (by assumption)) | exact set_ne (by first | assumption | decide | omega) (by first | assumption | exact set_self (by assumption) | exact set_ne (by first | assumption | decide | omega) (by assumption)))) (by omega) _ (by first | assumption | exact set_self (by first | assumption | exact set_self (by first | assumption | exact set_self (by assumption) | exact set_ne (by first | assumption | decide | omega) (by assumption)) | exact set_ne (by first | assumption | decide | omega) (by first | assumption | exact set_self (by assumption) | exact set_ne (by first | assumption | decide | omega) (by assumption))) | exact set_ne (by first | assumption | decide | omega) (by first | assumption | exact set_self (by first | assumption | exact set_self (by assumption) | exact set_ne (by first | assumption | decide | omega) (by assumption)) | exact set_ne (by first | assumption | decide | omega) (by first | assumption | exact set_self (by assumption) | exact set_ne (by first | assumption | decide | omega) (by assumption)))) (by assumption) ) rfl rfl (Nat.le_of_ble_eq_true rfl) ⟨by show d - 1 + 1 ≤ d; omega, by show 40 * (d - 1 + 1) ≤ 40 * d; omega⟩ ⟨Nat.zero_le _, Nat.zero_le _⟩ ?_
    refine AW.go 1 (pc' := 24) rfl ?_
    refine AW.ret rfl rfl (Nat.le_refl _) (Nat.le_refl _) ?_
    refine ⟨congrArg some ?_, rfl⟩
    unfold V_named
    (repeat' split) <;> first | rfl | omega
set_option maxHeartbeats 2000000 in
theorem c_X3_fault (d : Nat) (hd : 3 ≤ d) (h : List AC) (g0 : h[0]? = some (ao 3 [vr 1, vr 3, vr 10, vr 25, vr 28])) (cnt : Int) (g1 : h[1]? = some (ao 0 [vr 2, vi cnt])) (rc : 0 ≤ cnt ∧ cnt ≤ 20) (sg : Nat → Int) (g2 : h[2]? = some (ai 0 20 sg)) (hs : sn sg) (a : Int) (ra : -2147483648 ≤ a ∧ a < 2147483648) : MF zX3_fault d [vr 0, vi a] h (V_fault (sga sg cnt) cnt a) h := by
  refine M0.of okX3_fault (Nat.le_of_ble_eq_true rfl) ?_
  refine AW.go 1 (pc' := 1) rfl ?_
  by_cases c0 : 0 ≤ a ∧ a ≤ 2
  · rcases (show a = 0 ∨ a = 1 ∨ a = 2 by omega) with rfl | rfl | rfl
    · refine AW.tin (tgt := 28) rfl (by exact ⟨by decide, by decide⟩) (by decide) (by decide) rfl (by decide) ?_
      refine AW.go 1 (pc' := 29) rfl ?_
      refine AW.getf (pn := 32) rfl rfl flX3_10 (by first | assumption | exact set_self (by first | assumption | exact set_self (by first | assumption | exact set_self (by assumption) | exact set_ne (by first | assumption | decide | omega) (by assumption)) | exact set_ne (by first | assumption | decide | omega) (by first | assumption | exact set_self (by assumption) | exact set_ne (by first | assumption | decide | omega) (by assumption))) | exact set_ne (by first | assumption | decide | omega) (by first | assumption | exact set_self (by first | assumption | exact set_self (by assumption) | exact set_ne (by first | assumption | decide | omega) (by assumption)) | exact set_ne (by first | assumption | decide | omega) (by first | assumption | exact set_self (by assumption) | exact set_ne (by first | assumption | decide | omega) (by assumption)))) rfl ?_
      refine AW.go 1 (pc' := 33) rfl ?_
      refine AW.callVF (pn := 36) rfl rfl mlX3_50 (by first | assumption | exact set_self (by first | assumption | exact set_self (by first | assumption | exact set_self (by assumption) | exact set_ne (by first | assumption | decide | omega) (by assumption)) | exact set_ne (by first | assumption | decide | omega) (by first | assumption | exact set_self (by assumption) | exact set_ne (by first | assumption | decide | omega) (by assumption))) | exact set_ne (by first | assumption | decide | omega) (by first | assumption | exact set_self (by first | assumption | exact set_self (by assumption) | exact set_ne (by first | assumption | decide | omega) (by assumption)) | exact set_ne (by first | assumption | decide | omega) (by first | assumption | exact set_self (by assumption) | exact set_ne (by first | assumption | decide | omega) (by assumption)))) (c_X0_rowFault (d - 1) (by omega) _ _ (by first | assumption | exact set_self (by first | assumption | exact set_self (by first | assumption | exact set_self (by assumption) | exact set_ne (by first | assumption | decide | omega) (by assumption)) | exact set_ne (by first | assumption | decide | omega) (by first | assumption | exact set_self (by assumption) | exact set_ne (by first | assumption | decide | omega) (by assumption))) | exact set_ne (by first | assumption | decide | omega) (by first | assumption | exact set_self (by first | assumption | exact set_self (by assumption) | exact set_ne (by first | assumption | decide | omega) (by assumption)) | exact set_ne (by first | assumption | decide | omega) (by first | assumption | exact set_self (by assumption) | exact set_ne (by first | assumption | decide | omega) (by assumption)))) (by omega) _ (by first | assumption | exact set_self (by first | assumption | exact set_self (by first | assumption | exact set_self (by assumption) | exact set_ne (by first | assumption | decide | omega) (by assumption)) | exact set_ne (by first | assumption | decide | omega) (by first | assumption | exact set_self (by assumption) | exact set_ne (by first | assumption | decide | omega) (by assumption))) | exact set_ne (by first | assumption | decide | omega) (by first | assumption | exact set_self (by first | assumption | exact set_self (by assumption) | exact set_ne (by first | assumption | decide | omega) (by assumption)) | exact set_ne (by first | assumption | decide | omega) (by first | assumption | exact set_self (by assumption) | exact set_ne (by first | assumption | decide | omega) (by assumption)))) (by assumption) _ (by omega)) rfl rfl (Nat.le_of_ble_eq_true rfl) ⟨by show d - 1 + 1 ≤ d; omega, by show 40 * (d - 1 + 1) ≤ 40 * d; omega⟩ ⟨Nat.zero_le _, Nat.zero_le _⟩ ?_
      refine AW.ret rfl rfl (Nat.le_refl _) (Nat.le_refl _) ?_
      refine ⟨congrArg some ?_, rfl⟩
      unfold V_fault
      (repeat' split) <;> first | rfl | omega
    · refine AW.tin (tgt := 37) rfl (by exact ⟨by decide, by decide⟩) (by decide) (by decide) rfl (by decide) ?_
      refine AW.go 1 (pc' := 38) rfl ?_
      refine AW.getf (pn := 41) rfl rfl flX3_10 (by first | assumption | exact set_self (by first | assumption | exact set_self (by first | assumption | exact set_self (by assumption) | exact set_ne (by first | assumption | decide | omega) (by assumption)) | exact set_ne (by first | assumption | decide | omega) (by first | assumption | exact set_self (by assumption) | exact set_ne (by first | assumption | decide | omega) (by assumption))) | exact set_ne (by first | assumption | decide | omega) (by first | assumption | exact set_self (by first | assumption | exact set_self (by assumption) | exact set_ne (by first | assumption | decide | omega) (by assumption)) | exact set_ne (by first | assumption | decide | omega) (by first | assumption | exact set_self (by assumption) | exact set_ne (by first | assumption | decide | omega) (by assumption)))) rfl ?_
      refine AW.go 1 (pc' := 42) rfl ?_
      refine AW.callVF (pn := 45) rfl rfl mlX3_50 (by first | assumption | exact set_self (by first | assumption | exact set_self (by first | assumption | exact set_self (by assumption) | exact set_ne (by first | assumption | decide | omega) (by assumption)) | exact set_ne (by first | assumption | decide | omega) (by first | assumption | exact set_self (by assumption) | exact set_ne (by first | assumption | decide | omega) (by assumption))) | exact set_ne (by first | assumption | decide | omega) (by first | assumption | exact set_self (by first | assumption | exact set_self (by assumption) | exact set_ne (by first | assumption | decide | omega) (by assumption)) | exact set_ne (by first | assumption | decide | omega) (by first | assumption | exact set_self (by assumption) | exact set_ne (by first | assumption | decide | omega) (by assumption)))) (c_X0_rowFault (d - 1) (by omega) _ _ (by first | assumption | exact set_self (by first | assumption | exact set_self (by first | assumption | exact set_self (by assumption) | exact set_ne (by first | assumption | decide | omega) (by assumption)) | exact set_ne (by first | assumption | decide | omega) (by first | assumption | exact set_self (by assumption) | exact set_ne (by first | assumption | decide | omega) (by assumption))) | exact set_ne (by first | assumption | decide | omega) (by first | assumption | exact set_self (by first | assumption | exact set_self (by assumption) | exact set_ne (by first | assumption | decide | omega) (by assumption)) | exact set_ne (by first | assumption | decide | omega) (by first | assumption | exact set_self (by assumption) | exact set_ne (by first | assumption | decide | omega) (by assumption)))) (by omega) _ (by first | assumption | exact set_self (by first | assumption | exact set_self (by first | assumption | exact set_self (by assumption) | exact set_ne (by first | assumption | decide | omega) (by assumption)) | exact set_ne (by first | assumption | decide | omega) (by first | assumption | exact set_self (by assumption) | exact set_ne (by first | assumption | decide | omega) (by assumption))) | exact set_ne (by first | assumption | decide | omega) (by first | assumption | exact set_self (by first | assumption | exact set_self (by assumption) | exact set_ne (by first | assumption | decide | omega) (by assumption)) | exact set_ne (by first | assumption | decide | omega) (by first | assumption | exact set_self (by assumption) | exact set_ne (by first | assumption | decide | omega) (by assumption)))) (by assumption) _ (by omega)) rfl rfl (Nat.le_of_ble_eq_true rfl) ⟨by show d - 1 + 1 ≤ d; omega, by show 40 * (d - 1 + 1) ≤ 40 * d; omega⟩ ⟨Nat.zero_le _, Nat.zero_le _⟩ ?_
      refine AW.ret rfl rfl (Nat.le_refl _) (Nat.le_refl _) ?_
      refine ⟨congrArg some ?_, rfl⟩
      unfold V_fault
      (repeat' split) <;> first | rfl | omega
    · refine AW.tin (tgt := 46) rfl (by exact ⟨by decide, by decide⟩) (by decide) (by decide) rfl (by decide) ?_
      refine AW.go 1 (pc' := 47) rfl ?_
      refine AW.getf (pn := 50) rfl rfl flX3_10 (by first | assumption | exact set_self (by first | assumption | exact set_self (by first | assumption | exact set_self (by assumption) | exact set_ne (by first | assumption | decide | omega) (by assumption)) | exact set_ne (by first | assumption | decide | omega) (by first | assumption | exact set_self (by assumption) | exact set_ne (by first | assumption | decide | omega) (by assumption))) | exact set_ne (by first | assumption | decide | omega) (by first | assumption | exact set_self (by first | assumption | exact set_self (by assumption) | exact set_ne (by first | assumption | decide | omega) (by assumption)) | exact set_ne (by first | assumption | decide | omega) (by first | assumption | exact set_self (by assumption) | exact set_ne (by first | assumption | decide | omega) (by assumption)))) rfl ?_
      refine AW.callVF (pn := 53) rfl rfl mlX3_54 (by first | assumption | exact set_self (by first | assumption | exact set_self (by first | assumption | exact set_self (by assumption) | exact set_ne (by first | assumption | decide | omega) (by assumption)) | exact set_ne (by first | assumption | decide | omega) (by first | assumption | exact set_self (by assumption) | exact set_ne (by first | assumption | decide | omega) (by assumption))) | exact set_ne (by first | assumption | decide | omega) (by first | assumption | exact set_self (by first | assumption | exact set_self (by assumption) | exact set_ne (by first | assumption | decide | omega) (by assumption)) | exact set_ne (by first | assumption | decide | omega) (by first | assumption | exact set_self (by assumption) | exact set_ne (by first | assumption | decide | omega) (by assumption)))) (c_X0_formFault (d - 1) (by omega) _ _ (by first | assumption | exact set_self (by first | assumption | exact set_self (by first | assumption | exact set_self (by assumption) | exact set_ne (by first | assumption | decide | omega) (by assumption)) | exact set_ne (by first | assumption | decide | omega) (by first | assumption | exact set_self (by assumption) | exact set_ne (by first | assumption | decide | omega) (by assumption))) | exact set_ne (by first | assumption | decide | omega) (by first | assumption | exact set_self (by first | assumption | exact set_self (by assumption) | exact set_ne (by first | assumption | decide | omega) (by assumption)) | exact set_ne (by first | assumption | decide | omega) (by first | assumption | exact set_self (by assumption) | exact set_ne (by first | assumption | decide | omega) (by assumption)))) (by omega) _ (by first | assumption | exact set_self (by first | assumption | exact set_self (by first | assumption | exact set_self (by assumption) | exact set_ne (by first | assumption | decide | omega) (by assumption)) | exact set_ne (by first | assumption | decide | omega) (by first | assumption | exact set_self (by assumption) | exact set_ne (by first | assumption | decide | omega) (by assumption))) | exact set_ne (by first | assumption | decide | omega) (by first | assumption | exact set_self (by first | assumption | exact set_self (by assumption) | exact set_ne (by first | assumption | decide | omega) (by assumption)) | exact set_ne (by first | assumption | decide | omega) (by first | assumption | exact set_self (by assumption) | exact set_ne (by first | assumption | decide | omega) (by assumption)))) (by assumption) ) rfl rfl (Nat.le_of_ble_eq_true rfl) ⟨by show d - 1 + 1 ≤ d; omega, by show 40 * (d - 1 + 1) ≤ 40 * d; omega⟩ ⟨Nat.zero_le _, Nat.zero_le _⟩ ?_
      refine AW.ret rfl rfl (Nat.le_refl _) (Nat.le_refl _) ?_
      refine ⟨congrArg some ?_, rfl⟩
      unfold V_fault
      (repeat' split) <;> first | rfl | omega
  · refine AW.tout (tgt := 54) rfl (by exact ⟨by omega, by omega⟩) (by omega) (by decide) ?_
    refine AW.go 1 (pc' := 56) rfl ?_
    refine AW.ret rfl rfl (Nat.le_refl _) (Nat.le_refl _) ?_
    refine ⟨congrArg some ?_, rfl⟩
    unfold V_fault
    (repeat' split) <;> first | rfl | omega
set_option maxHeartbeats 2000000 in
theorem c_X3_load (d : Nat) (hd : 3 ≤ d) (h : List AC) (g0 : h[0]? = some (ao 3 [vr 1, vr 3, vr 10, vr 25, vr 28])) (kp : Int) (g3 : h[3]? = some (ao 2 [vr 4, vr 9, vi kp])) (g4 : h[4]? = some (aq 3 4 rw4)) (m : Nat → Int) (hm : mt m) (hR : ∀ r : Int, 0 ≤ r → r < 4 → h[5 + r.toNat]? = some (ai 0 12 (rwm m r))) (cnt : Int) (g1 : h[1]? = some (ao 0 [vr 2, vi cnt])) (rc : 0 ≤ cnt ∧ cnt ≤ 20) (sg : Nat → Int) (g2 : h[2]? = some (ai 0 20 sg)) (hs : sn sg) (r : Int) (rr : -2147483648 ≤ r ∧ r < 2147483648) : M0 zX3_load d [vr 0, vi r] h (fun v u => (v = some (if 0 ≤ r ∧ r < 4 then (if rft (sga sg cnt) cnt 0 12 0 0 = -6 then 1 else -5) else -1)) ∧ u = if (0 ≤ r ∧ r < 4) ∧ rft (sga sg cnt) cnt 0 12 0 0 = -6 then (h.set (5 + r.toNat) (ai 0 12 (mix (fun j => tof (sga sg cnt (j : Int))) (rwm m r) 12))).set 1 (ao 0 [vr 2, vi 0]) else h) := by
  refine M0.of okX3_load (Nat.le_of_ble_eq_true rfl) ?_
  refine AW.go 1 (pc' := 1) rfl ?_
  refine AW.callSF (pn := 4) rfl rfl mlX3_57 (c_X3_isRow (d - 1) (by omega) _ _ (by omega)) rfl rfl (Nat.le_of_ble_eq_true rfl) ⟨by show d - 1 + 1 ≤ d; omega, by show 40 * (d - 1 + 1) ≤ 40 * d; omega⟩ ⟨Nat.zero_le _, Nat.zero_le _⟩ ?_
  refine AW.bnz (tgt := 9) (pn := 7) rfl (by decide) rfl (fun c4 => ?_) (fun c4 => ?_)
  · have hwr := hR r (by omega) (by omega)
    have htr := rwm_tn hm (r := r) (by omega)
    refine AW.go 1 (pc' := 10) rfl ?_
    refine AW.getf (pn := 13) rfl rfl flX3_10 (by first | assumption | exact set_self (by first | assumption | exact set_self (by first | assumption | exact set_self (by assumption) | exact set_ne (by first | assumption | decide | omega) (by assumption)) | exact set_ne (by first | assumption | decide | omega) (by first | assumption | exact set_self (by assumption) | exact set_ne (by first | assumption | decide | omega) (by assumption))) | exact set_ne (by first | assumption | decide | omega) (by first | assumption | exact set_self (by first | assumption | exact set_self (by assumption) | exact set_ne (by first | assumption | decide | omega) (by assumption)) | exact set_ne (by first | assumption | decide | omega) (by first | assumption | exact set_self (by assumption) | exact set_ne (by first | assumption | decide | omega) (by assumption)))) rfl ?_
    refine AW.go 1 (pc' := 14) rfl ?_
    refine AW.callVF (pn := 17) rfl rfl mlX3_50 (by first | assumption | exact set_self (by first | assumption | exact set_self (by first | assumption | exact set_self (by assumption) | exact set_ne (by first | assumption | decide | omega) (by assumption)) | exact set_ne (by first | assumption | decide | omega) (by first | assumption | exact set_self (by assumption) | exact set_ne (by first | assumption | decide | omega) (by assumption))) | exact set_ne (by first | assumption | decide | omega) (by first | assumption | exact set_self (by first | assumption | exact set_self (by assumption) | exact set_ne (by first | assumption | decide | omega) (by assumption)) | exact set_ne (by first | assumption | decide | omega) (by first | assumption | exact set_self (by assumption) | exact set_ne (by first | assumption | decide | omega) (by assumption)))) (c_X0_rowFault (d - 1) (by omega) _ _ (by first | assumption | exact set_self (by first | assumption | exact set_self (by first | assumption | exact set_self (by assumption) | exact set_ne (by first | assumption | decide | omega) (by assumption)) | exact set_ne (by first | assumption | decide | omega) (by first | assumption | exact set_self (by assumption) | exact set_ne (by first | assumption | decide | omega) (by assumption))) | exact set_ne (by first | assumption | decide | omega) (by first | assumption | exact set_self (by first | assumption | exact set_self (by assumption) | exact set_ne (by first | assumption | decide | omega) (by assumption)) | exact set_ne (by first | assumption | decide | omega) (by first | assumption | exact set_self (by assumption) | exact set_ne (by first | assumption | decide | omega) (by assumption)))) (by omega) _ (by first | assumption | exact set_self (by first | assumption | exact set_self (by first | assumption | exact set_self (by assumption) | exact set_ne (by first | assumption | decide | omega) (by assumption)) | exact set_ne (by first | assumption | decide | omega) (by first | assumption | exact set_self (by assumption) | exact set_ne (by first | assumption | decide | omega) (by assumption))) | exact set_ne (by first | assumption | decide | omega) (by first | assumption | exact set_self (by first | assumption | exact set_self (by assumption) | exact set_ne (by first | assumption | decide | omega) (by assumption)) | exact set_ne (by first | assumption | decide | omega) (by first | assumption | exact set_self (by assumption) | exact set_ne (by first | assumption | decide | omega) (by assumption)))) (by assumption) _ (by omega)) rfl rfl (Nat.le_of_ble_eq_true rfl) ⟨by show d - 1 + 1 ≤ d; omega, by show 40 * (d - 1 + 1) ≤ 40 * d; omega⟩ ⟨Nat.zero_le _, Nat.zero_le _⟩ ?_
    have b0 := rft_b (sga sg cnt) cnt 0 12 0 0 (by omega) (by omega)
    refine AW.go 1 (pc' := 19) rfl ?_
    refine AW.bi (tgt := 25) (pn := 22) rfl (by decide) rfl (by first | exact bI_rng _ | exact ⟨by omega, by omega⟩) (by first | exact bI_rng _ | exact ⟨by omega, by omega⟩) (fun c19 => ?_) (fun c19 => ?_)
    · dsimp only [cmpI] at c19
      refine AW.go 1 (pc' := 26) rfl ?_
      refine AW.getf (pn := 29) rfl rfl flX3_10 (by first | assumption | exact set_self (by first | assumption | exact set_self (by first | assumption | exact set_self (by assumption) | exact set_ne (by first | assumption | decide | omega) (by assumption)) | exact set_ne (by first | assumption | decide | omega) (by first | assumption | exact set_self (by assumption) | exact set_ne (by first | assumption | decide | omega) (by assumption))) | exact set_ne (by first | assumption | decide | omega) (by first | assumption | exact set_self (by first | assumption | exact set_self (by assumption) | exact set_ne (by first | assumption | decide | omega) (by assumption)) | exact set_ne (by first | assumption | decide | omega) (by first | assumption | exact set_self (by assumption) | exact set_ne (by first | assumption | decide | omega) (by assumption)))) rfl ?_
      refine AW.go 1 (pc' := 30) rfl ?_
      refine AW.getf (pn := 33) rfl rfl flX3_19 (by first | assumption | exact set_self (by first | assumption | exact set_self (by first | assumption | exact set_self (by assumption) | exact set_ne (by first | assumption | decide | omega) (by assumption)) | exact set_ne (by first | assumption | decide | omega) (by first | assumption | exact set_self (by assumption) | exact set_ne (by first | assumption | decide | omega) (by assumption))) | exact set_ne (by first | assumption | decide | omega) (by first | assumption | exact set_self (by first | assumption | exact set_self (by assumption) | exact set_ne (by first | assumption | decide | omega) (by assumption)) | exact set_ne (by first | assumption | decide | omega) (by first | assumption | exact set_self (by assumption) | exact set_ne (by first | assumption | decide | omega) (by assumption)))) rfl ?_
      refine AW.getf (pn := 36) rfl rfl flX3_61 (by first | assumption | exact set_self (by first | assumption | exact set_self (by first | assumption | exact set_self (by assumption) | exact set_ne (by first | assumption | decide | omega) (by assumption)) | exact set_ne (by first | assumption | decide | omega) (by first | assumption | exact set_self (by assumption) | exact set_ne (by first | assumption | decide | omega) (by assumption))) | exact set_ne (by first | assumption | decide | omega) (by first | assumption | exact set_self (by first | assumption | exact set_self (by assumption) | exact set_ne (by first | assumption | decide | omega) (by assumption)) | exact set_ne (by first | assumption | decide | omega) (by first | assumption | exact set_self (by assumption) | exact set_ne (by first | assumption | decide | omega) (by assumption)))) rfl ?_
      refine AW.go 1 (pc' := 37) rfl ?_
      refine AW.aald (pn := 38) rfl rfl (by first | assumption | exact set_self (by first | assumption | exact set_self (by first | assumption | exact set_self (by assumption) | exact set_ne (by first | assumption | decide | omega) (by assumption)) | exact set_ne (by first | assumption | decide | omega) (by first | assumption | exact set_self (by assumption) | exact set_ne (by first | assumption | decide | omega) (by assumption))) | exact set_ne (by first | assumption | decide | omega) (by first | assumption | exact set_self (by first | assumption | exact set_self (by assumption) | exact set_ne (by first | assumption | decide | omega) (by assumption)) | exact set_ne (by first | assumption | decide | omega) (by first | assumption | exact set_self (by assumption) | exact set_ne (by first | assumption | decide | omega) (by assumption)))) (by decide) (by decide) (by omega) (by omega) (rw4_at (by omega)) ?_
      refine AW.callVV (pn := 41) rfl rfl mlX3_65 (by first | assumption | exact set_self (by first | assumption | exact set_self (by first | assumption | exact set_self (by assumption) | exact set_ne (by first | assumption | decide | omega) (by assumption)) | exact set_ne (by first | assumption | decide | omega) (by first | assumption | exact set_self (by assumption) | exact set_ne (by first | assumption | decide | omega) (by assumption))) | exact set_ne (by first | assumption | decide | omega) (by first | assumption | exact set_self (by first | assumption | exact set_self (by assumption) | exact set_ne (by first | assumption | decide | omega) (by assumption)) | exact set_ne (by first | assumption | decide | omega) (by first | assumption | exact set_self (by assumption) | exact set_ne (by first | assumption | decide | omega) (by assumption)))) (c_X0_copyTones (d - 1) (by omega) _ _ (by first | assumption | exact set_self (by first | assumption | exact set_self (by first | assumption | exact set_self (by assumption) | exact set_ne (by first | assumption | decide | omega) (by assumption)) | exact set_ne (by first | assumption | decide | omega) (by first | assumption | exact set_self (by assumption) | exact set_ne (by first | assumption | decide | omega) (by assumption))) | exact set_ne (by first | assumption | decide | omega) (by first | assumption | exact set_self (by first | assumption | exact set_self (by assumption) | exact set_ne (by first | assumption | decide | omega) (by assumption)) | exact set_ne (by first | assumption | decide | omega) (by first | assumption | exact set_self (by assumption) | exact set_ne (by first | assumption | decide | omega) (by assumption)))) (by omega) _ (by first | assumption | exact set_self (by first | assumption | exact set_self (by first | assumption | exact set_self (by assumption) | exact set_ne (by first | assumption | decide | omega) (by assumption)) | exact set_ne (by first | assumption | decide | omega) (by first | assumption | exact set_self (by assumption) | exact set_ne (by first | assumption | decide | omega) (by assumption))) | exact set_ne (by first | assumption | decide | omega) (by first | assumption | exact set_self (by first | assumption | exact set_self (by assumption) | exact set_ne (by first | assumption | decide | omega) (by assumption)) | exact set_ne (by first | assumption | decide | omega) (by first | assumption | exact set_self (by assumption) | exact set_ne (by first | assumption | decide | omega) (by assumption)))) (by assumption) _ _ (by first | assumption | exact set_self (by first | assumption | exact set_self (by first | assumption | exact set_self (by assumption) | exact set_ne (by first | assumption | decide | omega) (by assumption)) | exact set_ne (by first | assumption | decide | omega) (by first | assumption | exact set_self (by assumption) | exact set_ne (by first | assumption | decide | omega) (by assumption))) | exact set_ne (by first | assumption | decide | omega) (by first | assumption | exact set_self (by first | assumption | exact set_self (by assumption) | exact set_ne (by first | assumption | decide | omega) (by assumption)) | exact set_ne (by first | assumption | decide | omega) (by first | assumption | exact set_self (by assumption) | exact set_ne (by first | assumption | decide | omega) (by assumption)))) (by first | decide | omega) (by first | decide | omega)) rfl rfl (Nat.le_of_ble_eq_true rfl) ⟨by show d - 1 + 1 ≤ d; omega, by show 40 * (d - 1 + 1) ≤ 40 * d; omega⟩ ⟨Nat.zero_le _, Nat.zero_le _⟩ ?_
      refine AW.go 1 (pc' := 42) rfl ?_
      refine AW.getf (pn := 45) rfl rfl flX3_10 (by first | assumption | exact set_self (by first | assumption | exact set_self (by first | assumption | exact set_self (by assumption) | exact set_ne (by first | assumption | decide | omega) (by assumption)) | exact set_ne (by first | assumption | decide | omega) (by first | assumption | exact set_self (by assumption) | exact set_ne (by first | assumption | decide | omega) (by assumption))) | exact set_ne (by first | assumption | decide | omega) (by first | assumption | exact set_self (by first | assumption | exact set_self (by assumption) | exact set_ne (by first | assumption | decide | omega) (by assumption)) | exact set_ne (by first | assumption | decide | omega) (by first | assumption | exact set_self (by assumption) | exact set_ne (by first | assumption | decide | omega) (by assumption)))) rfl ?_
      refine AW.callVF (pn := 48) rfl rfl mlX3_46 (by first | assumption | exact set_self (by first | assumption | exact set_self (by first | assumption | exact set_self (by assumption) | exact set_ne (by first | assumption | decide | omega) (by assumption)) | exact set_ne (by first | assumption | decide | omega) (by first | assumption | exact set_self (by assumption) | exact set_ne (by first | assumption | decide | omega) (by assumption))) | exact set_ne (by first | assumption | decide | omega) (by first | assumption | exact set_self (by first | assumption | exact set_self (by assumption) | exact set_ne (by first | assumption | decide | omega) (by assumption)) | exact set_ne (by first | assumption | decide | omega) (by first | assumption | exact set_self (by assumption) | exact set_ne (by first | assumption | decide | omega) (by assumption)))) (c_X0_empty (d - 1) (by omega) _ _ (by first | assumption | exact set_self (by first | assumption | exact set_self (by first | assumption | exact set_self (by assumption) | exact set_ne (by first | assumption | decide | omega) (by assumption)) | exact set_ne (by first | assumption | decide | omega) (by first | assumption | exact set_self (by assumption) | exact set_ne (by first | assumption | decide | omega) (by assumption))) | exact set_ne (by first | assumption | decide | omega) (by first | assumption | exact set_self (by first | assumption | exact set_self (by assumption) | exact set_ne (by first | assumption | decide | omega) (by assumption)) | exact set_ne (by first | assumption | decide | omega) (by first | assumption | exact set_self (by assumption) | exact set_ne (by first | assumption | decide | omega) (by assumption)))) (by omega) _ (by first | assumption | exact set_self (by first | assumption | exact set_self (by first | assumption | exact set_self (by assumption) | exact set_ne (by first | assumption | decide | omega) (by assumption)) | exact set_ne (by first | assumption | decide | omega) (by first | assumption | exact set_self (by assumption) | exact set_ne (by first | assumption | decide | omega) (by assumption))) | exact set_ne (by first | assumption | decide | omega) (by first | assumption | exact set_self (by first | assumption | exact set_self (by assumption) | exact set_ne (by first | assumption | decide | omega) (by assumption)) | exact set_ne (by first | assumption | decide | omega) (by first | assumption | exact set_self (by assumption) | exact set_ne (by first | assumption | decide | omega) (by assumption)))) (by assumption) ) rfl rfl (Nat.le_of_ble_eq_true rfl) ⟨by show d - 1 + 1 ≤ d; omega, by show 40 * (d - 1 + 1) ≤ 40 * d; omega⟩ ⟨Nat.zero_le _, Nat.zero_le _⟩ ?_
      refine AW.go 2 (pc' := 50) rfl ?_
      refine AW.ret rfl rfl (Nat.le_refl _) (Nat.le_refl _) ?_
      refine ⟨congrArg some ?_, ?_⟩
      · (repeat' split) <;> first | rfl | omega
      · first | rw [if_pos (by omega)] | rw [if_neg (by omega)]
    · dsimp only [cmpI] at c19
      refine AW.go 1 (pc' := 24) rfl ?_
      refine AW.ret rfl rfl (Nat.le_refl _) (Nat.le_refl _) ?_
      refine ⟨congrArg some ?_, ?_⟩
      · (repeat' split) <;> first | rfl | omega
      · first | rw [if_pos (by omega)] | rw [if_neg (by omega)]
  · refine AW.go 1 (pc' := 8) rfl ?_
    refine AW.ret rfl rfl (Nat.le_refl _) (Nat.le_refl _) ?_
    refine ⟨congrArg some ?_, ?_⟩
    · (repeat' split) <;> first | rfl | omega
    · first | rw [if_pos (by omega)] | rw [if_neg (by omega)]
set_option maxHeartbeats 2000000 in
theorem c_X3_punch (d : Nat) (hd : 3 ≤ d) (h : List AC) (g0 : h[0]? = some (ao 3 [vr 1, vr 3, vr 10, vr 25, vr 28])) (kp : Int) (g3 : h[3]? = some (ao 2 [vr 4, vr 9, vi kp])) (g4 : h[4]? = some (aq 3 4 rw4)) (m : Nat → Int) (hm : mt m) (hR : ∀ r : Int, 0 ≤ r → r < 4 → h[5 + r.toNat]? = some (ai 0 12 (rwm m r))) (cnt : Int) (g1 : h[1]? = some (ao 0 [vr 2, vi cnt])) (rc : 0 ≤ cnt ∧ cnt ≤ 20) (sg : Nat → Int) (g2 : h[2]? = some (ai 0 20 sg)) (hs : sn sg) (pat : Nat → Int) (g9 : h[9]? = some (ai 0 12 pat)) : M0 zX3_punch d [vr 0] h (fun v u => (v = some (if rft (sga sg cnt) cnt 1 12 0 0 = -6 then (hol (mix (fun j => tof (sga sg cnt (j : Int))) pat 12) 12 : Int) else -5)) ∧ u = if rft (sga sg cnt) cnt 1 12 0 0 = -6 then (h.set 9 (ai 0 12 (mix (fun j => tof (sga sg cnt (j : Int))) pat 12))).set 1 (ao 0 [vr 2, vi 0]) else h) := by
  refine M0.of okX3_punch (Nat.le_of_ble_eq_true rfl) ?_
  refine AW.go 1 (pc' := 1) rfl ?_
  refine AW.getf (pn := 4) rfl rfl flX3_10 (by first | assumption | exact set_self (by first | assumption | exact set_self (by first | assumption | exact set_self (by assumption) | exact set_ne (by first | assumption | decide | omega) (by assumption)) | exact set_ne (by first | assumption | decide | omega) (by first | assumption | exact set_self (by assumption) | exact set_ne (by first | assumption | decide | omega) (by assumption))) | exact set_ne (by first | assumption | decide | omega) (by first | assumption | exact set_self (by first | assumption | exact set_self (by assumption) | exact set_ne (by first | assumption | decide | omega) (by assumption)) | exact set_ne (by first | assumption | decide | omega) (by first | assumption | exact set_self (by assumption) | exact set_ne (by first | assumption | decide | omega) (by assumption)))) rfl ?_
  refine AW.go 1 (pc' := 5) rfl ?_
  refine AW.callVF (pn := 8) rfl rfl mlX3_50 (by first | assumption | exact set_self (by first | assumption | exact set_self (by first | assumption | exact set_self (by assumption) | exact set_ne (by first | assumption | decide | omega) (by assumption)) | exact set_ne (by first | assumption | decide | omega) (by first | assumption | exact set_self (by assumption) | exact set_ne (by first | assumption | decide | omega) (by assumption))) | exact set_ne (by first | assumption | decide | omega) (by first | assumption | exact set_self (by first | assumption | exact set_self (by assumption) | exact set_ne (by first | assumption | decide | omega) (by assumption)) | exact set_ne (by first | assumption | decide | omega) (by first | assumption | exact set_self (by assumption) | exact set_ne (by first | assumption | decide | omega) (by assumption)))) (c_X0_rowFault (d - 1) (by omega) _ _ (by first | assumption | exact set_self (by first | assumption | exact set_self (by first | assumption | exact set_self (by assumption) | exact set_ne (by first | assumption | decide | omega) (by assumption)) | exact set_ne (by first | assumption | decide | omega) (by first | assumption | exact set_self (by assumption) | exact set_ne (by first | assumption | decide | omega) (by assumption))) | exact set_ne (by first | assumption | decide | omega) (by first | assumption | exact set_self (by first | assumption | exact set_self (by assumption) | exact set_ne (by first | assumption | decide | omega) (by assumption)) | exact set_ne (by first | assumption | decide | omega) (by first | assumption | exact set_self (by assumption) | exact set_ne (by first | assumption | decide | omega) (by assumption)))) (by omega) _ (by first | assumption | exact set_self (by first | assumption | exact set_self (by first | assumption | exact set_self (by assumption) | exact set_ne (by first | assumption | decide | omega) (by assumption)) | exact set_ne (by first | assumption | decide | omega) (by first | assumption | exact set_self (by assumption) | exact set_ne (by first | assumption | decide | omega) (by assumption))) | exact set_ne (by first | assumption | decide | omega) (by first | assumption | exact set_self (by first | assumption | exact set_self (by assumption) | exact set_ne (by first | assumption | decide | omega) (by assumption)) | exact set_ne (by first | assumption | decide | omega) (by first | assumption | exact set_self (by assumption) | exact set_ne (by first | assumption | decide | omega) (by assumption)))) (by assumption) _ (by omega)) rfl rfl (Nat.le_of_ble_eq_true rfl) ⟨by show d - 1 + 1 ≤ d; omega, by show 40 * (d - 1 + 1) ≤ 40 * d; omega⟩ ⟨Nat.zero_le _, Nat.zero_le _⟩ ?_
  have b0 := rft_b (sga sg cnt) cnt 1 12 0 0 (by omega) (by omega)
  refine AW.go 1 (pc' := 10) rfl ?_
  refine AW.bi (tgt := 16) (pn := 13) rfl (by decide) rfl (by first | exact bI_rng _ | exact ⟨by omega, by omega⟩) (by first | exact bI_rng _ | exact ⟨by omega, by omega⟩) (fun c10 => ?_) (fun c10 => ?_)
  · dsimp only [cmpI] at c10
    refine AW.go 1 (pc' := 17) rfl ?_
    refine AW.getf (pn := 20) rfl rfl flX3_10 (by first | assumption | exact set_self (by first | assumption | exact set_self (by first | assumption | exact set_self (by assumption) | exact set_ne (by first | assumption | decide | omega) (by assumption)) | exact set_ne (by first | assumption | decide | omega) (by first | assumption | exact set_self (by assumption) | exact set_ne (by first | assumption | decide | omega) (by assumption))) | exact set_ne (by first | assumption | decide | omega) (by first | assumption | exact set_self (by first | assumption | exact set_self (by assumption) | exact set_ne (by first | assumption | decide | omega) (by assumption)) | exact set_ne (by first | assumption | decide | omega) (by first | assumption | exact set_self (by assumption) | exact set_ne (by first | assumption | decide | omega) (by assumption)))) rfl ?_
    refine AW.go 1 (pc' := 21) rfl ?_
    refine AW.getf (pn := 24) rfl rfl flX3_19 (by first | assumption | exact set_self (by first | assumption | exact set_self (by first | assumption | exact set_self (by assumption) | exact set_ne (by first | assumption | decide | omega) (by assumption)) | exact set_ne (by first | assumption | decide | omega) (by first | assumption | exact set_self (by assumption) | exact set_ne (by first | assumption | decide | omega) (by assumption))) | exact set_ne (by first | assumption | decide | omega) (by first | assumption | exact set_self (by first | assumption | exact set_self (by assumption) | exact set_ne (by first | assumption | decide | omega) (by assumption)) | exact set_ne (by first | assumption | decide | omega) (by first | assumption | exact set_self (by assumption) | exact set_ne (by first | assumption | decide | omega) (by assumption)))) rfl ?_
    refine AW.getf (pn := 27) rfl rfl flX3_69 (by first | assumption | exact set_self (by first | assumption | exact set_self (by first | assumption | exact set_self (by assumption) | exact set_ne (by first | assumption | decide | omega) (by assumption)) | exact set_ne (by first | assumption | decide | omega) (by first | assumption | exact set_self (by assumption) | exact set_ne (by first | assumption | decide | omega) (by assumption))) | exact set_ne (by first | assumption | decide | omega) (by first | assumption | exact set_self (by first | assumption | exact set_self (by assumption) | exact set_ne (by first | assumption | decide | omega) (by assumption)) | exact set_ne (by first | assumption | decide | omega) (by first | assumption | exact set_self (by assumption) | exact set_ne (by first | assumption | decide | omega) (by assumption)))) rfl ?_
    refine AW.callVV (pn := 30) rfl rfl mlX3_65 (by first | assumption | exact set_self (by first | assumption | exact set_self (by first | assumption | exact set_self (by assumption) | exact set_ne (by first | assumption | decide | omega) (by assumption)) | exact set_ne (by first | assumption | decide | omega) (by first | assumption | exact set_self (by assumption) | exact set_ne (by first | assumption | decide | omega) (by assumption))) | exact set_ne (by first | assumption | decide | omega) (by first | assumption | exact set_self (by first | assumption | exact set_self (by assumption) | exact set_ne (by first | assumption | decide | omega) (by assumption)) | exact set_ne (by first | assumption | decide | omega) (by first | assumption | exact set_self (by assumption) | exact set_ne (by first | assumption | decide | omega) (by assumption)))) (c_X0_copyTones (d - 1) (by omega) _ _ (by first | assumption | exact set_self (by first | assumption | exact set_self (by first | assumption | exact set_self (by assumption) | exact set_ne (by first | assumption | decide | omega) (by assumption)) | exact set_ne (by first | assumption | decide | omega) (by first | assumption | exact set_self (by assumption) | exact set_ne (by first | assumption | decide | omega) (by assumption))) | exact set_ne (by first | assumption | decide | omega) (by first | assumption | exact set_self (by first | assumption | exact set_self (by assumption) | exact set_ne (by first | assumption | decide | omega) (by assumption)) | exact set_ne (by first | assumption | decide | omega) (by first | assumption | exact set_self (by assumption) | exact set_ne (by first | assumption | decide | omega) (by assumption)))) (by omega) _ (by first | assumption | exact set_self (by first | assumption | exact set_self (by first | assumption | exact set_self (by assumption) | exact set_ne (by first | assumption | decide | omega) (by assumption)) | exact set_ne (by first | assumption | decide | omega) (by first | assumption | exact set_self (by assumption) | exact set_ne (by first | assumption | decide | omega) (by assumption))) | exact set_ne (by first | assumption | decide | omega) (by first | assumption | exact set_self (by first | assumption | exact set_self (by assumption) | exact set_ne (by first | assumption | decide | omega) (by assumption)) | exact set_ne (by first | assumption | decide | omega) (by first | assumption | exact set_self (by assumption) | exact set_ne (by first | assumption | decide | omega) (by assumption)))) (by assumption) _ _ (by first | assumption | exact set_self (by first | assumption | exact set_self (by first | assumption | exact set_self (by assumption) | exact set_ne (by first | assumption | decide | omega) (by assumption)) | exact set_ne (by first | assumption | decide | omega) (by first | assumption | exact set_self (by assumption) | exact set_ne (by first | assumption | decide | omega) (by assumption))) | exact set_ne (by first | assumption | decide | omega) (by first | assumption | exact set_self (by first | assumption | exact set_self (by assumption) | exact set_ne (by first | assumption | decide | omega) (by assumption)) | exact set_ne (by first | assumption | decide | omega) (by first | assumption | exact set_self (by assumption) | exact set_ne (by first | assumption | decide | omega) (by assumption)))) (by first | decide | omega) (by first | decide | omega)) rfl rfl (Nat.le_of_ble_eq_true rfl) ⟨by show d - 1 + 1 ≤ d; omega, by show 40 * (d - 1 + 1) ≤ 40 * d; omega⟩ ⟨Nat.zero_le _, Nat.zero_le _⟩ ?_
    refine AW.go 1 (pc' := 31) rfl ?_
    refine AW.getf (pn := 34) rfl rfl flX3_10 (by first | assumption | exact set_self (by first | assumption | exact set_self (by first | assumption | exact set_self (by assumption) | exact set_ne (by first | assumption | decide | omega) (by assumption)) | exact set_ne (by first | assumption | decide | omega) (by first | assumption | exact set_self (by assumption) | exact set_ne (by first | assumption | decide | omega) (by assumption))) | exact set_ne (by first | assumption | decide | omega) (by first | assumption | exact set_self (by first | assumption | exact set_self (by assumption) | exact set_ne (by first | assumption | decide | omega) (by assumption)) | exact set_ne (by first | assumption | decide | omega) (by first | assumption | exact set_self (by assumption) | exact set_ne (by first | assumption | decide | omega) (by assumption)))) rfl ?_
    refine AW.callVF (pn := 37) rfl rfl mlX3_46 (by first | assumption | exact set_self (by first | assumption | exact set_self (by first | assumption | exact set_self (by assumption) | exact set_ne (by first | assumption | decide | omega) (by assumption)) | exact set_ne (by first | assumption | decide | omega) (by first | assumption | exact set_self (by assumption) | exact set_ne (by first | assumption | decide | omega) (by assumption))) | exact set_ne (by first | assumption | decide | omega) (by first | assumption | exact set_self (by first | assumption | exact set_self (by assumption) | exact set_ne (by first | assumption | decide | omega) (by assumption)) | exact set_ne (by first | assumption | decide | omega) (by first | assumption | exact set_self (by assumption) | exact set_ne (by first | assumption | decide | omega) (by assumption)))) (c_X0_empty (d - 1) (by omega) _ _ (by first | assumption | exact set_self (by first | assumption | exact set_self (by first | assumption | exact set_self (by assumption) | exact set_ne (by first | assumption | decide | omega) (by assumption)) | exact set_ne (by first | assumption | decide | omega) (by first | assumption | exact set_self (by assumption) | exact set_ne (by first | assumption | decide | omega) (by assumption))) | exact set_ne (by first | assumption | decide | omega) (by first | assumption | exact set_self (by first | assumption | exact set_self (by assumption) | exact set_ne (by first | assumption | decide | omega) (by assumption)) | exact set_ne (by first | assumption | decide | omega) (by first | assumption | exact set_self (by assumption) | exact set_ne (by first | assumption | decide | omega) (by assumption)))) (by omega) _ (by first | assumption | exact set_self (by first | assumption | exact set_self (by first | assumption | exact set_self (by assumption) | exact set_ne (by first | assumption | decide | omega) (by assumption)) | exact set_ne (by first | assumption | decide | omega) (by first | assumption | exact set_self (by assumption) | exact set_ne (by first | assumption | decide | omega) (by assumption))) | exact set_ne (by first | assumption | decide | omega) (by first | assumption | exact set_self (by first | assumption | exact set_self (by assumption) | exact set_ne (by first | assumption | decide | omega) (by assumption)) | exact set_ne (by first | assumption | decide | omega) (by first | assumption | exact set_self (by assumption) | exact set_ne (by first | assumption | decide | omega) (by assumption)))) (by assumption) ) rfl rfl (Nat.le_of_ble_eq_true rfl) ⟨by show d - 1 + 1 ≤ d; omega, by show 40 * (d - 1 + 1) ≤ 40 * d; omega⟩ ⟨Nat.zero_le _, Nat.zero_le _⟩ ?_
    refine AW.go 2 (pc' := 39) rfl ?_
    refine AW.getf (pn := 42) rfl rfl flX3_19 (by first | assumption | exact set_self (by first | assumption | exact set_self (by first | assumption | exact set_self (by assumption) | exact set_ne (by first | assumption | decide | omega) (by assumption)) | exact set_ne (by first | assumption | decide | omega) (by first | assumption | exact set_self (by assumption) | exact set_ne (by first | assumption | decide | omega) (by assumption))) | exact set_ne (by first | assumption | decide | omega) (by first | assumption | exact set_self (by first | assumption | exact set_self (by assumption) | exact set_ne (by first | assumption | decide | omega) (by assumption)) | exact set_ne (by first | assumption | decide | omega) (by first | assumption | exact set_self (by assumption) | exact set_ne (by first | assumption | decide | omega) (by assumption)))) rfl ?_
    refine AW.getf (pn := 45) rfl rfl flX3_69 (by first | assumption | exact set_self (by first | assumption | exact set_self (by first | assumption | exact set_self (by assumption) | exact set_ne (by first | assumption | decide | omega) (by assumption)) | exact set_ne (by first | assumption | decide | omega) (by first | assumption | exact set_self (by assumption) | exact set_ne (by first | assumption | decide | omega) (by assumption))) | exact set_ne (by first | assumption | decide | omega) (by first | assumption | exact set_self (by first | assumption | exact set_self (by assumption) | exact set_ne (by first | assumption | decide | omega) (by assumption)) | exact set_ne (by first | assumption | decide | omega) (by first | assumption | exact set_self (by assumption) | exact set_ne (by first | assumption | decide | omega) (by assumption)))) rfl ?_
    have hpm : pn (mix (fun j => tof (sga sg cnt (j : Int))) pat 12) := fun j hj => by rw [mix_in hj]; exact tof_b _
    refine AW.callSF (pn := 48) rfl rfl mlX3_72 (c_X3_holesOf (d - 1) (by omega) _ _ _ (by first | assumption | exact set_self (by first | assumption | exact set_self (by first | assumption | exact set_self (by assumption) | exact set_ne (by first | assumption | decide | omega) (by assumption)) | exact set_ne (by first | assumption | decide | omega) (by first | assumption | exact set_self (by assumption) | exact set_ne (by first | assumption | decide | omega) (by assumption))) | exact set_ne (by first | assumption | decide | omega) (by first | assumption | exact set_self (by first | assumption | exact set_self (by assumption) | exact set_ne (by first | assumption | decide | omega) (by assumption)) | exact set_ne (by first | assumption | decide | omega) (by first | assumption | exact set_self (by assumption) | exact set_ne (by first | assumption | decide | omega) (by assumption)))) hpm) rfl rfl (Nat.le_of_ble_eq_true rfl) ⟨by show d - 1 + 1 ≤ d; omega, by show 40 * (d - 1 + 1) ≤ 40 * d; omega⟩ ⟨Nat.zero_le _, Nat.zero_le _⟩ ?_
    refine AW.ret rfl rfl (Nat.le_refl _) (Nat.le_refl _) ?_
    refine ⟨congrArg some ?_, ?_⟩
    · (repeat' split) <;> first | rfl | omega
    · first | rw [if_pos (by omega)] | rw [if_neg (by omega)]
  · dsimp only [cmpI] at c10
    refine AW.go 1 (pc' := 15) rfl ?_
    refine AW.ret rfl rfl (Nat.le_refl _) (Nat.le_refl _) ?_
    refine ⟨congrArg some ?_, ?_⟩
    · (repeat' split) <;> first | rfl | omega
    · first | rw [if_pos (by omega)] | rw [if_neg (by omega)]
end
section
def rwS (S : Nat) : Nat → Option Nat := fun i => if i < 4 then some (S + 2 + i) else none
theorem rwS_at {S : Nat} {a : Int} (h : 0 ≤ a ∧ a < 4) : rwS S a.toNat = some (S + 2 + a.toNat) := if_pos (by omega)
def imS : Nat → Option Nat := fun i => if i < 2 then some (11 + 7 * i) else none
theorem imS_at {a : Int} (h : 0 ≤ a ∧ a < 2) : imS a.toNat = some (11 + 7 * a.toNat) := if_pos (by omega)
/-- a store of a shelf and a pattern, at S -/
def St (h : List AC) (S : Nat) (kp : Int) (f : Nat → Nat → Int) (p : Nat → Int) : Prop :=
  h[S]? = some (ao 2 [vr (S + 1), vr (S + 6), vi kp]) ∧ h[S + 1]? = some (aq 3 4 (rwS S)) ∧ (∀ i : Nat, i < 4 → h[S + 2 + i]? = some (ai 0 12 (f i))) ∧ h[S + 6]? = some (ai 0 12 p)
theorem St.kept {h u : List AC} {S : Nat} {kp : Int} {f : Nat → Nat → Int} {p : Nat → Int} (a : St h S kp f p) (e : ∀ j : Nat, S ≤ j → j < S + 7 → u[j]? = h[j]?) : St u S kp f p :=
  ⟨by rw [e S (by omega) (by omega)]; exact a.1, by rw [e (S + 1) (by omega) (by omega)]; exact a.2.1, fun i hi => by rw [e (S + 2 + i) (by omega) (by omega)]; exact a.2.2.1 i hi, by rw [e (S + 6) (by omega) (by omega)]; exact a.2.2.2⟩
abbrev cpy12 (g f : Nat → Int) : Nat → Int := va_cpy g f 0 0 12
theorem set_out {h : List AC} {i j : Nat} {c : AC} (hij : i ≠ j) : (h.set i c)[j]? = h[j]? := List.getElem?_set_ne hij

theorem AW.post {z : ZM} {G : GG} {R : Room} {MC MS k n pc : Nat} {ls : List (Nat × AV)} {st : List AV} {h : List AC} {Q Q' : Option Int → List AC → Prop} (kk : AW z G R MC MS k n pc ls st h Q) (hq : ∀ v u, Q v u → Q' v u) : AW z G R MC MS k n pc ls st h Q' := by
  intro p l e s m args below meth c D τ A ρ0 ρ Zf C hK hA hG hZ H locs lsA hP hD hS hl
  exact kk p l e s m args below meth c D τ A ρ0 ρ Zf C hK hA hG (fun v h' ρ' H' locs' ls' pc' q => hZ v h' ρ' H' locs' ls' pc' (hq v h' q)) H locs lsA hP hD hS hl
set_option maxHeartbeats 4000000 in
theorem l_X2_copyFrom (d : Nat) (hd : 1 ≤ d) (h : List AC) (S T : Nat) (hST : S + 7 ≤ T ∨ T + 7 ≤ S) (k1 k2 : Int) (f g : Nat → Nat → Int) (p q : Nat → Int) (sS : St h S k1 f p) (sT : St h T k2 g q) : ∀ (n : Nat) (k : Int) (u : List AC), (0 ≤ k) → (k ≤ 4) → (u.length = h.length) → (∀ j : Nat, (j < S + 2 ∨ S + 2 + k.toNat ≤ j) → u[j]? = h[j]?) → (∀ i : Nat, i < k.toNat → u[S + 2 + i]? = some (ai 0 12 (cpy12 (g i) (f i)))) → ((4 - k).toNat) < n → AW zX2_copyFrom Eq (rmd d) 0 0 0 0 2 [(2, vi k), (0, vr S), (1, vr T)] [] u (fun v u => v = none ∧ u.length = h.length ∧ (∀ j : Nat, (j < S + 2 ∨ S + 7 ≤ j) → u[j]? = h[j]?) ∧ St u S k1 (fun i => cpy12 (g i) (f i)) (cpy12 q p)) := by
  intro n
  induction n with
  | zero =>
    intro k u h0 h1 hl fo fi hn
    exact absurd hn (Nat.not_lt_zero _)
  | succ n ih =>
    intro k u h0 h1 hl fo fi hn
    have a0 : u[S]? = some (ao 2 [vr (S + 1), vr (S + 6), vi k1]) := by rw [fo S (by omega)]; exact sS.1
    have a1 : u[S + 1]? = some (aq 3 4 (rwS S)) := by rw [fo (S + 1) (by omega)]; exact sS.2.1
    have a6 : u[S + 6]? = some (ai 0 12 p) := by rw [fo (S + 6) (by omega)]; exact sS.2.2.2
    have b0 : u[T]? = some (ao 2 [vr (T + 1), vr (T + 6), vi k2]) := by rw [fo T (by omega)]; exact sT.1
    have b1 : u[T + 1]? = some (aq 3 4 (rwS T)) := by rw [fo (T + 1) (by omega)]; exact sT.2.1
    have b6 : u[T + 6]? = some (ai 0 12 q) := by rw [fo (T + 6) (by omega)]; exact sT.2.2.2
    refine AW.go 2 (pc' := 4) rfl ?_
    refine AW.bi (tgt := 32) (pn := 7) rfl (by decide) rfl (by first | exact bI_rng _ | exact ⟨by omega, by omega⟩) (by first | exact bI_rng _ | exact ⟨by omega, by omega⟩) (fun c4 => ?_) (fun c4 => ?_)
    · dsimp only [cmpI] at c4
      refine AW.go 1 (pc' := 33) rfl ?_
      refine AW.getf (pn := 36) rfl rfl flX2_16 (by first | assumption | exact set_self (by first | assumption | exact set_self (by first | assumption | exact set_self (by assumption) | exact set_ne (by first | assumption | decide | omega) (by assumption)) | exact set_ne (by first | assumption | decide | omega) (by first | assumption | exact set_self (by assumption) | exact set_ne (by first | assumption | decide | omega) (by assumption))) | exact set_ne (by first | assumption | decide | omega) (by first | assumption | exact set_self (by first | assumption | exact set_self (by assumption) | exact set_ne (by first | assumption | decide | omega) (by assumption)) | exact set_ne (by first | assumption | decide | omega) (by first | assumption | exact set_self (by assumption) | exact set_ne (by first | assumption | decide | omega) (by assumption)))) rfl ?_
      refine AW.go 2 (pc' := 38) rfl ?_
      refine AW.getf (pn := 41) rfl rfl flX2_16 (by first | assumption | exact set_self (by first | assumption | exact set_self (by first | assumption | exact set_self (by assumption) | exact set_ne (by first | assumption | decide | omega) (by assumption)) | exact set_ne (by first | assumption | decide | omega) (by first | assumption | exact set_self (by assumption) | exact set_ne (by first | assumption | decide | omega) (by assumption))) | exact set_ne (by first | assumption | decide | omega) (by first | assumption | exact set_self (by first | assumption | exact set_self (by assumption) | exact set_ne (by first | assumption | decide | omega) (by assumption)) | exact set_ne (by first | assumption | decide | omega) (by first | assumption | exact set_self (by assumption) | exact set_ne (by first | assumption | decide | omega) (by assumption)))) rfl ?_
      refine AW.go 2 (pc' := 44) rfl ?_
      refine AW.copy (pn := 47) rfl rfl cpX2_24 (by first | assumption | exact set_self (by first | assumption | exact set_self (by first | assumption | exact set_self (by assumption) | exact set_ne (by first | assumption | decide | omega) (by assumption)) | exact set_ne (by first | assumption | decide | omega) (by first | assumption | exact set_self (by assumption) | exact set_ne (by first | assumption | decide | omega) (by assumption))) | exact set_ne (by first | assumption | decide | omega) (by first | assumption | exact set_self (by first | assumption | exact set_self (by assumption) | exact set_ne (by first | assumption | decide | omega) (by assumption)) | exact set_ne (by first | assumption | decide | omega) (by first | assumption | exact set_self (by assumption) | exact set_ne (by first | assumption | decide | omega) (by assumption)))) (by first | assumption | exact set_self (by first | assumption | exact set_self (by first | assumption | exact set_self (by assumption) | exact set_ne (by first | assumption | decide | omega) (by assumption)) | exact set_ne (by first | assumption | decide | omega) (by first | assumption | exact set_self (by assumption) | exact set_ne (by first | assumption | decide | omega) (by assumption))) | exact set_ne (by first | assumption | decide | omega) (by first | assumption | exact set_self (by first | assumption | exact set_self (by assumption) | exact set_ne (by first | assumption | decide | omega) (by assumption)) | exact set_ne (by first | assumption | decide | omega) (by first | assumption | exact set_self (by assumption) | exact set_ne (by first | assumption | decide | omega) (by assumption)))) (by omega) (by omega) (by omega) (by omega) (by omega) (by omega) (by omega) (by omega) ⟨by show 1 ≤ d; omega, by show _ ≤ 40 * d; simp [acat]; omega⟩ ?_
      refine AW.retv rfl rfl (Nat.le_refl _) (Nat.le_refl _) ?_
      refine ⟨rfl, by rw [List.length_set]; exact hl, fun j hj => ?_, ?_, ?_, fun i hi => ?_, ?_⟩
      · rw [set_out (by omega)]; exact fo j (by omega)
      · rw [set_out (by omega)]; exact a0
      · rw [set_out (by omega)]; exact a1
      · rw [set_out (by omega)]; exact fi i (by omega)
      · exact set_self a6
    · dsimp only [cmpI] at c4
      have ak : u[S + 2 + k.toNat]? = some (ai 0 12 (f k.toNat)) := by rw [fo _ (by omega)]; exact sS.2.2.1 _ (by omega)
      have bk : u[T + 2 + k.toNat]? = some (ai 0 12 (g k.toNat)) := by rw [fo _ (by omega)]; exact sT.2.2.1 _ (by omega)
      refine AW.go 1 (pc' := 8) rfl ?_
      refine AW.getf (pn := 11) rfl rfl flX2_11 (by first | assumption | exact set_self (by first | assumption | exact set_self (by first | assumption | exact set_self (by assumption) | exact set_ne (by first | assumption | decide | omega) (by assumption)) | exact set_ne (by first | assumption | decide | omega) (by first | assumption | exact set_self (by assumption) | exact set_ne (by first | assumption | decide | omega) (by assumption))) | exact set_ne (by first | assumption | decide | omega) (by first | assumption | exact set_self (by first | assumption | exact set_self (by assumption) | exact set_ne (by first | assumption | decide | omega) (by assumption)) | exact set_ne (by first | assumption | decide | omega) (by first | assumption | exact set_self (by assumption) | exact set_ne (by first | assumption | decide | omega) (by assumption)))) rfl ?_
      refine AW.go 1 (pc' := 12) rfl ?_
      refine AW.aald (pn := 13) rfl rfl (by first | assumption | exact set_self (by first | assumption | exact set_self (by first | assumption | exact set_self (by assumption) | exact set_ne (by first | assumption | decide | omega) (by assumption)) | exact set_ne (by first | assumption | decide | omega) (by first | assumption | exact set_self (by assumption) | exact set_ne (by first | assumption | decide | omega) (by assumption))) | exact set_ne (by first | assumption | decide | omega) (by first | assumption | exact set_self (by first | assumption | exact set_self (by assumption) | exact set_ne (by first | assumption | decide | omega) (by assumption)) | exact set_ne (by first | assumption | decide | omega) (by first | assumption | exact set_self (by assumption) | exact set_ne (by first | assumption | decide | omega) (by assumption)))) (by decide) (by decide) (by omega) (by omega) (rwS_at (by omega)) ?_
      refine AW.go 2 (pc' := 15) rfl ?_
      refine AW.getf (pn := 18) rfl rfl flX2_11 (by first | assumption | exact set_self (by first | assumption | exact set_self (by first | assumption | exact set_self (by assumption) | exact set_ne (by first | assumption | decide | omega) (by assumption)) | exact set_ne (by first | assumption | decide | omega) (by first | assumption | exact set_self (by assumption) | exact set_ne (by first | assumption | decide | omega) (by assumption))) | exact set_ne (by first | assumption | decide | omega) (by first | assumption | exact set_self (by first | assumption | exact set_self (by assumption) | exact set_ne (by first | assumption | decide | omega) (by assumption)) | exact set_ne (by first | assumption | decide | omega) (by first | assumption | exact set_self (by assumption) | exact set_ne (by first | assumption | decide | omega) (by assumption)))) rfl ?_
      refine AW.go 1 (pc' := 19) rfl ?_
      refine AW.aald (pn := 20) rfl rfl (by first | assumption | exact set_self (by first | assumption | exact set_self (by first | assumption | exact set_self (by assumption) | exact set_ne (by first | assumption | decide | omega) (by assumption)) | exact set_ne (by first | assumption | decide | omega) (by first | assumption | exact set_self (by assumption) | exact set_ne (by first | assumption | decide | omega) (by assumption))) | exact set_ne (by first | assumption | decide | omega) (by first | assumption | exact set_self (by first | assumption | exact set_self (by assumption) | exact set_ne (by first | assumption | decide | omega) (by assumption)) | exact set_ne (by first | assumption | decide | omega) (by first | assumption | exact set_self (by assumption) | exact set_ne (by first | assumption | decide | omega) (by assumption)))) (by decide) (by decide) (by omega) (by omega) (rwS_at (by omega)) ?_
      refine AW.go 2 (pc' := 23) rfl ?_
      refine AW.copy (pn := 26) rfl rfl cpX2_24 (by first | assumption | exact set_self (by first | assumption | exact set_self (by first | assumption | exact set_self (by assumption) | exact set_ne (by first | assumption | decide | omega) (by assumption)) | exact set_ne (by first | assumption | decide | omega) (by first | assumption | exact set_self (by assumption) | exact set_ne (by first | assumption | decide | omega) (by assumption))) | exact set_ne (by first | assumption | decide | omega) (by first | assumption | exact set_self (by first | assumption | exact set_self (by assumption) | exact set_ne (by first | assumption | decide | omega) (by assumption)) | exact set_ne (by first | assumption | decide | omega) (by first | assumption | exact set_self (by assumption) | exact set_ne (by first | assumption | decide | omega) (by assumption)))) (by first | assumption | exact set_self (by first | assumption | exact set_self (by first | assumption | exact set_self (by assumption) | exact set_ne (by first | assumption | decide | omega) (by assumption)) | exact set_ne (by first | assumption | decide | omega) (by first | assumption | exact set_self (by assumption) | exact set_ne (by first | assumption | decide | omega) (by assumption))) | exact set_ne (by first | assumption | decide | omega) (by first | assumption | exact set_self (by first | assumption | exact set_self (by assumption) | exact set_ne (by first | assumption | decide | omega) (by assumption)) | exact set_ne (by first | assumption | decide | omega) (by first | assumption | exact set_self (by assumption) | exact set_ne (by first | assumption | decide | omega) (by assumption)))) (by omega) (by omega) (by omega) (by omega) (by omega) (by omega) (by omega) (by omega) ⟨by show 1 ≤ d; omega, by show _ ≤ 40 * d; simp [acat]; omega⟩ ?_
      refine AW.go 2 (pc' := 2) rfl ?_
      refine AW.lw ?_ (ih (k + 1) _ (by omega) (by omega) (by rw [List.length_set]; exact hl) (fun j hj => ?_) (fun i hi => ?_) (by omega))
      · exact (And.intro rfl (And.intro rfl (And.intro rfl trivial)))
      · rw [set_out (by omega)]; exact fo j (by omega)
      · by_cases e : i = k.toNat
        · rw [e]; exact set_self ak
        · rw [set_out (by omega)]; exact fi i (by omega)
set_option maxHeartbeats 2000000 in
theorem c_X2_copyFrom (d : Nat) (hd : 1 ≤ d) (h : List AC) (S T : Nat) (hST : S + 7 ≤ T ∨ T + 7 ≤ S) (k1 k2 : Int) (f g : Nat → Nat → Int) (p q : Nat → Int) (sS : St h S k1 f p) (sT : St h T k2 g q) : M0 zX2_copyFrom d [vr S, vr T] h (fun v u => v = none ∧ u.length = h.length ∧ (∀ j : Nat, (j < S + 2 ∨ S + 7 ≤ j) → u[j]? = h[j]?) ∧ St u S k1 (fun i => cpy12 (g i) (f i)) (cpy12 q p)) := by
  refine M0.of okX2_copyFrom (Nat.le_of_ble_eq_true rfl) ?_
  refine AW.go 2 (pc' := 2) rfl ?_
  refine AW.lw ?_ (l_X2_copyFrom d hd h S T hST k1 k2 f g p q sS sT _ 0 h (by omega) (by omega) rfl (fun j _ => rfl) (fun i hi => absurd hi (Nat.not_lt_zero _)) (Nat.lt_succ_self _))
  exact (And.intro rfl (And.intro rfl (And.intro rfl trivial)))
set_option maxHeartbeats 4000000 in
theorem l_X3_turn (d : Nat) (hd : 4 ≤ d) (h : List AC) (g0 : h[0]? = some (ao 3 [vr 1, vr 3, vr 10, vr 25, vr 28])) (kp : Int) (g3 : h[3]? = some (ao 2 [vr 4, vr 9, vi kp])) (g4 : h[4]? = some (aq 3 4 rw4)) (m : Nat → Int) (hm : mt m) (hR : ∀ r : Int, 0 ≤ r → r < 4 → h[5 + r.toNat]? = some (ai 0 12 (rwm m r))) (sc : Nat → Int) (g28 : h[28]? = some (ai 0 12 sc)) (r F t : Int) (rr : 0 ≤ r ∧ r < 4) (rF : 0 ≤ F ∧ F < 48) (rt : 0 ≤ t ∧ t < 4) : ∀ (n : Nat) (k : Int), (0 ≤ k) → (k ≤ 12) → ((12 - k).toNat) < n → AW zX3_turn Eq (rmd d) 0 0 0 0 26 [(4, vi k), (0, vr 0), (1, vi r), (2, vi F), (3, vi t)] [] (h.set 28 (ai 0 12 (mix (fun j => ft (rwm m r) 12 F (j : Int)) sc k.toNat))) (fun v u => v = some 1 ∧ u = (h.set 28 (ai 0 12 (mix (fun j => ft (rwm m r) 12 F (j : Int)) sc 12))).set (5 + t.toNat) (ai 0 12 (cpy12 (mix (fun j => ft (rwm m r) 12 F (j : Int)) sc 12) (rwm m t)))) := by
  intro n
  induction n with
  | zero =>
    intro k h0 h1 hn
    exact absurd hn (Nat.not_lt_zero _)
  | succ n ih =>
    intro k h0 h1 hn
    have hwr := hR r (by omega) (by omega)
    have htr := rwm_tn hm (r := r) (by omega)
    have hwt := hR t (by omega) (by omega)
    have htt := rwm_tn hm (r := t) (by omega)
    refine AW.go 2 (pc' := 30) rfl ?_
    refine AW.bi (tgt := 63) (pn := 33) rfl (by decide) rfl (by first | exact bI_rng _ | exact ⟨by omega, by omega⟩) (by first | exact bI_rng _ | exact ⟨by omega, by omega⟩) (fun c30 => ?_) (fun c30 => ?_)
    · dsimp only [cmpI] at c30
      refine AW.go 1 (pc' := 64) rfl ?_
      refine AW.getf (pn := 67) rfl rfl flX3_34 (by first | assumption | exact set_self (by first | assumption | exact set_self (by first | assumption | exact set_self (by assumption) | exact set_ne (by first | assumption | decide | omega) (by assumption)) | exact set_ne (by first | assumption | decide | omega) (by first | assumption | exact set_self (by assumption) | exact set_ne (by first | assumption | decide | omega) (by assumption))) | exact set_ne (by first | assumption | decide | omega) (by first | assumption | exact set_self (by first | assumption | exact set_self (by assumption) | exact set_ne (by first | assumption | decide | omega) (by assumption)) | exact set_ne (by first | assumption | decide | omega) (by first | assumption | exact set_self (by assumption) | exact set_ne (by first | assumption | decide | omega) (by assumption)))) rfl ?_
      refine AW.go 2 (pc' := 69) rfl ?_
      refine AW.getf (pn := 72) rfl rfl flX3_19 (by first | assumption | exact set_self (by first | assumption | exact set_self (by first | assumption | exact set_self (by assumption) | exact set_ne (by first | assumption | decide | omega) (by assumption)) | exact set_ne (by first | assumption | decide | omega) (by first | assumption | exact set_self (by assumption) | exact set_ne (by first | assumption | decide | omega) (by assumption))) | exact set_ne (by first | assumption | decide | omega) (by first | assumption | exact set_self (by first | assumption | exact set_self (by assumption) | exact set_ne (by first | assumption | decide | omega) (by assumption)) | exact set_ne (by first | assumption | decide | omega) (by first | assumption | exact set_self (by assumption) | exact set_ne (by first | assumption | decide | omega) (by assumption)))) rfl ?_
      refine AW.getf (pn := 75) rfl rfl flX3_61 (by first | assumption | exact set_self (by first | assumption | exact set_self (by first | assumption | exact set_self (by assumption) | exact set_ne (by first | assumption | decide | omega) (by assumption)) | exact set_ne (by first | assumption | decide | omega) (by first | assumption | exact set_self (by assumption) | exact set_ne (by first | assumption | decide | omega) (by assumption))) | exact set_ne (by first | assumption | decide | omega) (by first | assumption | exact set_self (by first | assumption | exact set_self (by assumption) | exact set_ne (by first | assumption | decide | omega) (by assumption)) | exact set_ne (by first | assumption | decide | omega) (by first | assumption | exact set_self (by assumption) | exact set_ne (by first | assumption | decide | omega) (by assumption)))) rfl ?_
      refine AW.go 1 (pc' := 76) rfl ?_
      refine AW.aald (pn := 77) rfl rfl (by first | assumption | exact set_self (by first | assumption | exact set_self (by first | assumption | exact set_self (by assumption) | exact set_ne (by first | assumption | decide | omega) (by assumption)) | exact set_ne (by first | assumption | decide | omega) (by first | assumption | exact set_self (by assumption) | exact set_ne (by first | assumption | decide | omega) (by assumption))) | exact set_ne (by first | assumption | decide | omega) (by first | assumption | exact set_self (by first | assumption | exact set_self (by assumption) | exact set_ne (by first | assumption | decide | omega) (by assumption)) | exact set_ne (by first | assumption | decide | omega) (by first | assumption | exact set_self (by assumption) | exact set_ne (by first | assumption | decide | omega) (by assumption)))) (by decide) (by decide) (by omega) (by omega) (rw4_at (by omega)) ?_
      refine AW.go 2 (pc' := 80) rfl ?_
      refine AW.copy (pn := 83) rfl rfl cpX3_89 (by first | assumption | exact set_self (by first | assumption | exact set_self (by first | assumption | exact set_self (by assumption) | exact set_ne (by first | assumption | decide | omega) (by assumption)) | exact set_ne (by first | assumption | decide | omega) (by first | assumption | exact set_self (by assumption) | exact set_ne (by first | assumption | decide | omega) (by assumption))) | exact set_ne (by first | assumption | decide | omega) (by first | assumption | exact set_self (by first | assumption | exact set_self (by assumption) | exact set_ne (by first | assumption | decide | omega) (by assumption)) | exact set_ne (by first | assumption | decide | omega) (by first | assumption | exact set_self (by assumption) | exact set_ne (by first | assumption | decide | omega) (by assumption)))) (by first | assumption | exact set_self (by first | assumption | exact set_self (by first | assumption | exact set_self (by assumption) | exact set_ne (by first | assumption | decide | omega) (by assumption)) | exact set_ne (by first | assumption | decide | omega) (by first | assumption | exact set_self (by assumption) | exact set_ne (by first | assumption | decide | omega) (by assumption))) | exact set_ne (by first | assumption | decide | omega) (by first | assumption | exact set_self (by first | assumption | exact set_self (by assumption) | exact set_ne (by first | assumption | decide | omega) (by assumption)) | exact set_ne (by first | assumption | decide | omega) (by first | assumption | exact set_self (by assumption) | exact set_ne (by first | assumption | decide | omega) (by assumption)))) (by omega) (by omega) (by omega) (by omega) (by omega) (by omega) (by omega) (by omega) ⟨by show 1 ≤ d; omega, by show _ ≤ 40 * d; simp [acat]; omega⟩ ?_
      refine AW.go 1 (pc' := 84) rfl ?_
      refine AW.ret rfl rfl (Nat.le_refl _) (Nat.le_refl _) ?_
      refine ⟨rfl, ?_⟩
      rw [show k.toNat = 12 by omega]
      rfl
    · dsimp only [cmpI] at c30
      refine AW.go 1 (pc' := 34) rfl ?_
      refine AW.getf (pn := 37) rfl rfl flX3_34 (by first | assumption | exact set_self (by first | assumption | exact set_self (by first | assumption | exact set_self (by assumption) | exact set_ne (by first | assumption | decide | omega) (by assumption)) | exact set_ne (by first | assumption | decide | omega) (by first | assumption | exact set_self (by assumption) | exact set_ne (by first | assumption | decide | omega) (by assumption))) | exact set_ne (by first | assumption | decide | omega) (by first | assumption | exact set_self (by first | assumption | exact set_self (by assumption) | exact set_ne (by first | assumption | decide | omega) (by assumption)) | exact set_ne (by first | assumption | decide | omega) (by first | assumption | exact set_self (by assumption) | exact set_ne (by first | assumption | decide | omega) (by assumption)))) rfl ?_
      refine AW.go 2 (pc' := 40) rfl ?_
      refine AW.getf (pn := 43) rfl rfl flX3_19 (by first | assumption | exact set_self (by first | assumption | exact set_self (by first | assumption | exact set_self (by assumption) | exact set_ne (by first | assumption | decide | omega) (by assumption)) | exact set_ne (by first | assumption | decide | omega) (by first | assumption | exact set_self (by assumption) | exact set_ne (by first | assumption | decide | omega) (by assumption))) | exact set_ne (by first | assumption | decide | omega) (by first | assumption | exact set_self (by first | assumption | exact set_self (by assumption) | exact set_ne (by first | assumption | decide | omega) (by assumption)) | exact set_ne (by first | assumption | decide | omega) (by first | assumption | exact set_self (by assumption) | exact set_ne (by first | assumption | decide | omega) (by assumption)))) rfl ?_
      refine AW.getf (pn := 46) rfl rfl flX3_61 (by first | assumption | exact set_self (by first | assumption | exact set_self (by first | assumption | exact set_self (by assumption) | exact set_ne (by first | assumption | decide | omega) (by assumption)) | exact set_ne (by first | assumption | decide | omega) (by first | assumption | exact set_self (by assumption) | exact set_ne (by first | assumption | decide | omega) (by assumption))) | exact set_ne (by first | assumption | decide | omega) (by first | assumption | exact set_self (by first | assumption | exact set_self (by assumption) | exact set_ne (by first | assumption | decide | omega) (by assumption)) | exact set_ne (by first | assumption | decide | omega) (by first | assumption | exact set_self (by assumption) | exact set_ne (by first | assumption | decide | omega) (by assumption)))) rfl ?_
      refine AW.go 1 (pc' := 47) rfl ?_
      refine AW.aald (pn := 48) rfl rfl (by first | assumption | exact set_self (by first | assumption | exact set_self (by first | assumption | exact set_self (by assumption) | exact set_ne (by first | assumption | decide | omega) (by assumption)) | exact set_ne (by first | assumption | decide | omega) (by first | assumption | exact set_self (by assumption) | exact set_ne (by first | assumption | decide | omega) (by assumption))) | exact set_ne (by first | assumption | decide | omega) (by first | assumption | exact set_self (by first | assumption | exact set_self (by assumption) | exact set_ne (by first | assumption | decide | omega) (by assumption)) | exact set_ne (by first | assumption | decide | omega) (by first | assumption | exact set_self (by assumption) | exact set_ne (by first | assumption | decide | omega) (by assumption)))) (by decide) (by decide) (by omega) (by omega) (rw4_at (by omega)) ?_
      refine AW.go 3 (pc' := 53) rfl ?_
      refine AW.callSF (pn := 56) rfl rfl mlX3_85 (c_X3_formTone (d - 1) (by omega) _ _ _ (by first | assumption | exact set_self (by first | assumption | exact set_self (by first | assumption | exact set_self (by assumption) | exact set_ne (by first | assumption | decide | omega) (by assumption)) | exact set_ne (by first | assumption | decide | omega) (by first | assumption | exact set_self (by assumption) | exact set_ne (by first | assumption | decide | omega) (by assumption))) | exact set_ne (by first | assumption | decide | omega) (by first | assumption | exact set_self (by first | assumption | exact set_self (by assumption) | exact set_ne (by first | assumption | decide | omega) (by assumption)) | exact set_ne (by first | assumption | decide | omega) (by first | assumption | exact set_self (by assumption) | exact set_ne (by first | assumption | decide | omega) (by assumption)))) (by assumption) _ _ _ (by omega) (by omega) (by omega)) rfl rfl (Nat.le_of_ble_eq_true rfl) ⟨by show d - 1 + 1 ≤ d; omega, by show 40 * (d - 1 + 1) ≤ 40 * d; omega⟩ ⟨Nat.zero_le _, Nat.zero_le _⟩ ?_
      refine AW.iast (pn := 57) rfl rfl (by first | assumption | exact set_self (by first | assumption | exact set_self (by first | assumption | exact set_self (by assumption) | exact set_ne (by first | assumption | decide | omega) (by assumption)) | exact set_ne (by first | assumption | decide | omega) (by first | assumption | exact set_self (by assumption) | exact set_ne (by first | assumption | decide | omega) (by assumption))) | exact set_ne (by first | assumption | decide | omega) (by first | assumption | exact set_self (by first | assumption | exact set_self (by assumption) | exact set_ne (by first | assumption | decide | omega) (by assumption)) | exact set_ne (by first | assumption | decide | omega) (by first | assumption | exact set_self (by assumption) | exact set_ne (by first | assumption | decide | omega) (by assumption)))) (by decide) (by omega) (by omega) ?_
      refine AW.go 2 (pc' := 26) rfl ?_
      rw [List.set_set, show ft (rwm m r) 12 F k = (fun j => ft (rwm m r) 12 F (j : Int)) k.toNat by show _ = ft (rwm m r) 12 F (k.toNat : Int); rw [kk h0], mix_s, ← k1 h0]
      refine AW.lw ?_ (ih (k + 1) (by omega) (by omega) (by omega))
      exact (And.intro rfl (And.intro rfl (And.intro rfl (And.intro rfl (And.intro rfl trivial)))))
set_option maxHeartbeats 2000000 in
theorem c_X3_turn (d : Nat) (hd : 4 ≤ d) (h : List AC) (g0 : h[0]? = some (ao 3 [vr 1, vr 3, vr 10, vr 25, vr 28])) (kp : Int) (g3 : h[3]? = some (ao 2 [vr 4, vr 9, vi kp])) (g4 : h[4]? = some (aq 3 4 rw4)) (m : Nat → Int) (hm : mt m) (hR : ∀ r : Int, 0 ≤ r → r < 4 → h[5 + r.toNat]? = some (ai 0 12 (rwm m r))) (sc : Nat → Int) (g28 : h[28]? = some (ai 0 12 sc)) (r F t : Int) (rr : -2147483648 ≤ r ∧ r < 2147483648) (rF : -2147483648 ≤ F ∧ F < 2147483648) (rt : -2147483648 ≤ t ∧ t < 2147483648) : M0 zX3_turn d [vr 0, vi r, vi F, vi t] h (fun v u => if (0 ≤ r ∧ r < 4) ∧ (0 ≤ F ∧ F < 48) ∧ (0 ≤ t ∧ t < 4) then (v = some 1 ∧ u = (h.set 28 (ai 0 12 (mix (fun j => ft (rwm m r) 12 F (j : Int)) sc 12))).set (5 + t.toNat) (ai 0 12 (cpy12 (mix (fun j => ft (rwm m r) 12 F (j : Int)) sc 12) (rwm m t)))) else (v = some (-1) ∧ u = h)) := by
  refine M0.of okX3_turn (Nat.le_of_ble_eq_true rfl) ?_
  refine AW.go 1 (pc' := 1) rfl ?_
  refine AW.callSF (pn := 4) rfl rfl mlX3_57 (c_X3_isRow (d - 1) (by omega) _ _ (by omega)) rfl rfl (Nat.le_of_ble_eq_true rfl) ⟨by show d - 1 + 1 ≤ d; omega, by show 40 * (d - 1 + 1) ≤ 40 * d; omega⟩ ⟨Nat.zero_le _, Nat.zero_le _⟩ ?_
  refine AW.bz (tgt := 21) (pn := 7) rfl (by decide) rfl (fun c4 => ?_) (fun c4 => ?_)
  · refine AW.go 1 (pc' := 22) rfl ?_
    refine AW.ret rfl rfl (Nat.le_refl _) (Nat.le_refl _) ?_
    rw [if_neg (by omega)]
    exact ⟨rfl, rfl⟩
  · refine AW.go 1 (pc' := 8) rfl ?_
    refine AW.callSF (pn := 11) rfl rfl mlX3_82 (c_X3_isForm (d - 1) (by omega) _ _ (by omega)) rfl rfl (Nat.le_of_ble_eq_true rfl) ⟨by show d - 1 + 1 ≤ d; omega, by show 40 * (d - 1 + 1) ≤ 40 * d; omega⟩ ⟨Nat.zero_le _, Nat.zero_le _⟩ ?_
    refine AW.bz (tgt := 21) (pn := 14) rfl (by decide) rfl (fun c11 => ?_) (fun c11 => ?_)
    · refine AW.go 1 (pc' := 22) rfl ?_
      refine AW.ret rfl rfl (Nat.le_refl _) (Nat.le_refl _) ?_
      rw [if_neg (by omega)]
      exact ⟨rfl, rfl⟩
    · refine AW.go 1 (pc' := 15) rfl ?_
      refine AW.callSF (pn := 18) rfl rfl mlX3_57 (c_X3_isRow (d - 1) (by omega) _ _ (by omega)) rfl rfl (Nat.le_of_ble_eq_true rfl) ⟨by show d - 1 + 1 ≤ d; omega, by show 40 * (d - 1 + 1) ≤ 40 * d; omega⟩ ⟨Nat.zero_le _, Nat.zero_le _⟩ ?_
      refine AW.bnz (tgt := 23) (pn := 21) rfl (by decide) rfl (fun c18 => ?_) (fun c18 => ?_)
      · refine AW.go 2 (pc' := 26) rfl ?_
        have e := l_X3_turn d hd h g0 kp g3 g4 m hm hR sc g28 r F t c4 c11 c18 _ 0 (by omega) (by omega) (Nat.lt_succ_self _)
        rw [show (0 : Int).toNat = 0 from rfl, mix_0, set_same g28] at e
        refine AW.lw ?_ (AW.post e (fun v u hq => by rw [if_pos ⟨c4, c11, c18⟩]; exact hq))
        exact (And.intro rfl (And.intro rfl (And.intro rfl (And.intro rfl (And.intro rfl trivial)))))
      · refine AW.go 1 (pc' := 22) rfl ?_
        refine AW.ret rfl rfl (Nat.le_refl _) (Nat.le_refl _) ?_
        rw [if_neg (by omega)]
        exact ⟨rfl, rfl⟩
set_option maxHeartbeats 2000000 in
theorem c_X3_image (d : Nat) (hd : 2 ≤ d) (h : List AC) (g0 : h[0]? = some (ao 3 [vr 1, vr 3, vr 10, vr 25, vr 28])) (kp : Int) (g3 : h[3]? = some (ao 2 [vr 4, vr 9, vi kp])) (g4 : h[4]? = some (aq 3 4 rw4)) (m : Nat → Int) (hm : mt m) (hR : ∀ r : Int, 0 ≤ r → r < 4 → h[5 + r.toNat]? = some (ai 0 12 (rwm m r))) (pat : Nat → Int) (g9 : h[9]? = some (ai 0 12 pat)) (g10 : h[10]? = some (aq 2 2 imS)) (kf : Nat → Int) (fI : Nat → Nat → Nat → Int) (pI : Nat → Nat → Int) (hI : ∀ k : Nat, k < 2 → St h (11 + 7 * k) (kf k) (fI k) (pI k)) (a : Int) (ra : -2147483648 ≤ a ∧ a < 2147483648) : M0 zX3_image d [vr 0, vi a] h (fun v u => if 0 ≤ a ∧ a < 2 then (v = some 1 ∧ u.length = h.length ∧ (∀ j : Nat, (j < 11 + 7 * a.toNat ∨ 11 + 7 * a.toNat + 7 ≤ j) → u[j]? = h[j]?) ∧ St u (11 + 7 * a.toNat) 1 (fun i => cpy12 (rwm m (i : Int)) (fI a.toNat i)) (cpy12 pat (pI a.toNat))) else (v = some (-2) ∧ u = h)) := by
  refine M0.of okX3_image (Nat.le_of_ble_eq_true rfl) ?_
  refine AW.go 1 (pc' := 1) rfl ?_
  refine AW.callSF (pn := 4) rfl rfl mlX3_168 (c_X3_isImage (d - 1) (by omega) _ _ (by omega)) rfl rfl (Nat.le_of_ble_eq_true rfl) ⟨by show d - 1 + 1 ≤ d; omega, by show 40 * (d - 1 + 1) ≤ 40 * d; omega⟩ ⟨Nat.zero_le _, Nat.zero_le _⟩ ?_
  refine AW.bnz (tgt := 10) (pn := 7) rfl (by decide) rfl (fun c4 => ?_) (fun c4 => ?_)
  · have hS := hI a.toNat (by omega)
    have h3 : St h 3 kp (fun i => rwm m (i : Int)) pat := ⟨g3, g4, fun i hi => by have := hR (i : Int) (by omega) (by omega); rw [Int.toNat_natCast] at this; exact this, g9⟩
    have hSo := hS.1
    refine AW.go 1 (pc' := 11) rfl ?_
    refine AW.getf (pn := 14) rfl rfl flX3_23 (by first | assumption | exact set_self (by first | assumption | exact set_self (by first | assumption | exact set_self (by assumption) | exact set_ne (by first | assumption | decide | omega) (by assumption)) | exact set_ne (by first | assumption | decide | omega) (by first | assumption | exact set_self (by assumption) | exact set_ne (by first | assumption | decide | omega) (by assumption))) | exact set_ne (by first | assumption | decide | omega) (by first | assumption | exact set_self (by first | assumption | exact set_self (by assumption) | exact set_ne (by first | assumption | decide | omega) (by assumption)) | exact set_ne (by first | assumption | decide | omega) (by first | assumption | exact set_self (by assumption) | exact set_ne (by first | assumption | decide | omega) (by assumption)))) rfl ?_
    refine AW.go 1 (pc' := 15) rfl ?_
    refine AW.aald (pn := 16) rfl rfl (by first | assumption | exact set_self (by first | assumption | exact set_self (by first | assumption | exact set_self (by assumption) | exact set_ne (by first | assumption | decide | omega) (by assumption)) | exact set_ne (by first | assumption | decide | omega) (by first | assumption | exact set_self (by assumption) | exact set_ne (by first | assumption | decide | omega) (by assumption))) | exact set_ne (by first | assumption | decide | omega) (by first | assumption | exact set_self (by first | assumption | exact set_self (by assumption) | exact set_ne (by first | assumption | decide | omega) (by assumption)) | exact set_ne (by first | assumption | decide | omega) (by first | assumption | exact set_self (by assumption) | exact set_ne (by first | assumption | decide | omega) (by assumption)))) (by decide) (by decide) (by omega) (by omega) (imS_at (by omega)) ?_
    refine AW.go 1 (pc' := 17) rfl ?_
    refine AW.getf (pn := 20) rfl rfl flX3_19 (by first | assumption | exact set_self (by first | assumption | exact set_self (by first | assumption | exact set_self (by assumption) | exact set_ne (by first | assumption | decide | omega) (by assumption)) | exact set_ne (by first | assumption | decide | omega) (by first | assumption | exact set_self (by assumption) | exact set_ne (by first | assumption | decide | omega) (by assumption))) | exact set_ne (by first | assumption | decide | omega) (by first | assumption | exact set_self (by first | assumption | exact set_self (by assumption) | exact set_ne (by first | assumption | decide | omega) (by assumption)) | exact set_ne (by first | assumption | decide | omega) (by first | assumption | exact set_self (by assumption) | exact set_ne (by first | assumption | decide | omega) (by assumption)))) rfl ?_
    refine AW.callV (pn := 23) rfl rfl mlX3_171 (by first | assumption | exact set_self (by first | assumption | exact set_self (by first | assumption | exact set_self (by assumption) | exact set_ne (by first | assumption | decide | omega) (by assumption)) | exact set_ne (by first | assumption | decide | omega) (by first | assumption | exact set_self (by assumption) | exact set_ne (by first | assumption | decide | omega) (by assumption))) | exact set_ne (by first | assumption | decide | omega) (by first | assumption | exact set_self (by first | assumption | exact set_self (by assumption) | exact set_ne (by first | assumption | decide | omega) (by assumption)) | exact set_ne (by first | assumption | decide | omega) (by first | assumption | exact set_self (by assumption) | exact set_ne (by first | assumption | decide | omega) (by assumption)))) (c_X2_copyFrom (d - 1) (by omega) _ _ _ (by omega) _ _ _ _ _ _ hS h3) rfl rfl (Nat.le_of_ble_eq_true rfl) ⟨by show d - 1 + 1 ≤ d; omega, by show 40 * (d - 1 + 1) ≤ 40 * d; omega⟩ ⟨Nat.zero_le _, Nat.zero_le _⟩ ?_
    intro v u hq
    obtain ⟨rfl, ul, uf, uS⟩ := hq
    have u0 : u[0]? = some (ao 3 [vr 1, vr 3, vr 10, vr 25, vr 28]) := by rw [uf 0 (by omega)]; exact g0
    have u10 : u[10]? = some (aq 2 2 imS) := by rw [uf 10 (by omega)]; exact g10
    have uSo := uS.1
    refine AW.go 1 (pc' := 24) rfl ?_
    refine AW.getf (pn := 27) rfl rfl flX3_23 (by first | assumption | exact set_self (by first | assumption | exact set_self (by first | assumption | exact set_self (by assumption) | exact set_ne (by first | assumption | decide | omega) (by assumption)) | exact set_ne (by first | assumption | decide | omega) (by first | assumption | exact set_self (by assumption) | exact set_ne (by first | assumption | decide | omega) (by assumption))) | exact set_ne (by first | assumption | decide | omega) (by first | assumption | exact set_self (by first | assumption | exact set_self (by assumption) | exact set_ne (by first | assumption | decide | omega) (by assumption)) | exact set_ne (by first | assumption | decide | omega) (by first | assumption | exact set_self (by assumption) | exact set_ne (by first | assumption | decide | omega) (by assumption)))) rfl ?_
    refine AW.go 1 (pc' := 28) rfl ?_
    refine AW.aald (pn := 29) rfl rfl (by first | assumption | exact set_self (by first | assumption | exact set_self (by first | assumption | exact set_self (by assumption) | exact set_ne (by first | assumption | decide | omega) (by assumption)) | exact set_ne (by first | assumption | decide | omega) (by first | assumption | exact set_self (by assumption) | exact set_ne (by first | assumption | decide | omega) (by assumption))) | exact set_ne (by first | assumption | decide | omega) (by first | assumption | exact set_self (by first | assumption | exact set_self (by assumption) | exact set_ne (by first | assumption | decide | omega) (by assumption)) | exact set_ne (by first | assumption | decide | omega) (by first | assumption | exact set_self (by assumption) | exact set_ne (by first | assumption | decide | omega) (by assumption)))) (by decide) (by decide) (by omega) (by omega) (imS_at (by omega)) ?_
    refine AW.go 1 (pc' := 30) rfl ?_
    refine AW.putf (pn := 33) rfl rfl flX3_175 (by first | assumption | exact set_self (by first | assumption | exact set_self (by first | assumption | exact set_self (by assumption) | exact set_ne (by first | assumption | decide | omega) (by assumption)) | exact set_ne (by first | assumption | decide | omega) (by first | assumption | exact set_self (by assumption) | exact set_ne (by first | assumption | decide | omega) (by assumption))) | exact set_ne (by first | assumption | decide | omega) (by first | assumption | exact set_self (by first | assumption | exact set_self (by assumption) | exact set_ne (by first | assumption | decide | omega) (by assumption)) | exact set_ne (by first | assumption | decide | omega) (by first | assumption | exact set_self (by assumption) | exact set_ne (by first | assumption | decide | omega) (by assumption)))) rfl (by first | trivial | exact bI_01 _ | exact Or.inl rfl | exact Or.inr rfl) ?_
    refine AW.go 1 (pc' := 34) rfl ?_
    refine AW.ret rfl rfl (Nat.le_refl _) (Nat.le_refl _) ?_
    rw [if_pos c4]
    refine ⟨rfl, by rw [List.length_set]; exact ul, fun j hj => ?_, ?_, ?_, fun i hi => ?_, ?_⟩
    · rw [set_out (by omega)]; exact uf j (by omega)
    · exact set_self uSo
    · rw [set_out (by omega)]; exact uS.2.1
    · rw [set_out (by omega)]; exact uS.2.2.1 i hi
    · rw [set_out (by omega)]; exact uS.2.2.2
  · refine AW.go 1 (pc' := 9) rfl ?_
    refine AW.ret rfl rfl (Nat.le_refl _) (Nat.le_refl _) ?_
    rw [if_neg (by omega)]
    exact ⟨rfl, rfl⟩
set_option maxHeartbeats 2000000 in
theorem c_X3_restore (d : Nat) (hd : 2 ≤ d) (h : List AC) (g0 : h[0]? = some (ao 3 [vr 1, vr 3, vr 10, vr 25, vr 28])) (kp : Int) (g3 : h[3]? = some (ao 2 [vr 4, vr 9, vi kp])) (g4 : h[4]? = some (aq 3 4 rw4)) (m : Nat → Int) (hm : mt m) (hR : ∀ r : Int, 0 ≤ r → r < 4 → h[5 + r.toNat]? = some (ai 0 12 (rwm m r))) (pat : Nat → Int) (g9 : h[9]? = some (ai 0 12 pat)) (g10 : h[10]? = some (aq 2 2 imS)) (kf : Nat → Int) (fI : Nat → Nat → Nat → Int) (pI : Nat → Nat → Int) (hI : ∀ k : Nat, k < 2 → St h (11 + 7 * k) (kf k) (fI k) (pI k)) (hk : ∀ k : Nat, k < 2 → kf k = 0 ∨ kf k = 1) (a : Int) (ra : -2147483648 ≤ a ∧ a < 2147483648) : M0 zX3_restore d [vr 0, vi a] h (fun v u => if 0 ≤ a ∧ a < 2 then (if kf a.toNat = 0 then (v = some (-3) ∧ u = h) else (v = some 1 ∧ u.length = h.length ∧ (∀ j : Nat, (j < 5 ∨ 10 ≤ j) → u[j]? = h[j]?) ∧ St u 3 kp (fun i => cpy12 (fI a.toNat i) (rwm m (i : Int))) (cpy12 (pI a.toNat) pat))) else (v = some (-2) ∧ u = h)) := by
  refine M0.of okX3_restore (Nat.le_of_ble_eq_true rfl) ?_
  refine AW.go 1 (pc' := 1) rfl ?_
  refine AW.callSF (pn := 4) rfl rfl mlX3_168 (c_X3_isImage (d - 1) (by omega) _ _ (by omega)) rfl rfl (Nat.le_of_ble_eq_true rfl) ⟨by show d - 1 + 1 ≤ d; omega, by show 40 * (d - 1 + 1) ≤ 40 * d; omega⟩ ⟨Nat.zero_le _, Nat.zero_le _⟩ ?_
  refine AW.bnz (tgt := 10) (pn := 7) rfl (by decide) rfl (fun c4 => ?_) (fun c4 => ?_)
  · have hS := hI a.toNat (by omega)
    have h3 : St h 3 kp (fun i => rwm m (i : Int)) pat := ⟨g3, g4, fun i hi => by have := hR (i : Int) (by omega) (by omega); rw [Int.toNat_natCast] at this; exact this, g9⟩
    have hSo := hS.1
    refine AW.go 1 (pc' := 11) rfl ?_
    refine AW.getf (pn := 14) rfl rfl flX3_23 (by first | assumption | exact set_self (by first | assumption | exact set_self (by first | assumption | exact set_self (by assumption) | exact set_ne (by first | assumption | decide | omega) (by assumption)) | exact set_ne (by first | assumption | decide | omega) (by first | assumption | exact set_self (by assumption) | exact set_ne (by first | assumption | decide | omega) (by assumption))) | exact set_ne (by first | assumption | decide | omega) (by first | assumption | exact set_self (by first | assumption | exact set_self (by assumption) | exact set_ne (by first | assumption | decide | omega) (by assumption)) | exact set_ne (by first | assumption | decide | omega) (by first | assumption | exact set_self (by assumption) | exact set_ne (by first | assumption | decide | omega) (by assumption)))) rfl ?_
    refine AW.go 1 (pc' := 15) rfl ?_
    refine AW.aald (pn := 16) rfl rfl (by first | assumption | exact set_self (by first | assumption | exact set_self (by first | assumption | exact set_self (by assumption) | exact set_ne (by first | assumption | decide | omega) (by assumption)) | exact set_ne (by first | assumption | decide | omega) (by first | assumption | exact set_self (by assumption) | exact set_ne (by first | assumption | decide | omega) (by assumption))) | exact set_ne (by first | assumption | decide | omega) (by first | assumption | exact set_self (by first | assumption | exact set_self (by assumption) | exact set_ne (by first | assumption | decide | omega) (by assumption)) | exact set_ne (by first | assumption | decide | omega) (by first | assumption | exact set_self (by assumption) | exact set_ne (by first | assumption | decide | omega) (by assumption)))) (by decide) (by decide) (by omega) (by omega) (imS_at (by omega)) ?_
    refine AW.getf (pn := 19) rfl rfl flX3_175 (by first | assumption | exact set_self (by first | assumption | exact set_self (by first | assumption | exact set_self (by assumption) | exact set_ne (by first | assumption | decide | omega) (by assumption)) | exact set_ne (by first | assumption | decide | omega) (by first | assumption | exact set_self (by assumption) | exact set_ne (by first | assumption | decide | omega) (by assumption))) | exact set_ne (by first | assumption | decide | omega) (by first | assumption | exact set_self (by first | assumption | exact set_self (by assumption) | exact set_ne (by first | assumption | decide | omega) (by assumption)) | exact set_ne (by first | assumption | decide | omega) (by first | assumption | exact set_self (by assumption) | exact set_ne (by first | assumption | decide | omega) (by assumption)))) rfl ?_
    have hkk := hk a.toNat (by omega)
    refine AW.br (tgt := 25) (pn := 22) rfl (by decide) rfl (by first | exact bI_rng _ | exact ⟨by omega, by omega⟩) (fun c19 => ?_) (fun c19 => ?_)
    · dsimp only [cmpI] at c19
      refine AW.go 1 (pc' := 26) rfl ?_
      refine AW.getf (pn := 29) rfl rfl flX3_19 (by first | assumption | exact set_self (by first | assumption | exact set_self (by first | assumption | exact set_self (by assumption) | exact set_ne (by first | assumption | decide | omega) (by assumption)) | exact set_ne (by first | assumption | decide | omega) (by first | assumption | exact set_self (by assumption) | exact set_ne (by first | assumption | decide | omega) (by assumption))) | exact set_ne (by first | assumption | decide | omega) (by first | assumption | exact set_self (by first | assumption | exact set_self (by assumption) | exact set_ne (by first | assumption | decide | omega) (by assumption)) | exact set_ne (by first | assumption | decide | omega) (by first | assumption | exact set_self (by assumption) | exact set_ne (by first | assumption | decide | omega) (by assumption)))) rfl ?_
      refine AW.go 1 (pc' := 30) rfl ?_
      refine AW.getf (pn := 33) rfl rfl flX3_23 (by first | assumption | exact set_self (by first | assumption | exact set_self (by first | assumption | exact set_self (by assumption) | exact set_ne (by first | assumption | decide | omega) (by assumption)) | exact set_ne (by first | assumption | decide | omega) (by first | assumption | exact set_self (by assumption) | exact set_ne (by first | assumption | decide | omega) (by assumption))) | exact set_ne (by first | assumption | decide | omega) (by first | assumption | exact set_self (by first | assumption | exact set_self (by assumption) | exact set_ne (by first | assumption | decide | omega) (by assumption)) | exact set_ne (by first | assumption | decide | omega) (by first | assumption | exact set_self (by assumption) | exact set_ne (by first | assumption | decide | omega) (by assumption)))) rfl ?_
      refine AW.go 1 (pc' := 34) rfl ?_
      refine AW.aald (pn := 35) rfl rfl (by first | assumption | exact set_self (by first | assumption | exact set_self (by first | assumption | exact set_self (by assumption) | exact set_ne (by first | assumption | decide | omega) (by assumption)) | exact set_ne (by first | assumption | decide | omega) (by first | assumption | exact set_self (by assumption) | exact set_ne (by first | assumption | decide | omega) (by assumption))) | exact set_ne (by first | assumption | decide | omega) (by first | assumption | exact set_self (by first | assumption | exact set_self (by assumption) | exact set_ne (by first | assumption | decide | omega) (by assumption)) | exact set_ne (by first | assumption | decide | omega) (by first | assumption | exact set_self (by assumption) | exact set_ne (by first | assumption | decide | omega) (by assumption)))) (by decide) (by decide) (by omega) (by omega) (imS_at (by omega)) ?_
      refine AW.callV (pn := 38) rfl rfl mlX3_171 (by first | assumption | exact set_self (by first | assumption | exact set_self (by first | assumption | exact set_self (by assumption) | exact set_ne (by first | assumption | decide | omega) (by assumption)) | exact set_ne (by first | assumption | decide | omega) (by first | assumption | exact set_self (by assumption) | exact set_ne (by first | assumption | decide | omega) (by assumption))) | exact set_ne (by first | assumption | decide | omega) (by first | assumption | exact set_self (by first | assumption | exact set_self (by assumption) | exact set_ne (by first | assumption | decide | omega) (by assumption)) | exact set_ne (by first | assumption | decide | omega) (by first | assumption | exact set_self (by assumption) | exact set_ne (by first | assumption | decide | omega) (by assumption)))) (c_X2_copyFrom (d - 1) (by omega) _ _ _ (by omega) _ _ _ _ _ _ h3 hS) rfl rfl (Nat.le_of_ble_eq_true rfl) ⟨by show d - 1 + 1 ≤ d; omega, by show 40 * (d - 1 + 1) ≤ 40 * d; omega⟩ ⟨Nat.zero_le _, Nat.zero_le _⟩ ?_
      intro v u hq
      obtain ⟨rfl, ul, uf, uS⟩ := hq
      refine AW.go 1 (pc' := 39) rfl ?_
      refine AW.ret rfl rfl (Nat.le_refl _) (Nat.le_refl _) ?_
      rw [if_pos c4, if_neg (by omega)]
      exact ⟨rfl, ul, fun j hj => uf j (by omega), uS⟩
    · dsimp only [cmpI] at c19
      refine AW.go 1 (pc' := 24) rfl ?_
      refine AW.ret rfl rfl (Nat.le_refl _) (Nat.le_refl _) ?_
      rw [if_pos c4, if_pos (by omega)]
      exact ⟨rfl, rfl⟩
  · refine AW.go 1 (pc' := 9) rfl ?_
    refine AW.ret rfl rfl (Nat.le_refl _) (Nat.le_refl _) ?_
    rw [if_neg (by omega)]
    exact ⟨rfl, rfl⟩
end
