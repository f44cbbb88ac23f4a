section
-- ===== PART A: goes FIRST, ahead of the names: the tables' words, and 'selects' of the private methods out of them =====
/-- a private method of a class that the tables say can be made, by its rows of tables_1 -/
def lw_okq (q : MethodName × Nat) : Prop := (q.1.cls ≠ "java/lang/invoke/MethodHandle" ∧ q.1.cls ≠ "java/lang/invoke/VarHandle") ∧ Cond.instantiable q.1.cls q.2 ∈ tables_1 ∧ Cond.privateMethod q.1 ∈ tables_1 ∧ Cond.instanceMethod q.1 ∈ tables_1
theorem lw_p0 : lw_okq (⟨"RowForms$Pad", "isFull", "()Z"⟩, 2) := ⟨⟨by decide +kernel, by decide +kernel⟩, List.mem_of_getElem? (i := 18) (by decide +kernel), List.mem_of_getElem? (i := 100) (by decide +kernel), List.mem_of_getElem? (i := 101) (by decide +kernel)⟩
theorem lw_p1 : lw_okq (⟨"RowForms$Pad", "add", "(I)I"⟩, 2) := ⟨⟨by decide +kernel, by decide +kernel⟩, List.mem_of_getElem? (i := 18) (by decide +kernel), List.mem_of_getElem? (i := 104) (by decide +kernel), List.mem_of_getElem? (i := 105) (by decide +kernel)⟩
theorem lw_p2 : lw_okq (⟨"RowForms$Pad", "empty", "()I"⟩, 2) := ⟨⟨by decide +kernel, by decide +kernel⟩, List.mem_of_getElem? (i := 18) (by decide +kernel), List.mem_of_getElem? (i := 113) (by decide +kernel), List.mem_of_getElem? (i := 114) (by decide +kernel)⟩
theorem lw_p3 : lw_okq (⟨"RowForms$Pad", "rowFault", "(Z)I"⟩, 2) := ⟨⟨by decide +kernel, by decide +kernel⟩, List.mem_of_getElem? (i := 18) (by decide +kernel), List.mem_of_getElem? (i := 121) (by decide +kernel), List.mem_of_getElem? (i := 122) (by decide +kernel)⟩
theorem lw_p4 : lw_okq (⟨"RowForms$Pad", "signAt", "(I)I"⟩, 2) := ⟨⟨by decide +kernel, by decide +kernel⟩, List.mem_of_getElem? (i := 18) (by decide +kernel), List.mem_of_getElem? (i := 125) (by decide +kernel), List.mem_of_getElem? (i := 126) (by decide +kernel)⟩
theorem lw_p5 : lw_okq (⟨"RowForms$Pad", "formFault", "()I"⟩, 2) := ⟨⟨by decide +kernel, by decide +kernel⟩, List.mem_of_getElem? (i := 18) (by decide +kernel), List.mem_of_getElem? (i := 132) (by decide +kernel), List.mem_of_getElem? (i := 133) (by decide +kernel)⟩
theorem lw_p6 : lw_okq (⟨"RowForms$Pad", "kindSigns", "()I"⟩, 2) := ⟨⟨by decide +kernel, by decide +kernel⟩, List.mem_of_getElem? (i := 18) (by decide +kernel), List.mem_of_getElem? (i := 136) (by decide +kernel), List.mem_of_getElem? (i := 137) (by decide +kernel)⟩
theorem lw_p7 : lw_okq (⟨"RowForms$Pad", "copyTones", "([I)V"⟩, 2) := ⟨⟨by decide +kernel, by decide +kernel⟩, List.mem_of_getElem? (i := 18) (by decide +kernel), List.mem_of_getElem? (i := 147) (by decide +kernel), List.mem_of_getElem? (i := 148) (by decide +kernel)⟩
theorem lw_p8 : lw_okq (⟨"RowForms$Pad", "formNumber", "()I"⟩, 2) := ⟨⟨by decide +kernel, by decide +kernel⟩, List.mem_of_getElem? (i := 18) (by decide +kernel), List.mem_of_getElem? (i := 162) (by decide +kernel), List.mem_of_getElem? (i := 163) (by decide +kernel)⟩
theorem lw_p9 : lw_okq (⟨"RowForms$Segments", "gather", "([II)V"⟩, 6) := ⟨⟨by decide +kernel, by decide +kernel⟩, List.mem_of_getElem? (i := 55) (by decide +kernel), List.mem_of_getElem? (i := 270) (by decide +kernel), List.mem_of_getElem? (i := 271) (by decide +kernel)⟩
theorem lw_p10 : lw_okq (⟨"RowForms$Segments", "insert", "(II)V"⟩, 6) := ⟨⟨by decide +kernel, by decide +kernel⟩, List.mem_of_getElem? (i := 55) (by decide +kernel), List.mem_of_getElem? (i := 276) (by decide +kernel), List.mem_of_getElem? (i := 277) (by decide +kernel)⟩
theorem lw_p11 : lw_okq (⟨"RowForms$Segments", "countRows", "()I"⟩, 6) := ⟨⟨by decide +kernel, by decide +kernel⟩, List.mem_of_getElem? (i := 55) (by decide +kernel), List.mem_of_getElem? (i := 280) (by decide +kernel), List.mem_of_getElem? (i := 281) (by decide +kernel)⟩
theorem lw_p12 : lw_okq (⟨"RowForms$Segments", "toneOfRow", "(II)I"⟩, 6) := ⟨⟨by decide +kernel, by decide +kernel⟩, List.mem_of_getElem? (i := 55) (by decide +kernel), List.mem_of_getElem? (i := 287) (by decide +kernel), List.mem_of_getElem? (i := 288) (by decide +kernel)⟩
theorem lw_p13 : lw_okq (⟨"RowForms$Store", "copyFrom", "(LRowForms$Store;)V"⟩, 3) := ⟨⟨by decide +kernel, by decide +kernel⟩, List.mem_of_getElem? (i := 33) (by decide +kernel), List.mem_of_getElem? (i := 344) (by decide +kernel), List.mem_of_getElem? (i := 345) (by decide +kernel)⟩
theorem lw_p14 : lw_okq (⟨"RowForms", "leastAlike", "(I)I"⟩, 5) := ⟨⟨by decide +kernel, by decide +kernel⟩, List.mem_of_getElem? (i := 10) (by decide +kernel), List.mem_of_getElem? (i := 357) (by decide +kernel), List.mem_of_getElem? (i := 358) (by decide +kernel)⟩
theorem lw_p15 : lw_okq (⟨"RowFormsModel", "faultOfTones", "(Z)I"⟩, 14) := ⟨⟨by decide +kernel, by decide +kernel⟩, List.mem_of_getElem? (i := 361) (by decide +kernel), List.mem_of_getElem? (i := 428) (by decide +kernel), List.mem_of_getElem? (i := 429) (by decide +kernel)⟩
def lw_privs_1 : List (MethodName × Nat) := [(⟨"RowForms$Pad", "isFull", "()Z"⟩, 2), (⟨"RowForms$Pad", "add", "(I)I"⟩, 2), (⟨"RowForms$Pad", "empty", "()I"⟩, 2), (⟨"RowForms$Pad", "rowFault", "(Z)I"⟩, 2), (⟨"RowForms$Pad", "signAt", "(I)I"⟩, 2), (⟨"RowForms$Pad", "formFault", "()I"⟩, 2), (⟨"RowForms$Pad", "kindSigns", "()I"⟩, 2), (⟨"RowForms$Pad", "copyTones", "([I)V"⟩, 2), (⟨"RowForms$Pad", "formNumber", "()I"⟩, 2), (⟨"RowForms$Segments", "gather", "([II)V"⟩, 6), (⟨"RowForms$Segments", "insert", "(II)V"⟩, 6), (⟨"RowForms$Segments", "countRows", "()I"⟩, 6), (⟨"RowForms$Segments", "toneOfRow", "(II)I"⟩, 6), (⟨"RowForms$Store", "copyFrom", "(LRowForms$Store;)V"⟩, 3), (⟨"RowForms", "leastAlike", "(I)I"⟩, 5), (⟨"RowFormsModel", "faultOfTones", "(Z)I"⟩, 14)]
theorem lw_r1 : ∀ q ∈ lw_privs_1, lw_okq q := List.forall_mem_cons.mpr ⟨lw_p0, List.forall_mem_cons.mpr ⟨lw_p1, List.forall_mem_cons.mpr ⟨lw_p2, List.forall_mem_cons.mpr ⟨lw_p3, List.forall_mem_cons.mpr ⟨lw_p4, List.forall_mem_cons.mpr ⟨lw_p5, List.forall_mem_cons.mpr ⟨lw_p6, List.forall_mem_cons.mpr ⟨lw_p7, List.forall_mem_cons.mpr ⟨lw_p8, List.forall_mem_cons.mpr ⟨lw_p9, List.forall_mem_cons.mpr ⟨lw_p10, List.forall_mem_cons.mpr ⟨lw_p11, List.forall_mem_cons.mpr ⟨lw_p12, List.forall_mem_cons.mpr ⟨lw_p13, List.forall_mem_cons.mpr ⟨lw_p14, List.forall_mem_cons.mpr ⟨lw_p15, fun _ h => absurd h List.not_mem_nil⟩⟩⟩⟩⟩⟩⟩⟩⟩⟩⟩⟩⟩⟩⟩⟩
theorem lw_p16 : lw_okq (⟨"RowFormsModel", "faultOfForm", "()I"⟩, 14) := ⟨⟨by decide +kernel, by decide +kernel⟩, List.mem_of_getElem? (i := 361) (by decide +kernel), List.mem_of_getElem? (i := 437) (by decide +kernel), List.mem_of_getElem? (i := 438) (by decide +kernel)⟩
theorem lw_p17 : lw_okq (⟨"RowFormsModel", "isSign", "(II)Z"⟩, 14) := ⟨⟨by decide +kernel, by decide +kernel⟩, List.mem_of_getElem? (i := 361) (by decide +kernel), List.mem_of_getElem? (i := 441) (by decide +kernel), List.mem_of_getElem? (i := 442) (by decide +kernel)⟩
theorem lw_p18 : lw_okq (⟨"RowFormsModel", "holesNow", "()I"⟩, 14) := ⟨⟨by decide +kernel, by decide +kernel⟩, List.mem_of_getElem? (i := 361) (by decide +kernel), List.mem_of_getElem? (i := 457) (by decide +kernel), List.mem_of_getElem? (i := 458) (by decide +kernel)⟩
theorem lw_p19 : lw_okq (⟨"RowFormsModel", "toneAt", "(II)I"⟩, 14) := ⟨⟨by decide +kernel, by decide +kernel⟩, List.mem_of_getElem? (i := 361) (by decide +kernel), List.mem_of_getElem? (i := 473) (by decide +kernel), List.mem_of_getElem? (i := 474) (by decide +kernel)⟩
theorem lw_p20 : lw_okq (⟨"RowFormsModel", "formAt", "(III)I"⟩, 14) := ⟨⟨by decide +kernel, by decide +kernel⟩, List.mem_of_getElem? (i := 361) (by decide +kernel), List.mem_of_getElem? (i := 485) (by decide +kernel), List.mem_of_getElem? (i := 486) (by decide +kernel)⟩
theorem lw_p21 : lw_okq (⟨"RowFormsModel", "canonForm", "(I)I"⟩, 14) := ⟨⟨by decide +kernel, by decide +kernel⟩, List.mem_of_getElem? (i := 361) (by decide +kernel), List.mem_of_getElem? (i := 511) (by decide +kernel), List.mem_of_getElem? (i := 512) (by decide +kernel)⟩
theorem lw_p22 : lw_okq (⟨"RowFormsModel", "compared", "(III)I"⟩, 14) := ⟨⟨by decide +kernel, by decide +kernel⟩, List.mem_of_getElem? (i := 361) (by decide +kernel), List.mem_of_getElem? (i := 515) (by decide +kernel), List.mem_of_getElem? (i := 516) (by decide +kernel)⟩
theorem lw_p23 : lw_okq (⟨"RowFormsModel", "sizeOf", "(I)I"⟩, 14) := ⟨⟨by decide +kernel, by decide +kernel⟩, List.mem_of_getElem? (i := 361) (by decide +kernel), List.mem_of_getElem? (i := 519) (by decide +kernel), List.mem_of_getElem? (i := 520) (by decide +kernel)⟩
theorem lw_p24 : lw_okq (⟨"RowFormsModel", "isLeading", "(III)Z"⟩, 14) := ⟨⟨by decide +kernel, by decide +kernel⟩, List.mem_of_getElem? (i := 361) (by decide +kernel), List.mem_of_getElem? (i := 527) (by decide +kernel), List.mem_of_getElem? (i := 528) (by decide +kernel)⟩
theorem lw_p25 : lw_okq (⟨"RowFormsModel", "unlikeSteps", "(I)I"⟩, 14) := ⟨⟨by decide +kernel, by decide +kernel⟩, List.mem_of_getElem? (i := 361) (by decide +kernel), List.mem_of_getElem? (i := 535) (by decide +kernel), List.mem_of_getElem? (i := 536) (by decide +kernel)⟩
theorem lw_p26 : lw_okq (⟨"RowFormsModel", "stepAt", "(II)I"⟩, 14) := ⟨⟨by decide +kernel, by decide +kernel⟩, List.mem_of_getElem? (i := 361) (by decide +kernel), List.mem_of_getElem? (i := 539) (by decide +kernel), List.mem_of_getElem? (i := 540) (by decide +kernel)⟩
theorem lw_p27 : lw_okq (⟨"RowFormsModel", "setAt", "(IIII)I"⟩, 14) := ⟨⟨by decide +kernel, by decide +kernel⟩, List.mem_of_getElem? (i := 361) (by decide +kernel), List.mem_of_getElem? (i := 549) (by decide +kernel), List.mem_of_getElem? (i := 550) (by decide +kernel)⟩
theorem lw_p28 : lw_okq (⟨"RowFormsModel", "isGroup", "(III)Z"⟩, 14) := ⟨⟨by decide +kernel, by decide +kernel⟩, List.mem_of_getElem? (i := 361) (by decide +kernel), List.mem_of_getElem? (i := 561) (by decide +kernel), List.mem_of_getElem? (i := 562) (by decide +kernel)⟩
theorem lw_p29 : lw_okq (⟨"RowFormsModel", "groupAt", "(IIII)I"⟩, 14) := ⟨⟨by decide +kernel, by decide +kernel⟩, List.mem_of_getElem? (i := 361) (by decide +kernel), List.mem_of_getElem? (i := 565) (by decide +kernel), List.mem_of_getElem? (i := 566) (by decide +kernel)⟩
theorem lw_p30 : lw_okq (⟨"RowFormsModel", "isFirst", "(III)Z"⟩, 14) := ⟨⟨by decide +kernel, by decide +kernel⟩, List.mem_of_getElem? (i := 361) (by decide +kernel), List.mem_of_getElem? (i := 574) (by decide +kernel), List.mem_of_getElem? (i := 575) (by decide +kernel)⟩
theorem lw_p31 : lw_okq (⟨"RowFormsModel", "addGroup", "(III)V"⟩, 14) := ⟨⟨by decide +kernel, by decide +kernel⟩, List.mem_of_getElem? (i := 361) (by decide +kernel), List.mem_of_getElem? (i := 578) (by decide +kernel), List.mem_of_getElem? (i := 579) (by decide +kernel)⟩
def lw_privs_2 : List (MethodName × Nat) := [(⟨"RowFormsModel", "faultOfForm", "()I"⟩, 14), (⟨"RowFormsModel", "isSign", "(II)Z"⟩, 14), (⟨"RowFormsModel", "holesNow", "()I"⟩, 14), (⟨"RowFormsModel", "toneAt", "(II)I"⟩, 14), (⟨"RowFormsModel", "formAt", "(III)I"⟩, 14), (⟨"RowFormsModel", "canonForm", "(I)I"⟩, 14), (⟨"RowFormsModel", "compared", "(III)I"⟩, 14), (⟨"RowFormsModel", "sizeOf", "(I)I"⟩, 14), (⟨"RowFormsModel", "isLeading", "(III)Z"⟩, 14), (⟨"RowFormsModel", "unlikeSteps", "(I)I"⟩, 14), (⟨"RowFormsModel", "stepAt", "(II)I"⟩, 14), (⟨"RowFormsModel", "setAt", "(IIII)I"⟩, 14), (⟨"RowFormsModel", "isGroup", "(III)Z"⟩, 14), (⟨"RowFormsModel", "groupAt", "(IIII)I"⟩, 14), (⟨"RowFormsModel", "isFirst", "(III)Z"⟩, 14), (⟨"RowFormsModel", "addGroup", "(III)V"⟩, 14)]
theorem lw_r2 : ∀ q ∈ lw_privs_2, lw_okq q := List.forall_mem_cons.mpr ⟨lw_p16, List.forall_mem_cons.mpr ⟨lw_p17, List.forall_mem_cons.mpr ⟨lw_p18, List.forall_mem_cons.mpr ⟨lw_p19, List.forall_mem_cons.mpr ⟨lw_p20, List.forall_mem_cons.mpr ⟨lw_p21, List.forall_mem_cons.mpr ⟨lw_p22, List.forall_mem_cons.mpr ⟨lw_p23, List.forall_mem_cons.mpr ⟨lw_p24, List.forall_mem_cons.mpr ⟨lw_p25, List.forall_mem_cons.mpr ⟨lw_p26, List.forall_mem_cons.mpr ⟨lw_p27, List.forall_mem_cons.mpr ⟨lw_p28, List.forall_mem_cons.mpr ⟨lw_p29, List.forall_mem_cons.mpr ⟨lw_p30, List.forall_mem_cons.mpr ⟨lw_p31, fun _ h => absurd h List.not_mem_nil⟩⟩⟩⟩⟩⟩⟩⟩⟩⟩⟩⟩⟩⟩⟩⟩
theorem lw_p32 : lw_okq (⟨"RowFormsModel", "comparedGroups", "(IIII)I"⟩, 14) := ⟨⟨by decide +kernel, by decide +kernel⟩, List.mem_of_getElem? (i := 361) (by decide +kernel), List.mem_of_getElem? (i := 582) (by decide +kernel), List.mem_of_getElem? (i := 583) (by decide +kernel)⟩
theorem lw_p33 : lw_okq (⟨"RowFormsModel", "fits", "(III)Z"⟩, 14) := ⟨⟨by decide +kernel, by decide +kernel⟩, List.mem_of_getElem? (i := 361) (by decide +kernel), List.mem_of_getElem? (i := 586) (by decide +kernel), List.mem_of_getElem? (i := 587) (by decide +kernel)⟩
theorem lw_p34 : lw_okq (⟨"RowFormsModel", "firstSet", "(II)I"⟩, 14) := ⟨⟨by decide +kernel, by decide +kernel⟩, List.mem_of_getElem? (i := 361) (by decide +kernel), List.mem_of_getElem? (i := 590) (by decide +kernel), List.mem_of_getElem? (i := 591) (by decide +kernel)⟩
theorem lw_p35 : lw_okq (⟨"RowFormsModel", "isNext", "(III)Z"⟩, 14) := ⟨⟨by decide +kernel, by decide +kernel⟩, List.mem_of_getElem? (i := 361) (by decide +kernel), List.mem_of_getElem? (i := 594) (by decide +kernel), List.mem_of_getElem? (i := 595) (by decide +kernel)⟩
theorem lw_p36 : lw_okq (⟨"RowFormsModel", "isWell", "(I)Z"⟩, 14) := ⟨⟨by decide +kernel, by decide +kernel⟩, List.mem_of_getElem? (i := 361) (by decide +kernel), List.mem_of_getElem? (i := 602) (by decide +kernel), List.mem_of_getElem? (i := 603) (by decide +kernel)⟩
theorem lw_p37 : lw_okq (⟨"RowFormsModel", "placeOf", "(I)I"⟩, 14) := ⟨⟨by decide +kernel, by decide +kernel⟩, List.mem_of_getElem? (i := 361) (by decide +kernel), List.mem_of_getElem? (i := 612) (by decide +kernel), List.mem_of_getElem? (i := 613) (by decide +kernel)⟩
theorem lw_p38 : lw_okq (⟨"RowFormsModel", "fill", "(I)V"⟩, 14) := ⟨⟨by decide +kernel, by decide +kernel⟩, List.mem_of_getElem? (i := 361) (by decide +kernel), List.mem_of_getElem? (i := 620) (by decide +kernel), List.mem_of_getElem? (i := 621) (by decide +kernel)⟩
theorem lw_p39 : lw_okq (⟨"RowFormsModel", "leastFree", "(I)I"⟩, 14) := ⟨⟨by decide +kernel, by decide +kernel⟩, List.mem_of_getElem? (i := 361) (by decide +kernel), List.mem_of_getElem? (i := 624) (by decide +kernel), List.mem_of_getElem? (i := 625) (by decide +kernel)⟩
theorem lw_p40 : lw_okq (⟨"RowFormsModel", "isUsed", "(I)Z"⟩, 14) := ⟨⟨by decide +kernel, by decide +kernel⟩, List.mem_of_getElem? (i := 361) (by decide +kernel), List.mem_of_getElem? (i := 628) (by decide +kernel), List.mem_of_getElem? (i := 629) (by decide +kernel)⟩
theorem lw_p41 : lw_okq (⟨"RowFormsModel", "passAll", "()V"⟩, 14) := ⟨⟨by decide +kernel, by decide +kernel⟩, List.mem_of_getElem? (i := 361) (by decide +kernel), List.mem_of_getElem? (i := 643) (by decide +kernel), List.mem_of_getElem? (i := 644) (by decide +kernel)⟩
theorem lw_p42 : lw_okq (⟨"RowFormsModel", "passRow", "([II)V"⟩, 14) := ⟨⟨by decide +kernel, by decide +kernel⟩, List.mem_of_getElem? (i := 361) (by decide +kernel), List.mem_of_getElem? (i := 647) (by decide +kernel), List.mem_of_getElem? (i := 648) (by decide +kernel)⟩
theorem lw_p43 : lw_okq (⟨"RowFormsModel", "firstLike", "(I)I"⟩, 14) := ⟨⟨by decide +kernel, by decide +kernel⟩, List.mem_of_getElem? (i := 361) (by decide +kernel), List.mem_of_getElem? (i := 659) (by decide +kernel), List.mem_of_getElem? (i := 660) (by decide +kernel)⟩
def lw_privs_3 : List (MethodName × Nat) := [(⟨"RowFormsModel", "comparedGroups", "(IIII)I"⟩, 14), (⟨"RowFormsModel", "fits", "(III)Z"⟩, 14), (⟨"RowFormsModel", "firstSet", "(II)I"⟩, 14), (⟨"RowFormsModel", "isNext", "(III)Z"⟩, 14), (⟨"RowFormsModel", "isWell", "(I)Z"⟩, 14), (⟨"RowFormsModel", "placeOf", "(I)I"⟩, 14), (⟨"RowFormsModel", "fill", "(I)V"⟩, 14), (⟨"RowFormsModel", "leastFree", "(I)I"⟩, 14), (⟨"RowFormsModel", "isUsed", "(I)Z"⟩, 14), (⟨"RowFormsModel", "passAll", "()V"⟩, 14), (⟨"RowFormsModel", "passRow", "([II)V"⟩, 14), (⟨"RowFormsModel", "firstLike", "(I)I"⟩, 14)]
theorem lw_r3 : ∀ q ∈ lw_privs_3, lw_okq q := List.forall_mem_cons.mpr ⟨lw_p32, List.forall_mem_cons.mpr ⟨lw_p33, List.forall_mem_cons.mpr ⟨lw_p34, List.forall_mem_cons.mpr ⟨lw_p35, List.forall_mem_cons.mpr ⟨lw_p36, List.forall_mem_cons.mpr ⟨lw_p37, List.forall_mem_cons.mpr ⟨lw_p38, List.forall_mem_cons.mpr ⟨lw_p39, List.forall_mem_cons.mpr ⟨lw_p40, List.forall_mem_cons.mpr ⟨lw_p41, List.forall_mem_cons.mpr ⟨lw_p42, List.forall_mem_cons.mpr ⟨lw_p43, fun _ h => absurd h List.not_mem_nil⟩⟩⟩⟩⟩⟩⟩⟩⟩⟩⟩⟩
def lw_privs : List (MethodName × Nat) := lw_privs_1 ++ (lw_privs_2 ++ (lw_privs_3))
def lw_tbl : List Cond := k2_sels lw_privs ++ tables_1
theorem lw_privs_ok : ∀ q ∈ lw_privs, lw_okq q := by
  show ∀ q ∈ lw_privs_1 ++ (lw_privs_2 ++ (lw_privs_3)), lw_okq q
  exact List.forall_mem_append.mpr ⟨lw_r1, List.forall_mem_append.mpr ⟨lw_r2, lw_r3⟩⟩
end
section
/-! ===== BEGIN printed: names, fields, word lists, decode rows ===== -/
def RX0 : String := "RowForms$Pad"
def TX0 : u_T := fun k => match k with
  | 0 => ("RowForms$Pad", "signs", "[I", true)
  | _ => ("RowForms$Pad", "count", "I", false)
def tyX0 : Nat → FieldType := fun k => match k with
  | 0 => .array .int
  | _ => .int
abbrev wsX00 : List Cond := u_ws RX0 TX0 2
theorem nmX0 : ∀ a, a < 2 → ∀ b, b < 2 → a ≠ b → (TX0 a).2.1 ≠ (TX0 b).2.1 := by decide +kernel
theorem tyX0_ok : ∀ k, k < 2 → parseFieldDescriptor (TX0 k).2.2.1 = some (tyX0 k) := by decide +kernel
abbrev cX0_init : ByteArray := prog_2_method_1_code
def yX0_init : MethodName := ⟨RX0, "<init>", "()V"⟩
abbrev cX0_isFull : ByteArray := prog_2_method_2_code
def yX0_isFull : MethodName := ⟨RX0, "isFull", "()Z"⟩
abbrev cX0_add : ByteArray := prog_2_method_3_code
def yX0_add : MethodName := ⟨RX0, "add", "(I)I"⟩
abbrev cX0_empty : ByteArray := prog_2_method_4_code
def yX0_empty : MethodName := ⟨RX0, "empty", "()I"⟩
abbrev cX0_signAt : ByteArray := prog_2_method_5_code
def yX0_signAt : MethodName := ⟨RX0, "signAt", "(I)I"⟩
abbrev cX0_rowFault : ByteArray := prog_2_method_6_code
def yX0_rowFault : MethodName := ⟨RX0, "rowFault", "(Z)I"⟩
abbrev cX0_copyTones : ByteArray := prog_2_method_7_code
def yX0_copyTones : MethodName := ⟨RX0, "copyTones", "([I)V"⟩
abbrev cX0_formFault : ByteArray := prog_2_method_8_code
def yX0_formFault : MethodName := ⟨RX0, "formFault", "()I"⟩
abbrev cX0_kindSigns : ByteArray := prog_2_method_9_code
def yX0_kindSigns : MethodName := ⟨RX0, "kindSigns", "()I"⟩
abbrev cX0_formNumber : ByteArray := prog_2_method_10_code
def yX0_formNumber : MethodName := ⟨RX0, "formNumber", "()I"⟩
def RX1 : String := "RowForms$Segments"
def TX1 : u_T := fun k => match k with
  | 0 => ("RowForms$Segments", "keys", "[I", true)
  | 1 => ("RowForms$Segments", "sets", "[I", true)
  | 2 => ("RowForms$Segments", "many", "I", false)
  | 3 => ("RowForms$Segments", "width", "I", false)
  | 4 => ("RowForms$Segments", "begin", "I", false)
  | _ => ("RowForms$Segments", "following", "I", false)
def tyX1 : Nat → FieldType := fun k => match k with
  | 0 => .array .int
  | 1 => .array .int
  | 2 => .int
  | 3 => .int
  | 4 => .int
  | _ => .int
abbrev wsX10 : List Cond := u_ws RX1 TX1 6
theorem nmX1 : ∀ a, a < 6 → ∀ b, b < 6 → a ≠ b → (TX1 a).2.1 ≠ (TX1 b).2.1 := by decide +kernel
theorem tyX1_ok : ∀ k, k < 6 → parseFieldDescriptor (TX1 k).2.2.1 = some (tyX1 k) := by decide +kernel
abbrev cX1_init : ByteArray := prog_3_method_1_code
def yX1_init : MethodName := ⟨RX1, "<init>", "()V"⟩
abbrev cX1_gather : ByteArray := prog_3_method_2_code
def yX1_gather : MethodName := ⟨RX1, "gather", "([II)V"⟩
abbrev cX1_insert : ByteArray := prog_3_method_3_code
def yX1_insert : MethodName := ⟨RX1, "insert", "(II)V"⟩
abbrev cX1_countRows : ByteArray := prog_3_method_4_code
def yX1_countRows : MethodName := ⟨RX1, "countRows", "()I"⟩
abbrev cX1_countWays : ByteArray := prog_3_method_5_code
def yX1_countWays : MethodName := ⟨RX1, "countWays", "([IIII)I"⟩
abbrev cX1_toneOfRow : ByteArray := prog_3_method_6_code
def yX1_toneOfRow : MethodName := ⟨RX1, "toneOfRow", "(II)I"⟩
def RX2 : String := "RowForms$Store"
def TX2 : u_T := fun k => match k with
  | 0 => ("RowForms$Store", "rows", "[[I", true)
  | 1 => ("RowForms$Store", "pattern", "[I", true)
  | _ => ("RowForms$Store", "kept", "Z", false)
def tyX2 : Nat → FieldType := fun k => match k with
  | 0 => .array (.array .int)
  | 1 => .array .int
  | _ => .boolean
abbrev wsX20 : List Cond := u_ws RX2 TX2 3
theorem nmX2 : ∀ a, a < 3 → ∀ b, b < 3 → a ≠ b → (TX2 a).2.1 ≠ (TX2 b).2.1 := by decide +kernel
theorem tyX2_ok : ∀ k, k < 3 → parseFieldDescriptor (TX2 k).2.2.1 = some (tyX2 k) := by decide +kernel
abbrev cX2_init : ByteArray := prog_4_method_1_code
def yX2_init : MethodName := ⟨RX2, "<init>", "()V"⟩
abbrev cX2_copyFrom : ByteArray := prog_4_method_2_code
def yX2_copyFrom : MethodName := ⟨RX2, "copyFrom", "(LRowForms$Store;)V"⟩
def RX3 : String := "RowForms"
def TX3 : u_T := fun k => match k with
  | 0 => ("RowForms", "pad", "LRowForms$Pad;", true)
  | 1 => ("RowForms", "now", "LRowForms$Store;", true)
  | 2 => ("RowForms", "images", "[LRowForms$Store;", true)
  | 3 => ("RowForms", "segments", "LRowForms$Segments;", true)
  | _ => ("RowForms", "scratch", "[I", true)
def tyX3 : Nat → FieldType := fun k => match k with
  | 0 => .object "RowForms$Pad"
  | 1 => .object "RowForms$Store"
  | 2 => .array (.object "RowForms$Store")
  | 3 => .object "RowForms$Segments"
  | _ => .array .int
abbrev wsX30 : List Cond := u_ws RX3 TX3 5
theorem nmX3 : ∀ a, a < 5 → ∀ b, b < 5 → a ≠ b → (TX3 a).2.1 ≠ (TX3 b).2.1 := by decide +kernel
theorem tyX3_ok : ∀ k, k < 5 → parseFieldDescriptor (TX3 k).2.2.1 = some (tyX3 k) := by decide +kernel
abbrev cX3_init : ByteArray := prog_1_method_1_code
def yX3_init : MethodName := ⟨RX3, "<init>", "()V"⟩
abbrev cX3_say : ByteArray := prog_1_method_2_code
def yX3_say : MethodName := ⟨RX3, "say", "(I)I"⟩
abbrev cX3_wipe : ByteArray := prog_1_method_3_code
def yX3_wipe : MethodName := ⟨RX3, "wipe", "()I"⟩
abbrev cX3_fault : ByteArray := prog_1_method_4_code
def yX3_fault : MethodName := ⟨RX3, "fault", "(I)I"⟩
abbrev cX3_load : ByteArray := prog_1_method_5_code
def yX3_load : MethodName := ⟨RX3, "load", "(I)I"⟩
abbrev cX3_punch : ByteArray := prog_1_method_6_code
def yX3_punch : MethodName := ⟨RX3, "punch", "()I"⟩
abbrev cX3_named : ByteArray := prog_1_method_7_code
def yX3_named : MethodName := ⟨RX3, "named", "()I"⟩
abbrev cX3_tone : ByteArray := prog_1_method_8_code
def yX3_tone : MethodName := ⟨RX3, "tone", "(II)I"⟩
abbrev cX3_turn : ByteArray := prog_1_method_9_code
def yX3_turn : MethodName := ⟨RX3, "turn", "(III)I"⟩
abbrev cX3_behind : ByteArray := prog_1_method_10_code
def yX3_behind : MethodName := ⟨RX3, "behind", "(II)I"⟩
abbrev cX3_back : ByteArray := prog_1_method_11_code
def yX3_back : MethodName := ⟨RX3, "back", "(I)I"⟩
abbrev cX3_canon : ByteArray := prog_1_method_12_code
def yX3_canon : MethodName := ⟨RX3, "canon", "(II)I"⟩
abbrev cX3_leads : ByteArray := prog_1_method_13_code
def yX3_leads : MethodName := ⟨RX3, "leads", "(III)I"⟩
abbrev cX3_step : ByteArray := prog_1_method_14_code
def yX3_step : MethodName := ⟨RX3, "step", "(II)I"⟩
abbrev cX3_shared : ByteArray := prog_1_method_15_code
def yX3_shared : MethodName := ⟨RX3, "shared", "(III)I"⟩
abbrev cX3_partner : ByteArray := prog_1_method_16_code
def yX3_partner : MethodName := ⟨RX3, "partner", "(II)I"⟩
abbrev cX3_derived : ByteArray := prog_1_method_17_code
def yX3_derived : MethodName := ⟨RX3, "derived", "(II)I"⟩
abbrev cX3_making : ByteArray := prog_1_method_18_code
def yX3_making : MethodName := ⟨RX3, "making", "(IIII)I"⟩
abbrev cX3_fillings : ByteArray := prog_1_method_19_code
def yX3_fillings : MethodName := ⟨RX3, "fillings", "(I)I"⟩
abbrev cX3_filling : ByteArray := prog_1_method_20_code
def yX3_filling : MethodName := ⟨RX3, "filling", "(II)I"⟩
abbrev cX3_sign : ByteArray := prog_1_method_21_code
def yX3_sign : MethodName := ⟨RX3, "sign", "(III)I"⟩
abbrev cX3_image : ByteArray := prog_1_method_22_code
def yX3_image : MethodName := ⟨RX3, "image", "(I)I"⟩
abbrev cX3_restore : ByteArray := prog_1_method_23_code
def yX3_restore : MethodName := ⟨RX3, "restore", "(I)I"⟩
abbrev cX3_told : ByteArray := prog_1_method_24_code
def yX3_told : MethodName := ⟨RX3, "told", "(I)I"⟩
abbrev cX3_leastAlike : ByteArray := prog_1_method_25_code
def yX3_leastAlike : MethodName := ⟨RX3, "leastAlike", "(I)I"⟩
abbrev cX3_isRow : ByteArray := prog_1_method_26_code
def yX3_isRow : MethodName := ⟨RX3, "isRow", "(I)Z"⟩
abbrev cX3_isForm : ByteArray := prog_1_method_27_code
def yX3_isForm : MethodName := ⟨RX3, "isForm", "(I)Z"⟩
abbrev cX3_isPlace : ByteArray := prog_1_method_28_code
def yX3_isPlace : MethodName := ⟨RX3, "isPlace", "(I)Z"⟩
abbrev cX3_isImage : ByteArray := prog_1_method_29_code
def yX3_isImage : MethodName := ⟨RX3, "isImage", "(I)Z"⟩
abbrev cX3_isMirrored : ByteArray := prog_1_method_30_code
def yX3_isMirrored : MethodName := ⟨RX3, "isMirrored", "(I)Z"⟩
abbrev cX3_isBackwards : ByteArray := prog_1_method_31_code
def yX3_isBackwards : MethodName := ⟨RX3, "isBackwards", "(I)Z"⟩
abbrev cX3_wrapped : ByteArray := prog_1_method_32_code
def yX3_wrapped : MethodName := ⟨RX3, "wrapped", "(I)I"⟩
abbrev cX3_turnedTone : ByteArray := prog_1_method_33_code
def yX3_turnedTone : MethodName := ⟨RX3, "turnedTone", "(II)I"⟩
abbrev cX3_formTone : ByteArray := prog_1_method_34_code
def yX3_formTone : MethodName := ⟨RX3, "formTone", "([IIII)I"⟩
abbrev cX3_isFormOf : ByteArray := prog_1_method_35_code
def yX3_isFormOf : MethodName := ⟨RX3, "isFormOf", "([III[II)Z"⟩
abbrev cX3_isAnyFormOf : ByteArray := prog_1_method_36_code
def yX3_isAnyFormOf : MethodName := ⟨RX3, "isAnyFormOf", "([III)Z"⟩
abbrev cX3_leastForm : ByteArray := prog_1_method_37_code
def yX3_leastForm : MethodName := ⟨RX3, "leastForm", "([I)I"⟩
abbrev cX3_isLess : ByteArray := prog_1_method_38_code
def yX3_isLess : MethodName := ⟨RX3, "isLess", "([III)Z"⟩
abbrev cX3_sizeOf : ByteArray := prog_1_method_39_code
def yX3_sizeOf : MethodName := ⟨RX3, "sizeOf", "([I)I"⟩
abbrev cX3_stepAt : ByteArray := prog_1_method_40_code
def yX3_stepAt : MethodName := ⟨RX3, "stepAt", "([II)I"⟩
abbrev cX3_unlikeSteps : ByteArray := prog_1_method_41_code
def yX3_unlikeSteps : MethodName := ⟨RX3, "unlikeSteps", "([I)I"⟩
abbrev cX3_formSet : ByteArray := prog_1_method_42_code
def yX3_formSet : MethodName := ⟨RX3, "formSet", "([IIII)I"⟩
abbrev cX3_hasSegment : ByteArray := prog_1_method_43_code
def yX3_hasSegment : MethodName := ⟨RX3, "hasSegment", "([IIII)Z"⟩
abbrev cX3_holesOf : ByteArray := prog_1_method_44_code
def yX3_holesOf : MethodName := ⟨RX3, "holesOf", "([I)I"⟩
abbrev cX3_canKeepRows : ByteArray := prog_1_method_45_code
def yX3_canKeepRows : MethodName := ⟨RX3, "canKeepRows", "(I)Z"⟩
abbrev cX3_placeAcross : ByteArray := prog_1_method_46_code
def yX3_placeAcross : MethodName := ⟨RX3, "placeAcross", "(II)I"⟩
abbrev cX3_toneBits : ByteArray := prog_1_method_47_code
def yX3_toneBits : MethodName := ⟨RX3, "toneBits", "([I)I"⟩
abbrev cX3_fillForced : ByteArray := prog_1_method_48_code
def yX3_fillForced : MethodName := ⟨RX3, "fillForced", "([II[I)Z"⟩
abbrev cX3_fillFree : ByteArray := prog_1_method_49_code
def yX3_fillFree : MethodName := ⟨RX3, "fillFree", "([II)V"⟩
abbrev cX3_factorial : ByteArray := prog_1_method_50_code
def yX3_factorial : MethodName := ⟨RX3, "factorial", "(I)I"⟩
abbrev cX3_toneSign : ByteArray := prog_1_method_51_code
def yX3_toneSign : MethodName := ⟨RX3, "toneSign", "(I)I"⟩
abbrev cX3_signTone : ByteArray := prog_1_method_52_code
def yX3_signTone : MethodName := ⟨RX3, "signTone", "(I)I"⟩
abbrev cX3_kindLength : ByteArray := prog_1_method_53_code
def yX3_kindLength : MethodName := ⟨RX3, "kindLength", "(I)I"⟩
abbrev cX3_nameLength : ByteArray := prog_1_method_54_code
def yX3_nameLength : MethodName := ⟨RX3, "nameLength", "(I)I"⟩
abbrev cX3_nameSign : ByteArray := prog_1_method_55_code
def yX3_nameSign : MethodName := ⟨RX3, "nameSign", "(II)I"⟩
def RX4 : String := "RowFormsModel"
def TX4 : u_T := fun k => match k with
  | 0 => ("RowFormsModel", "rows", "[I", true)
  | 1 => ("RowFormsModel", "holes", "[I", true)
  | 2 => ("RowFormsModel", "pad", "[I", true)
  | 3 => ("RowFormsModel", "padMany", "I", false)
  | 4 => ("RowFormsModel", "readForm", "I", false)
  | 5 => ("RowFormsModel", "made", "[I", true)
  | 6 => ("RowFormsModel", "groupForm", "[I", true)
  | 7 => ("RowFormsModel", "groupSet", "[I", true)
  | 8 => ("RowFormsModel", "groupMany", "I", false)
  | 9 => ("RowFormsModel", "chosen", "[I", true)
  | 10 => ("RowFormsModel", "kept", "[I", true)
  | 11 => ("RowFormsModel", "isKept", "[Z", true)
  | 12 => ("RowFormsModel", "keptAt", "I", false)
  | _ => ("RowFormsModel", "isWriting", "Z", false)
def tyX4 : Nat → FieldType := fun k => match k with
  | 0 => .array .int
  | 1 => .array .int
  | 2 => .array .int
  | 3 => .int
  | 4 => .int
  | 5 => .array .int
  | 6 => .array .int
  | 7 => .array .int
  | 8 => .int
  | 9 => .array .int
  | 10 => .array .int
  | 11 => .array .boolean
  | 12 => .int
  | _ => .boolean
abbrev wsX40 : List Cond := u_ws RX4 TX4 14
theorem nmX4 : ∀ a, a < 14 → ∀ b, b < 14 → a ≠ b → (TX4 a).2.1 ≠ (TX4 b).2.1 := by decide +kernel
theorem tyX4_ok : ∀ k, k < 14 → parseFieldDescriptor (TX4 k).2.2.1 = some (tyX4 k) := by decide +kernel
abbrev cX4_init : ByteArray := prog_6_method_1_code
def yX4_init : MethodName := ⟨RX4, "<init>", "()V"⟩
abbrev cX4_in : ByteArray := prog_6_method_3_code
def yX4_in : MethodName := ⟨RX4, "in", "(JJJ)Z"⟩
abbrev cX4_isRow : ByteArray := prog_6_method_4_code
def yX4_isRow : MethodName := ⟨RX4, "isRow", "(I)Z"⟩
abbrev cX4_isForm : ByteArray := prog_6_method_5_code
def yX4_isForm : MethodName := ⟨RX4, "isForm", "(I)Z"⟩
abbrev cX4_isPlace : ByteArray := prog_6_method_6_code
def yX4_isPlace : MethodName := ⟨RX4, "isPlace", "(I)Z"⟩
abbrev cX4_say : ByteArray := prog_6_method_7_code
def yX4_say : MethodName := ⟨RX4, "say", "(I)I"⟩
abbrev cX4_wipe : ByteArray := prog_6_method_8_code
def yX4_wipe : MethodName := ⟨RX4, "wipe", "()I"⟩
abbrev cX4_toneOf : ByteArray := prog_6_method_9_code
def yX4_toneOf : MethodName := ⟨RX4, "toneOf", "(I)I"⟩
abbrev cX4_signOf : ByteArray := prog_6_method_10_code
def yX4_signOf : MethodName := ⟨RX4, "signOf", "(I)I"⟩
abbrev cX4_faultOfTones : ByteArray := prog_6_method_11_code
def yX4_faultOfTones : MethodName := ⟨RX4, "faultOfTones", "(Z)I"⟩
abbrev cX4_isSign : ByteArray := prog_6_method_12_code
def yX4_isSign : MethodName := ⟨RX4, "isSign", "(II)Z"⟩
abbrev cX4_faultOfForm : ByteArray := prog_6_method_13_code
def yX4_faultOfForm : MethodName := ⟨RX4, "faultOfForm", "()I"⟩
abbrev cX4_fault : ByteArray := prog_6_method_14_code
def yX4_fault : MethodName := ⟨RX4, "fault", "(I)I"⟩
abbrev cX4_load : ByteArray := prog_6_method_15_code
def yX4_load : MethodName := ⟨RX4, "load", "(I)I"⟩
abbrev cX4_holesNow : ByteArray := prog_6_method_16_code
def yX4_holesNow : MethodName := ⟨RX4, "holesNow", "()I"⟩
abbrev cX4_punch : ByteArray := prog_6_method_17_code
def yX4_punch : MethodName := ⟨RX4, "punch", "()I"⟩
abbrev cX4_named : ByteArray := prog_6_method_18_code
def yX4_named : MethodName := ⟨RX4, "named", "()I"⟩
abbrev cX4_toneAt : ByteArray := prog_6_method_19_code
def yX4_toneAt : MethodName := ⟨RX4, "toneAt", "(II)I"⟩
abbrev cX4_tone : ByteArray := prog_6_method_20_code
def yX4_tone : MethodName := ⟨RX4, "tone", "(II)I"⟩
abbrev cX4_isMirror : ByteArray := prog_6_method_21_code
def yX4_isMirror : MethodName := ⟨RX4, "isMirror", "(I)Z"⟩
abbrev cX4_isBack : ByteArray := prog_6_method_22_code
def yX4_isBack : MethodName := ⟨RX4, "isBack", "(I)Z"⟩
abbrev cX4_moved : ByteArray := prog_6_method_23_code
def yX4_moved : MethodName := ⟨RX4, "moved", "(II)I"⟩
abbrev cX4_formAt : ByteArray := prog_6_method_24_code
def yX4_formAt : MethodName := ⟨RX4, "formAt", "(III)I"⟩
abbrev cX4_turn : ByteArray := prog_6_method_25_code
def yX4_turn : MethodName := ⟨RX4, "turn", "(III)I"⟩
abbrev cX4_behind : ByteArray := prog_6_method_26_code
def yX4_behind : MethodName := ⟨RX4, "behind", "(II)I"⟩
abbrev cX4_back : ByteArray := prog_6_method_27_code
def yX4_back : MethodName := ⟨RX4, "back", "(I)I"⟩
abbrev cX4_compared : ByteArray := prog_6_method_28_code
def yX4_compared : MethodName := ⟨RX4, "compared", "(III)I"⟩
abbrev cX4_canonForm : ByteArray := prog_6_method_29_code
def yX4_canonForm : MethodName := ⟨RX4, "canonForm", "(I)I"⟩
abbrev cX4_sizeOf : ByteArray := prog_6_method_30_code
def yX4_sizeOf : MethodName := ⟨RX4, "sizeOf", "(I)I"⟩
abbrev cX4_canon : ByteArray := prog_6_method_31_code
def yX4_canon : MethodName := ⟨RX4, "canon", "(II)I"⟩
abbrev cX4_isLeading : ByteArray := prog_6_method_32_code
def yX4_isLeading : MethodName := ⟨RX4, "isLeading", "(III)Z"⟩
abbrev cX4_leads : ByteArray := prog_6_method_33_code
def yX4_leads : MethodName := ⟨RX4, "leads", "(III)I"⟩
abbrev cX4_stepAt : ByteArray := prog_6_method_34_code
def yX4_stepAt : MethodName := ⟨RX4, "stepAt", "(II)I"⟩
abbrev cX4_unlikeSteps : ByteArray := prog_6_method_35_code
def yX4_unlikeSteps : MethodName := ⟨RX4, "unlikeSteps", "(I)I"⟩
abbrev cX4_step : ByteArray := prog_6_method_36_code
def yX4_step : MethodName := ⟨RX4, "step", "(II)I"⟩
abbrev cX4_setAt : ByteArray := prog_6_method_37_code
def yX4_setAt : MethodName := ⟨RX4, "setAt", "(IIII)I"⟩
abbrev cX4_shared : ByteArray := prog_6_method_38_code
def yX4_shared : MethodName := ⟨RX4, "shared", "(III)I"⟩
abbrev cX4_partner : ByteArray := prog_6_method_39_code
def yX4_partner : MethodName := ⟨RX4, "partner", "(II)I"⟩
abbrev cX4_groupAt : ByteArray := prog_6_method_40_code
def yX4_groupAt : MethodName := ⟨RX4, "groupAt", "(IIII)I"⟩
abbrev cX4_isGroup : ByteArray := prog_6_method_41_code
def yX4_isGroup : MethodName := ⟨RX4, "isGroup", "(III)Z"⟩
abbrev cX4_derived : ByteArray := prog_6_method_42_code
def yX4_derived : MethodName := ⟨RX4, "derived", "(II)I"⟩
abbrev cX4_comparedGroups : ByteArray := prog_6_method_43_code
def yX4_comparedGroups : MethodName := ⟨RX4, "comparedGroups", "(IIII)I"⟩
abbrev cX4_addGroup : ByteArray := prog_6_method_44_code
def yX4_addGroup : MethodName := ⟨RX4, "addGroup", "(III)V"⟩
abbrev cX4_firstSet : ByteArray := prog_6_method_45_code
def yX4_firstSet : MethodName := ⟨RX4, "firstSet", "(II)I"⟩
abbrev cX4_isNext : ByteArray := prog_6_method_46_code
def yX4_isNext : MethodName := ⟨RX4, "isNext", "(III)Z"⟩
abbrev cX4_fits : ByteArray := prog_6_method_47_code
def yX4_fits : MethodName := ⟨RX4, "fits", "(III)Z"⟩
abbrev cX4_isFirst : ByteArray := prog_6_method_48_code
def yX4_isFirst : MethodName := ⟨RX4, "isFirst", "(III)Z"⟩
abbrev cX4_making : ByteArray := prog_6_method_49_code
def yX4_making : MethodName := ⟨RX4, "making", "(IIII)I"⟩
abbrev cX4_isKeeping : ByteArray := prog_6_method_50_code
def yX4_isKeeping : MethodName := ⟨RX4, "isKeeping", "(I)Z"⟩
abbrev cX4_across : ByteArray := prog_6_method_51_code
def yX4_across : MethodName := ⟨RX4, "across", "(II)I"⟩
abbrev cX4_placeOf : ByteArray := prog_6_method_52_code
def yX4_placeOf : MethodName := ⟨RX4, "placeOf", "(I)I"⟩
abbrev cX4_isWell : ByteArray := prog_6_method_53_code
def yX4_isWell : MethodName := ⟨RX4, "isWell", "(I)Z"⟩
abbrev cX4_fillings : ByteArray := prog_6_method_54_code
def yX4_fillings : MethodName := ⟨RX4, "fillings", "(I)I"⟩
abbrev cX4_isUsed : ByteArray := prog_6_method_55_code
def yX4_isUsed : MethodName := ⟨RX4, "isUsed", "(I)Z"⟩
abbrev cX4_leastFree : ByteArray := prog_6_method_56_code
def yX4_leastFree : MethodName := ⟨RX4, "leastFree", "(I)I"⟩
abbrev cX4_fill : ByteArray := prog_6_method_57_code
def yX4_fill : MethodName := ⟨RX4, "fill", "(I)V"⟩
abbrev cX4_filling : ByteArray := prog_6_method_58_code
def yX4_filling : MethodName := ⟨RX4, "filling", "(II)I"⟩
abbrev cX4_sign : ByteArray := prog_6_method_59_code
def yX4_sign : MethodName := ⟨RX4, "sign", "(III)I"⟩
abbrev cX4_passRow : ByteArray := prog_6_method_60_code
def yX4_passRow : MethodName := ⟨RX4, "passRow", "([II)V"⟩
abbrev cX4_passAll : ByteArray := prog_6_method_61_code
def yX4_passAll : MethodName := ⟨RX4, "passAll", "()V"⟩
abbrev cX4_image : ByteArray := prog_6_method_62_code
def yX4_image : MethodName := ⟨RX4, "image", "(I)I"⟩
abbrev cX4_restore : ByteArray := prog_6_method_63_code
def yX4_restore : MethodName := ⟨RX4, "restore", "(I)I"⟩
abbrev cX4_firstLike : ByteArray := prog_6_method_64_code
def yX4_firstLike : MethodName := ⟨RX4, "firstLike", "(I)I"⟩
abbrev cX4_told : ByteArray := prog_6_method_65_code
def yX4_told : MethodName := ⟨RX4, "told", "(I)I"⟩
def RJ6 : String := "java/lang/Integer"
def TJ6 : u_T := fun k => match k with
  | _ => ("", "", "", false)
def tyJ6 : Nat → FieldType := fun k => match k with
  | _ => .int
abbrev wsJ60 : List Cond := u_ws RJ6 TJ6 0
theorem nmJ6 : ∀ a, a < 0 → ∀ b, b < 0 → a ≠ b → (TJ6 a).2.1 ≠ (TJ6 b).2.1 := by decide +kernel
theorem tyJ6_ok : ∀ k, k < 0 → parseFieldDescriptor (TJ6 k).2.2.1 = some (tyJ6 k) := by decide +kernel
abbrev cJ6_numberOfTrailingZeros_0f7a4 : ByteArray := prog_7_method_48_code
def yJ6_numberOfTrailingZeros_0f7a4 : MethodName := ⟨RJ6, "numberOfTrailingZeros", "(I)I"⟩
abbrev cJ6_bitCount_0f7a4 : ByteArray := prog_7_method_49_code
def yJ6_bitCount_0f7a4 : MethodName := ⟨RJ6, "bitCount", "(I)I"⟩
def RJ9 : String := "java/lang/Math"
def TJ9 : u_T := fun k => match k with
  | _ => ("", "", "", false)
def tyJ9 : Nat → FieldType := fun k => match k with
  | _ => .int
abbrev wsJ90 : List Cond := u_ws RJ9 TJ9 0
theorem nmJ9 : ∀ a, a < 0 → ∀ b, b < 0 → a ≠ b → (TJ9 a).2.1 ≠ (TJ9 b).2.1 := by decide +kernel
theorem tyJ9_ok : ∀ k, k < 0 → parseFieldDescriptor (TJ9 k).2.2.1 = some (tyJ9 k) := by decide +kernel
abbrev cJ9_floorMod_7cf53 : ByteArray := prog_8_method_50_code
def yJ9_floorMod_7cf53 : MethodName := ⟨RJ9, "floorMod", "(II)I"⟩
def RJ10 : String := "java/lang/System"
def TJ10 : u_T := fun k => match k with
  | _ => ("", "", "", false)
def tyJ10 : Nat → FieldType := fun k => match k with
  | _ => .int
abbrev wsJ100 : List Cond := u_ws RJ10 TJ10 0
theorem nmJ10 : ∀ a, a < 0 → ∀ b, b < 0 → a ≠ b → (TJ10 a).2.1 ≠ (TJ10 b).2.1 := by decide +kernel
theorem tyJ10_ok : ∀ k, k < 0 → parseFieldDescriptor (TJ10 k).2.2.1 = some (tyJ10 k) := by decide +kernel
def RL : String := "RowFormsLaw"
abbrev cL_law : ByteArray := code
def yL_law : MethodName := ⟨RL, "law", "([I)Z"⟩
end
section
/-! The picture machine: numbers as Int, references as places of a list of cells. -/
abbrev AV : Type := Int ⊕ (Int ⊕ Option Nat)
abbrev AC : Type := (Nat × Nat × (Nat → Int)) ⊕ ((Nat × Nat × (Nat → Option Nat)) ⊕ (Nat × List AV))
abbrev vi (a : Int) : AV := .inl a
abbrev vl (a : Int) : AV := .inr (.inl a)
abbrev vr (i : Nat) : AV := .inr (.inr (some i))
abbrev vn : AV := .inr (.inr none)
abbrev ai (t n : Nat) (f : Nat → Int) : AC := .inl (t, n, f)
abbrev aq (t n : Nat) (f : Nat → Option Nat) : AC := .inr (.inl (t, n, f))
abbrev ao (c : Nat) (fs : List AV) : AC := .inr (.inr (c, fs))
def iI (a : Int) : Int32 := Int32.ofInt a
def iL (a : Int) : Int64 := Int64.ofInt a
def cv (ρ : Nat → Nat) : AV → Value
  | .inl a => .int (iI a)
  | .inr (.inl a) => .long (iL a)
  | .inr (.inr r) => va_rf (r.map ρ)
def ce (ρ : Nat → Nat) (τ : Nat → ClassId) : AC → va_E
  | .inl (t, n, f) => .inl (τ t, n, .inl (fun j => iI (f j)))
  | .inr (.inl (t, n, f)) => .inl (τ t, n, .inr (.inr (.inr (.inr (fun j => (f j).map ρ)))))
  | .inr (.inr (c, fs)) => .inr (c, fs.map (cv ρ))
def cw (ρ : Nat → Nat) (τ : Nat → ClassId) (h : List AC) : va_W := h.mapIdx (fun i e => (ρ i, ce ρ τ e))
theorem cw_get {ρ : Nat → Nat} {τ : Nat → ClassId} {h : List AC} {i : Nat} {e : AC} (hi : h[i]? = some e) : (cw ρ τ h)[i]? = some (ρ i, ce ρ τ e) := by
  unfold cw
  rw [List.getElem?_mapIdx, hi]; rfl
theorem cw_set (ρ : Nat → Nat) (τ : Nat → ClassId) (h : List AC) (i : Nat) (e : AC) : (cw ρ τ h).set i (ρ i, ce ρ τ e) = cw ρ τ (h.set i e) := by
  apply List.ext_getElem?
  intro j
  unfold cw
  simp only [List.getElem?_set, List.getElem?_mapIdx, List.length_mapIdx]
  by_cases hij : i = j
  · subst hij
    by_cases hl : i < h.length <;> simp [hl]
  · simp [hij]
theorem cw_push (ρ : Nat → Nat) (τ : Nat → ClassId) (h : List AC) (e : AC) : cw ρ τ (h ++ [e]) = cw ρ τ h ++ [(ρ h.length, ce ρ τ e)] := by
  unfold cw
  simp [List.mapIdx_append]
/-! numbers -/
def rng (a : Int) : Prop := -2147483648 ≤ a ∧ a < 2147483648
theorem iI_toInt {a : Int} (h : rng a) : (iI a).toInt = a := Int32.toInt_ofInt_of_le h.1 (by have := h.2; omega)
theorem iI_of (x : Int32) : iI x.toInt = x := Int32.ofInt_toInt x
theorem rng_of (x : Int32) : rng x.toInt := ⟨Int32.le_toInt x, by have := Int32.toInt_lt x; omega⟩
theorem iI_lt {a b : Int} (ha : rng a) (hb : rng b) : iI a < iI b ↔ a < b := by
  rw [Int32.lt_iff_toInt_lt, iI_toInt ha, iI_toInt hb]
theorem iI_le {a b : Int} (ha : rng a) (hb : rng b) : iI a ≤ iI b ↔ a ≤ b := by
  rw [Int32.le_iff_toInt_le, iI_toInt ha, iI_toInt hb]
theorem iI_eq {a b : Int} (ha : rng a) (hb : rng b) : iI a = iI b ↔ a = b := by
  constructor
  · intro h
    have := congrArg Int32.toInt h
    rwa [iI_toInt ha, iI_toInt hb] at this
  · intro h; rw [h]
theorem iI_add (a b : Int) : iI a + iI b = iI (a + b) := by
  unfold iI; rw [Int32.ofInt_add]
theorem iI_sub (a b : Int) : iI a - iI b = iI (a - b) := by
  unfold iI; rw [Int32.ofInt_sub]
theorem iI_mul (a b : Int) : iI a * iI b = iI (a * b) := by
  unfold iI; rw [Int32.ofInt_mul]
theorem iI_neg (a : Int) : -iI a = iI (-a) := by
  unfold iI; rw [Int32.ofInt_neg]
theorem iI_nat {a : Int} (h0 : 0 ≤ a) (h : a < 2147483648) : (iI a).toNatClampNeg = a.toNat := by
  unfold Int32.toNatClampNeg
  rw [iI_toInt ⟨by omega, h⟩]
theorem iI_in {a : Int} {n : Nat} (h0 : 0 ≤ a) (h : a < n) (hn : n ≤ 2147483648) : vp_in (iI a) n := by
  unfold vp_in
  rw [iI_nat h0 (by omega), show (0 : Int32) = iI 0 from rfl, iI_lt ⟨by omega, by omega⟩ ⟨by decide, by decide⟩]
  omega
/-! listings -/
abbrev Lst : Type := List (Nat × Instr × Nat)
def ftch : Lst → Nat → Option (Instr × Nat)
  | [], _ => none
  | r :: L, pc => cond (Nat.beq r.1 pc) (some r.2) (ftch L pc)
def okI : Instr → Bool
  | .bipush n => decide (-128 ≤ n) && decide (n < 128)
  | .sipush n => decide (-32768 ≤ n) && decide (n < 32768)
  | .iconst n => decide (-128 ≤ n) && decide (n < 128)
  | _ => true
def okL (cc : ByteArray) (L : Lst) : Prop := ∀ r ∈ L, decode cc r.1 = .ok r.2 ∧ okI r.2.1 = true
theorem okL_at {cc : ByteArray} {pc : Nat} {x : Instr × Nat} : ∀ {L : Lst}, okL cc L → ftch L pc = some x → decode cc pc = .ok x ∧ okI x.1 = true
  | [], _, h => by cases h
  | r :: L, hL, h => by
    unfold ftch at h
    cases hb : Nat.beq r.1 pc with
    | true =>
      rw [hb] at h
      have e : r.1 = pc := Nat.eq_of_beq_eq_true hb
      have h2 := hL r List.mem_cons_self
      cases h
      exact ⟨e ▸ h2.1, h2.2⟩
    | false =>
      rw [hb] at h
      exact okL_at (fun q hq => hL q (List.mem_cons_of_mem _ hq)) h
theorem okL_dec {cc : ByteArray} {L : Lst} (h : L.all (fun r => decide (decode cc r.1 = .ok r.2) && okI r.2.1) = true) : okL cc L := by
  intro r hr
  have := List.all_eq_true.mp h r hr
  simp only [Bool.and_eq_true, decide_eq_true_eq] at this
  exact this
def lkp : List (Nat × AV) → Nat → Option AV
  | [], _ => none
  | r :: L, i => cond (Nat.beq r.1 i) (some r.2) (lkp L i)
theorem lkp_mem {i : Nat} {v : AV} : ∀ {L : List (Nat × AV)}, lkp L i = some v → (i, v) ∈ L
  | [], h => by cases h
  | r :: L, h => by
    unfold lkp at h
    cases hb : Nat.beq r.1 i with
    | true =>
      rw [hb] at h
      have e : r.1 = i := Nat.eq_of_beq_eq_true hb
      cases h
      rw [← e]
      exact List.mem_cons_self
    | false =>
      rw [hb] at h
      exact List.mem_cons_of_mem _ (lkp_mem h)
def acat : AV → Nat
  | .inr (.inl _) => 2
  | _ => 1
theorem cv_cat (ρ : Nat → Nat) (v : AV) : (cv ρ v).category = acat v := by
  rcases v with a | a | (_ | a) <;> rfl
def sto (ls : List (Nat × AV)) (i : Nat) (v : AV) : List (Nat × AV) := (i, v) :: ls.filter (fun q => !(q.1 == i) && !(q.1 + 1 == i && acat q.2 == 2))
abbrev cl (ρ : Nat → Nat) (ls : List (Nat × AV)) : List (Nat × Value) := ls.map (fun q => (q.1, cv ρ q.2))
theorem cl_sto (ρ : Nat → Nat) (ls : List (Nat × AV)) (i : Nat) (v : AV) : (i, cv ρ v) :: (cl ρ ls).filter (fun q => !(q.1 == i) && !(q.1 + 1 == i && q.2.category == 2)) = cl ρ (sto ls i v) := by
  unfold sto cl
  simp only [List.map_cons, List.filter_map]
  congr 2
  apply List.filter_congr
  intro q _
  simp [cv_cat]
theorem cl_at {ρ : Nat → Nat} {ls : List (Nat × AV)} {lsA : Array Slot} {n i : Nat} {v : AV} (h : lv_has lsA n (cl ρ ls)) (hk : lkp ls i = some v) : lsA[i]? = some (.val (cv ρ v)) :=
  h.2.2 (i, cv ρ v) (List.mem_map.mpr ⟨(i, v), lkp_mem hk, rfl⟩)
end
