section
-- ===== PART A: goes FIRST, ahead of the names: the tables' words, and 'selects' of the private methods out of them =====
/-- a private method of a class that the tables say can be made, by its rows of tables_1 -/
def lw_okq (q : MethodName × Nat) : Prop := (q.1.cls ≠ "java/lang/invoke/MethodHandle" ∧ q.1.cls ≠ "java/lang/invoke/VarHandle") ∧ Cond.instantiable q.1.cls q.2 ∈ tables_1 ∧ Cond.privateMethod q.1 ∈ tables_1 ∧ Cond.instanceMethod q.1 ∈ tables_1
theorem lw_p0 : lw_okq (⟨"RowForms$Pad", "isFull", "()Z"⟩, 2) := ⟨⟨by decide +kernel, by decide +kernel⟩, List.mem_of_getElem? (i := 18) (by decide +kernel), List.mem_of_getElem? (i := 100) (by decide +kernel), List.mem_of_getElem? (i := 101) (by decide +kernel)⟩
theorem lw_p1 : lw_okq (⟨"RowForms$Pad", "add", "(I)I"⟩, 2) := ⟨⟨by decide +kernel, by decide +kernel⟩, List.mem_of_getElem? (i := 18) (by decide +kernel), List.mem_of_getElem? (i := 104) (by decide +kernel), List.mem_of_getElem? (i := 105) (by decide +kernel)⟩
theorem lw_p2 : lw_okq (⟨"RowForms$Pad", "empty", "()I"⟩, 2) := ⟨⟨by decide +kernel, by decide +kernel⟩, List.mem_of_getElem? (i := 18) (by decide +kernel), List.mem_of_getElem? (i := 113) (by decide +kernel), List.mem_of_getElem? (i := 114) (by decide +kernel)⟩
theorem lw_p3 : lw_okq (⟨"RowForms$Pad", "rowFault", "(Z)I"⟩, 2) := ⟨⟨by decide +kernel, by decide +kernel⟩, List.mem_of_getElem? (i := 18) (by decide +kernel), List.mem_of_getElem? (i := 121) (by decide +kernel), List.mem_of_getElem? (i := 122) (by decide +kernel)⟩
theorem lw_p4 : lw_okq (⟨"RowForms$Pad", "signAt", "(I)I"⟩, 2) := ⟨⟨by decide +kernel, by decide +kernel⟩, List.mem_of_getElem? (i := 18) (by decide +kernel), List.mem_of_getElem? (i := 125) (by decide +kernel), List.mem_of_getElem? (i := 126) (by decide +kernel)⟩
theorem lw_p5 : lw_okq (⟨"RowForms$Pad", "formFault", "()I"⟩, 2) := ⟨⟨by decide +kernel, by decide +kernel⟩, List.mem_of_getElem? (i := 18) (by decide +kernel), List.mem_of_getElem? (i := 132) (by decide +kernel), List.mem_of_getElem? (i := 133) (by decide +kernel)⟩
theorem lw_p6 : lw_okq (⟨"RowForms$Pad", "kindSigns", "()I"⟩, 2) := ⟨⟨by decide +kernel, by decide +kernel⟩, List.mem_of_getElem? (i := 18) (by decide +kernel), List.mem_of_getElem? (i := 136) (by decide +kernel), List.mem_of_getElem? (i := 137) (by decide +kernel)⟩
theorem lw_p7 : lw_okq (⟨"RowForms$Pad", "copyTones", "([I)V"⟩, 2) := ⟨⟨by decide +kernel, by decide +kernel⟩, List.mem_of_getElem? (i := 18) (by decide +kernel), List.mem_of_getElem? (i := 147) (by decide +kernel), List.mem_of_getElem? (i := 148) (by decide +kernel)⟩
theorem lw_p8 : lw_okq (⟨"RowForms$Pad", "formNumber", "()I"⟩, 2) := ⟨⟨by decide +kernel, by decide +kernel⟩, List.mem_of_getElem? (i := 18) (by decide +kernel), List.mem_of_getElem? (i := 162) (by decide +kernel), List.mem_of_getElem? (i := 163) (by decide +kernel)⟩
theorem lw_p9 : lw_okq (⟨"RowForms$Segments", "gather", "([II)V"⟩, 6) := ⟨⟨by decide +kernel, by decide +kernel⟩, List.mem_of_getElem? (i := 55) (by decide +kernel), List.mem_of_getElem? (i := 270) (by decide +kernel), List.mem_of_getElem? (i := 271) (by decide +kernel)⟩
theorem lw_p10 : lw_okq (⟨"RowForms$Segments", "insert", "(II)V"⟩, 6) := ⟨⟨by decide +kernel, by decide +kernel⟩, List.mem_of_getElem? (i := 55) (by decide +kernel), List.mem_of_getElem? (i := 276) (by decide +kernel), List.mem_of_getElem? (i := 277) (by decide +kernel)⟩
theorem lw_p11 : lw_okq (⟨"RowForms$Segments", "countRows", "()I"⟩, 6) := ⟨⟨by decide +kernel, by decide +kernel⟩, List.mem_of_getElem? (i := 55) (by decide +kernel), List.mem_of_getElem? (i := 280) (by decide +kernel), List.mem_of_getElem? (i := 281) (by decide +kernel)⟩
theorem lw_p12 : lw_okq (⟨"RowForms$Segments", "toneOfRow", "(II)I"⟩, 6) := ⟨⟨by decide +kernel, by decide +kernel⟩, List.mem_of_getElem? (i := 55) (by decide +kernel), List.mem_of_getElem? (i := 287) (by decide +kernel), List.mem_of_getElem? (i := 288) (by decide +kernel)⟩
theorem lw_p13 : lw_okq (⟨"RowForms$Store", "copyFrom", "(LRowForms$Store;)V"⟩, 3) := ⟨⟨by decide +kernel, by decide +kernel⟩, List.mem_of_getElem? (i := 33) (by decide +kernel), List.mem_of_getElem? (i := 344) (by decide +kernel), List.mem_of_getElem? (i := 345) (by decide +kernel)⟩
theorem lw_p14 : lw_okq (⟨"RowForms", "leastAlike", "(I)I"⟩, 5) := ⟨⟨by decide +kernel, by decide +kernel⟩, List.mem_of_getElem? (i := 10) (by decide +kernel), List.mem_of_getElem? (i := 357) (by decide +kernel), List.mem_of_getElem? (i := 358) (by decide +kernel)⟩
theorem lw_p15 : lw_okq (⟨"RowFormsModel", "faultOfTones", "(Z)I"⟩, 14) := ⟨⟨by decide +kernel, by decide +kernel⟩, List.mem_of_getElem? (i := 361) (by decide +kernel), List.mem_of_getElem? (i := 428) (by decide +kernel), List.mem_of_getElem? (i := 429) (by decide +kernel)⟩
def lw_privs_1 : List (MethodName × Nat) := [(⟨"RowForms$Pad", "isFull", "()Z"⟩, 2), (⟨"RowForms$Pad", "add", "(I)I"⟩, 2), (⟨"RowForms$Pad", "empty", "()I"⟩, 2), (⟨"RowForms$Pad", "rowFault", "(Z)I"⟩, 2), (⟨"RowForms$Pad", "signAt", "(I)I"⟩, 2), (⟨"RowForms$Pad", "formFault", "()I"⟩, 2), (⟨"RowForms$Pad", "kindSigns", "()I"⟩, 2), (⟨"RowForms$Pad", "copyTones", "([I)V"⟩, 2), (⟨"RowForms$Pad", "formNumber", "()I"⟩, 2), (⟨"RowForms$Segments", "gather", "([II)V"⟩, 6), (⟨"RowForms$Segments", "insert", "(II)V"⟩, 6), (⟨"RowForms$Segments", "countRows", "()I"⟩, 6), (⟨"RowForms$Segments", "toneOfRow", "(II)I"⟩, 6), (⟨"RowForms$Store", "copyFrom", "(LRowForms$Store;)V"⟩, 3), (⟨"RowForms", "leastAlike", "(I)I"⟩, 5), (⟨"RowFormsModel", "faultOfTones", "(Z)I"⟩, 14)]
theorem lw_r1 : ∀ q ∈ lw_privs_1, lw_okq q := List.forall_mem_cons.mpr ⟨lw_p0, List.forall_mem_cons.mpr ⟨lw_p1, List.forall_mem_cons.mpr ⟨lw_p2, List.forall_mem_cons.mpr ⟨lw_p3, List.forall_mem_cons.mpr ⟨lw_p4, List.forall_mem_cons.mpr ⟨lw_p5, List.forall_mem_cons.mpr ⟨lw_p6, List.forall_mem_cons.mpr ⟨lw_p7, List.forall_mem_cons.mpr ⟨lw_p8, List.forall_mem_cons.mpr ⟨lw_p9, List.forall_mem_cons.mpr ⟨lw_p10, List.forall_mem_cons.mpr ⟨lw_p11, List.forall_mem_cons.mpr ⟨lw_p12, List.forall_mem_cons.mpr ⟨lw_p13, List.forall_mem_cons.mpr ⟨lw_p14, List.forall_mem_cons.mpr ⟨lw_p15, fun _ h => absurd h List.not_mem_nil⟩⟩⟩⟩⟩⟩⟩⟩⟩⟩⟩⟩⟩⟩⟩⟩
theorem lw_p16 : lw_okq (⟨"RowFormsModel", "faultOfForm", "()I"⟩, 14) := ⟨⟨by decide +kernel, by decide +kernel⟩, List.mem_of_getElem? (i := 361) (by decide +kernel), List.mem_of_getElem? (i := 437) (by decide +kernel), List.mem_of_getElem? (i := 438) (by decide +kernel)⟩
theorem lw_p17 : lw_okq (⟨"RowFormsModel", "isSign", "(II)Z"⟩, 14) := ⟨⟨by decide +kernel, by decide +kernel⟩, List.mem_of_getElem? (i := 361) (by decide +kernel), List.mem_of_getElem? (i := 441) (by decide +kernel), List.mem_of_getElem? (i := 442) (by decide +kernel)⟩
theorem lw_p18 : lw_okq (⟨"RowFormsModel", "holesNow", "()I"⟩, 14) := ⟨⟨by decide +kernel, by decide +kernel⟩, List.mem_of_getElem? (i := 361) (by decide +kernel), List.mem_of_getElem? (i := 457) (by decide +kernel), List.mem_of_getElem? (i := 458) (by decide +kernel)⟩
theorem lw_p19 : lw_okq (⟨"RowFormsModel", "toneAt", "(II)I"⟩, 14) := ⟨⟨by decide +kernel, by decide +kernel⟩, List.mem_of_getElem? (i := 361) (by decide +kernel), List.mem_of_getElem? (i := 473) (by decide +kernel), List.mem_of_getElem? (i := 474) (by decide +kernel)⟩
theorem lw_p20 : lw_okq (⟨"RowFormsModel", "formAt", "(III)I"⟩, 14) := ⟨⟨by decide +kernel, by decide +kernel⟩, List.mem_of_getElem? (i := 361) (by decide +kernel), List.mem_of_getElem? (i := 485) (by decide +kernel), List.mem_of_getElem? (i := 486) (by decide +kernel)⟩
theorem lw_p21 : lw_okq (⟨"RowFormsModel", "canonForm", "(I)I"⟩, 14) := ⟨⟨by decide +kernel, by decide +kernel⟩, List.mem_of_getElem? (i := 361) (by decide +kernel), List.mem_of_getElem? (i := 511) (by decide +kernel), List.mem_of_getElem? (i := 512) (by decide +kernel)⟩
theorem lw_p22 : lw_okq (⟨"RowFormsModel", "compared", "(III)I"⟩, 14) := ⟨⟨by decide +kernel, by decide +kernel⟩, List.mem_of_getElem? (i := 361) (by decide +kernel), List.mem_of_getElem? (i := 515) (by decide +kernel), List.mem_of_getElem? (i := 516) (by decide +kernel)⟩
theorem lw_p23 : lw_okq (⟨"RowFormsModel", "sizeOf", "(I)I"⟩, 14) := ⟨⟨by decide +kernel, by decide +kernel⟩, List.mem_of_getElem? (i := 361) (by decide +kernel), List.mem_of_getElem? (i := 519) (by decide +kernel), List.mem_of_getElem? (i := 520) (by decide +kernel)⟩
theorem lw_p24 : lw_okq (⟨"RowFormsModel", "isLeading", "(III)Z"⟩, 14) := ⟨⟨by decide +kernel, by decide +kernel⟩, List.mem_of_getElem? (i := 361) (by decide +kernel), List.mem_of_getElem? (i := 527) (by decide +kernel), List.mem_of_getElem? (i := 528) (by decide +kernel)⟩
theorem lw_p25 : lw_okq (⟨"RowFormsModel", "unlikeSteps", "(I)I"⟩, 14) := ⟨⟨by decide +kernel, by decide +kernel⟩, List.mem_of_getElem? (i := 361) (by decide +kernel), List.mem_of_getElem? (i := 535) (by decide +kernel), List.mem_of_getElem? (i := 536) (by decide +kernel)⟩
theorem lw_p26 : lw_okq (⟨"RowFormsModel", "stepAt", "(II)I"⟩, 14) := ⟨⟨by decide +kernel, by decide +kernel⟩, List.mem_of_getElem? (i := 361) (by decide +kernel), List.mem_of_getElem? (i := 539) (by decide +kernel), List.mem_of_getElem? (i := 540) (by decide +kernel)⟩
theorem lw_p27 : lw_okq (⟨"RowFormsModel", "setAt", "(IIII)I"⟩, 14) := ⟨⟨by decide +kernel, by decide +kernel⟩, List.mem_of_getElem? (i := 361) (by decide +kernel), List.mem_of_getElem? (i := 549) (by decide +kernel), List.mem_of_getElem? (i := 550) (by decide +kernel)⟩
theorem lw_p28 : lw_okq (⟨"RowFormsModel", "isGroup", "(III)Z"⟩, 14) := ⟨⟨by decide +kernel, by decide +kernel⟩, List.mem_of_getElem? (i := 361) (by decide +kernel), List.mem_of_getElem? (i := 561) (by decide +kernel), List.mem_of_getElem? (i := 562) (by decide +kernel)⟩
theorem lw_p29 : lw_okq (⟨"RowFormsModel", "groupAt", "(IIII)I"⟩, 14) := ⟨⟨by decide +kernel, by decide +kernel⟩, List.mem_of_getElem? (i := 361) (by decide +kernel), List.mem_of_getElem? (i := 565) (by decide +kernel), List.mem_of_getElem? (i := 566) (by decide +kernel)⟩
theorem lw_p30 : lw_okq (⟨"RowFormsModel", "isFirst", "(III)Z"⟩, 14) := ⟨⟨by decide +kernel, by decide +kernel⟩, List.mem_of_getElem? (i := 361) (by decide +kernel), List.mem_of_getElem? (i := 574) (by decide +kernel), List.mem_of_getElem? (i := 575) (by decide +kernel)⟩
theorem lw_p31 : lw_okq (⟨"RowFormsModel", "addGroup", "(III)V"⟩, 14) := ⟨⟨by decide +kernel, by decide +kernel⟩, List.mem_of_getElem? (i := 361) (by decide +kernel), List.mem_of_getElem? (i := 578) (by decide +kernel), List.mem_of_getElem? (i := 579) (by decide +kernel)⟩
def lw_privs_2 : List (MethodName × Nat) := [(⟨"RowFormsModel", "faultOfForm", "()I"⟩, 14), (⟨"RowFormsModel", "isSign", "(II)Z"⟩, 14), (⟨"RowFormsModel", "holesNow", "()I"⟩, 14), (⟨"RowFormsModel", "toneAt", "(II)I"⟩, 14), (⟨"RowFormsModel", "formAt", "(III)I"⟩, 14), (⟨"RowFormsModel", "canonForm", "(I)I"⟩, 14), (⟨"RowFormsModel", "compared", "(III)I"⟩, 14), (⟨"RowFormsModel", "sizeOf", "(I)I"⟩, 14), (⟨"RowFormsModel", "isLeading", "(III)Z"⟩, 14), (⟨"RowFormsModel", "unlikeSteps", "(I)I"⟩, 14), (⟨"RowFormsModel", "stepAt", "(II)I"⟩, 14), (⟨"RowFormsModel", "setAt", "(IIII)I"⟩, 14), (⟨"RowFormsModel", "isGroup", "(III)Z"⟩, 14), (⟨"RowFormsModel", "groupAt", "(IIII)I"⟩, 14), (⟨"RowFormsModel", "isFirst", "(III)Z"⟩, 14), (⟨"RowFormsModel", "addGroup", "(III)V"⟩, 14)]
theorem lw_r2 : ∀ q ∈ lw_privs_2, lw_okq q := List.forall_mem_cons.mpr ⟨lw_p16, List.forall_mem_cons.mpr ⟨lw_p17, List.forall_mem_cons.mpr ⟨lw_p18, List.forall_mem_cons.mpr ⟨lw_p19, List.forall_mem_cons.mpr ⟨lw_p20, List.forall_mem_cons.mpr ⟨lw_p21, List.forall_mem_cons.mpr ⟨lw_p22, List.forall_mem_cons.mpr ⟨lw_p23, List.forall_mem_cons.mpr ⟨lw_p24, List.forall_mem_cons.mpr ⟨lw_p25, List.forall_mem_cons.mpr ⟨lw_p26, List.forall_mem_cons.mpr ⟨lw_p27, List.forall_mem_cons.mpr ⟨lw_p28, List.forall_mem_cons.mpr ⟨lw_p29, List.forall_mem_cons.mpr ⟨lw_p30, List.forall_mem_cons.mpr ⟨lw_p31, fun _ h => absurd h List.not_mem_nil⟩⟩⟩⟩⟩⟩⟩⟩⟩⟩⟩⟩⟩⟩⟩⟩
theorem lw_p32 : lw_okq (⟨"RowFormsModel", "comparedGroups", "(IIII)I"⟩, 14) := ⟨⟨by decide +kernel, by decide +kernel⟩, List.mem_of_getElem? (i := 361) (by decide +kernel), List.mem_of_getElem? (i := 582) (by decide +kernel), List.mem_of_getElem? (i := 583) (by decide +kernel)⟩
theorem lw_p33 : lw_okq (⟨"RowFormsModel", "fits", "(III)Z"⟩, 14) := ⟨⟨by decide +kernel, by decide +kernel⟩, List.mem_of_getElem? (i := 361) (by decide +kernel), List.mem_of_getElem? (i := 586) (by decide +kernel), List.mem_of_getElem? (i := 587) (by decide +kernel)⟩
theorem lw_p34 : lw_okq (⟨"RowFormsModel", "firstSet", "(II)I"⟩, 14) := ⟨⟨by decide +kernel, by decide +kernel⟩, List.mem_of_getElem? (i := 361) (by decide +kernel), List.mem_of_getElem? (i := 590) (by decide +kernel), List.mem_of_getElem? (i := 591) (by decide +kernel)⟩
theorem lw_p35 : lw_okq (⟨"RowFormsModel", "isNext", "(III)Z"⟩, 14) := ⟨⟨by decide +kernel, by decide +kernel⟩, List.mem_of_getElem? (i := 361) (by decide +kernel), List.mem_of_getElem? (i := 594) (by decide +kernel), List.mem_of_getElem? (i := 595) (by decide +kernel)⟩
theorem lw_p36 : lw_okq (⟨"RowFormsModel", "isWell", "(I)Z"⟩, 14) := ⟨⟨by decide +kernel, by decide +kernel⟩, List.mem_of_getElem? (i := 361) (by decide +kernel), List.mem_of_getElem? (i := 602) (by decide +kernel), List.mem_of_getElem? (i := 603) (by decide +kernel)⟩
theorem lw_p37 : lw_okq (⟨"RowFormsModel", "placeOf", "(I)I"⟩, 14) := ⟨⟨by decide +kernel, by decide +kernel⟩, List.mem_of_getElem? (i := 361) (by decide +kernel), List.mem_of_getElem? (i := 612) (by decide +kernel), List.mem_of_getElem? (i := 613) (by decide +kernel)⟩
theorem lw_p38 : lw_okq (⟨"RowFormsModel", "fill", "(I)V"⟩, 14) := ⟨⟨by decide +kernel, by decide +kernel⟩, List.mem_of_getElem? (i := 361) (by decide +kernel), List.mem_of_getElem? (i := 620) (by decide +kernel), List.mem_of_getElem? (i := 621) (by decide +kernel)⟩
theorem lw_p39 : lw_okq (⟨"RowFormsModel", "leastFree", "(I)I"⟩, 14) := ⟨⟨by decide +kernel, by decide +kernel⟩, List.mem_of_getElem? (i := 361) (by decide +kernel), List.mem_of_getElem? (i := 624) (by decide +kernel), List.mem_of_getElem? (i := 625) (by decide +kernel)⟩
theorem lw_p40 : lw_okq (⟨"RowFormsModel", "isUsed", "(I)Z"⟩, 14) := ⟨⟨by decide +kernel, by decide +kernel⟩, List.mem_of_getElem? (i := 361) (by decide +kernel), List.mem_of_getElem? (i := 628) (by decide +kernel), List.mem_of_getElem? (i := 629) (by decide +kernel)⟩
theorem lw_p41 : lw_okq (⟨"RowFormsModel", "passAll", "()V"⟩, 14) := ⟨⟨by decide +kernel, by decide +kernel⟩, List.mem_of_getElem? (i := 361) (by decide +kernel), List.mem_of_getElem? (i := 643) (by decide +kernel), List.mem_of_getElem? (i := 644) (by decide +kernel)⟩
theorem lw_p42 : lw_okq (⟨"RowFormsModel", "passRow", "([II)V"⟩, 14) := ⟨⟨by decide +kernel, by decide +kernel⟩, List.mem_of_getElem? (i := 361) (by decide +kernel), List.mem_of_getElem? (i := 647) (by decide +kernel), List.mem_of_getElem? (i := 648) (by decide +kernel)⟩
theorem lw_p43 : lw_okq (⟨"RowFormsModel", "firstLike", "(I)I"⟩, 14) := ⟨⟨by decide +kernel, by decide +kernel⟩, List.mem_of_getElem? (i := 361) (by decide +kernel), List.mem_of_getElem? (i := 659) (by decide +kernel), List.mem_of_getElem? (i := 660) (by decide +kernel)⟩
def lw_privs_3 : List (MethodName × Nat) := [(⟨"RowFormsModel", "comparedGroups", "(IIII)I"⟩, 14), (⟨"RowFormsModel", "fits", "(III)Z"⟩, 14), (⟨"RowFormsModel", "firstSet", "(II)I"⟩, 14), (⟨"RowFormsModel", "isNext", "(III)Z"⟩, 14), (⟨"RowFormsModel", "isWell", "(I)Z"⟩, 14), (⟨"RowFormsModel", "placeOf", "(I)I"⟩, 14), (⟨"RowFormsModel", "fill", "(I)V"⟩, 14), (⟨"RowFormsModel", "leastFree", "(I)I"⟩, 14), (⟨"RowFormsModel", "isUsed", "(I)Z"⟩, 14), (⟨"RowFormsModel", "passAll", "()V"⟩, 14), (⟨"RowFormsModel", "passRow", "([II)V"⟩, 14), (⟨"RowFormsModel", "firstLike", "(I)I"⟩, 14)]
theorem lw_r3 : ∀ q ∈ lw_privs_3, lw_okq q := List.forall_mem_cons.mpr ⟨lw_p32, List.forall_mem_cons.mpr ⟨lw_p33, List.forall_mem_cons.mpr ⟨lw_p34, List.forall_mem_cons.mpr ⟨lw_p35, List.forall_mem_cons.mpr ⟨lw_p36, List.forall_mem_cons.mpr ⟨lw_p37, List.forall_mem_cons.mpr ⟨lw_p38, List.forall_mem_cons.mpr ⟨lw_p39, List.forall_mem_cons.mpr ⟨lw_p40, List.forall_mem_cons.mpr ⟨lw_p41, List.forall_mem_cons.mpr ⟨lw_p42, List.forall_mem_cons.mpr ⟨lw_p43, fun _ h => absurd h List.not_mem_nil⟩⟩⟩⟩⟩⟩⟩⟩⟩⟩⟩⟩
def lw_privs : List (MethodName × Nat) := lw_privs_1 ++ (lw_privs_2 ++ (lw_privs_3))
def lw_tbl : List Cond := k2_sels lw_privs ++ tables_1
theorem lw_privs_ok : ∀ q ∈ lw_privs, lw_okq q := by
  show ∀ q ∈ lw_privs_1 ++ (lw_privs_2 ++ (lw_privs_3)), lw_okq q
  exact List.forall_mem_append.mpr ⟨lw_r1, List.forall_mem_append.mpr ⟨lw_r2, lw_r3⟩⟩
end
section
/-! ===== BEGIN printed: names, fields, word lists, decode rows ===== -/
def RX0 : String := "RowForms$Pad"
def TX0 : u_T := fun k => match k with
  | 0 => ("RowForms$Pad", "signs", "[I", true)
  | _ => ("RowForms$Pad", "count", "I", false)
def tyX0 : Nat → FieldType := fun k => match k with
  | 0 => .array .int
  | _ => .int
abbrev wsX00 : List Cond := u_ws RX0 TX0 2
theorem nmX0 : ∀ a, a < 2 → ∀ b, b < 2 → a ≠ b → (TX0 a).2.1 ≠ (TX0 b).2.1 := by decide +kernel
theorem tyX0_ok : ∀ k, k < 2 → parseFieldDescriptor (TX0 k).2.2.1 = some (tyX0 k) := by decide +kernel
abbrev cX0_init : ByteArray := prog_2_method_1_code
def yX0_init : MethodName := ⟨RX0, "<init>", "()V"⟩
abbrev cX0_isFull : ByteArray := prog_2_method_2_code
def yX0_isFull : MethodName := ⟨RX0, "isFull", "()Z"⟩
abbrev cX0_add : ByteArray := prog_2_method_3_code
def yX0_add : MethodName := ⟨RX0, "add", "(I)I"⟩
abbrev cX0_empty : ByteArray := prog_2_method_4_code
def yX0_empty : MethodName := ⟨RX0, "empty", "()I"⟩
abbrev cX0_signAt : ByteArray := prog_2_method_5_code
def yX0_signAt : MethodName := ⟨RX0, "signAt", "(I)I"⟩
abbrev cX0_rowFault : ByteArray := prog_2_method_6_code
def yX0_rowFault : MethodName := ⟨RX0, "rowFault", "(Z)I"⟩
abbrev cX0_copyTones : ByteArray := prog_2_method_7_code
def yX0_copyTones : MethodName := ⟨RX0, "copyTones", "([I)V"⟩
abbrev cX0_formFault : ByteArray := prog_2_method_8_code
def yX0_formFault : MethodName := ⟨RX0, "formFault", "()I"⟩
abbrev cX0_kindSigns : ByteArray := prog_2_method_9_code
def yX0_kindSigns : MethodName := ⟨RX0, "kindSigns", "()I"⟩
abbrev cX0_formNumber : ByteArray := prog_2_method_10_code
def yX0_formNumber : MethodName := ⟨RX0, "formNumber", "()I"⟩
def RX1 : String := "RowForms$Segments"
def TX1 : u_T := fun k => match k with
  | 0 => ("RowForms$Segments", "keys", "[I", true)
  | 1 => ("RowForms$Segments", "sets", "[I", true)
  | 2 => ("RowForms$Segments", "many", "I", false)
  | 3 => ("RowForms$Segments", "width", "I", false)
  | 4 => ("RowForms$Segments", "begin", "I", false)
  | _ => ("RowForms$Segments", "following", "I", false)
def tyX1 : Nat → FieldType := fun k => match k with
  | 0 => .array .int
  | 1 => .array .int
  | 2 => .int
  | 3 => .int
  | 4 => .int
  | _ => .int
abbrev wsX10 : List Cond := u_ws RX1 TX1 6
theorem nmX1 : ∀ a, a < 6 → ∀ b, b < 6 → a ≠ b → (TX1 a).2.1 ≠ (TX1 b).2.1 := by decide +kernel
theorem tyX1_ok : ∀ k, k < 6 → parseFieldDescriptor (TX1 k).2.2.1 = some (tyX1 k) := by decide +kernel
abbrev cX1_init : ByteArray := prog_3_method_1_code
def yX1_init : MethodName := ⟨RX1, "<init>", "()V"⟩
abbrev cX1_gather : ByteArray := prog_3_method_2_code
def yX1_gather : MethodName := ⟨RX1, "gather", "([II)V"⟩
abbrev cX1_insert : ByteArray := prog_3_method_3_code
def yX1_insert : MethodName := ⟨RX1, "insert", "(II)V"⟩
abbrev cX1_countRows : ByteArray := prog_3_method_4_code
def yX1_countRows : MethodName := ⟨RX1, "countRows", "()I"⟩
abbrev cX1_countWays : ByteArray := prog_3_method_5_code
def yX1_countWays : MethodName := ⟨RX1, "countWays", "([IIII)I"⟩
abbrev cX1_toneOfRow : ByteArray := prog_3_method_6_code
def yX1_toneOfRow : MethodName := ⟨RX1, "toneOfRow", "(II)I"⟩
def RX2 : String := "RowForms$Store"
def TX2 : u_T := fun k => match k with
  | 0 => ("RowForms$Store", "rows", "[[I", true)
  | 1 => ("RowForms$Store", "pattern", "[I", true)
  | _ => ("RowForms$Store", "kept", "Z", false)
def tyX2 : Nat → FieldType := fun k => match k with
  | 0 => .array (.array .int)
  | 1 => .array .int
  | _ => .boolean
abbrev wsX20 : List Cond := u_ws RX2 TX2 3
theorem nmX2 : ∀ a, a < 3 → ∀ b, b < 3 → a ≠ b → (TX2 a).2.1 ≠ (TX2 b).2.1 := by decide +kernel
theorem tyX2_ok : ∀ k, k < 3 → parseFieldDescriptor (TX2 k).2.2.1 = some (tyX2 k) := by decide +kernel
abbrev cX2_init : ByteArray := prog_4_method_1_code
def yX2_init : MethodName := ⟨RX2, "<init>", "()V"⟩
abbrev cX2_copyFrom : ByteArray := prog_4_method_2_code
def yX2_copyFrom : MethodName := ⟨RX2, "copyFrom", "(LRowForms$Store;)V"⟩
def RX3 : String := "RowForms"
def TX3 : u_T := fun k => match k with
  | 0 => ("RowForms", "pad", "LRowForms$Pad;", true)
  | 1 => ("RowForms", "now", "LRowForms$Store;", true)
  | 2 => ("RowForms", "images", "[LRowForms$Store;", true)
  | 3 => ("RowForms", "segments", "LRowForms$Segments;", true)
  | _ => ("RowForms", "scratch", "[I", true)
def tyX3 : Nat → FieldType := fun k => match k with
  | 0 => .object "RowForms$Pad"
  | 1 => .object "RowForms$Store"
  | 2 => .array (.object "RowForms$Store")
  | 3 => .object "RowForms$Segments"
  | _ => .array .int
abbrev wsX30 : List Cond := u_ws RX3 TX3 5
theorem nmX3 : ∀ a, a < 5 → ∀ b, b < 5 → a ≠ b → (TX3 a).2.1 ≠ (TX3 b).2.1 := by decide +kernel
theorem tyX3_ok : ∀ k, k < 5 → parseFieldDescriptor (TX3 k).2.2.1 = some (tyX3 k) := by decide +kernel
abbrev cX3_init : ByteArray := prog_1_method_1_code
def yX3_init : MethodName := ⟨RX3, "<init>", "()V"⟩
abbrev cX3_say : ByteArray := prog_1_method_2_code
def yX3_say : MethodName := ⟨RX3, "say", "(I)I"⟩
abbrev cX3_wipe : ByteArray := prog_1_method_3_code
def yX3_wipe : MethodName := ⟨RX3, "wipe", "()I"⟩
abbrev cX3_fault : ByteArray := prog_1_method_4_code
def yX3_fault : MethodName := ⟨RX3, "fault", "(I)I"⟩
abbrev cX3_load : ByteArray := prog_1_method_5_code
def yX3_load : MethodName := ⟨RX3, "load", "(I)I"⟩
abbrev cX3_punch : ByteArray := prog_1_method_6_code
def yX3_punch : MethodName := ⟨RX3, "punch", "()I"⟩
abbrev cX3_named : ByteArray := prog_1_method_7_code
def yX3_named : MethodName := ⟨RX3, "named", "()I"⟩
abbrev cX3_tone : ByteArray := prog_1_method_8_code
def yX3_tone : MethodName := ⟨RX3, "tone", "(II)I"⟩
abbrev cX3_turn : ByteArray := prog_1_method_9_code
def yX3_turn : MethodName := ⟨RX3, "turn", "(III)I"⟩
abbrev cX3_behind : ByteArray := prog_1_method_10_code
def yX3_behind : MethodName := ⟨RX3, "behind", "(II)I"⟩
abbrev cX3_back : ByteArray := prog_1_method_11_code
def yX3_back : MethodName := ⟨RX3, "back", "(I)I"⟩
abbrev cX3_canon : ByteArray := prog_1_method_12_code
def yX3_canon : MethodName := ⟨RX3, "canon", "(II)I"⟩
abbrev cX3_leads : ByteArray := prog_1_method_13_code
def yX3_leads : MethodName := ⟨RX3, "leads", "(III)I"⟩
abbrev cX3_step : ByteArray := prog_1_method_14_code
def yX3_step : MethodName := ⟨RX3, "step", "(II)I"⟩
abbrev cX3_shared : ByteArray := prog_1_method_15_code
def yX3_shared : MethodName := ⟨RX3, "shared", "(III)I"⟩
abbrev cX3_partner : ByteArray := prog_1_method_16_code
def yX3_partner : MethodName := ⟨RX3, "partner", "(II)I"⟩
abbrev cX3_derived : ByteArray := prog_1_method_17_code
def yX3_derived : MethodName := ⟨RX3, "derived", "(II)I"⟩
abbrev cX3_making : ByteArray := prog_1_method_18_code
def yX3_making : MethodName := ⟨RX3, "making", "(IIII)I"⟩
abbrev cX3_fillings : ByteArray := prog_1_method_19_code
def yX3_fillings : MethodName := ⟨RX3, "fillings", "(I)I"⟩
abbrev cX3_filling : ByteArray := prog_1_method_20_code
def yX3_filling : MethodName := ⟨RX3, "filling", "(II)I"⟩
abbrev cX3_sign : ByteArray := prog_1_method_21_code
def yX3_sign : MethodName := ⟨RX3, "sign", "(III)I"⟩
abbrev cX3_image : ByteArray := prog_1_method_22_code
def yX3_image : MethodName := ⟨RX3, "image", "(I)I"⟩
abbrev cX3_restore : ByteArray := prog_1_method_23_code
def yX3_restore : MethodName := ⟨RX3, "restore", "(I)I"⟩
abbrev cX3_told : ByteArray := prog_1_method_24_code
def yX3_told : MethodName := ⟨RX3, "told", "(I)I"⟩
abbrev cX3_leastAlike : ByteArray := prog_1_method_25_code
def yX3_leastAlike : MethodName := ⟨RX3, "leastAlike", "(I)I"⟩
abbrev cX3_isRow : ByteArray := prog_1_method_26_code
def yX3_isRow : MethodName := ⟨RX3, "isRow", "(I)Z"⟩
abbrev cX3_isForm : ByteArray := prog_1_method_27_code
def yX3_isForm : MethodName := ⟨RX3, "isForm", "(I)Z"⟩
abbrev cX3_isPlace : ByteArray := prog_1_method_28_code
def yX3_isPlace : MethodName := ⟨RX3, "isPlace", "(I)Z"⟩
abbrev cX3_isImage : ByteArray := prog_1_method_29_code
def yX3_isImage : MethodName := ⟨RX3, "isImage", "(I)Z"⟩
abbrev cX3_isMirrored : ByteArray := prog_1_method_30_code
def yX3_isMirrored : MethodName := ⟨RX3, "isMirrored", "(I)Z"⟩
abbrev cX3_isBackwards : ByteArray := prog_1_method_31_code
def yX3_isBackwards : MethodName := ⟨RX3, "isBackwards", "(I)Z"⟩
abbrev cX3_wrapped : ByteArray := prog_1_method_32_code
def yX3_wrapped : MethodName := ⟨RX3, "wrapped", "(I)I"⟩
abbrev cX3_turnedTone : ByteArray := prog_1_method_33_code
def yX3_turnedTone : MethodName := ⟨RX3, "turnedTone", "(II)I"⟩
abbrev cX3_formTone : ByteArray := prog_1_method_34_code
def yX3_formTone : MethodName := ⟨RX3, "formTone", "([IIII)I"⟩
abbrev cX3_isFormOf : ByteArray := prog_1_method_35_code
def yX3_isFormOf : MethodName := ⟨RX3, "isFormOf", "([III[II)Z"⟩
abbrev cX3_isAnyFormOf : ByteArray := prog_1_method_36_code
def yX3_isAnyFormOf : MethodName := ⟨RX3, "isAnyFormOf", "([III)Z"⟩
abbrev cX3_leastForm : ByteArray := prog_1_method_37_code
def yX3_leastForm : MethodName := ⟨RX3, "leastForm", "([I)I"⟩
abbrev cX3_isLess : ByteArray := prog_1_method_38_code
def yX3_isLess : MethodName := ⟨RX3, "isLess", "([III)Z"⟩
abbrev cX3_sizeOf : ByteArray := prog_1_method_39_code
def yX3_sizeOf : MethodName := ⟨RX3, "sizeOf", "([I)I"⟩
abbrev cX3_stepAt : ByteArray := prog_1_method_40_code
def yX3_stepAt : MethodName := ⟨RX3, "stepAt", "([II)I"⟩
abbrev cX3_unlikeSteps : ByteArray := prog_1_method_41_code
def yX3_unlikeSteps : MethodName := ⟨RX3, "unlikeSteps", "([I)I"⟩
abbrev cX3_formSet : ByteArray := prog_1_method_42_code
def yX3_formSet : MethodName := ⟨RX3, "formSet", "([IIII)I"⟩
abbrev cX3_hasSegment : ByteArray := prog_1_method_43_code
def yX3_hasSegment : MethodName := ⟨RX3, "hasSegment", "([IIII)Z"⟩
abbrev cX3_holesOf : ByteArray := prog_1_method_44_code
def yX3_holesOf : MethodName := ⟨RX3, "holesOf", "([I)I"⟩
abbrev cX3_canKeepRows : ByteArray := prog_1_method_45_code
def yX3_canKeepRows : MethodName := ⟨RX3, "canKeepRows", "(I)Z"⟩
abbrev cX3_placeAcross : ByteArray := prog_1_method_46_code
def yX3_placeAcross : MethodName := ⟨RX3, "placeAcross", "(II)I"⟩
abbrev cX3_toneBits : ByteArray := prog_1_method_47_code
def yX3_toneBits : MethodName := ⟨RX3, "toneBits", "([I)I"⟩
abbrev cX3_fillForced : ByteArray := prog_1_method_48_code
def yX3_fillForced : MethodName := ⟨RX3, "fillForced", "([II[I)Z"⟩
abbrev cX3_fillFree : ByteArray := prog_1_method_49_code
def yX3_fillFree : MethodName := ⟨RX3, "fillFree", "([II)V"⟩
abbrev cX3_factorial : ByteArray := prog_1_method_50_code
def yX3_factorial : MethodName := ⟨RX3, "factorial", "(I)I"⟩
abbrev cX3_toneSign : ByteArray := prog_1_method_51_code
def yX3_toneSign : MethodName := ⟨RX3, "toneSign", "(I)I"⟩
abbrev cX3_signTone : ByteArray := prog_1_method_52_code
def yX3_signTone : MethodName := ⟨RX3, "signTone", "(I)I"⟩
abbrev cX3_kindLength : ByteArray := prog_1_method_53_code
def yX3_kindLength : MethodName := ⟨RX3, "kindLength", "(I)I"⟩
abbrev cX3_nameLength : ByteArray := prog_1_method_54_code
def yX3_nameLength : MethodName := ⟨RX3, "nameLength", "(I)I"⟩
abbrev cX3_nameSign : ByteArray := prog_1_method_55_code
def yX3_nameSign : MethodName := ⟨RX3, "nameSign", "(II)I"⟩
def RX4 : String := "RowFormsModel"
def TX4 : u_T := fun k => match k with
  | 0 => ("RowFormsModel", "rows", "[I", true)
  | 1 => ("RowFormsModel", "holes", "[I", true)
  | 2 => ("RowFormsModel", "pad", "[I", true)
  | 3 => ("RowFormsModel", "padMany", "I", false)
  | 4 => ("RowFormsModel", "readForm", "I", false)
  | 5 => ("RowFormsModel", "made", "[I", true)
  | 6 => ("RowFormsModel", "groupForm", "[I", true)
  | 7 => ("RowFormsModel", "groupSet", "[I", true)
  | 8 => ("RowFormsModel", "groupMany", "I", false)
  | 9 => ("RowFormsModel", "chosen", "[I", true)
  | 10 => ("RowFormsModel", "kept", "[I", true)
  | 11 => ("RowFormsModel", "isKept", "[Z", true)
  | 12 => ("RowFormsModel", "keptAt", "I", false)
  | _ => ("RowFormsModel", "isWriting", "Z", false)
def tyX4 : Nat → FieldType := fun k => match k with
  | 0 => .array .int
  | 1 => .array .int
  | 2 => .array .int
  | 3 => .int
  | 4 => .int
  | 5 => .array .int
  | 6 => .array .int
  | 7 => .array .int
  | 8 => .int
  | 9 => .array .int
  | 10 => .array .int
  | 11 => .array .boolean
  | 12 => .int
  | _ => .boolean
abbrev wsX40 : List Cond := u_ws RX4 TX4 14
theorem nmX4 : ∀ a, a < 14 → ∀ b, b < 14 → a ≠ b → (TX4 a).2.1 ≠ (TX4 b).2.1 := by decide +kernel
theorem tyX4_ok : ∀ k, k < 14 → parseFieldDescriptor (TX4 k).2.2.1 = some (tyX4 k) := by decide +kernel
abbrev cX4_init : ByteArray := prog_6_method_1_code
def yX4_init : MethodName := ⟨RX4, "<init>", "()V"⟩
abbrev cX4_in : ByteArray := prog_6_method_3_code
def yX4_in : MethodName := ⟨RX4, "in", "(JJJ)Z"⟩
abbrev cX4_isRow : ByteArray := prog_6_method_4_code
def yX4_isRow : MethodName := ⟨RX4, "isRow", "(I)Z"⟩
abbrev cX4_isForm : ByteArray := prog_6_method_5_code
def yX4_isForm : MethodName := ⟨RX4, "isForm", "(I)Z"⟩
abbrev cX4_isPlace : ByteArray := prog_6_method_6_code
def yX4_isPlace : MethodName := ⟨RX4, "isPlace", "(I)Z"⟩
abbrev cX4_say : ByteArray := prog_6_method_7_code
def yX4_say : MethodName := ⟨RX4, "say", "(I)I"⟩
abbrev cX4_wipe : ByteArray := prog_6_method_8_code
def yX4_wipe : MethodName := ⟨RX4, "wipe", "()I"⟩
abbrev cX4_toneOf : ByteArray := prog_6_method_9_code
def yX4_toneOf : MethodName := ⟨RX4, "toneOf", "(I)I"⟩
abbrev cX4_signOf : ByteArray := prog_6_method_10_code
def yX4_signOf : MethodName := ⟨RX4, "signOf", "(I)I"⟩
abbrev cX4_faultOfTones : ByteArray := prog_6_method_11_code
def yX4_faultOfTones : MethodName := ⟨RX4, "faultOfTones", "(Z)I"⟩
abbrev cX4_isSign : ByteArray := prog_6_method_12_code
def yX4_isSign : MethodName := ⟨RX4, "isSign", "(II)Z"⟩
abbrev cX4_faultOfForm : ByteArray := prog_6_method_13_code
def yX4_faultOfForm : MethodName := ⟨RX4, "faultOfForm", "()I"⟩
abbrev cX4_fault : ByteArray := prog_6_method_14_code
def yX4_fault : MethodName := ⟨RX4, "fault", "(I)I"⟩
abbrev cX4_load : ByteArray := prog_6_method_15_code
def yX4_load : MethodName := ⟨RX4, "load", "(I)I"⟩
abbrev cX4_holesNow : ByteArray := prog_6_method_16_code
def yX4_holesNow : MethodName := ⟨RX4, "holesNow", "()I"⟩
abbrev cX4_punch : ByteArray := prog_6_method_17_code
def yX4_punch : MethodName := ⟨RX4, "punch", "()I"⟩
abbrev cX4_named : ByteArray := prog_6_method_18_code
def yX4_named : MethodName := ⟨RX4, "named", "()I"⟩
abbrev cX4_toneAt : ByteArray := prog_6_method_19_code
def yX4_toneAt : MethodName := ⟨RX4, "toneAt", "(II)I"⟩
abbrev cX4_tone : ByteArray := prog_6_method_20_code
def yX4_tone : MethodName := ⟨RX4, "tone", "(II)I"⟩
abbrev cX4_isMirror : ByteArray := prog_6_method_21_code
def yX4_isMirror : MethodName := ⟨RX4, "isMirror", "(I)Z"⟩
abbrev cX4_isBack : ByteArray := prog_6_method_22_code
def yX4_isBack : MethodName := ⟨RX4, "isBack", "(I)Z"⟩
abbrev cX4_moved : ByteArray := prog_6_method_23_code
def yX4_moved : MethodName := ⟨RX4, "moved", "(II)I"⟩
abbrev cX4_formAt : ByteArray := prog_6_method_24_code
def yX4_formAt : MethodName := ⟨RX4, "formAt", "(III)I"⟩
abbrev cX4_turn : ByteArray := prog_6_method_25_code
def yX4_turn : MethodName := ⟨RX4, "turn", "(III)I"⟩
abbrev cX4_behind : ByteArray := prog_6_method_26_code
def yX4_behind : MethodName := ⟨RX4, "behind", "(II)I"⟩
abbrev cX4_back : ByteArray := prog_6_method_27_code
def yX4_back : MethodName := ⟨RX4, "back", "(I)I"⟩
abbrev cX4_compared : ByteArray := prog_6_method_28_code
def yX4_compared : MethodName := ⟨RX4, "compared", "(III)I"⟩
abbrev cX4_canonForm : ByteArray := prog_6_method_29_code
def yX4_canonForm : MethodName := ⟨RX4, "canonForm", "(I)I"⟩
abbrev cX4_sizeOf : ByteArray := prog_6_method_30_code
def yX4_sizeOf : MethodName := ⟨RX4, "sizeOf", "(I)I"⟩
abbrev cX4_canon : ByteArray := prog_6_method_31_code
def yX4_canon : MethodName := ⟨RX4, "canon", "(II)I"⟩
abbrev cX4_isLeading : ByteArray := prog_6_method_32_code
def yX4_isLeading : MethodName := ⟨RX4, "isLeading", "(III)Z"⟩
abbrev cX4_leads : ByteArray := prog_6_method_33_code
def yX4_leads : MethodName := ⟨RX4, "leads", "(III)I"⟩
abbrev cX4_stepAt : ByteArray := prog_6_method_34_code
def yX4_stepAt : MethodName := ⟨RX4, "stepAt", "(II)I"⟩
abbrev cX4_unlikeSteps : ByteArray := prog_6_method_35_code
def yX4_unlikeSteps : MethodName := ⟨RX4, "unlikeSteps", "(I)I"⟩
abbrev cX4_step : ByteArray := prog_6_method_36_code
def yX4_step : MethodName := ⟨RX4, "step", "(II)I"⟩
abbrev cX4_setAt : ByteArray := prog_6_method_37_code
def yX4_setAt : MethodName := ⟨RX4, "setAt", "(IIII)I"⟩
abbrev cX4_shared : ByteArray := prog_6_method_38_code
def yX4_shared : MethodName := ⟨RX4, "shared", "(III)I"⟩
abbrev cX4_partner : ByteArray := prog_6_method_39_code
def yX4_partner : MethodName := ⟨RX4, "partner", "(II)I"⟩
abbrev cX4_groupAt : ByteArray := prog_6_method_40_code
def yX4_groupAt : MethodName := ⟨RX4, "groupAt", "(IIII)I"⟩
abbrev cX4_isGroup : ByteArray := prog_6_method_41_code
def yX4_isGroup : MethodName := ⟨RX4, "isGroup", "(III)Z"⟩
abbrev cX4_derived : ByteArray := prog_6_method_42_code
def yX4_derived : MethodName := ⟨RX4, "derived", "(II)I"⟩
abbrev cX4_comparedGroups : ByteArray := prog_6_method_43_code
def yX4_comparedGroups : MethodName := ⟨RX4, "comparedGroups", "(IIII)I"⟩
abbrev cX4_addGroup : ByteArray := prog_6_method_44_code
def yX4_addGroup : MethodName := ⟨RX4, "addGroup", "(III)V"⟩
abbrev cX4_firstSet : ByteArray := prog_6_method_45_code
def yX4_firstSet : MethodName := ⟨RX4, "firstSet", "(II)I"⟩
abbrev cX4_isNext : ByteArray := prog_6_method_46_code
def yX4_isNext : MethodName := ⟨RX4, "isNext", "(III)Z"⟩
abbrev cX4_fits : ByteArray := prog_6_method_47_code
def yX4_fits : MethodName := ⟨RX4, "fits", "(III)Z"⟩
abbrev cX4_isFirst : ByteArray := prog_6_method_48_code
def yX4_isFirst : MethodName := ⟨RX4, "isFirst", "(III)Z"⟩
abbrev cX4_making : ByteArray := prog_6_method_49_code
def yX4_making : MethodName := ⟨RX4, "making", "(IIII)I"⟩
abbrev cX4_isKeeping : ByteArray := prog_6_method_50_code
def yX4_isKeeping : MethodName := ⟨RX4, "isKeeping", "(I)Z"⟩
abbrev cX4_across : ByteArray := prog_6_method_51_code
def yX4_across : MethodName := ⟨RX4, "across", "(II)I"⟩
abbrev cX4_placeOf : ByteArray := prog_6_method_52_code
def yX4_placeOf : MethodName := ⟨RX4, "placeOf", "(I)I"⟩
abbrev cX4_isWell : ByteArray := prog_6_method_53_code
def yX4_isWell : MethodName := ⟨RX4, "isWell", "(I)Z"⟩
abbrev cX4_fillings : ByteArray := prog_6_method_54_code
def yX4_fillings : MethodName := ⟨RX4, "fillings", "(I)I"⟩
abbrev cX4_isUsed : ByteArray := prog_6_method_55_code
def yX4_isUsed : MethodName := ⟨RX4, "isUsed", "(I)Z"⟩
abbrev cX4_leastFree : ByteArray := prog_6_method_56_code
def yX4_leastFree : MethodName := ⟨RX4, "leastFree", "(I)I"⟩
abbrev cX4_fill : ByteArray := prog_6_method_57_code
def yX4_fill : MethodName := ⟨RX4, "fill", "(I)V"⟩
abbrev cX4_filling : ByteArray := prog_6_method_58_code
def yX4_filling : MethodName := ⟨RX4, "filling", "(II)I"⟩
abbrev cX4_sign : ByteArray := prog_6_method_59_code
def yX4_sign : MethodName := ⟨RX4, "sign", "(III)I"⟩
abbrev cX4_passRow : ByteArray := prog_6_method_60_code
def yX4_passRow : MethodName := ⟨RX4, "passRow", "([II)V"⟩
abbrev cX4_passAll : ByteArray := prog_6_method_61_code
def yX4_passAll : MethodName := ⟨RX4, "passAll", "()V"⟩
abbrev cX4_image : ByteArray := prog_6_method_62_code
def yX4_image : MethodName := ⟨RX4, "image", "(I)I"⟩
abbrev cX4_restore : ByteArray := prog_6_method_63_code
def yX4_restore : MethodName := ⟨RX4, "restore", "(I)I"⟩
abbrev cX4_firstLike : ByteArray := prog_6_method_64_code
def yX4_firstLike : MethodName := ⟨RX4, "firstLike", "(I)I"⟩
abbrev cX4_told : ByteArray := prog_6_method_65_code
def yX4_told : MethodName := ⟨RX4, "told", "(I)I"⟩
def RJ6 : String := "java/lang/Integer"
def TJ6 : u_T := fun k => match k with
  | _ => ("", "", "", false)
def tyJ6 : Nat → FieldType := fun k => match k with
  | _ => .int
abbrev wsJ60 : List Cond := u_ws RJ6 TJ6 0
theorem nmJ6 : ∀ a, a < 0 → ∀ b, b < 0 → a ≠ b → (TJ6 a).2.1 ≠ (TJ6 b).2.1 := by decide +kernel
theorem tyJ6_ok : ∀ k, k < 0 → parseFieldDescriptor (TJ6 k).2.2.1 = some (tyJ6 k) := by decide +kernel
abbrev cJ6_numberOfTrailingZeros_0f7a4 : ByteArray := prog_7_method_48_code
def yJ6_numberOfTrailingZeros_0f7a4 : MethodName := ⟨RJ6, "numberOfTrailingZeros", "(I)I"⟩
abbrev cJ6_bitCount_0f7a4 : ByteArray := prog_7_method_49_code
def yJ6_bitCount_0f7a4 : MethodName := ⟨RJ6, "bitCount", "(I)I"⟩
def RJ9 : String := "java/lang/Math"
def TJ9 : u_T := fun k => match k with
  | _ => ("", "", "", false)
def tyJ9 : Nat → FieldType := fun k => match k with
  | _ => .int
abbrev wsJ90 : List Cond := u_ws RJ9 TJ9 0
theorem nmJ9 : ∀ a, a < 0 → ∀ b, b < 0 → a ≠ b → (TJ9 a).2.1 ≠ (TJ9 b).2.1 := by decide +kernel
theorem tyJ9_ok : ∀ k, k < 0 → parseFieldDescriptor (TJ9 k).2.2.1 = some (tyJ9 k) := by decide +kernel
abbrev cJ9_floorMod_7cf53 : ByteArray := prog_8_method_50_code
def yJ9_floorMod_7cf53 : MethodName := ⟨RJ9, "floorMod", "(II)I"⟩
def RJ10 : String := "java/lang/System"
def TJ10 : u_T := fun k => match k with
  | _ => ("", "", "", false)
def tyJ10 : Nat → FieldType := fun k => match k with
  | _ => .int
abbrev wsJ100 : List Cond := u_ws RJ10 TJ10 0
theorem nmJ10 : ∀ a, a < 0 → ∀ b, b < 0 → a ≠ b → (TJ10 a).2.1 ≠ (TJ10 b).2.1 := by decide +kernel
theorem tyJ10_ok : ∀ k, k < 0 → parseFieldDescriptor (TJ10 k).2.2.1 = some (tyJ10 k) := by decide +kernel
def RL : String := "RowFormsLaw"
abbrev cL_law : ByteArray := code
def yL_law : MethodName := ⟨RL, "law", "([I)Z"⟩
end
section
/-! The picture machine: numbers as Int, references as places of a list of cells. -/
abbrev AV : Type := Int ⊕ (Int ⊕ Option Nat)
abbrev AC : Type := (Nat × Nat × (Nat → Int)) ⊕ ((Nat × Nat × (Nat → Option Nat)) ⊕ (Nat × List AV))
abbrev vi (a : Int) : AV := .inl a
abbrev vl (a : Int) : AV := .inr (.inl a)
abbrev vr (i : Nat) : AV := .inr (.inr (some i))
abbrev vn : AV := .inr (.inr none)
abbrev ai (t n : Nat) (f : Nat → Int) : AC := .inl (t, n, f)
abbrev aq (t n : Nat) (f : Nat → Option Nat) : AC := .inr (.inl (t, n, f))
abbrev ao (c : Nat) (fs : List AV) : AC := .inr (.inr (c, fs))
def iI (a : Int) : Int32 := Int32.ofInt a
def iL (a : Int) : Int64 := Int64.ofInt a
def cv (ρ : Nat → Nat) : AV → Value
  | .inl a => .int (iI a)
  | .inr (.inl a) => .long (iL a)
  | .inr (.inr r) => va_rf (r.map ρ)
def ce (ρ : Nat → Nat) (τ : Nat → ClassId) : AC → va_E
  | .inl (t, n, f) => .inl (τ t, n, .inl (fun j => iI (f j)))
  | .inr (.inl (t, n, f)) => .inl (τ t, n, .inr (.inr (.inr (.inr (fun j => (f j).map ρ)))))
  | .inr (.inr (c, fs)) => .inr (c, fs.map (cv ρ))
def cw (ρ : Nat → Nat) (τ : Nat → ClassId) (h : List AC) : va_W := h.mapIdx (fun i e => (ρ i, ce ρ τ e))
theorem cw_get {ρ : Nat → Nat} {τ : Nat → ClassId} {h : List AC} {i : Nat} {e : AC} (hi : h[i]? = some e) : (cw ρ τ h)[i]? = some (ρ i, ce ρ τ e) := by
  unfold cw
  rw [List.getElem?_mapIdx, hi]; rfl
theorem cw_set (ρ : Nat → Nat) (τ : Nat → ClassId) (h : List AC) (i : Nat) (e : AC) : (cw ρ τ h).set i (ρ i, ce ρ τ e) = cw ρ τ (h.set i e) := by
  apply List.ext_getElem?
  intro j
  unfold cw
  simp only [List.getElem?_set, List.getElem?_mapIdx, List.length_mapIdx]
  by_cases hij : i = j
  · subst hij
    by_cases hl : i < h.length <;> simp [hl]
  · simp [hij]
theorem cw_push (ρ : Nat → Nat) (τ : Nat → ClassId) (h : List AC) (e : AC) : cw ρ τ (h ++ [e]) = cw ρ τ h ++ [(ρ h.length, ce ρ τ e)] := by
  unfold cw
  simp [List.mapIdx_append]
/-! numbers -/
def rng (a : Int) : Prop := -2147483648 ≤ a ∧ a < 2147483648
theorem iI_toInt {a : Int} (h : rng a) : (iI a).toInt = a := Int32.toInt_ofInt_of_le h.1 (by have := h.2; omega)
theorem iI_of (x : Int32) : iI x.toInt = x := Int32.ofInt_toInt x
theorem rng_of (x : Int32) : rng x.toInt := ⟨Int32.le_toInt x, by have := Int32.toInt_lt x; omega⟩
theorem iI_lt {a b : Int} (ha : rng a) (hb : rng b) : iI a < iI b ↔ a < b := by
  rw [Int32.lt_iff_toInt_lt, iI_toInt ha, iI_toInt hb]
theorem iI_le {a b : Int} (ha : rng a) (hb : rng b) : iI a ≤ iI b ↔ a ≤ b := by
  rw [Int32.le_iff_toInt_le, iI_toInt ha, iI_toInt hb]
theorem iI_eq {a b : Int} (ha : rng a) (hb : rng b) : iI a = iI b ↔ a = b := by
  constructor
  · intro h
    have := congrArg Int32.toInt h
    rwa [iI_toInt ha, iI_toInt hb] at this
  · intro h; rw [h]
theorem iI_add (a b : Int) : iI a + iI b = iI (a + b) := by
  unfold iI; rw [Int32.ofInt_add]
theorem iI_sub (a b : Int) : iI a - iI b = iI (a - b) := by
  unfold iI; rw [Int32.ofInt_sub]
theorem iI_mul (a b : Int) : iI a * iI b = iI (a * b) := by
  unfold iI; rw [Int32.ofInt_mul]
theorem iI_neg (a : Int) : -iI a = iI (-a) := by
  unfold iI; rw [Int32.ofInt_neg]
theorem iI_nat {a : Int} (h0 : 0 ≤ a) (h : a < 2147483648) : (iI a).toNatClampNeg = a.toNat := by
  unfold Int32.toNatClampNeg
  rw [iI_toInt ⟨by omega, h⟩]
theorem iI_in {a : Int} {n : Nat} (h0 : 0 ≤ a) (h : a < n) (hn : n ≤ 2147483648) : vp_in (iI a) n := by
  unfold vp_in
  rw [iI_nat h0 (by omega), show (0 : Int32) = iI 0 from rfl, iI_lt ⟨by omega, by omega⟩ ⟨by decide, by decide⟩]
  omega
/-! listings -/
abbrev Lst : Type := List (Nat × Instr × Nat)
def ftch : Lst → Nat → Option (Instr × Nat)
  | [], _ => none
  | r :: L, pc => cond (Nat.beq r.1 pc) (some r.2) (ftch L pc)
def okI : Instr → Bool
  | .bipush n => decide (-128 ≤ n) && decide (n < 128)
  | .sipush n => decide (-32768 ≤ n) && decide (n < 32768)
  | .iconst n => decide (-128 ≤ n) && decide (n < 128)
  | _ => true
def okL (cc : ByteArray) (L : Lst) : Prop := ∀ r ∈ L, decode cc r.1 = .ok r.2 ∧ okI r.2.1 = true
theorem okL_at {cc : ByteArray} {pc : Nat} {x : Instr × Nat} : ∀ {L : Lst}, okL cc L → ftch L pc = some x → decode cc pc = .ok x ∧ okI x.1 = true
  | [], _, h => by cases h
  | r :: L, hL, h => by
    unfold ftch at h
    cases hb : Nat.beq r.1 pc with
    | true =>
      rw [hb] at h
      have e : r.1 = pc := Nat.eq_of_beq_eq_true hb
      have h2 := hL r List.mem_cons_self
      cases h
      exact ⟨e ▸ h2.1, h2.2⟩
    | false =>
      rw [hb] at h
      exact okL_at (fun q hq => hL q (List.mem_cons_of_mem _ hq)) h
theorem okL_dec {cc : ByteArray} {L : Lst} (h : L.all (fun r => decide (decode cc r.1 = .ok r.2) && okI r.2.1) = true) : okL cc L := by
  intro r hr
  have := List.all_eq_true.mp h r hr
  simp only [Bool.and_eq_true, decide_eq_true_eq] at this
  exact this
def lkp : List (Nat × AV) → Nat → Option AV
  | [], _ => none
  | r :: L, i => cond (Nat.beq r.1 i) (some r.2) (lkp L i)
theorem lkp_mem {i : Nat} {v : AV} : ∀ {L : List (Nat × AV)}, lkp L i = some v → (i, v) ∈ L
  | [], h => by cases h
  | r :: L, h => by
    unfold lkp at h
    cases hb : Nat.beq r.1 i with
    | true =>
      rw [hb] at h
      have e : r.1 = i := Nat.eq_of_beq_eq_true hb
      cases h
      rw [← e]
      exact List.mem_cons_self
    | false =>
      rw [hb] at h
      exact List.mem_cons_of_mem _ (lkp_mem h)
def acat : AV → Nat
  | .inr (.inl _) => 2
  | _ => 1
theorem cv_cat (ρ : Nat → Nat) (v : AV) : (cv ρ v).category = acat v := by
  rcases v with a | a | (_ | a) <;> rfl
def sto (ls : List (Nat × AV)) (i : Nat) (v : AV) : List (Nat × AV) := (i, v) :: ls.filter (fun q => !(q.1 == i) && !(q.1 + 1 == i && acat q.2 == 2))
abbrev cl (ρ : Nat → Nat) (ls : List (Nat × AV)) : List (Nat × Value) := ls.map (fun q => (q.1, cv ρ q.2))
theorem cl_sto (ρ : Nat → Nat) (ls : List (Nat × AV)) (i : Nat) (v : AV) : (i, cv ρ v) :: (cl ρ ls).filter (fun q => !(q.1 == i) && !(q.1 + 1 == i && q.2.category == 2)) = cl ρ (sto ls i v) := by
  unfold sto cl
  simp only [List.map_cons, List.filter_map]
  congr 2
  apply List.filter_congr
  intro q _
  simp [cv_cat]
theorem cl_at {ρ : Nat → Nat} {ls : List (Nat × AV)} {lsA : Array Slot} {n i : Nat} {v : AV} (h : lv_has lsA n (cl ρ ls)) (hk : lkp ls i = some v) : lsA[i]? = some (.val (cv ρ v)) :=
  h.2.2 (i, cv ρ v) (List.mem_map.mpr ⟨(i, v), lkp_mem hk, rfl⟩)
end
section
/-! what holds of the tables, and the walk's judgement -/
abbrev classes : List vw_C := [(RX0, TX0, 2), (RX1, TX1, 6), (RX2, TX2, 3), (RX3, TX3, 5), (RX4, TX4, 14)]
def isNst : Cond → Bool
  | .methodLinkNest .. => true
  | .fieldLinkNest .. => true
  | _ => false
def gtb : List Cond := lw_tbl.filter goodWord
def nst : List Cond := lw_tbl.filter isNst
theorem gtb_in {w : Cond} (i : Nat) (h : lw_tbl[i]? = some w) (hg : goodWord w = true) : w ∈ gtb := List.mem_filter.mpr ⟨List.mem_of_getElem? h, hg⟩
theorem nst_in {w : Cond} (i : Nat) (h : lw_tbl[i]? = some w) (hg : isNst w = true) : w ∈ nst := List.mem_filter.mpr ⟨List.mem_of_getElem? h, hg⟩
theorem gtb_good (big : List Cond) (hb : ∀ w ∈ gtb, w ∈ big) : GoodIn big gtb := fun w hw => ⟨hb w hw, good_of_word (List.mem_filter.mp hw).2⟩
def NW (U : State) : Prop := ∀ w ∈ nst, va_Nw w U
theorem NW.warm {s U : State} (hW : s.WarmedH U.vm) (h : NW s) : NW U := by
  intro w hw
  have h1 := h w hw
  have h2 := (List.mem_filter.mp hw).2
  cases w <;> first | (simp [isNst] at h2; done) | exact va_Nw.warmF hW h1 | exact va_Nw.warmM hW h1
theorem NW.same {s U : State} (hW : s.vm = U.vm) (h : NW s) : NW U := by
  intro w hw
  have h1 := h w hw
  have h2 := (List.mem_filter.mp hw).2
  cases w <;> first | (simp [isNst] at h2; done) | exact va_Nw.same rfl hW h1
def va_AOA (ty : FieldType) (U : State) : Prop := (Cond.arrayOver (.array ty)).before #[] U = true
theorem va_AOA.use {ty : FieldType} {A : Array Value} {U : State} (h : va_AOA ty U) : (Cond.arrayOver (.array ty)).before A U = true := h
theorem va_AOA.of {ty : FieldType} {A : Array Value} {U : State} (h : (Cond.arrayOver (.array ty)).before A U = true) : va_AOA ty U := h
abbrev tyl (τ : Nat → ClassId) : List (ClassId × FieldType) := [(τ 0, .int), (τ 1, .boolean), (τ 2, .object RX2), (τ 3, .array .int)]
def KK (D : va_G) (τ : Nat → ClassId) (U : State) : Prop := va_K D classes (tyl τ) U ∧ NW U
theorem KK.warm {D : va_G} {τ : Nat → ClassId} {s U : State} (hW : s.WarmedH U.vm) (h : KK D τ s) : KK D τ U := ⟨va_K.moved hW.alike h.1, h.2.warm hW⟩
theorem KK.same {D : va_G} {τ : Nat → ClassId} {s U : State} (hW : s.vm = U.vm) (h : KK D τ s) : KK D τ U := ⟨va_K.moved (by rw [hW]; exact Vm.Alike.refl U.vm) h.1, h.2.same hW⟩
abbrev ZM : Type := MethodName × ByteArray × Nat × Option FieldType × Lst
/-- a method's own words -/
def zw (z : ZM) : List Cond := .code z.1 z.2.1 z.2.2.1 z.2.2.2.1 :: gtb
def zok (z : ZM) : Prop := okL z.2.1 z.2.2.2.2 ∧ Cond.code z.1 z.2.1 z.2.2.1 z.2.2.2.1 ∈ gtb ∧ plainName z.1.cls = true ∧ z.2.2.1 ≤ 12
/-- the machine stands in method z -/
def Cx (z : ZM) (p : Program) (s : State) (m : MethodId) (args : Array Value) (meth : Method) (c : Code) : Prop :=
  p.tables.exec = Jvm.exec ∧ c.code = z.2.1 ∧ c.maxLocals = z.2.2.1 ∧ s.vm.findClass z.1.cls = some m.cls ∧ (∀ w ∈ gtb, w.before args s = true) ∧ okL z.2.1 z.2.2.2.2 ∧ meth.name = z.1.name ∧ meth.locks = false ∧ meth.sig.returnType = z.2.2.2.1
/-- a return at pc of v -/
def rets (z : ZM) (pc : Nat) : Option Int → Prop
  | none => z.2.2.2.1 = none ∧ ftch z.2.2.2.2 pc = some (.return_, 1)
  | some a => (z.2.2.2.1 = some .int ∨ z.2.2.2.1 = some .boolean ∧ (a = 0 ∨ a = 1)) ∧ ftch z.2.2.2.2 pc = some (.ireturn, 1)
abbrev GG : Type := (Nat → Nat) → (Nat → Nat) → Prop
def AW (z : ZM) (G : GG) (R : Room) (MC MS k n pc : Nat) (ls : List (Nat × AV)) (st : List AV) (h : List AC) (Q : Option Int → List AC → Prop) : Prop :=
  ∀ (p : Program) (l : Launch) (e : Env) (s : State) (m : MethodId) (args : Array Value) (below : List Frame) (meth : Method) (c : Code) (D : va_G) (τ : Nat → ClassId) (A : Nat → Prop) (ρ0 ρ : Nat → Nat) (Zf : State → Prop),
    Cx z p s m args meth c → KK D τ s → (∀ q, s.heap.size ≤ q → A q) → G ρ0 ρ →
    (∀ (v : Option Int) (h' : List AC) (ρ' : Nat → Nat) (H' : Heap) (locs' : List Loc) (ls' : Array Slot) (pc' : Nat), Q v h' → rets z pc' v → G ρ0 ρ' → va_P D classes (cw ρ' τ h') H' → va_D A (cw ρ' τ h') → va_S A s.heap H' locs' →
      W p l e R s m args below meth c H' locs' MC MS Zf (F0 m pc' ls' (v.toList.map (fun a => Value.int (iI a))))) →
    ∀ (H : Heap) (locs : List Loc) (lsA : Array Slot), va_P D classes (cw ρ τ h) H → va_D A (cw ρ τ h) → va_S A s.heap H locs → lv_has lsA z.2.2.1 (cl ρ ls) →
      W p l e R s m args below meth c H locs k n Zf (F0 m pc lsA (st.map (cv ρ)))
section Rules
variable {z : ZM} {G : GG} {R : Room} {MC MS k n pc : Nat} {ls : List (Nat × AV)} {st : List AV} {h : List AC} {Q : Option Int → List AC → Prop}
theorem AW.ret {a : Int} (hf : ftch z.2.2.2.2 pc = some (.ireturn, 1)) (hr : z.2.2.2.1 = some .int) (hk : k ≤ MC) (hn : n ≤ MS) (hq : Q (some a) h) : AW z G R MC MS k n pc ls [vi a] h Q := by
  intro p l e s m args below meth c D τ A ρ0 ρ Zf C hK hA hG hZ H locs lsA hP hD hS hl
  exact W.widen hk hn (hZ (some a) h ρ H locs lsA pc hq ⟨Or.inl hr, hf⟩ hG hP hD hS)
theorem AW.retz {a : Int} (hf : ftch z.2.2.2.2 pc = some (.ireturn, 1)) (hr : z.2.2.2.1 = some .boolean) (ha : a = 0 ∨ a = 1) (hk : k ≤ MC) (hn : n ≤ MS) (hq : Q (some a) h) : AW z G R MC MS k n pc ls [vi a] h Q := by
  intro p l e s m args below meth c D τ A ρ0 ρ Zf C hK hA hG hZ H locs lsA hP hD hS hl
  exact W.widen hk hn (hZ (some a) h ρ H locs lsA pc hq ⟨Or.inr ⟨hr, ha⟩, hf⟩ hG hP hD hS)
theorem AW.retv (hf : ftch z.2.2.2.2 pc = some (.return_, 1)) (hr : z.2.2.2.1 = none) (hk : k ≤ MC) (hn : n ≤ MS) (hq : Q none h) : AW z G R MC MS k n pc ls [] h Q := by
  intro p l e s m args below meth c D τ A ρ0 ρ Zf C hK hA hG hZ H locs lsA hP hD hS hl
  exact W.widen hk hn (hZ none h ρ H locs lsA pc hq ⟨hr, hf⟩ hG hP hD hS)
theorem AW.wide {k' n' : Nat} (hk : k ≤ k') (hn : n ≤ n') (kk : AW z G R MC MS k' n' pc ls st h Q) : AW z G R MC MS k n pc ls st h Q := by
  intro p l e s m args below meth c D τ A ρ0 ρ Zf C hK hA hG hZ H locs lsA hP hD hS hl
  exact W.widen hk hn (kk p l e s m args below meth c D τ A ρ0 ρ Zf C hK hA hG hZ H locs lsA hP hD hS hl)
/-- the walk's rows that need nothing but the frame: one instruction -/
theorem AW.fr {pc' : Nat} {ls' : List (Nat × AV)} {st' : List AV}
    (hw : ∀ (p : Program) (l : Launch) (e : Env) (s : State) (m : MethodId) (args : Array Value) (below : List Frame) (meth : Method) (c : Code) (ρ : Nat → Nat) (H : Heap) (locs : List Loc) (lsA : Array Slot) (Zf : State → Prop), Cx z p s m args meth c → lv_has lsA z.2.2.1 (cl ρ ls) →
      (∀ lsB : Array Slot, lv_has lsB z.2.2.1 (cl ρ ls') → W p l e R s m args below meth c H locs k n Zf (F0 m pc' lsB (st'.map (cv ρ)))) → W p l e R s m args below meth c H locs k n Zf (F0 m pc lsA (st.map (cv ρ))))
    (kk : AW z G R MC MS k n pc' ls' st' h Q) : AW z G R MC MS k n pc ls st h Q := by
  intro p l e s m args below meth c D τ A ρ0 ρ Zf C hK hA hG hZ H locs lsA hP hD hS hl
  exact hw p l e s m args below meth c ρ H locs lsA Zf C hl (fun lsB hB => kk p l e s m args below meth c D τ A ρ0 ρ Zf C hK hA hG hZ H locs lsB hP hD hS hB)
end Rules
/-- one step of what needs nothing but the frame -/
def pst (L : Lst) (nL pc : Nat) (ls : List (Nat × AV)) (st : List AV) : Option (Nat × List (Nat × AV) × List AV) :=
  match ftch L pc with
  | some (.iconst a, 1) => some (pc + 1, ls, vi a :: st)
  | some (.bipush a, 2) => some (pc + 2, ls, vi a :: st)
  | some (.sipush a, 3) => some (pc + 3, ls, vi a :: st)
  | some (.lconst i, 1) => some (pc + 1, ls, vl (i.val : Int) :: st)
  | some (.iload i, 2) => match lkp ls i with
    | some (.inl a) => some (pc + 2, ls, vi a :: st)
    | _ => none
  | some (.iload_n i, 1) => match lkp ls i.val with
    | some (.inl a) => some (pc + 1, ls, vi a :: st)
    | _ => none
  | some (.lload i, 2) => match lkp ls i with
    | some (.inr (.inl a)) => some (pc + 2, ls, vl a :: st)
    | _ => none
  | some (.lload_n i, 1) => match lkp ls i.val with
    | some (.inr (.inl a)) => some (pc + 1, ls, vl a :: st)
    | _ => none
  | some (.aload i, 2) => match lkp ls i with
    | some (.inr (.inr (some a))) => some (pc + 2, ls, vr a :: st)
    | _ => none
  | some (.aload_n i, 1) => match lkp ls i.val with
    | some (.inr (.inr (some a))) => some (pc + 1, ls, vr a :: st)
    | _ => none
  | some (.istore i, 2) => match st with
    | .inl a :: st => cond (Nat.blt i nL) (some (pc + 2, sto ls i (vi a), st)) none
    | _ => none
  | some (.istore_n i, 1) => match st with
    | .inl a :: st => cond (Nat.blt i.val nL) (some (pc + 1, sto ls i.val (vi a), st)) none
    | _ => none
  | some (.astore i, 2) => match st with
    | .inr (.inr (some a)) :: st => cond (Nat.blt i nL) (some (pc + 2, sto ls i (vr a), st)) none
    | _ => none
  | some (.astore_n i, 1) => match st with
    | .inr (.inr (some a)) :: st => cond (Nat.blt i.val nL) (some (pc + 1, sto ls i.val (vr a), st)) none
    | _ => none
  | some (.iinc i b, 3) => match lkp ls i with
    | some (.inl a) => cond (Nat.blt i nL) (some (pc + 3, sto ls i (vi (a + b)), st)) none
    | _ => none
  | some (.iadd, 1) => match st with
    | .inl b :: .inl a :: st => some (pc + 1, ls, vi (a + b) :: st)
    | _ => none
  | some (.isub, 1) => match st with
    | .inl b :: .inl a :: st => some (pc + 1, ls, vi (a - b) :: st)
    | _ => none
  | some (.imul, 1) => match st with
    | .inl b :: .inl a :: st => some (pc + 1, ls, vi (a * b) :: st)
    | _ => none
  | some (.ineg, 1) => match st with
    | .inl a :: st => some (pc + 1, ls, vi (-a) :: st)
    | _ => none
  | some (.dup, 1) => match st with
    | .inl a :: st => some (pc + 1, ls, vi a :: vi a :: st)
    | .inr (.inr a) :: st => some (pc + 1, ls, .inr (.inr a) :: .inr (.inr a) :: st)
    | _ => none
  | some (.dup2, 1) => match st with
    | .inl a :: .inr (.inr b) :: st => some (pc + 1, ls, vi a :: .inr (.inr b) :: vi a :: .inr (.inr b) :: st)
    | _ => none
  | some (.pop, 1) => match st with
    | .inl _ :: st => some (pc + 1, ls, st)
    | _ => none
  | some (.goto o, 3) => match (pc : Int) + o with
    | .ofNat t => some (t, ls, st)
    | _ => none
  | _ => none
end
section
theorem i8_32 {n : Int} (h1 : -128 ≤ n) (h2 : n < 128) : (Int8.ofInt n).toInt32 = iI n := by
  apply Int32.toInt_inj.mp
  rw [Int8.toInt_toInt32, iI_toInt ⟨by omega, by omega⟩, Int8.toInt_ofInt_of_le (by omega) (by omega)]
theorem i16_32 {n : Int} (h1 : -32768 ≤ n) (h2 : n < 32768) : (Int16.ofInt n).toInt32 = iI n := by
  apply Int32.toInt_inj.mp
  rw [Int16.toInt_toInt32, iI_toInt ⟨by omega, by omega⟩, Int16.toInt_ofInt_of_le (by omega) (by omega)]
section Rules
variable {z : ZM} {G : GG} {R : Room} {MC MS k n pc : Nat} {ls : List (Nat × AV)} {st : List AV} {h : List AC} {Q : Option Int → List AC → Prop}
set_option maxHeartbeats 4000000 in
theorem AW.p1 {pc' : Nat} {ls' : List (Nat × AV)} {st' : List AV} (hp : pst z.2.2.2.2 z.2.2.1 pc ls st = some (pc', ls', st')) (kk : AW z G R MC MS k n pc' ls' st' h Q) : AW z G R MC MS k n pc ls st h Q := by
  refine AW.fr ?_ kk
  intro p l e s m args below meth c ρ H locs lsA Zf C hl K
  obtain ⟨hx, hb, hml, hown, hts, hL, -, -, -⟩ := C
  unfold pst at hp
  split at hp
  next a hf =>
    obtain ⟨hd, ho⟩ := okL_at hL hf
    cases hp
    exact lv_iconst hx hb hd rfl (K lsA hl)
  next a hf =>
    obtain ⟨hd, ho⟩ := okL_at hL hf
    cases hp
    simp only [okI, Bool.and_eq_true, decide_eq_true_eq] at ho
    exact lv_bipush hx hb hd (i8_32 ho.1 ho.2) (K lsA hl)
  next a hf =>
    obtain ⟨hd, ho⟩ := okL_at hL hf
    cases hp
    simp only [okI, Bool.and_eq_true, decide_eq_true_eq] at ho
    exact lv_sipush hx hb hd (i16_32 ho.1 ho.2) (K lsA hl)
  next a hf =>
    obtain ⟨hd, ho⟩ := okL_at hL hf
    cases hp
    exact lv_lconst hx hb hd rfl (K lsA hl)
  next i hf =>
    obtain ⟨hd, ho⟩ := okL_at hL hf
    split at hp
    next a hk => cases hp; exact lv_iload hx hb hd (cl_at hl hk) (K lsA hl)
    next => cases hp
  next i hf =>
    obtain ⟨hd, ho⟩ := okL_at hL hf
    split at hp
    next a hk => cases hp; exact lv_iload_n hx hb hd rfl (cl_at hl hk) (K lsA hl)
    next => cases hp
  next i hf =>
    obtain ⟨hd, ho⟩ := okL_at hL hf
    split at hp
    next a hk => cases hp; exact lv_lload hx hb hd (cl_at hl hk) (K lsA hl)
    next => cases hp
  next i hf =>
    obtain ⟨hd, ho⟩ := okL_at hL hf
    split at hp
    next a hk => cases hp; exact lv_lload_n hx hb hd rfl (cl_at hl hk) (K lsA hl)
    next => cases hp
  next i hf =>
    obtain ⟨hd, ho⟩ := okL_at hL hf
    split at hp
    next a hk => cases hp; exact lv_aload hx hb hd (cl_at hl hk) (K lsA hl)
    next => cases hp
  next i hf =>
    obtain ⟨hd, ho⟩ := okL_at hL hf
    split at hp
    next a hk => cases hp; exact lv_aload_n hx hb hd rfl (cl_at hl hk) (K lsA hl)
    next => cases hp
  next i hf =>
    obtain ⟨hd, ho⟩ := okL_at hL hf
    split at hp
    next a st =>
      cases hi : Nat.blt i z.2.2.1 with
      | false => rw [hi] at hp; cases hp
      | true => rw [hi] at hp; cases hp; exact lv_istore hx hb hd hl (Nat.blt_eq ▸ hi) (cl_sto ρ ls i (vi a)) (fun lsB hB => K lsB hB)
    next => cases hp
  next i hf =>
    obtain ⟨hd, ho⟩ := okL_at hL hf
    split at hp
    next a st =>
      cases hi : Nat.blt i.val z.2.2.1 with
      | false => rw [hi] at hp; cases hp
      | true => rw [hi] at hp; cases hp; exact lv_istore_n hx hb hd rfl hl (Nat.blt_eq ▸ hi) (cl_sto ρ ls i (vi a)) (fun lsB hB => K lsB hB)
    next => cases hp
  next i hf =>
    obtain ⟨hd, ho⟩ := okL_at hL hf
    split at hp
    next a st =>
      cases hi : Nat.blt i z.2.2.1 with
      | false => rw [hi] at hp; cases hp
      | true => rw [hi] at hp; cases hp; exact lv_astore hx hb hd hl (Nat.blt_eq ▸ hi) (cl_sto ρ ls i (vr a)) (fun lsB hB => K lsB hB)
    next => cases hp
  next i hf =>
    obtain ⟨hd, ho⟩ := okL_at hL hf
    split at hp
    next a st =>
      cases hi : Nat.blt i.val z.2.2.1 with
      | false => rw [hi] at hp; cases hp
      | true => rw [hi] at hp; cases hp; exact lv_astore_n hx hb hd rfl hl (Nat.blt_eq ▸ hi) (cl_sto ρ ls i (vr a)) (fun lsB hB => K lsB hB)
    next => cases hp
  next i b hf =>
    obtain ⟨hd, ho⟩ := okL_at hL hf
    split at hp
    next a hk =>
      cases hi : Nat.blt i z.2.2.1 with
      | false => rw [hi] at hp; cases hp
      | true =>
        rw [hi] at hp; cases hp
        have hm : (i, cv ρ (vi a)) ∈ cl ρ ls := List.mem_map.mpr ⟨(i, vi a), lkp_mem hk, rfl⟩
        obtain ⟨kk9, hk9⟩ := List.getElem?_of_mem hm
        exact lv_iinc hx hb hd hl hk9 (iI_add a b) (Nat.blt_eq ▸ hi) (cl_sto ρ ls i (vi (a + b))) (fun lsB hB => K lsB hB)
    next => cases hp
  next hf =>
    obtain ⟨hd, ho⟩ := okL_at hL hf
    split at hp
    next b a st =>
      cases hp
      refine lv_iadd hx hb hd ?_
      rw [iI_add]
      exact K lsA hl
    next => cases hp
  next hf =>
    obtain ⟨hd, ho⟩ := okL_at hL hf
    split at hp
    next b a st =>
      cases hp
      refine lv_isub hx hb hd ?_
      rw [iI_sub]
      exact K lsA hl
    next => cases hp
  next hf =>
    obtain ⟨hd, ho⟩ := okL_at hL hf
    split at hp
    next b a st =>
      cases hp
      refine lv_imul hx hb hd ?_
      rw [iI_mul]
      exact K lsA hl
    next => cases hp
  next hf =>
    obtain ⟨hd, ho⟩ := okL_at hL hf
    split at hp
    next a st =>
      cases hp
      refine lv_ineg hx hb hd ?_
      rw [iI_neg]
      exact K lsA hl
    next => cases hp
  next hf =>
    obtain ⟨hd, ho⟩ := okL_at hL hf
    split at hp
    next a st => cases hp; exact lv_dup hx hb hd rfl (K lsA hl)
    next a st => cases hp; exact lv_dup hx hb hd (by rcases a with _ | a <;> rfl) (K lsA hl)
    next => cases hp
  next hf =>
    obtain ⟨hd, ho⟩ := okL_at hL hf
    split at hp
    next a b st => cases hp; exact lv_dup2_11 hx hb hd rfl (by rcases b with _ | b <;> rfl) (K lsA hl)
    next => cases hp
  next hf =>
    obtain ⟨hd, ho⟩ := okL_at hL hf
    split at hp
    next a st => cases hp; exact lv_pop hx hb hd rfl (K lsA hl)
    next => cases hp
  next o hf =>
    obtain ⟨hd, ho⟩ := okL_at hL hf
    split at hp
    next t ht => cases hp; exact lv_goto hx hb hd ht (K lsA hl)
    next => cases hp
  next => cases hp
end Rules
end
section
def psn (L : Lst) (nL : Nat) : Nat → Nat → List (Nat × AV) → List AV → Option (Nat × List (Nat × AV) × List AV)
  | 0, pc, ls, st => some (pc, ls, st)
  | j + 1, pc, ls, st => match pst L nL pc ls st with
    | some (pc', ls', st') => psn L nL j pc' ls' st'
    | none => none
def cmpI : ClassFile.Cond → Int → Int → Prop
  | .eq, a, b => a = b
  | .ne, a, b => ¬ a = b
  | .lt, a, b => a < b
  | .ge, a, b => b ≤ a
  | .gt, a, b => b < a
  | .le, a, b => a ≤ b
theorem rng0 : rng 0 := ⟨by decide, by decide⟩
def up {α : Type} (f : Nat → α) (k : Nat) (x : α) : Nat → α := fun j => if j = k then x else f j
theorem iI_div {a b : Int} (h0 : 0 ≤ a) (h1 : a < 2147483648) (h2 : 0 < b) (h3 : b < 2147483648) : iI a / iI b = iI (a / b) := by
  have hr : rng (a / b) := ⟨by have := Int.ediv_nonneg h0 (Int.le_of_lt h2); omega, by have := Int.ediv_le_self b h0; omega⟩
  apply Int32.toInt_inj.mp
  rw [iI_toInt hr, Int32.toInt_div, iI_toInt ⟨by omega, h1⟩, iI_toInt ⟨by omega, h3⟩, Int.tdiv_eq_ediv_of_nonneg h0]
  exact Int.bmod_eq_of_le (by have := hr.1; omega) (by have := hr.2; omega)
theorem iI_rem {a b : Int} (h0 : 0 ≤ a) (h1 : a < 2147483648) (h2 : 0 < b) (h3 : b < 2147483648) : iI a - iI a / iI b * iI b = iI (a % b) := by
  rw [iI_div h0 h1 h2 h3, iI_mul, iI_sub]
  congr 1
  have := Int.mul_ediv_add_emod a b
  rw [Int.mul_comm] at this
  omega
theorem iI_bv (a : Nat) : (iI (a : Int)).toBitVec = BitVec.ofNat 32 a := by
  unfold iI
  rw [Int32.toBitVec_ofInt]
  exact BitVec.ofInt_natCast 32 a
theorem iI_and {a b : Int} (h0 : 0 ≤ a) (h1 : 0 ≤ b) : iI a &&& iI b = iI ((a.toNat &&& b.toNat : Nat) : Int) := by
  obtain ⟨x, rfl⟩ := Int.eq_ofNat_of_zero_le h0
  obtain ⟨y, rfl⟩ := Int.eq_ofNat_of_zero_le h1
  apply Int32.toBitVec_inj.mp
  rw [Int32.toBitVec_and, iI_bv, iI_bv, iI_bv]
  simp [BitVec.ofNat_and]
theorem iI_or {a b : Int} (h0 : 0 ≤ a) (h1 : 0 ≤ b) : iI a ||| iI b = iI ((a.toNat ||| b.toNat : Nat) : Int) := by
  obtain ⟨x, rfl⟩ := Int.eq_ofNat_of_zero_le h0
  obtain ⟨y, rfl⟩ := Int.eq_ofNat_of_zero_le h1
  apply Int32.toBitVec_inj.mp
  rw [Int32.toBitVec_or, iI_bv, iI_bv, iI_bv]
  simp [BitVec.ofNat_or]
theorem iI_xor {a b : Int} (h0 : 0 ≤ a) (h1 : 0 ≤ b) : iI a ^^^ iI b = iI ((a.toNat ^^^ b.toNat : Nat) : Int) := by
  obtain ⟨x, rfl⟩ := Int.eq_ofNat_of_zero_le h0
  obtain ⟨y, rfl⟩ := Int.eq_ofNat_of_zero_le h1
  apply Int32.toBitVec_inj.mp
  rw [Int32.toBitVec_xor, iI_bv, iI_bv, iI_bv]
  simp [BitVec.ofNat_xor]
theorem iI_31 {b : Int} (h0 : 0 ≤ b) (h1 : b < 32) : ((iI b &&& 31).toBitVec.smod 32).toNat = b.toNat := by
  obtain ⟨y, rfl⟩ := Int.eq_ofNat_of_zero_le h0
  have key : ∀ y : Nat, y < 32 → ((iI ((y : Nat) : Int) &&& 31).toBitVec.smod 32).toNat = ((y : Nat) : Int).toNat := by decide +kernel
  exact key y (by omega)
theorem iI_shl {a b : Int} (h0 : 0 ≤ a) (h1 : 0 ≤ b) (h2 : b < 32) : iI a <<< (iI b &&& 31) = iI (a * 2 ^ b.toNat) := by
  obtain ⟨x, rfl⟩ := Int.eq_ofNat_of_zero_le h0
  apply Int32.toBitVec_inj.mp
  apply BitVec.eq_of_toNat_eq
  rw [pk_shl _ _ b.toNat (iI_31 h1 h2), iI_bv, show (x : Int) * 2 ^ b.toNat = ((x * 2 ^ b.toNat : Nat) : Int) by push_cast; rfl, iI_bv]
  simp [Nat.mul_mod]
theorem iI_shr {a b : Int} (h0 : rng a) (h1 : 0 ≤ b) (h2 : b < 32) : iI a >>> (iI b &&& 31) = iI (a / 2 ^ b.toNat) := by
  apply Int32.toInt_inj.mp
  rw [pk_shr _ _ b.toNat (iI_31 h1 h2), iI_toInt h0, Int.shiftRight_eq_div_pow]
  have hp : (0 : Int) < 2 ^ b.toNat := Int.pow_pos (by decide)
  have h3 : rng (a / 2 ^ b.toNat) := by
    obtain ⟨g1, g2⟩ := h0
    have hp1 : (1 : Int) ≤ 2 ^ b.toNat := hp
    refine ⟨?_, ?_⟩
    · apply Int.le_ediv_of_mul_le hp
      have : -2147483648 * 2 ^ b.toNat ≤ -2147483648 * (1 : Int) := Int.mul_le_mul_of_nonpos_left (by decide) hp1
      omega
    · apply Int.ediv_lt_of_lt_mul hp
      have : (2147483648 : Int) * 1 ≤ 2147483648 * 2 ^ b.toNat := Int.mul_le_mul_of_nonneg_left hp1 (by decide)
      omega
  rw [iI_toInt h3]
  push_cast
  rfl
end
section
def FL (own : String) (idx ci j : Nat) (ty : FieldType) (fin : Bool) : Prop := ∃ (C : String) (T : u_T) (N : Nat) (ty0 : Nat → FieldType), classes[ci]? = some (C, T, N) ∧ j < N ∧ (∀ w ∈ u_ws C T N, w ∈ gtb) ∧ (∀ i, i < N → parseFieldDescriptor (T i).2.2.1 = some (ty0 i)) ∧ (∀ a, a < N → ∀ b, b < N → a ≠ b → (T a).2.1 ≠ (T b).2.1) ∧ parseFieldDescriptor (T j).2.2.1 = some ty ∧ (T j).2.2.2 = fin ∧ (T j).1 = C ∧
  (Cond.fieldLink own idx (T j).1 (T j).2.1 (T j).2.2.1 ∈ gtb ∨ ∃ host, Cond.fieldLinkNest own idx (T j).1 (T j).2.1 (T j).2.2.1 host ∈ nst)
def okv : FieldType → AV → Prop
  | .int, .inl _ => True
  | .boolean, .inl a => a = 0 ∨ a = 1
  | .object _, .inr (.inr _) => True
  | .array _, .inr (.inr _) => True
  | _, _ => False
theorem okv_ok {ty : FieldType} {v : AV} {ρ : Nat → Nat} (h : okv ty v) : narrow ty (cv ρ v) = cv ρ v ∧ fits ty (cv ρ v) = true := by
  cases ty <;> rcases v with a | a | (_ | a) <;> first | exact h.elim | exact ⟨rfl, rfl⟩ | (rcases h with rfl | rfl <;> first | exact ⟨(by decide +kernel : narrow FieldType.boolean (Value.int (iI 0)) = Value.int (iI 0)), (by decide +kernel : fits FieldType.boolean (Value.int (iI 0)) = true)⟩ | exact ⟨(by decide +kernel : narrow FieldType.boolean (Value.int (iI 1)) = Value.int (iI 1)), (by decide +kernel : fits FieldType.boolean (Value.int (iI 1)) = true)⟩)
theorem cv_get {ρ : Nat → Nat} {fs : List AV} {j : Nat} {v : AV} (h : fs[j]? = some v) : (fs.map (cv ρ))[j]? = some (cv ρ v) := by
  rw [List.getElem?_map, h]; rfl
theorem upd_up (f : Nat → Int) (i : Nat) (a : Int) : upd (fun j => iI (f j)) i (iI a) = fun j => iI (up f i a j) := by
  funext j
  unfold upd up
  by_cases hj : j = i <;> simp [hj]
theorem cpy_iI (f g : Nat → Int) (a b n : Nat) : va_cpy (fun j => iI (f j)) (fun j => iI (g j)) a b n = fun j => iI (va_cpy f g a b n j) := by
  funext j
  unfold va_cpy
  split <;> rfl
def lcmpI (a b : Int) : Int := if b < a then 1 else if a = b then 0 else -1
def rngL (a : Int) : Prop := -9223372036854775808 ≤ a ∧ a < 9223372036854775808
theorem iL_toInt {a : Int} (h : rngL a) : (iL a).toInt = a := Int64.toInt_ofInt_of_le h.1 (by have := h.2; omega)
theorem iL_cmp {a b : Int} (ha : rngL a) (hb : rngL b) : lg_cmp (iL a) (iL b) = iI (lcmpI a b) := by
  have e1 : iL a > iL b ↔ b < a := by
    rw [gt_iff_lt, Int64.lt_iff_toInt_lt, iL_toInt ha, iL_toInt hb]
  have e2 : iL a = iL b ↔ a = b := by
    rw [← Int64.toInt_inj, iL_toInt ha, iL_toInt hb]
  unfold lg_cmp lcmpI
  by_cases h1 : b < a
  · rw [if_pos (e1.mpr h1), if_pos h1]; rfl
  · rw [if_neg (fun q => h1 (e1.mp q)), if_neg h1]
    by_cases h2 : a = b
    · rw [if_pos (e2.mpr h2), if_pos h2]; rfl
    · rw [if_neg (fun q => h2 (e2.mp q)), if_neg h2]; rfl
theorem iI_long {a : Int} (h : rng a) : (iI a).toInt64 = iL a := by
  apply Int64.toInt_inj.mp
  rw [Int32.toInt_toInt64, iI_toInt h, iL_toInt ⟨by have := h.1; omega, by have := h.2; omega⟩]
section Rules
variable {z : ZM} {G : GG} {R : Room} {MC MS k n pc pn : Nat} {ls : List (Nat × AV)} {st : List AV} {h : List AC} {Q : Option Int → List AC → Prop}
theorem AW.go {pc' : Nat} {ls' : List (Nat × AV)} {st' : List AV} : ∀ (j : Nat) {pc : Nat} {ls : List (Nat × AV)} {st : List AV}, psn z.2.2.2.2 z.2.2.1 j pc ls st = some (pc', ls', st') → AW z G R MC MS k n pc' ls' st' h Q → AW z G R MC MS k n pc ls st h Q
  | 0, pc, ls, st, hp, kk => by
    cases hp; exact kk
  | j + 1, pc, ls, st, hp, kk => by
    unfold psn at hp
    split at hp
    next a b c he => exact AW.p1 he (AW.go j hp kk)
    next => cases hp
theorem AW.br {a : Int} {cnd : ClassFile.Cond} {off : Int} {tgt : Nat} (hf : ftch z.2.2.2.2 pc = some (.ifCond cnd off, 3)) (ht : (pc : Int) + off = (tgt : Int)) (hn : pc + 3 = pn) (ha : rng a)
    (kt : cmpI cnd a 0 → AW z G R MC MS k n tgt ls st h Q) (kf : ¬ cmpI cnd a 0 → AW z G R MC MS k n pn ls st h Q) : AW z G R MC MS k n pc ls (vi a :: st) h Q := by
  intro p l e s m args below meth c D τ A ρ0 ρ Zf C hK hA hG hZ H locs lsA hP hD hS hl
  have e0 : (0 : Int32) = iI 0 := rfl
  obtain ⟨hx, hb, -, -, -, hL, -, -, -⟩ := id C
  subst hn
  obtain ⟨hd, -⟩ := okL_at hL hf
  have KT := fun q => kt q p l e s m args below meth c D τ A ρ0 ρ Zf C hK hA hG hZ H locs lsA hP hD hS hl
  have KF := fun q => kf q p l e s m args below meth c D τ A ρ0 ρ Zf C hK hA hG hZ H locs lsA hP hD hS hl
  cases cnd
  · exact lv_if_eq hx hb hd ht (fun q => KT ((iI_eq ha rng0).mp q)) (fun q => KF (fun w => q ((iI_eq ha rng0).mpr w)))
  · exact lv_if_ne hx hb hd ht (fun q => KT (fun w => q ((iI_eq ha rng0).mpr w))) (fun q => KF (fun w => w ((iI_eq ha rng0).mp q)))
  · exact lv_if_lt hx hb hd ht (fun q => KT ((iI_lt ha rng0).mp q)) (fun q => KF (fun w => q ((iI_lt ha rng0).mpr w)))
  · exact lv_if_ge hx hb hd ht (fun q => KT ((iI_le rng0 ha).mp q)) (fun q => KF (fun w => q ((iI_le rng0 ha).mpr w)))
  · exact lv_if_gt hx hb hd ht (fun q => KT ((iI_lt rng0 ha).mp q)) (fun q => KF (fun w => q ((iI_lt rng0 ha).mpr w)))
  · exact lv_if_le hx hb hd ht (fun q => KT ((iI_le ha rng0).mp q)) (fun q => KF (fun w => q ((iI_le ha rng0).mpr w)))
theorem AW.bi {a b : Int} {cnd : ClassFile.Cond} {off : Int} {tgt : Nat} (hf : ftch z.2.2.2.2 pc = some (.if_icmp cnd off, 3)) (ht : (pc : Int) + off = (tgt : Int)) (hn : pc + 3 = pn) (ha : rng a) (hb : rng b)
    (kt : cmpI cnd a b → AW z G R MC MS k n tgt ls st h Q) (kf : ¬ cmpI cnd a b → AW z G R MC MS k n pn ls st h Q) : AW z G R MC MS k n pc ls (vi b :: vi a :: st) h Q := by
  intro p l e s m args below meth c D τ A ρ0 ρ Zf C hK hA hG hZ H locs lsA hP hD hS hl
  obtain ⟨hx, hb', -, -, -, hL, -, -, -⟩ := id C
  subst hn
  obtain ⟨hd, -⟩ := okL_at hL hf
  have KT := fun q => kt q p l e s m args below meth c D τ A ρ0 ρ Zf C hK hA hG hZ H locs lsA hP hD hS hl
  have KF := fun q => kf q p l e s m args below meth c D τ A ρ0 ρ Zf C hK hA hG hZ H locs lsA hP hD hS hl
  cases cnd
  · exact lv_icmp_eq hx hb' hd ht (fun q => KT ((iI_eq ha hb).mp q)) (fun q => KF (fun w => q ((iI_eq ha hb).mpr w)))
  · exact lv_icmp_ne hx hb' hd ht (fun q => KT (fun w => q ((iI_eq ha hb).mpr w))) (fun q => KF (fun w => w ((iI_eq ha hb).mp q)))
  · exact lv_icmp_lt hx hb' hd ht (fun q => KT ((iI_lt ha hb).mp q)) (fun q => KF (fun w => q ((iI_lt ha hb).mpr w)))
  · exact lv_icmp_ge hx hb' hd ht (fun q => KT ((iI_le hb ha).mp q)) (fun q => KF (fun w => q ((iI_le hb ha).mpr w)))
  · exact lv_icmp_gt hx hb' hd ht (fun q => KT ((iI_lt hb ha).mp q)) (fun q => KF (fun w => q ((iI_lt hb ha).mpr w)))
  · exact lv_icmp_le hx hb' hd ht (fun q => KT ((iI_le ha hb).mp q)) (fun q => KF (fun w => q ((iI_le ha hb).mpr w)))
theorem AW.idiv {a b : Int} (hf : ftch z.2.2.2.2 pc = some (.idiv, 1)) (hn : pc + 1 = pn) (h0 : 0 ≤ a) (h1 : a < 2147483648) (h2 : 0 < b) (h3 : b < 2147483648)
    (kk : AW z G R MC MS k n pn ls (vi (a / b) :: st) h Q) : AW z G R MC MS k n pc ls (vi b :: vi a :: st) h Q := by
  subst hn
  refine AW.fr ?_ kk
  intro p l e s m args below meth c ρ H locs lsA Zf C hl K
  obtain ⟨hx, hb', -, -, -, hL, -, -, -⟩ := C
  refine lv_idiv hx hb' (okL_at hL hf).1 (fun q => ?_) ?_
  · exact absurd ((iI_eq ⟨by omega, by omega⟩ rng0).mp q) (by omega)
  · rw [iI_div h0 h1 h2 h3]; exact K lsA hl
theorem AW.irem {a b : Int} (hf : ftch z.2.2.2.2 pc = some (.irem, 1)) (hn : pc + 1 = pn) (h0 : 0 ≤ a) (h1 : a < 2147483648) (h2 : 0 < b) (h3 : b < 2147483648)
    (kk : AW z G R MC MS k n pn ls (vi (a % b) :: st) h Q) : AW z G R MC MS k n pc ls (vi b :: vi a :: st) h Q := by
  subst hn
  refine AW.fr ?_ kk
  intro p l e s m args below meth c ρ H locs lsA Zf C hl K
  obtain ⟨hx, hb', -, -, -, hL, -, -, -⟩ := C
  refine lv_irem hx hb' (okL_at hL hf).1 (fun q => ?_) ?_
  · exact absurd ((iI_eq ⟨by omega, by omega⟩ rng0).mp q) (by omega)
  · rw [iI_rem h0 h1 h2 h3]; exact K lsA hl
theorem AW.iand {a b : Int} (hf : ftch z.2.2.2.2 pc = some (.iand, 1)) (hn : pc + 1 = pn) (h0 : 0 ≤ a) (h1 : 0 ≤ b)
    (kk : AW z G R MC MS k n pn ls (vi ((a.toNat &&& b.toNat : Nat) : Int) :: st) h Q) : AW z G R MC MS k n pc ls (vi b :: vi a :: st) h Q := by
  subst hn
  refine AW.fr ?_ kk
  intro p l e s m args below meth c ρ H locs lsA Zf C hl K
  obtain ⟨hx, hb', -, -, -, hL, -, -, -⟩ := C
  refine lv_iand hx hb' (okL_at hL hf).1 ?_
  rw [iI_and h0 h1]; exact K lsA hl
theorem AW.ior {a b : Int} (hf : ftch z.2.2.2.2 pc = some (.ior, 1)) (hn : pc + 1 = pn) (h0 : 0 ≤ a) (h1 : 0 ≤ b)
    (kk : AW z G R MC MS k n pn ls (vi ((a.toNat ||| b.toNat : Nat) : Int) :: st) h Q) : AW z G R MC MS k n pc ls (vi b :: vi a :: st) h Q := by
  subst hn
  refine AW.fr ?_ kk
  intro p l e s m args below meth c ρ H locs lsA Zf C hl K
  obtain ⟨hx, hb', -, -, -, hL, -, -, -⟩ := C
  refine lv_ior hx hb' (okL_at hL hf).1 ?_
  rw [iI_or h0 h1]; exact K lsA hl
theorem AW.ixor {a b : Int} (hf : ftch z.2.2.2.2 pc = some (.ixor, 1)) (hn : pc + 1 = pn) (h0 : 0 ≤ a) (h1 : 0 ≤ b)
    (kk : AW z G R MC MS k n pn ls (vi ((a.toNat ^^^ b.toNat : Nat) : Int) :: st) h Q) : AW z G R MC MS k n pc ls (vi b :: vi a :: st) h Q := by
  subst hn
  refine AW.fr ?_ kk
  intro p l e s m args below meth c ρ H locs lsA Zf C hl K
  obtain ⟨hx, hb', -, -, -, hL, -, -, -⟩ := C
  refine lv_ixor hx hb' (okL_at hL hf).1 ?_
  rw [iI_xor h0 h1]; exact K lsA hl
theorem AW.inot {a : Int} (hf : ftch z.2.2.2.2 pc = some (.ixor, 1)) (hn : pc + 1 = pn)
    (kk : AW z G R MC MS k n pn ls (vi (-a - 1) :: st) h Q) : AW z G R MC MS k n pc ls (vi (-1) :: vi a :: st) h Q := by
  subst hn
  refine AW.fr ?_ kk
  intro p l e s m args below meth c ρ H locs lsA Zf C hl K
  obtain ⟨hx, hb', -, -, -, hL, -, -, -⟩ := C
  refine lv_ixor hx hb' (okL_at hL hf).1 ?_
  have e1 : iI a ^^^ iI (-1) = iI (-a - 1) := by
    have : ∀ x : Int32, x ^^^ iI (-1) = -x - iI 1 := by
      intro x
      apply Int32.toBitVec_inj.mp
      rw [Int32.toBitVec_xor, Int32.toBitVec_sub, Int32.toBitVec_neg]
      rw [show (iI (-1)).toBitVec = BitVec.allOnes 32 by decide +kernel, show (iI 1).toBitVec = 1#32 by decide +kernel]
      rw [BitVec.xor_allOnes, BitVec.neg_eq_not_add, BitVec.add_sub_cancel]
    rw [this (iI a), iI_neg, iI_sub]
  rw [e1]; exact K lsA hl
theorem AW.ishl {a b : Int} (hf : ftch z.2.2.2.2 pc = some (.ishl, 1)) (hn : pc + 1 = pn) (h0 : 0 ≤ a) (h1 : 0 ≤ b) (h2 : b < 32)
    (kk : AW z G R MC MS k n pn ls (vi (a * 2 ^ b.toNat) :: st) h Q) : AW z G R MC MS k n pc ls (vi b :: vi a :: st) h Q := by
  subst hn
  refine AW.fr ?_ kk
  intro p l e s m args below meth c ρ H locs lsA Zf C hl K
  obtain ⟨hx, hb', -, -, -, hL, -, -, -⟩ := C
  refine lv_ishl hx hb' (okL_at hL hf).1 ?_
  rw [iI_shl h0 h1 h2]; exact K lsA hl
theorem AW.ishr {a b : Int} (hf : ftch z.2.2.2.2 pc = some (.ishr, 1)) (hn : pc + 1 = pn) (h0 : rng a) (h1 : 0 ≤ b) (h2 : b < 32)
    (kk : AW z G R MC MS k n pn ls (vi (a / 2 ^ b.toNat) :: st) h Q) : AW z G R MC MS k n pc ls (vi b :: vi a :: st) h Q := by
  subst hn
  refine AW.fr ?_ kk
  intro p l e s m args below meth c ρ H locs lsA Zf C hl K
  obtain ⟨hx, hb', -, -, -, hL, -, -, -⟩ := C
  refine lv_ishr hx hb' (okL_at hL hf).1 ?_
  rw [iI_shr h0 h1 h2]; exact K lsA hl
theorem AW.i2l {a : Int} (hf : ftch z.2.2.2.2 pc = some (.i2l, 1)) (hn : pc + 1 = pn) (h0 : rng a)
    (kk : AW z G R MC MS k n pn ls (vl a :: st) h Q) : AW z G R MC MS k n pc ls (vi a :: st) h Q := by
  subst hn
  refine AW.fr ?_ kk
  intro p l e s m args below meth c ρ H locs lsA Zf C hl K
  obtain ⟨hx, hb', -, -, -, hL, -, -, -⟩ := C
  exact lv_i2l hx hb' (okL_at hL hf).1 (iI_long h0) (K lsA hl)
theorem AW.lcmp {a b : Int} (hf : ftch z.2.2.2.2 pc = some (.lcmp, 1)) (hn : pc + 1 = pn) (h0 : rngL a) (h1 : rngL b)
    (kk : AW z G R MC MS k n pn ls (vi (lcmpI a b) :: st) h Q) : AW z G R MC MS k n pc ls (vl b :: vl a :: st) h Q := by
  subst hn
  refine AW.fr ?_ kk
  intro p l e s m args below meth c ρ H locs lsA Zf C hl K
  obtain ⟨hx, hb', -, -, -, hL, -, -, -⟩ := C
  refine W.lcmp hx hb' (okL_at hL hf).1 ?_
  rw [iL_cmp h0 h1]; exact K lsA hl
theorem AW.ldc2 {a : Int} {idx : Nat} (hf : ftch z.2.2.2.2 pc = some (.ldc2_w idx, 3)) (hn : pc + 3 = pn) (hw : Cond.constantLong z.1.cls idx (iL a) ∈ gtb)
    (kk : AW z G R MC MS k n pn ls (vl a :: st) h Q) : AW z G R MC MS k n pc ls st h Q := by
  subst hn
  refine AW.fr ?_ kk
  intro p l e s m args below meth c ρ H locs lsA Zf C hl K
  obtain ⟨hx, hb', -, hown, hts, hL, -, -, -⟩ := C
  exact lv_ldc2 hx hb' hown (hts _ hw) (okL_at hL hf).1 (K lsA hl)
theorem AW.getf {idx ci j i : Nat} {ty : FieldType} {fin : Bool} {fs : List AV} {v : AV} (hf : ftch z.2.2.2.2 pc = some (.getfield idx, 3)) (hn : pc + 3 = pn) (fl : FL z.1.cls idx ci j ty fin) (hh : h[i]? = some (ao ci fs)) (hv : fs[j]? = some v)
    (kk : AW z G R MC MS k n pn ls (v :: st) h Q) : AW z G R MC MS k n pc ls (vr i :: st) h Q := by
  subst hn
  intro p l e s m args below meth c D τ A ρ0 ρ Zf C hK hA hG hZ H locs lsA hP hD hS hl
  obtain ⟨hx, hb', -, hown, hts, hL, -, -, -⟩ := id C
  obtain ⟨Cn, T, N, ty0, hc, hj, hin, -, -, -, -, -, hlk⟩ := fl
  have K := kk p l e s m args below meth c D τ A ρ0 ρ Zf C hK hA hG hZ H locs lsA hP hD hS hl
  rcases hlk with hlk | ⟨host, hlk⟩
  · exact va_get hx hb' hts hin hown hK.1 hP i (cw_get hh) hc j hj (hts _ hlk) (fun _ q => q) (cv_get hv) (okL_at hL hf).1 K
  · exact va_getN hx hb' hts hin hown hK.1 hP i (cw_get hh) hc j hj (va_Nw.use rfl (hK.2 _ hlk)) (fun _ q => q) (cv_get hv) (okL_at hL hf).1 K
theorem AW.putf {idx ci j i : Nat} {ty : FieldType} {fs : List AV} {v v0 : AV} (hf : ftch z.2.2.2.2 pc = some (.putfield idx, 3)) (hn : pc + 3 = pn) (fl : FL z.1.cls idx ci j ty false) (hh : h[i]? = some (ao ci fs)) (hv : fs[j]? = some v0) (ok : okv ty v)
    (kk : AW z G R MC MS k n pn ls st (h.set i (ao ci (fs.set j v))) Q) : AW z G R MC MS k n pc ls (v :: vr i :: st) h Q := by
  subst hn
  intro p l e s m args below meth c D τ A ρ0 ρ Zf C hK hA hG hZ H locs lsA hP hD hS hl
  obtain ⟨hx, hb', -, hown, hts, hL, -, -, -⟩ := id C
  obtain ⟨Cn, T, N, ty0, hc, hj, hin, hty, hnm, hpd, hfin, -, hlk⟩ := fl
  have hlen : j < (fs.map (cv ρ)).length := by
    rw [List.length_map]; exact (List.getElem?_eq_some_iff.mp hv).1
  have e1 : (fs.map (cv ρ)).set j (cv ρ v) = (fs.set j v).map (cv ρ) := by rw [List.map_set]
  have K : ∀ (H1 : Heap) (locs1 : List Loc), va_P D classes ((cw ρ τ h).set i (ρ i, .inr (ci, (fs.map (cv ρ)).set j (cv ρ v)))) H1 → va_D A ((cw ρ τ h).set i (ρ i, .inr (ci, (fs.map (cv ρ)).set j (cv ρ v)))) → va_S A s.heap H1 locs1 → W p l e R s m args below meth c H1 locs1 k n Zf (F0 m (pc + 3) lsA (st.map (cv ρ))) := by
    intro H1 locs1 hP1 hD1 hS1
    rw [e1] at hP1 hD1
    have e2 := cw_set ρ τ h i (ao ci (fs.set j v))
    exact kk p l e s m args below meth c D τ A ρ0 ρ Zf C hK hA hG hZ H1 locs1 lsA (e2 ▸ hP1) (e2 ▸ hD1) hS1 hl
  rcases hlk with hlk | ⟨host, hlk⟩
  · exact va_put hx hb' hts hin ty0 hty hnm hown hK.1 hP hD hS i (cw_get hh) hc j hj (hts _ hlk) (fun _ q => q) hfin hpd (okv_ok ok).1 (okv_ok ok).2 hlen (okL_at hL hf).1 K
  · exact va_putN hx hb' hts hin ty0 hty hnm hown hK.1 hP hD hS i (cw_get hh) hc j hj (va_Nw.use rfl (hK.2 _ hlk)) (fun _ q => q) hfin hpd (okv_ok ok).1 (okv_ok ok).2 hlen (okL_at hL hf).1 K
theorem AW.putF {idx ci j i : Nat} {ty : FieldType} {fs : List AV} {v v0 : AV} (hf : ftch z.2.2.2.2 pc = some (.putfield idx, 3)) (hn : pc + 3 = pn) (fl : FL z.1.cls idx ci j ty true) (hown2 : (classes[ci]?).map (fun q => q.1) = some z.1.cls) (hlk2 : ∀ q : vw_C, classes[ci]? = some q → Cond.fieldLink z.1.cls idx (q.2.1 j).1 (q.2.1 j).2.1 (q.2.1 j).2.2.1 ∈ gtb) (hinit : z.1.name = "<init>") (hh : h[i]? = some (ao ci fs)) (hv : fs[j]? = some v0) (ok : okv ty v)
    (kk : AW z G R MC MS k n pn ls st (h.set i (ao ci (fs.set j v))) Q) : AW z G R MC MS k n pc ls (v :: vr i :: st) h Q := by
  subst hn
  intro p l e s m args below meth c D τ A ρ0 ρ Zf C hK hA hG hZ H locs lsA hP hD hS hl
  obtain ⟨hx, hb', -, hown, hts, hL, hnme, -, -⟩ := id C
  obtain ⟨Cn, T, N, ty0, hc, hj, hin, hty, hnm, hpd, hfin, hTC, -⟩ := fl
  rw [hc] at hown2
  have hCo : Cn = z.1.cls := Option.some.inj hown2
  have hlen : j < (fs.map (cv ρ)).length := by
    rw [List.length_map]; exact (List.getElem?_eq_some_iff.mp hv).1
  have e1 : (fs.map (cv ρ)).set j (cv ρ v) = (fs.set j v).map (cv ρ) := by rw [List.map_set]
  refine va_putF hx hb' hts hin ty0 hty hnm hown hK.1 hP hD hS i (cw_get hh) hc j hj (hts _ (hlk2 _ hc)) (fun _ q => q) hfin (by rw [hnme]; exact hinit) (by rw [hTC, hCo]) hpd (okv_ok ok).1 (okv_ok ok).2 hlen (okL_at hL hf).1 ?_
  intro H1 locs1 hP1 hD1 hS1
  rw [e1] at hP1 hD1
  have e2 := cw_set ρ τ h i (ao ci (fs.set j v))
  exact kk p l e s m args below meth c D τ A ρ0 ρ Zf C hK hA hG hZ H1 locs1 lsA (e2 ▸ hP1) (e2 ▸ hD1) hS1 hl
theorem AW.iald {i N : Nat} {f : Nat → Int} {a : Int} (hf : ftch z.2.2.2.2 pc = some (.iaload, 1)) (hn : pc + 1 = pn) (hh : h[i]? = some (ai 0 N f)) (hN : N ≤ 2147483648) (h0 : 0 ≤ a) (h1 : a < N)
    (kk : AW z G R MC MS k n pn ls (vi (f a.toNat) :: st) h Q) : AW z G R MC MS k n pc ls (vi a :: vr i :: st) h Q := by
  subst hn
  intro p l e s m args below meth c D τ A ρ0 ρ Zf C hK hA hG hZ H locs lsA hP hD hS hl
  obtain ⟨hx, hb', -, hown, hts, hL, -, -, -⟩ := id C
  refine va_iald hx hb' hK.1 hP i 0 (cw_get hh) rfl (iI_in h0 h1 hN) (okL_at hL hf).1 ?_
  rw [iI_nat h0 (by omega)]
  exact kk p l e s m args below meth c D τ A ρ0 ρ Zf C hK hA hG hZ H locs lsA hP hD hS hl
theorem AW.bald {i N : Nat} {f : Nat → Int} {a : Int} (hf : ftch z.2.2.2.2 pc = some (.baload, 1)) (hn : pc + 1 = pn) (hh : h[i]? = some (ai 1 N f)) (hN : N ≤ 2147483648) (h0 : 0 ≤ a) (h1 : a < N)
    (kk : AW z G R MC MS k n pn ls (vi (f a.toNat) :: st) h Q) : AW z G R MC MS k n pc ls (vi a :: vr i :: st) h Q := by
  subst hn
  intro p l e s m args below meth c D τ A ρ0 ρ Zf C hK hA hG hZ H locs lsA hP hD hS hl
  obtain ⟨hx, hb', -, hown, hts, hL, -, -, -⟩ := id C
  refine va_zald hx hb' hK.1 hP i 1 (cw_get hh) rfl (iI_in h0 h1 hN) (okL_at hL hf).1 ?_
  rw [iI_nat h0 (by omega)]
  exact kk p l e s m args below meth c D τ A ρ0 ρ Zf C hK hA hG hZ H locs lsA hP hD hS hl
theorem AW.iast {i N : Nat} {f : Nat → Int} {a b : Int} (hf : ftch z.2.2.2.2 pc = some (.iastore, 1)) (hn : pc + 1 = pn) (hh : h[i]? = some (ai 0 N f)) (hN : N ≤ 2147483648) (h0 : 0 ≤ a) (h1 : a < N)
    (kk : AW z G R MC MS k n pn ls st (h.set i (ai 0 N (up f a.toNat b))) Q) : AW z G R MC MS k n pc ls (vi b :: vi a :: vr i :: st) h Q := by
  subst hn
  intro p l e s m args below meth c D τ A ρ0 ρ Zf C hK hA hG hZ H locs lsA hP hD hS hl
  obtain ⟨hx, hb', -, hown, hts, hL, -, -, -⟩ := id C
  refine va_iast hx hb' hK.1 hP hD hS i 0 (cw_get hh) rfl (iI_in h0 h1 hN) (okL_at hL hf).1 ?_
  intro H1 locs1 hP1 hD1 hS1
  rw [iI_nat h0 (by omega), upd_up] at hP1 hD1
  have e2 := cw_set ρ τ h i (ai 0 N (up f a.toNat b))
  exact kk p l e s m args below meth c D τ A ρ0 ρ Zf C hK hA hG hZ H1 locs1 lsA (e2 ▸ hP1) (e2 ▸ hD1) hS1 hl
theorem AW.bast {i N : Nat} {f : Nat → Int} {a b : Int} (hf : ftch z.2.2.2.2 pc = some (.bastore, 1)) (hn : pc + 1 = pn) (hh : h[i]? = some (ai 1 N f)) (hN : N ≤ 2147483648) (h0 : 0 ≤ a) (h1 : a < N) (hb : b = 0 ∨ b = 1)
    (kk : AW z G R MC MS k n pn ls st (h.set i (ai 1 N (up f a.toNat b))) Q) : AW z G R MC MS k n pc ls (vi b :: vi a :: vr i :: st) h Q := by
  subst hn
  intro p l e s m args below meth c D τ A ρ0 ρ Zf C hK hA hG hZ H locs lsA hP hD hS hl
  obtain ⟨hx, hb', -, hown, hts, hL, -, -, -⟩ := id C
  refine va_zast hx hb' hK.1 hP hD hS i 1 (cw_get hh) rfl (iI_in h0 h1 hN) (okL_at hL hf).1 ?_
  intro H1 locs1 hP1 hD1 hS1
  have e3 : vp_nar .boolean (iI b) = iI b := by rcases hb with rfl | rfl <;> decide +kernel
  rw [iI_nat h0 (by omega), e3, upd_up] at hP1 hD1
  have e2 := cw_set ρ τ h i (ai 1 N (up f a.toNat b))
  exact kk p l e s m args below meth c D τ A ρ0 ρ Zf C hK hA hG hZ H1 locs1 lsA (e2 ▸ hP1) (e2 ▸ hD1) hS1 hl
theorem AW.aald {i N t q : Nat} {f : Nat → Option Nat} {a : Int} (hf : ftch z.2.2.2.2 pc = some (.aaload, 1)) (hn : pc + 1 = pn) (hh : h[i]? = some (aq t N f)) (ht : t = 2 ∨ t = 3) (hN : N ≤ 2147483648) (h0 : 0 ≤ a) (h1 : a < N) (hq : f a.toNat = some q)
    (kk : AW z G R MC MS k n pn ls (vr q :: st) h Q) : AW z G R MC MS k n pc ls (vi a :: vr i :: st) h Q := by
  subst hn
  intro p l e s m args below meth c D τ A ρ0 ρ Zf C hK hA hG hZ H locs lsA hP hD hS hl
  obtain ⟨hx, hb', -, hown, hts, hL, -, -, -⟩ := id C
  have K := kk p l e s m args below meth c D τ A ρ0 ρ Zf C hK hA hG hZ H locs lsA hP hD hS hl
  have hin := iI_in h0 h1 hN
  have hlt : (iI a).toNatClampNeg < N := by rw [iI_nat h0 (by omega)]; omega
  have hA : ∀ j : Nat, ((tyl τ)[j]?).map (fun q => q.1) = some (τ t) → ∀ ty, ((tyl τ)[j]?).map (fun q => q.2) = some ty → ty.isReference = true → W p l e R s m args below meth c H locs k n Zf (F0 m pc lsA ((vi a :: vr i :: st).map (cv ρ))) := by
    intro j hj ty hty hr
    have hjj : (tyl τ)[j]? = some (τ t, ty) := by
      cases e : (tyl τ)[j]? with
      | none => rw [e] at hj; cases hj
      | some x =>
        rw [e] at hj hty
        have g1 : x.1 = τ t := Option.some.inj hj
        have g2 : x.2 = ty := Option.some.inj hty
        rw [← g1, ← g2]
    refine W.aald (v := va_rf (((f (iI a).toNatClampNeg)).map ρ)) (ty := ty) hx hb' (hP i _ (cw_get hh)) ((hK.1.2 j _ hjj).1 N (fun j => va_rf ((f j).map ρ))) hr (fun q => by cases q) (by show ¬ ((iI a) < 0 ∨ (arrV _ _ _).slots.size ≤ _); rw [arrV_size]; exact hin) (by show (arrV _ _ _).slots[_]? = _; rw [arrV_read _ _ hlt]) rfl rfl (okL_at hL hf).1 ?_
    rw [iI_nat h0 (by omega), hq]
    exact K
  rcases ht with rfl | rfl
  · exact hA 2 rfl _ rfl rfl
  · exact hA 3 rfl _ rfl rfl
theorem AW.copy {i j N0 N1 idx : Nat} {f g : Nat → Int} {a b d : Int} (hf : ftch z.2.2.2.2 pc = some (.invokestatic idx, 3)) (hn : pc + 3 = pn) (hw : Cond.methodLink z.1.cls idx arraycopyName ∈ gtb ∧ Cond.native arraycopyName ∈ gtb ∧ Cond.static arraycopyName ∈ gtb ∧ Cond.initialized "java/lang/System" ∈ gtb) (hi : h[i]? = some (ai 0 N0 f)) (hj : h[j]? = some (ai 0 N1 g)) (h0 : 0 ≤ a) (h1 : 0 ≤ b) (h2 : 0 ≤ d) (ha : a < 2147483648) (hb : b < 2147483648) (hd : d < 2147483648) (h3 : a.toNat + d.toNat ≤ N0) (h4 : b.toNat + d.toNat ≤ N1) (hR : 1 ≤ R.frames ∧ (st.map acat).sum + 18 ≤ R.locals)
    (kk : AW z G R MC MS k n pn ls st (h.set j (ai 0 N1 (va_cpy f g a.toNat b.toNat d.toNat))) Q) : AW z G R MC MS k n pc ls (vi d :: vi b :: vr j :: vi a :: vr i :: st) h Q := by
  subst hn
  intro p l e s m args below meth c D τ A ρ0 ρ Zf C hK hA hG hZ H locs lsA hP hD hS hl
  obtain ⟨hx, hb', hml, hown, hts, hL, -, -, -⟩ := id C
  have hnn : ∀ {x : Int}, 0 ≤ x → x < 2147483648 → ¬ iI x < 0 := fun {x} q1 q2 w => by
    have := (iI_lt (a := x) (b := 0) ⟨by omega, by omega⟩ rng0).mp w
    omega
  refine va_copyi hx hb' (hml.trans hl.1.symm) hown (hts _ hw.1) (hts _ hw.2.1) (hts _ hw.2.2.1) (hts _ hw.2.2.2) hK.1 hP hD hS i j 0 0 (ty := .int) (cw_get hi) (cw_get hj) rfl rfl rfl (hnn h0 ha) (hnn h1 hb) (hnn h2 hd) (by rw [iI_nat h0 ha, iI_nat h2 hd]; exact h3) (by rw [iI_nat h1 hb, iI_nat h2 hd]; exact h4) (fun _ _ => rfl) hR.1 ?_ (okL_at hL hf).1 ?_
  · have e1 : ((st.map (cv ρ)).map fun v => v.category) = st.map acat := by
      rw [List.map_map]
      exact List.map_congr_left (fun v _ => cv_cat ρ v)
    rw [e1]
    have e2 : nativeFrameWords "java/lang/System" "arraycopy" 5 = 7 := by decide +kernel
    rw [e2]
    exact hR.2
  · intro H1 locs1 hP1 hD1 hS1
    rw [iI_nat h0 ha, iI_nat h1 hb, iI_nat h2 hd, cpy_iI] at hP1 hD1
    have e2 := cw_set ρ τ h j (ai 0 N1 (va_cpy f g a.toNat b.toNat d.toNat))
    exact kk p l e s m args below meth c D τ A ρ0 ρ Zf C hK hA hG hZ H1 locs1 lsA (e2 ▸ hP1) (e2 ▸ hD1) hS1 hl
end Rules
end
section
abbrev rmd (d : Nat) : Room := { frames := d, cells := 0, slots := 0, locals := 40 * d }
def QM (Q : Option Int → List AC → Prop) (D : va_G) (τ : Nat → ClassId) (ρ : Nat → Nat) (A : Nat → Prop) : Array Value → State → Outcome → State → Prop := fun _ st oc t =>
  (∃ (v : Option Int) (u : List AC), oc = .returned (v.map (fun a => Value.int (iI a))) ∧ Q v u ∧ va_P D classes (cw ρ τ u) t.heap ∧ va_D A (cw ρ τ u)) ∧ va_F A st t
abbrev PM (as : List AV) (h : List AC) (D : va_G) (τ : Nat → ClassId) (ρ : Nat → Nat) (sz : Nat) : Array Value → State → Prop :=
  va_Pc (as.map (cv ρ)) (fun U => U.heap.size = sz ∧ va_P D classes (cw ρ τ h) U.heap ∧ KK D τ U ∧ va_D (fun _ => True) (cw ρ τ h))
/-- a method's contract: it makes nothing; from the arguments and cells it comes to an answer and cells of Q -/
def M0 (z : ZM) (d : Nat) (as : List AV) (h : List AC) (Q : Option Int → List AC → Prop) : Prop :=
  ∀ (l : Launch) (D : va_G) (τ : Nat → ClassId) (ρ : Nat → Nat) (sz : Nat), Met l z.1 (zw z) (rmd d) (PM as h D τ ρ sz) (QM Q D τ ρ (va_A (cw ρ τ h) sz)) 0 0 (va_A (cw ρ τ h) sz)
theorem PM_blind (as : List AV) (h : List AC) (D : va_G) (τ : Nat → ClassId) (ρ : Nat → Nat) (sz : Nat) : FrameBlind (PM as h D τ ρ sz) := by
  intro a U g mk q
  obtain ⟨q0, q1, qP, qK, qD⟩ := q
  exact ⟨q0, q1, qP, KK.same (s := U) (U := U.calling g mk a) rfl qK, qD⟩
def aar : Nat → List AV → List (Nat × AV)
  | _, [] => []
  | i, v :: vs => (i, v) :: aar (if acat v = 2 then i + 2 else i + 1) vs
theorem aar_cl (ρ : Nat → Nat) : ∀ (i : Nat) (as : List AV), lv_args i (as.map (cv ρ)) = cl ρ (aar i as)
  | _, [] => rfl
  | i, v :: vs => by
    show (i, cv ρ v) :: lv_args (if (cv ρ v).category = 2 then i + 2 else i + 1) (vs.map (cv ρ)) = (i, cv ρ v) :: cl ρ (aar (if acat v = 2 then i + 2 else i + 1) vs)
    rw [cv_cat, aar_cl ρ _ vs]
theorem sl_len (ρ : Nat → Nat) (as : List AV) : (lg_sl (as.map (cv ρ))).length = (as.map acat).sum := by
  induction as with
  | nil => rfl
  | cons v vs ih =>
    have e : lg_sl ((v :: vs).map (cv ρ)) = lg_sl [cv ρ v] ++ lg_sl (vs.map (cv ρ)) := by
      simp [lg_sl]
    rw [e, List.length_append, ih, List.map_cons, List.sum_cons]
    congr 1
    rcases v with a | a | (_ | a) <;> rfl
theorem M0.of {z : ZM} {d : Nat} {as : List AV} {h : List AC} {Q : Option Int → List AC → Prop} (hz : zok z) (hl : (as.map acat).sum ≤ z.2.2.1) (kk : AW z Eq (rmd d) 0 0 0 0 0 (aar 0 as) [] h Q) : M0 z d as h Q := by
  intro l D τ ρ sz
  obtain ⟨hL, hcode, hpl, -⟩ := hz
  refine Met.ofW (cc := z.2.1) (maxL := z.2.2.1) (ret := z.2.2.2.1) hpl rfl ?_
  intro p e s m args below meth c s₁ B hml hv
  obtain ⟨rfl, hsz, hP, hK, hD0⟩ := hv
  have hts := atoms_spec (ws := zw z) B.pre
  have hown : s.vm.findClass z.1.cls = some m.cls := findClass_of_methodNamed B.named
  have hnm : meth.name = z.1.name := (name_of_methodNamed B.named B.method).1
  subst hsz
  have hD := hD0.self (sz := s.heap.size)
  have hA : ∀ q : Nat, s.heap.size ≤ q → va_A (cw ρ τ h) s.heap.size q := fun q h => Or.inr h
  have hle := lv_entry (as.map (cv ρ)) (n := z.2.2.1) (by rw [sl_len]; exact hl)
  rw [lg_entry_eq]
  rw [aar_cl] at hle
  have C : Cx z p s m (as.map (cv ρ)).toArray meth c := ⟨B.exec, B.bytes, hml, hown, fun w hw => hts w (List.mem_cons_of_mem _ hw), hL, hnm, B.notSynchronized, B.returns⟩
  refine kk p l e s m (as.map (cv ρ)).toArray below meth c D τ (va_A (cw ρ τ h) s.heap.size) ρ ρ _ C hK hA rfl ?_ s.heap [] _ hP hD va_S.rf hle
  intro v h' ρ' H' locs' ls' pc' hq hret hG hP' hD' hS'
  subst hG
  have hlk := B.notSynchronized
  cases v with
  | none =>
    obtain ⟨hr1, hr2⟩ := hret
    exact W.vret B.exec B.bytes (B.returns.trans hr1) (fun t ht hW => ⟨⟨none, h', rfl, hq, by rw [ht]; exact hP', hD'⟩, hS'.F ht⟩) hS'.2.2 (okL_at hL hr2).1
  | some a =>
    obtain ⟨hr1, hr2⟩ := hret
    rcases hr1 with hr1 | ⟨hr1, ha⟩
    · exact W.iret B.exec B.bytes (B.returns.trans hr1) (fun t ht hW => ⟨⟨some a, h', rfl, hq, by rw [ht]; exact hP', hD'⟩, hS'.F ht⟩) hS'.2.2 (okL_at hL hr2).1
    · exact W.zret B.exec B.bytes (B.returns.trans hr1) (okv_ok (ty := .boolean) (v := vi a) (ρ := ρ) ha).1 (fun t ht hW => ⟨⟨some a, h', rfl, hq, by rw [ht]; exact hP', hD'⟩, hS'.F ht⟩) hS'.2.2 (okL_at hL hr2).1
theorem M0.post {z : ZM} {d : Nat} {as : List AV} {h : List AC} {Q Q' : Option Int → List AC → Prop} (hM : M0 z d as h Q) (hq : ∀ v u, Q v u → Q' v u) : M0 z d as h Q' := by
  intro l D τ ρ sz p e ha hc hk s m args below hf hfit hp hK
  obtain ⟨t, o, h1, h2, h3, h4, h5⟩ := hM l D τ ρ sz p e ha hc hk s m args below hf hfit hp hK
  obtain ⟨⟨v, u, g1, g2, g3, g4⟩, g5⟩ := h4
  exact ⟨t, o, h1, h2, h3, ⟨⟨v, u, g1, hq v u g2, g3, g4⟩, g5⟩, h5⟩
def LKc (own : String) (idx : Nat) (z' : ZM) (np : Nat) : Prop := zok z' ∧ Cond.initialized z'.1.cls ∈ gtb ∧ (z'.1.cls ≠ "java/lang/invoke/MethodHandle" ∧ z'.1.cls ≠ "java/lang/invoke/VarHandle" ∧ (parseMethodDescriptor z'.1.desc).map (fun d => d.parameters.length) = some np) ∧ (Cond.methodLink own idx z'.1 ∈ gtb ∨ ∃ host, Cond.methodLinkNest own idx z'.1 host ∈ nst)
def LSt (own : String) (idx : Nat) (z' : ZM) (np : Nat) : Prop := LKc own idx z' np ∧ Cond.static z'.1 ∈ gtb
def LVt (own : String) (idx : Nat) (z' : ZM) (np ci : Nat) : Prop := LKc own idx z' np ∧ Cond.instanceMethod z'.1 ∈ gtb ∧ Cond.selects z'.1.cls z'.1 z'.1 ∈ gtb ∧ ∃ (T : u_T) (N : Nat), classes[ci]? = some (z'.1.cls, T, N)
theorem zw_good {z' : ZM} (hz : zok z') : GoodIn gtb (zw z') := by
  intro w hw
  rcases List.mem_cons.mp hw with rfl | hw
  · exact gtb_good gtb (fun _ q => q) _ hz.2.1
  · exact gtb_good gtb (fun _ q => q) _ hw
theorem va_A_in {A : Nat → Prop} {ws : va_W} {H0 H : Heap} {locs : List Loc} (hD : va_D A ws) (hS : va_S A H0 H locs) (hA : ∀ q, H0.size ≤ q → A q) : ∀ q, va_A ws H.size q → A q := by
  intro q h
  rcases h with ⟨j, e, h⟩ | h
  · exact hD.2 j (q, e) h
  · exact hA q (Nat.le_trans hS.1 h)
section Rules
variable {z : ZM} {G : GG} {R : Room} {MC MS k n pc pn : Nat} {ls : List (Nat × AV)} {st : List AV} {h : List AC} {Q : Option Int → List AC → Prop}
/-- behind a call -/
theorem AW.behindRun {Q' : Option Int → List AC → Prop} (hn : pc + 3 = pn) (kk : ∀ v u, Q' v u → AW z G R MC MS k n pn ls (v.toList.map vi ++ st) u Q)
    {p : Program} {l : Launch} {e : Env} {s : State} {m : MethodId} {args : Array Value} {below : List Frame} {meth : Method} {c : Code} {D : va_G} {τ : Nat → ClassId} {A : Nat → Prop} {ρ0 ρ : Nat → Nat} {Zf : State → Prop}
    (C : Cx z p s m args meth c) (hK : KK D τ s) (hA : ∀ q, s.heap.size ≤ q → A q) (hG : G ρ0 ρ)
    (hZ : ∀ (v : Option Int) (h' : List AC) (ρ' : Nat → Nat) (H' : Heap) (locs' : List Loc) (ls' : Array Slot) (pc' : Nat), Q v h' → rets z pc' v → G ρ0 ρ' → va_P D classes (cw ρ' τ h') H' → va_D A (cw ρ' τ h') → va_S A s.heap H' locs' →
      W p l e R s m args below meth c H' locs' MC MS Zf (F0 m pc' ls' (v.toList.map (fun a => Value.int (iI a)))))
    {H : Heap} {locs : List Loc} {lsA : Array Slot} (hD : va_D A (cw ρ τ h)) (hS : va_S A s.heap H locs) (hl : lv_has lsA z.2.2.1 (cl ρ ls)) {st0 : List Value} {a : Array Value}
    (hr : va_Run p l e R s m args below meth c H locs k n 0 0 (F0 m pc lsA st0) (st.map (cv ρ)) (QM Q' D τ ρ (va_A (cw ρ τ h) H.size) a) (va_A (cw ρ τ h) H.size)) :
    W p l e R s m args below meth c H locs k n Zf (F0 m pc lsA st0) := by
  subst hn
  have hF := va_A_in hD hS hA
  intro T hT X
  obtain ⟨v, st₀, t, T', L, h0, X', hL, e1, e2, ⟨⟨v', u, hv, hq, hP1, hD1⟩, hz, hk⟩, stp⟩ := hr T hT X
  rw [h0] at hz hk
  have ev : v = v'.map (fun a => Value.int (iI a)) := by cases hv; rfl
  subst ev
  have hS1 : va_S A s.heap T'.heap (locs ++ L) := ⟨Nat.le_trans hS.1 (by rw [e1]; exact hz), fun q h1 h2 => by rw [e1, hk q (Nat.lt_of_lt_of_le h1 hS.1) (fun w => h2 (hF q w))]; exact hS.2.1 q h1 h2, fun q hq => by
      rcases List.mem_append.mp hq with h | h
      · exact hS.2.2 q h
      · exact hF _ (hL q h)⟩
  obtain ⟨t2, a1, b1⟩ := kk v' u hq p l e s m args below meth c D τ A ρ0 ρ Zf C hK hA hG hZ T'.heap (locs ++ L) lsA (by rw [e1]; exact hP1) (hD1.weaken (fun _ q _ w => hF q.1 w)) hS1 hl T' rfl X'
  refine ⟨t2, stp t2 ?_, b1⟩
  cases v' <;> exact a1
theorem AW.callS {Q' : Option Int → List AC → Prop} {z' : ZM} {idx d np : Nat} {as : List AV} {st0 : List AV} (hf : ftch z.2.2.2.2 pc = some (.invokestatic idx, 3)) (hn : pc + 3 = pn) (lk : LSt z.1.cls idx z' np) (hM : M0 z' d as h Q') (hst : st0 = as.reverse ++ st) (hnp : as.length = np) (hw : (st.map acat).sum ≤ 8) (hR : d + 1 ≤ R.frames ∧ 40 * (d + 1) ≤ R.locals) (hc0 : k ≤ R.cells ∧ n ≤ R.slots)
    (kk : ∀ v u, Q' v u → AW z G R MC MS k n pn ls (v.toList.map vi ++ st) u Q) : AW z G R MC MS k n pc ls st0 h Q := by
  intro p l e s m args below meth c D τ A ρ0 ρ Zf C hK hA hG hZ H locs lsA hP hD hS hl
  obtain ⟨hx, hb', hml, hown, hts, hL, -, -, -⟩ := id C
  obtain ⟨⟨hz, hini, hd, hlk⟩, hstt⟩ := lk
  have hRR : (rmd d).frames + 1 ≤ R.frames ∧ 8 + (z'.2.2.1 + 11) + (rmd d).locals ≤ R.locals := ⟨hR.1, by have := hR.2; have := hz.2.2.2; show 8 + (z'.2.2.1 + 11) + 40 * d ≤ R.locals; omega⟩
  have hpre : PreS s H (PM as h D τ ρ H.size) (as.map (cv ρ)) := ⟨PM_blind _ _ _ _ _ _, fun U hU hW => ⟨rfl, by rw [hU], by rw [hU]; exact hP, hK.warm hW, hD.weaken (fun _ _ _ _ => trivial)⟩⟩
  have hstk : (F0 m pc lsA (st0.map (cv ρ))).stack = (as.map (cv ρ)).reverse ++ st.map (cv ρ) := by
    show st0.map (cv ρ) = _
    rw [hst, List.map_append, List.map_reverse]
  have hWd : 2 * (F0 m pc lsA (st0.map (cv ρ))).monitorRoom + ((st.map (cv ρ)).map fun v => v.category).sum ≤ 8 := by
    refine lv_room ?_
    rw [List.map_map, show st.map ((fun v => v.category) ∘ cv ρ) = st.map acat from List.map_congr_left (fun v _ => cv_cat ρ v)]
    exact hw
  refine AW.behindRun hn kk C hK hA hG hZ hD hS hl (a := (as.map (cv ρ)).toArray) ?_
  rcases hlk with hlk | ⟨host, hlk⟩
  · exact va_runS (As := as.map (cv ρ)) ⟨hx, hb', hml, hown, hts⟩ (hM l D τ ρ H.size) ⟨callB_of np hts (zw_good hz) rfl rfl rfl (hts _ hini) (hts _ hlk) hd hRR, hts _ hstt⟩ hpre rfl (by rw [List.length_map]; exact hnp) hl.1 hstk hWd (okL_at hL hf).1 hc0
  · exact va_runSN (As := as.map (cv ρ)) ⟨hx, hb', hml, hown, hts⟩ (hM l D τ ρ H.size) ⟨va_cnB np hts (zw_good hz) rfl rfl rfl (hK.2 _ hlk) (hts _ hini) hd hRR, hts _ hstt, trivial⟩ hpre rfl (by rw [List.length_map]; exact hnp) hl.1 hstk hWd (okL_at hL hf).1 hc0
theorem AW.callV {Q' : Option Int → List AC → Prop} {z' : ZM} {idx d np ci i : Nat} {fs : List AV} {as : List AV} {st0 : List AV} (hf : ftch z.2.2.2.2 pc = some (.invokevirtual idx, 3)) (hn : pc + 3 = pn) (lk : LVt z.1.cls idx z' np ci) (hh : h[i]? = some (ao ci fs)) (hM : M0 z' d (vr i :: as) h Q') (hst : st0 = as.reverse ++ vr i :: st) (hnp : as.length = np) (hw : (st.map acat).sum ≤ 8) (hR : d + 1 ≤ R.frames ∧ 40 * (d + 1) ≤ R.locals) (hc0 : k ≤ R.cells ∧ n ≤ R.slots)
    (kk : ∀ v u, Q' v u → AW z G R MC MS k n pn ls (v.toList.map vi ++ st) u Q) : AW z G R MC MS k n pc ls st0 h Q := by
  intro p l e s m args below meth c D τ A ρ0 ρ Zf C hK hA hG hZ H locs lsA hP hD hS hl
  obtain ⟨hx, hb', hml, hown, hts, hL, -, -, -⟩ := id C
  obtain ⟨⟨hz, hini, hd, hlk⟩, hins, hsel, T, N, hci⟩ := lk
  have hRR : (rmd d).frames + 1 ≤ R.frames ∧ 8 + (z'.2.2.1 + 11) + (rmd d).locals ≤ R.locals := ⟨hR.1, by have := hR.2; have := hz.2.2.2; show 8 + (z'.2.2.1 + 11) + 40 * d ≤ R.locals; omega⟩
  have hpre : PreV s H z'.1.cls (ρ i) (PM (vr i :: as) h D τ ρ H.size) (as.map (cv ρ)) := ⟨PM_blind _ _ _ _ _ _, va_recv hK.1 hP hci (cw_get hh), fun U hU hW => ⟨rfl, by rw [hU], by rw [hU]; exact hP, hK.warm hW, hD.weaken (fun _ _ _ _ => trivial)⟩⟩
  have hstk : (F0 m pc lsA (st0.map (cv ρ))).stack = (as.map (cv ρ)).reverse ++ Value.ref (ρ i) :: st.map (cv ρ) := by
    show st0.map (cv ρ) = _
    rw [hst, List.map_append, List.map_reverse]; rfl
  have hWd : 2 * (F0 m pc lsA (st0.map (cv ρ))).monitorRoom + ((st.map (cv ρ)).map fun v => v.category).sum ≤ 8 := by
    refine lv_room ?_
    rw [List.map_map, show st.map ((fun v => v.category) ∘ cv ρ) = st.map acat from List.map_congr_left (fun v _ => cv_cat ρ v)]
    exact hw
  refine AW.behindRun hn kk C hK hA hG hZ hD hS hl (a := (Value.ref (ρ i) :: as.map (cv ρ)).toArray) ?_
  rcases hlk with hlk | ⟨host, hlk⟩
  · exact va_runV (As := as.map (cv ρ)) ⟨hx, hb', hml, hown, hts⟩ (hM l D τ ρ H.size) ⟨callB_of np hts (zw_good hz) rfl rfl rfl (hts _ hini) (hts _ hlk) hd hRR, hts _ hins, hts _ hsel⟩ hpre rfl (by rw [List.length_map]; exact hnp) hl.1 hstk hWd (okL_at hL hf).1 hc0
  · exact va_runVN (As := as.map (cv ρ)) ⟨hx, hb', hml, hown, hts⟩ (hM l D τ ρ H.size) ⟨va_cnB np hts (zw_good hz) rfl rfl rfl (hK.2 _ hlk) (hts _ hini) hd hRR, hts _ hins, hts _ hsel⟩ hpre rfl (by rw [List.length_map]; exact hnp) hl.1 hstk hWd (okL_at hL hf).1 hc0
theorem AW.tin {a lo hi dflt : Int} {offs : Array Int} {len : Nat} {off : Int} {tgt : Nat} (hf : ftch z.2.2.2.2 pc = some (.tableswitch dflt lo hi offs, len)) (ha : rng a) (h1 : lo ≤ a) (h2 : a ≤ hi) (ho : offs[(a - lo).toNat]? = some off) (ht : (pc : Int) + off = (tgt : Int))
    (kk : AW z G R MC MS k n tgt ls st h Q) : AW z G R MC MS k n pc ls (vi a :: st) h Q := by
  refine AW.fr ?_ kk
  intro p l e s m args below meth c ρ H locs lsA Zf C hl K
  obtain ⟨hx, hb', -, -, -, hL, -, -, -⟩ := C
  exact lv_tableIn hx hb' (okL_at hL hf).1 (by rw [iI_toInt ha]; omega) (by rw [iI_toInt ha]; omega) (by rw [iI_toInt ha]; exact ho) ht (K lsA hl)
theorem AW.tout {a lo hi dflt : Int} {offs : Array Int} {len : Nat} {tgt : Nat} (hf : ftch z.2.2.2.2 pc = some (.tableswitch dflt lo hi offs, len)) (ha : rng a) (h1 : a < lo ∨ hi < a) (ht : (pc : Int) + dflt = (tgt : Int))
    (kk : AW z G R MC MS k n tgt ls st h Q) : AW z G R MC MS k n pc ls (vi a :: st) h Q := by
  refine AW.fr ?_ kk
  intro p l e s m args below meth c ρ H locs lsA Zf C hl K
  obtain ⟨hx, hb', -, -, -, hL, -, -, -⟩ := C
  exact lv_tableOut hx hb' (okL_at hL hf).1 (by rw [iI_toInt ha]; exact h1) ht (K lsA hl)
end Rules
end
